theorem dX0_init_0 : decode cX0_init 0 = .ok (.aload_n 0, 1) := by decide +kernel
theorem dX0_init_1 : decode cX0_init 1 = .ok (.invokespecial 3, 3) := by decide +kernel
theorem dX0_init_4 : decode cX0_init 4 = .ok (.aload_n 0, 1) := by decide +kernel
theorem dX0_init_5 : decode cX0_init 5 = .ok (.bipush 20, 2) := by decide +kernel
theorem dX0_init_7 : decode cX0_init 7 = .ok (.newarray .int, 2) := by decide +kernel
theorem dX0_init_9 : decode cX0_init 9 = .ok (.putfield 9, 3) := by decide +kernel
theorem dX0_init_12 : decode cX0_init 12 = .ok (.aload_n 0, 1) := by decide +kernel
theorem dX0_init_13 : decode cX0_init 13 = .ok (.iconst 0, 1) := by decide +kernel
theorem dX0_init_14 : decode cX0_init 14 = .ok (.putfield 15, 3) := by decide +kernel
theorem dX0_init_17 : decode cX0_init 17 = .ok (.return_, 1) := by decide +kernel
theorem dX0_copyFrom_0 : decode cX0_copyFrom 0 = .ok (.aload_n 0, 1) := by decide +kernel
theorem dX0_copyFrom_1 : decode cX0_copyFrom 1 = .ok (.aload_n 1, 1) := by decide +kernel
theorem dX0_copyFrom_2 : decode cX0_copyFrom 2 = .ok (.getfield 15, 3) := by decide +kernel
theorem dX0_copyFrom_5 : decode cX0_copyFrom 5 = .ok (.putfield 15, 3) := by decide +kernel
theorem dX0_copyFrom_8 : decode cX0_copyFrom 8 = .ok (.aload_n 1, 1) := by decide +kernel
theorem dX0_copyFrom_9 : decode cX0_copyFrom 9 = .ok (.getfield 9, 3) := by decide +kernel
theorem dX0_copyFrom_12 : decode cX0_copyFrom 12 = .ok (.iconst 0, 1) := by decide +kernel
theorem dX0_copyFrom_13 : decode cX0_copyFrom 13 = .ok (.aload_n 0, 1) := by decide +kernel
theorem dX0_copyFrom_14 : decode cX0_copyFrom 14 = .ok (.getfield 9, 3) := by decide +kernel
theorem dX0_copyFrom_17 : decode cX0_copyFrom 17 = .ok (.iconst 0, 1) := by decide +kernel
theorem dX0_copyFrom_18 : decode cX0_copyFrom 18 = .ok (.aload_n 0, 1) := by decide +kernel
theorem dX0_copyFrom_19 : decode cX0_copyFrom 19 = .ok (.getfield 15, 3) := by decide +kernel
theorem dX0_copyFrom_22 : decode cX0_copyFrom 22 = .ok (.invokestatic 19, 3) := by decide +kernel
theorem dX0_copyFrom_25 : decode cX0_copyFrom 25 = .ok (.return_, 1) := by decide +kernel
theorem dX0_has_0 : decode cX0_has 0 = .ok (.iload_n 1, 1) := by decide +kernel
theorem dX0_has_1 : decode cX0_has 1 = .ok (.iconst 0, 1) := by decide +kernel
theorem dX0_has_2 : decode cX0_has 2 = .ok (.aload_n 0, 1) := by decide +kernel
theorem dX0_has_3 : decode cX0_has 3 = .ok (.getfield 15, 3) := by decide +kernel
theorem dX0_has_6 : decode cX0_has 6 = .ok (.iconst 1, 1) := by decide +kernel
theorem dX0_has_7 : decode cX0_has 7 = .ok (.isub, 1) := by decide +kernel
theorem dX0_has_8 : decode cX0_has 8 = .ok (.invokestatic 25, 3) := by decide +kernel
theorem dX0_has_11 : decode cX0_has 11 = .ok (.ireturn, 1) := by decide +kernel
theorem dX0_isFull_0 : decode cX0_isFull 0 = .ok (.aload_n 0, 1) := by decide +kernel
theorem dX0_isFull_1 : decode cX0_isFull 1 = .ok (.getfield 15, 3) := by decide +kernel
theorem dX0_isFull_4 : decode cX0_isFull 4 = .ok (.bipush 20, 2) := by decide +kernel
theorem dX0_isFull_6 : decode cX0_isFull 6 = .ok (.if_icmp .lt 7, 3) := by decide +kernel
theorem dX0_isFull_9 : decode cX0_isFull 9 = .ok (.iconst 1, 1) := by decide +kernel
theorem dX0_isFull_10 : decode cX0_isFull 10 = .ok (.goto 4, 3) := by decide +kernel
theorem dX0_isFull_13 : decode cX0_isFull 13 = .ok (.iconst 0, 1) := by decide +kernel
theorem dX0_isFull_14 : decode cX0_isFull 14 = .ok (.ireturn, 1) := by decide +kernel
theorem dX0_put_0 : decode cX0_put 0 = .ok (.aload_n 0, 1) := by decide +kernel
theorem dX0_put_1 : decode cX0_put 1 = .ok (.invokevirtual 29, 3) := by decide +kernel
theorem dX0_put_4 : decode cX0_put 4 = .ok (.ifCond .ne 23, 3) := by decide +kernel
theorem dX0_put_7 : decode cX0_put 7 = .ok (.aload_n 0, 1) := by decide +kernel
theorem dX0_put_8 : decode cX0_put 8 = .ok (.getfield 9, 3) := by decide +kernel
theorem dX0_put_11 : decode cX0_put 11 = .ok (.aload_n 0, 1) := by decide +kernel
theorem dX0_put_12 : decode cX0_put 12 = .ok (.getfield 15, 3) := by decide +kernel
theorem dX0_put_15 : decode cX0_put 15 = .ok (.iload_n 1, 1) := by decide +kernel
theorem dX0_put_16 : decode cX0_put 16 = .ok (.iastore, 1) := by decide +kernel
theorem dX0_put_17 : decode cX0_put 17 = .ok (.aload_n 0, 1) := by decide +kernel
theorem dX0_put_18 : decode cX0_put 18 = .ok (.dup, 1) := by decide +kernel
theorem dX0_put_19 : decode cX0_put 19 = .ok (.getfield 15, 3) := by decide +kernel
theorem dX0_put_22 : decode cX0_put 22 = .ok (.iconst 1, 1) := by decide +kernel
theorem dX0_put_23 : decode cX0_put 23 = .ok (.iadd, 1) := by decide +kernel
theorem dX0_put_24 : decode cX0_put 24 = .ok (.putfield 15, 3) := by decide +kernel
theorem dX0_put_27 : decode cX0_put 27 = .ok (.return_, 1) := by decide +kernel
theorem dX0_takeOut_0 : decode cX0_takeOut 0 = .ok (.aload_n 0, 1) := by decide +kernel
theorem dX0_takeOut_1 : decode cX0_takeOut 1 = .ok (.getfield 9, 3) := by decide +kernel
theorem dX0_takeOut_4 : decode cX0_takeOut 4 = .ok (.iload_n 1, 1) := by decide +kernel
theorem dX0_takeOut_5 : decode cX0_takeOut 5 = .ok (.iaload, 1) := by decide +kernel
theorem dX0_takeOut_6 : decode cX0_takeOut 6 = .ok (.istore_n 2, 1) := by decide +kernel
theorem dX0_takeOut_7 : decode cX0_takeOut 7 = .ok (.aload_n 0, 1) := by decide +kernel
theorem dX0_takeOut_8 : decode cX0_takeOut 8 = .ok (.getfield 9, 3) := by decide +kernel
theorem dX0_takeOut_11 : decode cX0_takeOut 11 = .ok (.iload_n 1, 1) := by decide +kernel
theorem dX0_takeOut_12 : decode cX0_takeOut 12 = .ok (.iconst 1, 1) := by decide +kernel
theorem dX0_takeOut_13 : decode cX0_takeOut 13 = .ok (.iadd, 1) := by decide +kernel
theorem dX0_takeOut_14 : decode cX0_takeOut 14 = .ok (.aload_n 0, 1) := by decide +kernel
theorem dX0_takeOut_15 : decode cX0_takeOut 15 = .ok (.getfield 9, 3) := by decide +kernel
theorem dX0_takeOut_18 : decode cX0_takeOut 18 = .ok (.iload_n 1, 1) := by decide +kernel
theorem dX0_takeOut_19 : decode cX0_takeOut 19 = .ok (.aload_n 0, 1) := by decide +kernel
theorem dX0_takeOut_20 : decode cX0_takeOut 20 = .ok (.getfield 15, 3) := by decide +kernel
theorem dX0_takeOut_23 : decode cX0_takeOut 23 = .ok (.iload_n 1, 1) := by decide +kernel
theorem dX0_takeOut_24 : decode cX0_takeOut 24 = .ok (.isub, 1) := by decide +kernel
theorem dX0_takeOut_25 : decode cX0_takeOut 25 = .ok (.iconst 1, 1) := by decide +kernel
theorem dX0_takeOut_26 : decode cX0_takeOut 26 = .ok (.isub, 1) := by decide +kernel
theorem dX0_takeOut_27 : decode cX0_takeOut 27 = .ok (.invokestatic 19, 3) := by decide +kernel
theorem dX0_takeOut_30 : decode cX0_takeOut 30 = .ok (.aload_n 0, 1) := by decide +kernel
theorem dX0_takeOut_31 : decode cX0_takeOut 31 = .ok (.dup, 1) := by decide +kernel
theorem dX0_takeOut_32 : decode cX0_takeOut 32 = .ok (.getfield 15, 3) := by decide +kernel
theorem dX0_takeOut_35 : decode cX0_takeOut 35 = .ok (.iconst 1, 1) := by decide +kernel
theorem dX0_takeOut_36 : decode cX0_takeOut 36 = .ok (.isub, 1) := by decide +kernel
theorem dX0_takeOut_37 : decode cX0_takeOut 37 = .ok (.putfield 15, 3) := by decide +kernel
theorem dX0_takeOut_40 : decode cX0_takeOut 40 = .ok (.iload_n 2, 1) := by decide +kernel
theorem dX0_takeOut_41 : decode cX0_takeOut 41 = .ok (.ireturn, 1) := by decide +kernel
theorem dX0_digestOn_0 : decode cX0_digestOn 0 = .ok (.lload_n 1, 1) := by decide +kernel
theorem dX0_digestOn_1 : decode cX0_digestOn 1 = .ok (.aload_n 0, 1) := by decide +kernel
theorem dX0_digestOn_2 : decode cX0_digestOn 2 = .ok (.getfield 15, 3) := by decide +kernel
theorem dX0_digestOn_5 : decode cX0_digestOn 5 = .ok (.i2l, 1) := by decide +kernel
theorem dX0_digestOn_6 : decode cX0_digestOn 6 = .ok (.invokestatic 33, 3) := by decide +kernel
theorem dX0_digestOn_9 : decode cX0_digestOn 9 = .ok (.lstore_n 3, 1) := by decide +kernel
theorem dX0_digestOn_10 : decode cX0_digestOn 10 = .ok (.iconst 0, 1) := by decide +kernel
theorem dX0_digestOn_11 : decode cX0_digestOn 11 = .ok (.istore 5, 2) := by decide +kernel
theorem dX0_digestOn_13 : decode cX0_digestOn 13 = .ok (.iload 5, 2) := by decide +kernel
theorem dX0_digestOn_15 : decode cX0_digestOn 15 = .ok (.aload_n 0, 1) := by decide +kernel
theorem dX0_digestOn_16 : decode cX0_digestOn 16 = .ok (.getfield 15, 3) := by decide +kernel
theorem dX0_digestOn_19 : decode cX0_digestOn 19 = .ok (.if_icmp .ge 22, 3) := by decide +kernel
theorem dX0_digestOn_22 : decode cX0_digestOn 22 = .ok (.lload_n 3, 1) := by decide +kernel
theorem dX0_digestOn_23 : decode cX0_digestOn 23 = .ok (.aload_n 0, 1) := by decide +kernel
theorem dX0_digestOn_24 : decode cX0_digestOn 24 = .ok (.getfield 9, 3) := by decide +kernel
theorem dX0_digestOn_27 : decode cX0_digestOn 27 = .ok (.iload 5, 2) := by decide +kernel
theorem dX0_digestOn_29 : decode cX0_digestOn 29 = .ok (.iaload, 1) := by decide +kernel
theorem dX0_digestOn_30 : decode cX0_digestOn 30 = .ok (.i2l, 1) := by decide +kernel
theorem dX0_digestOn_31 : decode cX0_digestOn 31 = .ok (.invokestatic 33, 3) := by decide +kernel
theorem dX0_digestOn_34 : decode cX0_digestOn 34 = .ok (.lstore_n 3, 1) := by decide +kernel
theorem dX0_digestOn_35 : decode cX0_digestOn 35 = .ok (.iinc 5 1, 3) := by decide +kernel
theorem dX0_digestOn_38 : decode cX0_digestOn 38 = .ok (.goto (-25), 3) := by decide +kernel
theorem dX0_digestOn_41 : decode cX0_digestOn 41 = .ok (.lload_n 3, 1) := by decide +kernel
theorem dX0_digestOn_42 : decode cX0_digestOn 42 = .ok (.lreturn, 1) := by decide +kernel
theorem dX1_init_0 : decode cX1_init 0 = .ok (.aload_n 0, 1) := by decide +kernel
theorem dX1_init_1 : decode cX1_init 1 = .ok (.invokespecial 3, 3) := by decide +kernel
theorem dX1_init_4 : decode cX1_init 4 = .ok (.aload_n 0, 1) := by decide +kernel
theorem dX1_init_5 : decode cX1_init 5 = .ok (.sipush 500, 3) := by decide +kernel
theorem dX1_init_8 : decode cX1_init 8 = .ok (.bipush 6, 2) := by decide +kernel
theorem dX1_init_10 : decode cX1_init 10 = .ok (.multianewarray 9 2, 4) := by decide +kernel
theorem dX1_init_14 : decode cX1_init 14 = .ok (.putfield 11, 3) := by decide +kernel
theorem dX1_init_17 : decode cX1_init 17 = .ok (.aload_n 0, 1) := by decide +kernel
theorem dX1_init_18 : decode cX1_init 18 = .ok (.sipush 500, 3) := by decide +kernel
theorem dX1_init_21 : decode cX1_init 21 = .ok (.iconst 4, 1) := by decide +kernel
theorem dX1_init_22 : decode cX1_init 22 = .ok (.multianewarray 9 2, 4) := by decide +kernel
theorem dX1_init_26 : decode cX1_init 26 = .ok (.putfield 16, 3) := by decide +kernel
theorem dX1_init_29 : decode cX1_init 29 = .ok (.aload_n 0, 1) := by decide +kernel
theorem dX1_init_30 : decode cX1_init 30 = .ok (.sipush 500, 3) := by decide +kernel
theorem dX1_init_33 : decode cX1_init 33 = .ok (.newarray .int, 2) := by decide +kernel
theorem dX1_init_35 : decode cX1_init 35 = .ok (.putfield 19, 3) := by decide +kernel
theorem dX1_init_38 : decode cX1_init 38 = .ok (.aload_n 0, 1) := by decide +kernel
theorem dX1_init_39 : decode cX1_init 39 = .ok (.sipush 500, 3) := by decide +kernel
theorem dX1_init_42 : decode cX1_init 42 = .ok (.newarray .int, 2) := by decide +kernel
theorem dX1_init_44 : decode cX1_init 44 = .ok (.putfield 23, 3) := by decide +kernel
theorem dX1_init_47 : decode cX1_init 47 = .ok (.aload_n 0, 1) := by decide +kernel
theorem dX1_init_48 : decode cX1_init 48 = .ok (.sipush 500, 3) := by decide +kernel
theorem dX1_init_51 : decode cX1_init 51 = .ok (.newarray .int, 2) := by decide +kernel
theorem dX1_init_53 : decode cX1_init 53 = .ok (.putfield 26, 3) := by decide +kernel
theorem dX1_init_56 : decode cX1_init 56 = .ok (.return_, 1) := by decide +kernel
theorem dX2_init_0 : decode cX2_init 0 = .ok (.aload_n 0, 1) := by decide +kernel
theorem dX2_init_1 : decode cX2_init 1 = .ok (.invokespecial 3, 3) := by decide +kernel
theorem dX2_init_4 : decode cX2_init 4 = .ok (.aload_n 0, 1) := by decide +kernel
theorem dX2_init_5 : decode cX2_init 5 = .ok (.iconst 3, 1) := by decide +kernel
theorem dX2_init_6 : decode cX2_init 6 = .ok (.putfield 9, 3) := by decide +kernel
theorem dX2_init_9 : decode cX2_init 9 = .ok (.aload_n 0, 1) := by decide +kernel
theorem dX2_init_10 : decode cX2_init 10 = .ok (.iconst 1, 1) := by decide +kernel
theorem dX2_init_11 : decode cX2_init 11 = .ok (.putfield 15, 3) := by decide +kernel
theorem dX2_init_14 : decode cX2_init 14 = .ok (.aload_n 0, 1) := by decide +kernel
theorem dX2_init_15 : decode cX2_init 15 = .ok (.iconst 2, 1) := by decide +kernel
theorem dX2_init_16 : decode cX2_init 16 = .ok (.putfield 18, 3) := by decide +kernel
theorem dX2_init_19 : decode cX2_init 19 = .ok (.aload_n 0, 1) := by decide +kernel
theorem dX2_init_20 : decode cX2_init 20 = .ok (.iconst (-1), 1) := by decide +kernel
theorem dX2_init_21 : decode cX2_init 21 = .ok (.putfield 21, 3) := by decide +kernel
theorem dX2_init_24 : decode cX2_init 24 = .ok (.aload_n 0, 1) := by decide +kernel
theorem dX2_init_25 : decode cX2_init 25 = .ok (.iconst 0, 1) := by decide +kernel
theorem dX2_init_26 : decode cX2_init 26 = .ok (.putfield 24, 3) := by decide +kernel
theorem dX2_init_29 : decode cX2_init 29 = .ok (.aload_n 0, 1) := by decide +kernel
theorem dX2_init_30 : decode cX2_init 30 = .ok (.iconst 0, 1) := by decide +kernel
theorem dX2_init_31 : decode cX2_init 31 = .ok (.putfield 27, 3) := by decide +kernel
theorem dX2_init_34 : decode cX2_init 34 = .ok (.aload_n 0, 1) := by decide +kernel
theorem dX2_init_35 : decode cX2_init 35 = .ok (.iconst 0, 1) := by decide +kernel
theorem dX2_init_36 : decode cX2_init 36 = .ok (.putfield 30, 3) := by decide +kernel
theorem dX2_init_39 : decode cX2_init 39 = .ok (.aload_n 0, 1) := by decide +kernel
theorem dX2_init_40 : decode cX2_init 40 = .ok (.iconst 4, 1) := by decide +kernel
theorem dX2_init_41 : decode cX2_init 41 = .ok (.newarray .int, 2) := by decide +kernel
theorem dX2_init_43 : decode cX2_init 43 = .ok (.putfield 33, 3) := by decide +kernel
theorem dX2_init_46 : decode cX2_init 46 = .ok (.aload_n 0, 1) := by decide +kernel
theorem dX2_init_47 : decode cX2_init 47 = .ok (.new 37, 3) := by decide +kernel
theorem dX2_init_50 : decode cX2_init 50 = .ok (.dup, 1) := by decide +kernel
theorem dX2_init_51 : decode cX2_init 51 = .ok (.invokespecial 39, 3) := by decide +kernel
theorem dX2_init_54 : decode cX2_init 54 = .ok (.putfield 40, 3) := by decide +kernel
theorem dX2_init_57 : decode cX2_init 57 = .ok (.aload_n 0, 1) := by decide +kernel
theorem dX2_init_58 : decode cX2_init 58 = .ok (.bipush 6, 2) := by decide +kernel
theorem dX2_init_60 : decode cX2_init 60 = .ok (.newarray .int, 2) := by decide +kernel
theorem dX2_init_62 : decode cX2_init 62 = .ok (.putfield 44, 3) := by decide +kernel
theorem dX2_init_65 : decode cX2_init 65 = .ok (.aload_n 0, 1) := by decide +kernel
theorem dX2_init_66 : decode cX2_init 66 = .ok (.aload_n 1, 1) := by decide +kernel
theorem dX2_init_67 : decode cX2_init 67 = .ok (.putfield 47, 3) := by decide +kernel
theorem dX2_init_70 : decode cX2_init 70 = .ok (.return_, 1) := by decide +kernel
theorem dX2_copyFrom_0 : decode cX2_copyFrom 0 = .ok (.aload_n 0, 1) := by decide +kernel
theorem dX2_copyFrom_1 : decode cX2_copyFrom 1 = .ok (.aload_n 1, 1) := by decide +kernel
theorem dX2_copyFrom_2 : decode cX2_copyFrom 2 = .ok (.getfield 9, 3) := by decide +kernel
theorem dX2_copyFrom_5 : decode cX2_copyFrom 5 = .ok (.putfield 9, 3) := by decide +kernel
theorem dX2_copyFrom_8 : decode cX2_copyFrom 8 = .ok (.aload_n 0, 1) := by decide +kernel
theorem dX2_copyFrom_9 : decode cX2_copyFrom 9 = .ok (.aload_n 1, 1) := by decide +kernel
theorem dX2_copyFrom_10 : decode cX2_copyFrom 10 = .ok (.getfield 15, 3) := by decide +kernel
theorem dX2_copyFrom_13 : decode cX2_copyFrom 13 = .ok (.putfield 15, 3) := by decide +kernel
theorem dX2_copyFrom_16 : decode cX2_copyFrom 16 = .ok (.aload_n 0, 1) := by decide +kernel
theorem dX2_copyFrom_17 : decode cX2_copyFrom 17 = .ok (.aload_n 1, 1) := by decide +kernel
theorem dX2_copyFrom_18 : decode cX2_copyFrom 18 = .ok (.getfield 18, 3) := by decide +kernel
theorem dX2_copyFrom_21 : decode cX2_copyFrom 21 = .ok (.putfield 18, 3) := by decide +kernel
theorem dX2_copyFrom_24 : decode cX2_copyFrom 24 = .ok (.aload_n 0, 1) := by decide +kernel
theorem dX2_copyFrom_25 : decode cX2_copyFrom 25 = .ok (.aload_n 1, 1) := by decide +kernel
theorem dX2_copyFrom_26 : decode cX2_copyFrom 26 = .ok (.getfield 21, 3) := by decide +kernel
theorem dX2_copyFrom_29 : decode cX2_copyFrom 29 = .ok (.putfield 21, 3) := by decide +kernel
theorem dX2_copyFrom_32 : decode cX2_copyFrom 32 = .ok (.aload_n 0, 1) := by decide +kernel
theorem dX2_copyFrom_33 : decode cX2_copyFrom 33 = .ok (.aload_n 1, 1) := by decide +kernel
theorem dX2_copyFrom_34 : decode cX2_copyFrom 34 = .ok (.getfield 24, 3) := by decide +kernel
theorem dX2_copyFrom_37 : decode cX2_copyFrom 37 = .ok (.putfield 24, 3) := by decide +kernel
theorem dX2_copyFrom_40 : decode cX2_copyFrom 40 = .ok (.aload_n 0, 1) := by decide +kernel
theorem dX2_copyFrom_41 : decode cX2_copyFrom 41 = .ok (.aload_n 1, 1) := by decide +kernel
theorem dX2_copyFrom_42 : decode cX2_copyFrom 42 = .ok (.getfield 27, 3) := by decide +kernel
theorem dX2_copyFrom_45 : decode cX2_copyFrom 45 = .ok (.putfield 27, 3) := by decide +kernel
theorem dX2_copyFrom_48 : decode cX2_copyFrom 48 = .ok (.aload_n 0, 1) := by decide +kernel
theorem dX2_copyFrom_49 : decode cX2_copyFrom 49 = .ok (.aload_n 1, 1) := by decide +kernel
theorem dX2_copyFrom_50 : decode cX2_copyFrom 50 = .ok (.getfield 30, 3) := by decide +kernel
theorem dX2_copyFrom_53 : decode cX2_copyFrom 53 = .ok (.putfield 30, 3) := by decide +kernel
theorem dX2_copyFrom_56 : decode cX2_copyFrom 56 = .ok (.aload_n 1, 1) := by decide +kernel
theorem dX2_copyFrom_57 : decode cX2_copyFrom 57 = .ok (.getfield 33, 3) := by decide +kernel
theorem dX2_copyFrom_60 : decode cX2_copyFrom 60 = .ok (.iconst 0, 1) := by decide +kernel
theorem dX2_copyFrom_61 : decode cX2_copyFrom 61 = .ok (.aload_n 0, 1) := by decide +kernel
theorem dX2_copyFrom_62 : decode cX2_copyFrom 62 = .ok (.getfield 33, 3) := by decide +kernel
theorem dX2_copyFrom_65 : decode cX2_copyFrom 65 = .ok (.iconst 0, 1) := by decide +kernel
theorem dX2_copyFrom_66 : decode cX2_copyFrom 66 = .ok (.iconst 4, 1) := by decide +kernel
theorem dX2_copyFrom_67 : decode cX2_copyFrom 67 = .ok (.invokestatic 51, 3) := by decide +kernel
theorem dX2_copyFrom_70 : decode cX2_copyFrom 70 = .ok (.aload_n 0, 1) := by decide +kernel
theorem dX2_copyFrom_71 : decode cX2_copyFrom 71 = .ok (.getfield 40, 3) := by decide +kernel
theorem dX2_copyFrom_74 : decode cX2_copyFrom 74 = .ok (.aload_n 1, 1) := by decide +kernel
theorem dX2_copyFrom_75 : decode cX2_copyFrom 75 = .ok (.getfield 40, 3) := by decide +kernel
theorem dX2_copyFrom_78 : decode cX2_copyFrom 78 = .ok (.invokevirtual 57, 3) := by decide +kernel
theorem dX2_copyFrom_81 : decode cX2_copyFrom 81 = .ok (.return_, 1) := by decide +kernel
theorem dX2_numberOf_0 : decode cX2_numberOf 0 = .ok (.aload_n 0, 1) := by decide +kernel
theorem dX2_numberOf_1 : decode cX2_numberOf 1 = .ok (.getfield 21, 3) := by decide +kernel
theorem dX2_numberOf_4 : decode cX2_numberOf 4 = .ok (.aload_n 0, 1) := by decide +kernel
theorem dX2_numberOf_5 : decode cX2_numberOf 5 = .ok (.getfield 9, 3) := by decide +kernel
theorem dX2_numberOf_8 : decode cX2_numberOf 8 = .ok (.isub, 1) := by decide +kernel
theorem dX2_numberOf_9 : decode cX2_numberOf 9 = .ok (.iconst 1, 1) := by decide +kernel
theorem dX2_numberOf_10 : decode cX2_numberOf 10 = .ok (.iadd, 1) := by decide +kernel
theorem dX2_numberOf_11 : decode cX2_numberOf 11 = .ok (.istore_n 2, 1) := by decide +kernel
theorem dX2_numberOf_12 : decode cX2_numberOf 12 = .ok (.iload_n 2, 1) := by decide +kernel
theorem dX2_numberOf_13 : decode cX2_numberOf 13 = .ok (.iload_n 1, 1) := by decide +kernel
theorem dX2_numberOf_14 : decode cX2_numberOf 14 = .ok (.iload_n 2, 1) := by decide +kernel
theorem dX2_numberOf_15 : decode cX2_numberOf 15 = .ok (.isub, 1) := by decide +kernel
theorem dX2_numberOf_16 : decode cX2_numberOf 16 = .ok (.bipush 64, 2) := by decide +kernel
theorem dX2_numberOf_18 : decode cX2_numberOf 18 = .ok (.invokestatic 61, 3) := by decide +kernel
theorem dX2_numberOf_21 : decode cX2_numberOf 21 = .ok (.iadd, 1) := by decide +kernel
theorem dX2_numberOf_22 : decode cX2_numberOf 22 = .ok (.ireturn, 1) := by decide +kernel
theorem dX2_decodedPackets_0 : decode cX2_decodedPackets 0 = .ok (.aload_n 0, 1) := by decide +kernel
theorem dX2_decodedPackets_1 : decode cX2_decodedPackets 1 = .ok (.getfield 33, 3) := by decide +kernel
theorem dX2_decodedPackets_4 : decode cX2_decodedPackets 4 = .ok (.iconst 0, 1) := by decide +kernel
theorem dX2_decodedPackets_5 : decode cX2_decodedPackets 5 = .ok (.iaload, 1) := by decide +kernel
theorem dX2_decodedPackets_6 : decode cX2_decodedPackets 6 = .ok (.aload_n 0, 1) := by decide +kernel
theorem dX2_decodedPackets_7 : decode cX2_decodedPackets 7 = .ok (.getfield 33, 3) := by decide +kernel
theorem dX2_decodedPackets_10 : decode cX2_decodedPackets 10 = .ok (.iconst 1, 1) := by decide +kernel
theorem dX2_decodedPackets_11 : decode cX2_decodedPackets 11 = .ok (.iaload, 1) := by decide +kernel
theorem dX2_decodedPackets_12 : decode cX2_decodedPackets 12 = .ok (.iadd, 1) := by decide +kernel
theorem dX2_decodedPackets_13 : decode cX2_decodedPackets 13 = .ok (.ireturn, 1) := by decide +kernel
theorem dX2_receive_0 : decode cX2_receive 0 = .ok (.aload_n 0, 1) := by decide +kernel
theorem dX2_receive_1 : decode cX2_receive 1 = .ok (.aload_n 0, 1) := by decide +kernel
theorem dX2_receive_2 : decode cX2_receive 2 = .ok (.getfield 30, 3) := by decide +kernel
theorem dX2_receive_5 : decode cX2_receive 5 = .ok (.aload_n 0, 1) := by decide +kernel
theorem dX2_receive_6 : decode cX2_receive 6 = .ok (.getfield 21, 3) := by decide +kernel
theorem dX2_receive_9 : decode cX2_receive 9 = .ok (.iload_n 1, 1) := by decide +kernel
theorem dX2_receive_10 : decode cX2_receive 10 = .ok (.isub, 1) := by decide +kernel
theorem dX2_receive_11 : decode cX2_receive 11 = .ok (.invokestatic 67, 3) := by decide +kernel
theorem dX2_receive_14 : decode cX2_receive 14 = .ok (.putfield 30, 3) := by decide +kernel
theorem dX2_receive_17 : decode cX2_receive 17 = .ok (.aload_n 0, 1) := by decide +kernel
theorem dX2_receive_18 : decode cX2_receive 18 = .ok (.getfield 47, 3) := by decide +kernel
theorem dX2_receive_21 : decode cX2_receive 21 = .ok (.getfield 70, 3) := by decide +kernel
theorem dX2_receive_24 : decode cX2_receive 24 = .ok (.iload_n 1, 1) := by decide +kernel
theorem dX2_receive_25 : decode cX2_receive 25 = .ok (.iaload, 1) := by decide +kernel
theorem dX2_receive_26 : decode cX2_receive 26 = .ok (.ifCond .ne 7, 3) := by decide +kernel
theorem dX2_receive_29 : decode cX2_receive 29 = .ok (.iload_n 1, 1) := by decide +kernel
theorem dX2_receive_30 : decode cX2_receive 30 = .ok (.goto 11, 3) := by decide +kernel
theorem dX2_receive_33 : decode cX2_receive 33 = .ok (.aload_n 0, 1) := by decide +kernel
theorem dX2_receive_34 : decode cX2_receive 34 = .ok (.iload_n 1, 1) := by decide +kernel
theorem dX2_receive_35 : decode cX2_receive 35 = .ok (.bipush 64, 2) := by decide +kernel
theorem dX2_receive_37 : decode cX2_receive 37 = .ok (.irem, 1) := by decide +kernel
theorem dX2_receive_38 : decode cX2_receive 38 = .ok (.invokevirtual 75, 3) := by decide +kernel
theorem dX2_receive_41 : decode cX2_receive 41 = .ok (.istore_n 3, 1) := by decide +kernel
theorem dX2_receive_42 : decode cX2_receive 42 = .ok (.iconst 2, 1) := by decide +kernel
theorem dX2_receive_43 : decode cX2_receive 43 = .ok (.istore 4, 2) := by decide +kernel
theorem dX2_receive_45 : decode cX2_receive 45 = .ok (.aload_n 0, 1) := by decide +kernel
theorem dX2_receive_46 : decode cX2_receive 46 = .ok (.getfield 40, 3) := by decide +kernel
theorem dX2_receive_49 : decode cX2_receive 49 = .ok (.iload_n 3, 1) := by decide +kernel
theorem dX2_receive_50 : decode cX2_receive 50 = .ok (.invokevirtual 79, 3) := by decide +kernel
theorem dX2_receive_53 : decode cX2_receive 53 = .ok (.ifCond .eq 9, 3) := by decide +kernel
theorem dX2_receive_56 : decode cX2_receive 56 = .ok (.iconst 3, 1) := by decide +kernel
theorem dX2_receive_57 : decode cX2_receive 57 = .ok (.istore 4, 2) := by decide +kernel
theorem dX2_receive_59 : decode cX2_receive 59 = .ok (.goto 28, 3) := by decide +kernel
theorem dX2_receive_62 : decode cX2_receive 62 = .ok (.aload_n 0, 1) := by decide +kernel
theorem dX2_receive_63 : decode cX2_receive 63 = .ok (.iload_n 1, 1) := by decide +kernel
theorem dX2_receive_64 : decode cX2_receive 64 = .ok (.iload_n 3, 1) := by decide +kernel
theorem dX2_receive_65 : decode cX2_receive 65 = .ok (.invokevirtual 83, 3) := by decide +kernel
theorem dX2_receive_68 : decode cX2_receive 68 = .ok (.ifCond .eq 19, 3) := by decide +kernel
theorem dX2_receive_71 : decode cX2_receive 71 = .ok (.aload_n 0, 1) := by decide +kernel
theorem dX2_receive_72 : decode cX2_receive 72 = .ok (.iload_n 1, 1) := by decide +kernel
theorem dX2_receive_73 : decode cX2_receive 73 = .ok (.iload_n 3, 1) := by decide +kernel
theorem dX2_receive_74 : decode cX2_receive 74 = .ok (.invokevirtual 87, 3) := by decide +kernel
theorem dX2_receive_77 : decode cX2_receive 77 = .ok (.ifCond .eq 7, 3) := by decide +kernel
theorem dX2_receive_80 : decode cX2_receive 80 = .ok (.iconst 0, 1) := by decide +kernel
theorem dX2_receive_81 : decode cX2_receive 81 = .ok (.goto 4, 3) := by decide +kernel
theorem dX2_receive_84 : decode cX2_receive 84 = .ok (.iconst 1, 1) := by decide +kernel
theorem dX2_receive_85 : decode cX2_receive 85 = .ok (.istore 4, 2) := by decide +kernel
theorem dX2_receive_87 : decode cX2_receive 87 = .ok (.aload_n 0, 1) := by decide +kernel
theorem dX2_receive_88 : decode cX2_receive 88 = .ok (.getfield 33, 3) := by decide +kernel
theorem dX2_receive_91 : decode cX2_receive 91 = .ok (.iload 4, 2) := by decide +kernel
theorem dX2_receive_93 : decode cX2_receive 93 = .ok (.dup2, 1) := by decide +kernel
theorem dX2_receive_94 : decode cX2_receive 94 = .ok (.iaload, 1) := by decide +kernel
theorem dX2_receive_95 : decode cX2_receive 95 = .ok (.iconst 1, 1) := by decide +kernel
theorem dX2_receive_96 : decode cX2_receive 96 = .ok (.iadd, 1) := by decide +kernel
theorem dX2_receive_97 : decode cX2_receive 97 = .ok (.iastore, 1) := by decide +kernel
theorem dX2_receive_98 : decode cX2_receive 98 = .ok (.iload 4, 2) := by decide +kernel
theorem dX2_receive_100 : decode cX2_receive 100 = .ok (.iconst 2, 1) := by decide +kernel
theorem dX2_receive_101 : decode cX2_receive 101 = .ok (.if_icmp .ne 11, 3) := by decide +kernel
theorem dX2_receive_104 : decode cX2_receive 104 = .ok (.aload_n 0, 1) := by decide +kernel
theorem dX2_receive_105 : decode cX2_receive 105 = .ok (.aload_n 2, 1) := by decide +kernel
theorem dX2_receive_106 : decode cX2_receive 106 = .ok (.invokevirtual 90, 3) := by decide +kernel
theorem dX2_receive_109 : decode cX2_receive 109 = .ok (.goto 15, 3) := by decide +kernel
theorem dX2_receive_112 : decode cX2_receive 112 = .ok (.iload 4, 2) := by decide +kernel
theorem dX2_receive_114 : decode cX2_receive 114 = .ok (.iconst 3, 1) := by decide +kernel
theorem dX2_receive_115 : decode cX2_receive 115 = .ok (.if_icmp .eq 9, 3) := by decide +kernel
theorem dX2_receive_118 : decode cX2_receive 118 = .ok (.aload_n 0, 1) := by decide +kernel
theorem dX2_receive_119 : decode cX2_receive 119 = .ok (.iload_n 3, 1) := by decide +kernel
theorem dX2_receive_120 : decode cX2_receive 120 = .ok (.aload_n 2, 1) := by decide +kernel
theorem dX2_receive_121 : decode cX2_receive 121 = .ok (.invokevirtual 94, 3) := by decide +kernel
theorem dX2_receive_124 : decode cX2_receive 124 = .ok (.iload 4, 2) := by decide +kernel
theorem dX2_receive_126 : decode cX2_receive 126 = .ok (.ireturn, 1) := by decide +kernel
theorem dX2_isRight_0 : decode cX2_isRight 0 = .ok (.iload_n 2, 1) := by decide +kernel
theorem dX2_isRight_1 : decode cX2_isRight 1 = .ok (.iload_n 1, 1) := by decide +kernel
theorem dX2_isRight_2 : decode cX2_isRight 2 = .ok (.if_icmp .ne 26, 3) := by decide +kernel
theorem dX2_isRight_5 : decode cX2_isRight 5 = .ok (.aload_n 0, 1) := by decide +kernel
theorem dX2_isRight_6 : decode cX2_isRight 6 = .ok (.getfield 44, 3) := by decide +kernel
theorem dX2_isRight_9 : decode cX2_isRight 9 = .ok (.aload_n 0, 1) := by decide +kernel
theorem dX2_isRight_10 : decode cX2_isRight 10 = .ok (.getfield 47, 3) := by decide +kernel
theorem dX2_isRight_13 : decode cX2_isRight 13 = .ok (.getfield 98, 3) := by decide +kernel
theorem dX2_isRight_16 : decode cX2_isRight 16 = .ok (.iload_n 1, 1) := by decide +kernel
theorem dX2_isRight_17 : decode cX2_isRight 17 = .ok (.aaload, 1) := by decide +kernel
theorem dX2_isRight_18 : decode cX2_isRight 18 = .ok (.invokestatic 102, 3) := by decide +kernel
theorem dX2_isRight_21 : decode cX2_isRight 21 = .ok (.ifCond .eq 7, 3) := by decide +kernel
theorem dX2_isRight_24 : decode cX2_isRight 24 = .ok (.iconst 1, 1) := by decide +kernel
theorem dX2_isRight_25 : decode cX2_isRight 25 = .ok (.goto 4, 3) := by decide +kernel
theorem dX2_isRight_28 : decode cX2_isRight 28 = .ok (.iconst 0, 1) := by decide +kernel
theorem dX2_isRight_29 : decode cX2_isRight 29 = .ok (.ireturn, 1) := by decide +kernel
theorem dX2_decode_0 : decode cX2_decode 0 = .ok (.aload_n 0, 1) := by decide +kernel
theorem dX2_decode_1 : decode cX2_decode 1 = .ok (.getfield 47, 3) := by decide +kernel
theorem dX2_decode_4 : decode cX2_decode 4 = .ok (.getfield 70, 3) := by decide +kernel
theorem dX2_decode_7 : decode cX2_decode 7 = .ok (.iload_n 1, 1) := by decide +kernel
theorem dX2_decode_8 : decode cX2_decode 8 = .ok (.iaload, 1) := by decide +kernel
theorem dX2_decode_9 : decode cX2_decode 9 = .ok (.istore_n 3, 1) := by decide +kernel
theorem dX2_decode_10 : decode cX2_decode 10 = .ok (.iload_n 3, 1) := by decide +kernel
theorem dX2_decode_11 : decode cX2_decode 11 = .ok (.ifCond .ne 21, 3) := by decide +kernel
theorem dX2_decode_14 : decode cX2_decode 14 = .ok (.aload_n 0, 1) := by decide +kernel
theorem dX2_decode_15 : decode cX2_decode 15 = .ok (.getfield 47, 3) := by decide +kernel
theorem dX2_decode_18 : decode cX2_decode 18 = .ok (.getfield 98, 3) := by decide +kernel
theorem dX2_decode_21 : decode cX2_decode 21 = .ok (.iload_n 1, 1) := by decide +kernel
theorem dX2_decode_22 : decode cX2_decode 22 = .ok (.aaload, 1) := by decide +kernel
theorem dX2_decode_23 : decode cX2_decode 23 = .ok (.aload_n 0, 1) := by decide +kernel
theorem dX2_decode_24 : decode cX2_decode 24 = .ok (.getfield 44, 3) := by decide +kernel
theorem dX2_decode_27 : decode cX2_decode 27 = .ok (.invokestatic 108, 3) := by decide +kernel
theorem dX2_decode_30 : decode cX2_decode 30 = .ok (.iconst 1, 1) := by decide +kernel
theorem dX2_decode_31 : decode cX2_decode 31 = .ok (.ireturn, 1) := by decide +kernel
theorem dX2_decode_32 : decode cX2_decode 32 = .ok (.iload_n 1, 1) := by decide +kernel
theorem dX2_decode_33 : decode cX2_decode 33 = .ok (.aload_n 0, 1) := by decide +kernel
theorem dX2_decode_34 : decode cX2_decode 34 = .ok (.getfield 47, 3) := by decide +kernel
theorem dX2_decode_37 : decode cX2_decode 37 = .ok (.getfield 112, 3) := by decide +kernel
theorem dX2_decode_40 : decode cX2_decode 40 = .ok (.iload_n 1, 1) := by decide +kernel
theorem dX2_decode_41 : decode cX2_decode 41 = .ok (.iaload, 1) := by decide +kernel
theorem dX2_decode_42 : decode cX2_decode 42 = .ok (.isub, 1) := by decide +kernel
theorem dX2_decode_43 : decode cX2_decode 43 = .ok (.istore 4, 2) := by decide +kernel
theorem dX2_decode_45 : decode cX2_decode 45 = .ok (.aload_n 0, 1) := by decide +kernel
theorem dX2_decode_46 : decode cX2_decode 46 = .ok (.getfield 40, 3) := by decide +kernel
theorem dX2_decode_49 : decode cX2_decode 49 = .ok (.iload_n 2, 1) := by decide +kernel
theorem dX2_decode_50 : decode cX2_decode 50 = .ok (.iload 4, 2) := by decide +kernel
theorem dX2_decode_52 : decode cX2_decode 52 = .ok (.isub, 1) := by decide +kernel
theorem dX2_decode_53 : decode cX2_decode 53 = .ok (.invokevirtual 79, 3) := by decide +kernel
theorem dX2_decode_56 : decode cX2_decode 56 = .ok (.ifCond .ne 5, 3) := by decide +kernel
theorem dX2_decode_59 : decode cX2_decode 59 = .ok (.iconst 0, 1) := by decide +kernel
theorem dX2_decode_60 : decode cX2_decode 60 = .ok (.ireturn, 1) := by decide +kernel
theorem dX2_decode_61 : decode cX2_decode 61 = .ok (.aload_n 0, 1) := by decide +kernel
theorem dX2_decode_62 : decode cX2_decode 62 = .ok (.getfield 44, 3) := by decide +kernel
theorem dX2_decode_65 : decode cX2_decode 65 = .ok (.aload_n 0, 1) := by decide +kernel
theorem dX2_decode_66 : decode cX2_decode 66 = .ok (.getfield 40, 3) := by decide +kernel
theorem dX2_decode_69 : decode cX2_decode 69 = .ok (.iload_n 2, 1) := by decide +kernel
theorem dX2_decode_70 : decode cX2_decode 70 = .ok (.iload 4, 2) := by decide +kernel
theorem dX2_decode_72 : decode cX2_decode 72 = .ok (.isub, 1) := by decide +kernel
theorem dX2_decode_73 : decode cX2_decode 73 = .ok (.invokevirtual 115, 3) := by decide +kernel
theorem dX2_decode_76 : decode cX2_decode 76 = .ok (.iload_n 3, 1) := by decide +kernel
theorem dX2_decode_77 : decode cX2_decode 77 = .ok (.iload 4, 2) := by decide +kernel
theorem dX2_decode_79 : decode cX2_decode 79 = .ok (.invokestatic 119, 3) := by decide +kernel
theorem dX2_decode_82 : decode cX2_decode 82 = .ok (.aload_n 0, 1) := by decide +kernel
theorem dX2_decode_83 : decode cX2_decode 83 = .ok (.getfield 44, 3) := by decide +kernel
theorem dX2_decode_86 : decode cX2_decode 86 = .ok (.aload_n 0, 1) := by decide +kernel
theorem dX2_decode_87 : decode cX2_decode 87 = .ok (.getfield 47, 3) := by decide +kernel
theorem dX2_decode_90 : decode cX2_decode 90 = .ok (.getfield 123, 3) := by decide +kernel
theorem dX2_decode_93 : decode cX2_decode 93 = .ok (.iload_n 1, 1) := by decide +kernel
theorem dX2_decode_94 : decode cX2_decode 94 = .ok (.aaload, 1) := by decide +kernel
theorem dX2_decode_95 : decode cX2_decode 95 = .ok (.invokestatic 126, 3) := by decide +kernel
theorem dX2_decode_98 : decode cX2_decode 98 = .ok (.iconst 1, 1) := by decide +kernel
theorem dX2_decode_99 : decode cX2_decode 99 = .ok (.ireturn, 1) := by decide +kernel
theorem dX2_keepDecoded_0 : decode cX2_keepDecoded 0 = .ok (.iload_n 1, 1) := by decide +kernel
theorem dX2_keepDecoded_1 : decode cX2_keepDecoded 1 = .ok (.aload_n 0, 1) := by decide +kernel
theorem dX2_keepDecoded_2 : decode cX2_keepDecoded 2 = .ok (.getfield 21, 3) := by decide +kernel
theorem dX2_keepDecoded_5 : decode cX2_keepDecoded 5 = .ok (.if_icmp .le 22, 3) := by decide +kernel
theorem dX2_keepDecoded_8 : decode cX2_keepDecoded 8 = .ok (.aload_n 0, 1) := by decide +kernel
theorem dX2_keepDecoded_9 : decode cX2_keepDecoded 9 = .ok (.iload_n 1, 1) := by decide +kernel
theorem dX2_keepDecoded_10 : decode cX2_keepDecoded 10 = .ok (.putfield 21, 3) := by decide +kernel
theorem dX2_keepDecoded_13 : decode cX2_keepDecoded 13 = .ok (.aload_n 0, 1) := by decide +kernel
theorem dX2_keepDecoded_14 : decode cX2_keepDecoded 14 = .ok (.getfield 40, 3) := by decide +kernel
theorem dX2_keepDecoded_17 : decode cX2_keepDecoded 17 = .ok (.aload_n 0, 1) := by decide +kernel
theorem dX2_keepDecoded_18 : decode cX2_keepDecoded 18 = .ok (.getfield 21, 3) := by decide +kernel
theorem dX2_keepDecoded_21 : decode cX2_keepDecoded 21 = .ok (.bipush 64, 2) := by decide +kernel
theorem dX2_keepDecoded_23 : decode cX2_keepDecoded 23 = .ok (.isub, 1) := by decide +kernel
theorem dX2_keepDecoded_24 : decode cX2_keepDecoded 24 = .ok (.invokevirtual 129, 3) := by decide +kernel
theorem dX2_keepDecoded_27 : decode cX2_keepDecoded 27 = .ok (.iload_n 1, 1) := by decide +kernel
theorem dX2_keepDecoded_28 : decode cX2_keepDecoded 28 = .ok (.aload_n 0, 1) := by decide +kernel
theorem dX2_keepDecoded_29 : decode cX2_keepDecoded 29 = .ok (.getfield 21, 3) := by decide +kernel
theorem dX2_keepDecoded_32 : decode cX2_keepDecoded 32 = .ok (.bipush 64, 2) := by decide +kernel
theorem dX2_keepDecoded_34 : decode cX2_keepDecoded 34 = .ok (.isub, 1) := by decide +kernel
theorem dX2_keepDecoded_35 : decode cX2_keepDecoded 35 = .ok (.if_icmp .le 15, 3) := by decide +kernel
theorem dX2_keepDecoded_38 : decode cX2_keepDecoded 38 = .ok (.aload_n 0, 1) := by decide +kernel
theorem dX2_keepDecoded_39 : decode cX2_keepDecoded 39 = .ok (.getfield 40, 3) := by decide +kernel
theorem dX2_keepDecoded_42 : decode cX2_keepDecoded 42 = .ok (.iload_n 1, 1) := by decide +kernel
theorem dX2_keepDecoded_43 : decode cX2_keepDecoded 43 = .ok (.aload_n 0, 1) := by decide +kernel
theorem dX2_keepDecoded_44 : decode cX2_keepDecoded 44 = .ok (.getfield 44, 3) := by decide +kernel
theorem dX2_keepDecoded_47 : decode cX2_keepDecoded 47 = .ok (.invokevirtual 133, 3) := by decide +kernel
theorem dX2_keepDecoded_50 : decode cX2_keepDecoded 50 = .ok (.aload_n 0, 1) := by decide +kernel
theorem dX2_keepDecoded_51 : decode cX2_keepDecoded 51 = .ok (.iconst 0, 1) := by decide +kernel
theorem dX2_keepDecoded_52 : decode cX2_keepDecoded 52 = .ok (.putfield 24, 3) := by decide +kernel
theorem dX2_keepDecoded_55 : decode cX2_keepDecoded 55 = .ok (.aload_n 0, 1) := by decide +kernel
theorem dX2_keepDecoded_56 : decode cX2_keepDecoded 56 = .ok (.invokevirtual 137, 3) := by decide +kernel
theorem dX2_keepDecoded_59 : decode cX2_keepDecoded 59 = .ok (.aload_n 0, 1) := by decide +kernel
theorem dX2_keepDecoded_60 : decode cX2_keepDecoded 60 = .ok (.getfield 15, 3) := by decide +kernel
theorem dX2_keepDecoded_63 : decode cX2_keepDecoded 63 = .ok (.irem, 1) := by decide +kernel
theorem dX2_keepDecoded_64 : decode cX2_keepDecoded 64 = .ok (.ifCond .ne 8, 3) := by decide +kernel
theorem dX2_keepDecoded_67 : decode cX2_keepDecoded 67 = .ok (.aload_n 2, 1) := by decide +kernel
theorem dX2_keepDecoded_68 : decode cX2_keepDecoded 68 = .ok (.iload_n 1, 1) := by decide +kernel
theorem dX2_keepDecoded_69 : decode cX2_keepDecoded 69 = .ok (.invokevirtual 141, 3) := by decide +kernel
theorem dX2_keepDecoded_72 : decode cX2_keepDecoded 72 = .ok (.return_, 1) := by decide +kernel
theorem dX2_missReference_0 : decode cX2_missReference 0 = .ok (.aload_n 0, 1) := by decide +kernel
theorem dX2_missReference_1 : decode cX2_missReference 1 = .ok (.dup, 1) := by decide +kernel
theorem dX2_missReference_2 : decode cX2_missReference 2 = .ok (.getfield 24, 3) := by decide +kernel
theorem dX2_missReference_5 : decode cX2_missReference 5 = .ok (.iconst 1, 1) := by decide +kernel
theorem dX2_missReference_6 : decode cX2_missReference 6 = .ok (.iadd, 1) := by decide +kernel
theorem dX2_missReference_7 : decode cX2_missReference 7 = .ok (.putfield 24, 3) := by decide +kernel
theorem dX2_missReference_10 : decode cX2_missReference 10 = .ok (.aload_n 0, 1) := by decide +kernel
theorem dX2_missReference_11 : decode cX2_missReference 11 = .ok (.getfield 24, 3) := by decide +kernel
theorem dX2_missReference_14 : decode cX2_missReference 14 = .ok (.aload_n 0, 1) := by decide +kernel
theorem dX2_missReference_15 : decode cX2_missReference 15 = .ok (.getfield 18, 3) := by decide +kernel
theorem dX2_missReference_18 : decode cX2_missReference 18 = .ok (.if_icmp .lt 23, 3) := by decide +kernel
theorem dX2_missReference_21 : decode cX2_missReference 21 = .ok (.aload_n 0, 1) := by decide +kernel
theorem dX2_missReference_22 : decode cX2_missReference 22 = .ok (.iconst 0, 1) := by decide +kernel
theorem dX2_missReference_23 : decode cX2_missReference 23 = .ok (.putfield 24, 3) := by decide +kernel
theorem dX2_missReference_26 : decode cX2_missReference 26 = .ok (.aload_n 0, 1) := by decide +kernel
theorem dX2_missReference_27 : decode cX2_missReference 27 = .ok (.dup, 1) := by decide +kernel
theorem dX2_missReference_28 : decode cX2_missReference 28 = .ok (.getfield 27, 3) := by decide +kernel
theorem dX2_missReference_31 : decode cX2_missReference 31 = .ok (.iconst 1, 1) := by decide +kernel
theorem dX2_missReference_32 : decode cX2_missReference 32 = .ok (.iadd, 1) := by decide +kernel
theorem dX2_missReference_33 : decode cX2_missReference 33 = .ok (.putfield 27, 3) := by decide +kernel
theorem dX2_missReference_36 : decode cX2_missReference 36 = .ok (.aload_n 1, 1) := by decide +kernel
theorem dX2_missReference_37 : decode cX2_missReference 37 = .ok (.iconst (-1), 1) := by decide +kernel
theorem dX2_missReference_38 : decode cX2_missReference 38 = .ok (.invokevirtual 141, 3) := by decide +kernel
theorem dX2_missReference_41 : decode cX2_missReference 41 = .ok (.return_, 1) := by decide +kernel
theorem dX2_digestOn_0 : decode cX2_digestOn 0 = .ok (.lload_n 1, 1) := by decide +kernel
theorem dX2_digestOn_1 : decode cX2_digestOn 1 = .ok (.aload_n 0, 1) := by decide +kernel
theorem dX2_digestOn_2 : decode cX2_digestOn 2 = .ok (.getfield 9, 3) := by decide +kernel
theorem dX2_digestOn_5 : decode cX2_digestOn 5 = .ok (.i2l, 1) := by decide +kernel
theorem dX2_digestOn_6 : decode cX2_digestOn 6 = .ok (.invokestatic 146, 3) := by decide +kernel
theorem dX2_digestOn_9 : decode cX2_digestOn 9 = .ok (.lstore_n 3, 1) := by decide +kernel
theorem dX2_digestOn_10 : decode cX2_digestOn 10 = .ok (.lload_n 3, 1) := by decide +kernel
theorem dX2_digestOn_11 : decode cX2_digestOn 11 = .ok (.aload_n 0, 1) := by decide +kernel
theorem dX2_digestOn_12 : decode cX2_digestOn 12 = .ok (.getfield 15, 3) := by decide +kernel
theorem dX2_digestOn_15 : decode cX2_digestOn 15 = .ok (.i2l, 1) := by decide +kernel
theorem dX2_digestOn_16 : decode cX2_digestOn 16 = .ok (.invokestatic 146, 3) := by decide +kernel
theorem dX2_digestOn_19 : decode cX2_digestOn 19 = .ok (.lstore_n 3, 1) := by decide +kernel
theorem dX2_digestOn_20 : decode cX2_digestOn 20 = .ok (.lload_n 3, 1) := by decide +kernel
theorem dX2_digestOn_21 : decode cX2_digestOn 21 = .ok (.aload_n 0, 1) := by decide +kernel
theorem dX2_digestOn_22 : decode cX2_digestOn 22 = .ok (.getfield 18, 3) := by decide +kernel
theorem dX2_digestOn_25 : decode cX2_digestOn 25 = .ok (.i2l, 1) := by decide +kernel
theorem dX2_digestOn_26 : decode cX2_digestOn 26 = .ok (.invokestatic 146, 3) := by decide +kernel
theorem dX2_digestOn_29 : decode cX2_digestOn 29 = .ok (.lstore_n 3, 1) := by decide +kernel
theorem dX2_digestOn_30 : decode cX2_digestOn 30 = .ok (.lload_n 3, 1) := by decide +kernel
theorem dX2_digestOn_31 : decode cX2_digestOn 31 = .ok (.aload_n 0, 1) := by decide +kernel
theorem dX2_digestOn_32 : decode cX2_digestOn 32 = .ok (.getfield 21, 3) := by decide +kernel
theorem dX2_digestOn_35 : decode cX2_digestOn 35 = .ok (.i2l, 1) := by decide +kernel
theorem dX2_digestOn_36 : decode cX2_digestOn 36 = .ok (.invokestatic 146, 3) := by decide +kernel
theorem dX2_digestOn_39 : decode cX2_digestOn 39 = .ok (.lstore_n 3, 1) := by decide +kernel
theorem dX2_digestOn_40 : decode cX2_digestOn 40 = .ok (.lload_n 3, 1) := by decide +kernel
theorem dX2_digestOn_41 : decode cX2_digestOn 41 = .ok (.aload_n 0, 1) := by decide +kernel
theorem dX2_digestOn_42 : decode cX2_digestOn 42 = .ok (.getfield 24, 3) := by decide +kernel
theorem dX2_digestOn_45 : decode cX2_digestOn 45 = .ok (.i2l, 1) := by decide +kernel
theorem dX2_digestOn_46 : decode cX2_digestOn 46 = .ok (.invokestatic 146, 3) := by decide +kernel
theorem dX2_digestOn_49 : decode cX2_digestOn 49 = .ok (.lstore_n 3, 1) := by decide +kernel
theorem dX2_digestOn_50 : decode cX2_digestOn 50 = .ok (.lload_n 3, 1) := by decide +kernel
theorem dX2_digestOn_51 : decode cX2_digestOn 51 = .ok (.aload_n 0, 1) := by decide +kernel
theorem dX2_digestOn_52 : decode cX2_digestOn 52 = .ok (.getfield 40, 3) := by decide +kernel
theorem dX2_digestOn_55 : decode cX2_digestOn 55 = .ok (.invokevirtual 150, 3) := by decide +kernel
theorem dX2_digestOn_58 : decode cX2_digestOn 58 = .ok (.i2l, 1) := by decide +kernel
theorem dX2_digestOn_59 : decode cX2_digestOn 59 = .ok (.invokestatic 146, 3) := by decide +kernel
theorem dX2_digestOn_62 : decode cX2_digestOn 62 = .ok (.lstore_n 3, 1) := by decide +kernel
theorem dX2_digestOn_63 : decode cX2_digestOn 63 = .ok (.iconst 0, 1) := by decide +kernel
theorem dX2_digestOn_64 : decode cX2_digestOn 64 = .ok (.aload_n 0, 1) := by decide +kernel
theorem dX2_digestOn_65 : decode cX2_digestOn 65 = .ok (.getfield 21, 3) := by decide +kernel
theorem dX2_digestOn_68 : decode cX2_digestOn 68 = .ok (.bipush 64, 2) := by decide +kernel
theorem dX2_digestOn_70 : decode cX2_digestOn 70 = .ok (.isub, 1) := by decide +kernel
theorem dX2_digestOn_71 : decode cX2_digestOn 71 = .ok (.iconst 1, 1) := by decide +kernel
theorem dX2_digestOn_72 : decode cX2_digestOn 72 = .ok (.iadd, 1) := by decide +kernel
theorem dX2_digestOn_73 : decode cX2_digestOn 73 = .ok (.invokestatic 67, 3) := by decide +kernel
theorem dX2_digestOn_76 : decode cX2_digestOn 76 = .ok (.istore 5, 2) := by decide +kernel
theorem dX2_digestOn_78 : decode cX2_digestOn 78 = .ok (.iload 5, 2) := by decide +kernel
theorem dX2_digestOn_80 : decode cX2_digestOn 80 = .ok (.aload_n 0, 1) := by decide +kernel
theorem dX2_digestOn_81 : decode cX2_digestOn 81 = .ok (.getfield 21, 3) := by decide +kernel
theorem dX2_digestOn_84 : decode cX2_digestOn 84 = .ok (.if_icmp .gt 42, 3) := by decide +kernel
theorem dX2_digestOn_87 : decode cX2_digestOn 87 = .ok (.iconst 0, 1) := by decide +kernel
theorem dX2_digestOn_88 : decode cX2_digestOn 88 = .ok (.istore 6, 2) := by decide +kernel
theorem dX2_digestOn_90 : decode cX2_digestOn 90 = .ok (.iload 6, 2) := by decide +kernel
theorem dX2_digestOn_92 : decode cX2_digestOn 92 = .ok (.bipush 6, 2) := by decide +kernel
theorem dX2_digestOn_94 : decode cX2_digestOn 94 = .ok (.if_icmp .ge 26, 3) := by decide +kernel
theorem dX2_digestOn_97 : decode cX2_digestOn 97 = .ok (.lload_n 3, 1) := by decide +kernel
theorem dX2_digestOn_98 : decode cX2_digestOn 98 = .ok (.aload_n 0, 1) := by decide +kernel
theorem dX2_digestOn_99 : decode cX2_digestOn 99 = .ok (.getfield 40, 3) := by decide +kernel
theorem dX2_digestOn_102 : decode cX2_digestOn 102 = .ok (.iload 5, 2) := by decide +kernel
theorem dX2_digestOn_104 : decode cX2_digestOn 104 = .ok (.iload 6, 2) := by decide +kernel
theorem dX2_digestOn_106 : decode cX2_digestOn 106 = .ok (.invokevirtual 153, 3) := by decide +kernel
theorem dX2_digestOn_109 : decode cX2_digestOn 109 = .ok (.i2l, 1) := by decide +kernel
theorem dX2_digestOn_110 : decode cX2_digestOn 110 = .ok (.invokestatic 146, 3) := by decide +kernel
theorem dX2_digestOn_113 : decode cX2_digestOn 113 = .ok (.lstore_n 3, 1) := by decide +kernel
theorem dX2_digestOn_114 : decode cX2_digestOn 114 = .ok (.iinc 6 1, 3) := by decide +kernel
theorem dX2_digestOn_117 : decode cX2_digestOn 117 = .ok (.goto (-27), 3) := by decide +kernel
theorem dX2_digestOn_120 : decode cX2_digestOn 120 = .ok (.iinc 5 1, 3) := by decide +kernel
theorem dX2_digestOn_123 : decode cX2_digestOn 123 = .ok (.goto (-45), 3) := by decide +kernel
theorem dX2_digestOn_126 : decode cX2_digestOn 126 = .ok (.lload_n 3, 1) := by decide +kernel
theorem dX2_digestOn_127 : decode cX2_digestOn 127 = .ok (.lreturn, 1) := by decide +kernel
theorem dX3_wrapped_0 : decode cX3_wrapped 0 = .ok (.iload_n 0, 1) := by decide +kernel
theorem dX3_wrapped_1 : decode cX3_wrapped 1 = .ok (.ldc 9, 2) := by decide +kernel
theorem dX3_wrapped_3 : decode cX3_wrapped 3 = .ok (.iand, 1) := by decide +kernel
theorem dX3_wrapped_4 : decode cX3_wrapped 4 = .ok (.ireturn, 1) := by decide +kernel
theorem dX3_difference_0 : decode cX3_difference 0 = .ok (.iload_n 0, 1) := by decide +kernel
theorem dX3_difference_1 : decode cX3_difference 1 = .ok (.iload_n 1, 1) := by decide +kernel
theorem dX3_difference_2 : decode cX3_difference 2 = .ok (.isub, 1) := by decide +kernel
theorem dX3_difference_3 : decode cX3_difference 3 = .ok (.i2s, 1) := by decide +kernel
theorem dX3_difference_4 : decode cX3_difference 4 = .ok (.ireturn, 1) := by decide +kernel
theorem dX3_copyRow_0 : decode cX3_copyRow 0 = .ok (.aload_n 0, 1) := by decide +kernel
theorem dX3_copyRow_1 : decode cX3_copyRow 1 = .ok (.iconst 0, 1) := by decide +kernel
theorem dX3_copyRow_2 : decode cX3_copyRow 2 = .ok (.aload_n 1, 1) := by decide +kernel
theorem dX3_copyRow_3 : decode cX3_copyRow 3 = .ok (.iconst 0, 1) := by decide +kernel
theorem dX3_copyRow_4 : decode cX3_copyRow 4 = .ok (.bipush 6, 2) := by decide +kernel
theorem dX3_copyRow_6 : decode cX3_copyRow 6 = .ok (.invokestatic 10, 3) := by decide +kernel
theorem dX3_copyRow_9 : decode cX3_copyRow 9 = .ok (.return_, 1) := by decide +kernel
theorem dX3_putBase_0 : decode cX3_putBase 0 = .ok (.aload_n 1, 1) := by decide +kernel
theorem dX3_putBase_1 : decode cX3_putBase 1 = .ok (.iconst 0, 1) := by decide +kernel
theorem dX3_putBase_2 : decode cX3_putBase 2 = .ok (.aload_n 0, 1) := by decide +kernel
theorem dX3_putBase_3 : decode cX3_putBase 3 = .ok (.iconst 0, 1) := by decide +kernel
theorem dX3_putBase_4 : decode cX3_putBase 4 = .ok (.bipush 6, 2) := by decide +kernel
theorem dX3_putBase_6 : decode cX3_putBase 6 = .ok (.invokestatic 10, 3) := by decide +kernel
theorem dX3_putBase_9 : decode cX3_putBase 9 = .ok (.iload_n 2, 1) := by decide +kernel
theorem dX3_putBase_10 : decode cX3_putBase 10 = .ok (.iconst 2, 1) := by decide +kernel
theorem dX3_putBase_11 : decode cX3_putBase 11 = .ok (.if_icmp .ne 33, 3) := by decide +kernel
theorem dX3_putBase_14 : decode cX3_putBase 14 = .ok (.aload_n 0, 1) := by decide +kernel
theorem dX3_putBase_15 : decode cX3_putBase 15 = .ok (.iconst 1, 1) := by decide +kernel
theorem dX3_putBase_16 : decode cX3_putBase 16 = .ok (.aload_n 0, 1) := by decide +kernel
theorem dX3_putBase_17 : decode cX3_putBase 17 = .ok (.iconst 1, 1) := by decide +kernel
theorem dX3_putBase_18 : decode cX3_putBase 18 = .ok (.iaload, 1) := by decide +kernel
theorem dX3_putBase_19 : decode cX3_putBase 19 = .ok (.iload_n 3, 1) := by decide +kernel
theorem dX3_putBase_20 : decode cX3_putBase 20 = .ok (.aload_n 1, 1) := by decide +kernel
theorem dX3_putBase_21 : decode cX3_putBase 21 = .ok (.iconst 4, 1) := by decide +kernel
theorem dX3_putBase_22 : decode cX3_putBase 22 = .ok (.iaload, 1) := by decide +kernel
theorem dX3_putBase_23 : decode cX3_putBase 23 = .ok (.imul, 1) := by decide +kernel
theorem dX3_putBase_24 : decode cX3_putBase 24 = .ok (.iadd, 1) := by decide +kernel
theorem dX3_putBase_25 : decode cX3_putBase 25 = .ok (.invokestatic 16, 3) := by decide +kernel
theorem dX3_putBase_28 : decode cX3_putBase 28 = .ok (.iastore, 1) := by decide +kernel
theorem dX3_putBase_29 : decode cX3_putBase 29 = .ok (.aload_n 0, 1) := by decide +kernel
theorem dX3_putBase_30 : decode cX3_putBase 30 = .ok (.iconst 2, 1) := by decide +kernel
theorem dX3_putBase_31 : decode cX3_putBase 31 = .ok (.aload_n 0, 1) := by decide +kernel
theorem dX3_putBase_32 : decode cX3_putBase 32 = .ok (.iconst 2, 1) := by decide +kernel
theorem dX3_putBase_33 : decode cX3_putBase 33 = .ok (.iaload, 1) := by decide +kernel
theorem dX3_putBase_34 : decode cX3_putBase 34 = .ok (.iload_n 3, 1) := by decide +kernel
theorem dX3_putBase_35 : decode cX3_putBase 35 = .ok (.aload_n 1, 1) := by decide +kernel
theorem dX3_putBase_36 : decode cX3_putBase 36 = .ok (.iconst 5, 1) := by decide +kernel
theorem dX3_putBase_37 : decode cX3_putBase 37 = .ok (.iaload, 1) := by decide +kernel
theorem dX3_putBase_38 : decode cX3_putBase 38 = .ok (.imul, 1) := by decide +kernel
theorem dX3_putBase_39 : decode cX3_putBase 39 = .ok (.iadd, 1) := by decide +kernel
theorem dX3_putBase_40 : decode cX3_putBase 40 = .ok (.invokestatic 16, 3) := by decide +kernel
theorem dX3_putBase_43 : decode cX3_putBase 43 = .ok (.iastore, 1) := by decide +kernel
theorem dX3_putBase_44 : decode cX3_putBase 44 = .ok (.return_, 1) := by decide +kernel
theorem dX3_putCarried_0 : decode cX3_putCarried 0 = .ok (.aload_n 0, 1) := by decide +kernel
theorem dX3_putCarried_1 : decode cX3_putCarried 1 = .ok (.iconst 0, 1) := by decide +kernel
theorem dX3_putCarried_2 : decode cX3_putCarried 2 = .ok (.aload_n 1, 1) := by decide +kernel
theorem dX3_putCarried_3 : decode cX3_putCarried 3 = .ok (.iconst 0, 1) := by decide +kernel
theorem dX3_putCarried_4 : decode cX3_putCarried 4 = .ok (.iaload, 1) := by decide +kernel
theorem dX3_putCarried_5 : decode cX3_putCarried 5 = .ok (.aload_n 2, 1) := by decide +kernel
theorem dX3_putCarried_6 : decode cX3_putCarried 6 = .ok (.iconst 0, 1) := by decide +kernel
theorem dX3_putCarried_7 : decode cX3_putCarried 7 = .ok (.iaload, 1) := by decide +kernel
theorem dX3_putCarried_8 : decode cX3_putCarried 8 = .ok (.if_icmp .ne 7, 3) := by decide +kernel
theorem dX3_putCarried_11 : decode cX3_putCarried 11 = .ok (.iconst (-1), 1) := by decide +kernel
theorem dX3_putCarried_12 : decode cX3_putCarried 12 = .ok (.goto 6, 3) := by decide +kernel
theorem dX3_putCarried_15 : decode cX3_putCarried 15 = .ok (.aload_n 1, 1) := by decide +kernel
theorem dX3_putCarried_16 : decode cX3_putCarried 16 = .ok (.iconst 0, 1) := by decide +kernel
theorem dX3_putCarried_17 : decode cX3_putCarried 17 = .ok (.iaload, 1) := by decide +kernel
theorem dX3_putCarried_18 : decode cX3_putCarried 18 = .ok (.iastore, 1) := by decide +kernel
theorem dX3_putCarried_19 : decode cX3_putCarried 19 = .ok (.aload_n 0, 1) := by decide +kernel
theorem dX3_putCarried_20 : decode cX3_putCarried 20 = .ok (.iconst 1, 1) := by decide +kernel
theorem dX3_putCarried_21 : decode cX3_putCarried 21 = .ok (.aload_n 1, 1) := by decide +kernel
theorem dX3_putCarried_22 : decode cX3_putCarried 22 = .ok (.iconst 1, 1) := by decide +kernel
theorem dX3_putCarried_23 : decode cX3_putCarried 23 = .ok (.iaload, 1) := by decide +kernel
theorem dX3_putCarried_24 : decode cX3_putCarried 24 = .ok (.aload_n 2, 1) := by decide +kernel
theorem dX3_putCarried_25 : decode cX3_putCarried 25 = .ok (.iconst 1, 1) := by decide +kernel
theorem dX3_putCarried_26 : decode cX3_putCarried 26 = .ok (.iaload, 1) := by decide +kernel
theorem dX3_putCarried_27 : decode cX3_putCarried 27 = .ok (.invokestatic 22, 3) := by decide +kernel
theorem dX3_putCarried_30 : decode cX3_putCarried 30 = .ok (.iastore, 1) := by decide +kernel
theorem dX3_putCarried_31 : decode cX3_putCarried 31 = .ok (.aload_n 0, 1) := by decide +kernel
theorem dX3_putCarried_32 : decode cX3_putCarried 32 = .ok (.iconst 2, 1) := by decide +kernel
theorem dX3_putCarried_33 : decode cX3_putCarried 33 = .ok (.aload_n 1, 1) := by decide +kernel
theorem dX3_putCarried_34 : decode cX3_putCarried 34 = .ok (.iconst 2, 1) := by decide +kernel
theorem dX3_putCarried_35 : decode cX3_putCarried 35 = .ok (.iaload, 1) := by decide +kernel
theorem dX3_putCarried_36 : decode cX3_putCarried 36 = .ok (.aload_n 2, 1) := by decide +kernel
theorem dX3_putCarried_37 : decode cX3_putCarried 37 = .ok (.iconst 2, 1) := by decide +kernel
theorem dX3_putCarried_38 : decode cX3_putCarried 38 = .ok (.iaload, 1) := by decide +kernel
theorem dX3_putCarried_39 : decode cX3_putCarried 39 = .ok (.invokestatic 22, 3) := by decide +kernel
theorem dX3_putCarried_42 : decode cX3_putCarried 42 = .ok (.iastore, 1) := by decide +kernel
theorem dX3_putCarried_43 : decode cX3_putCarried 43 = .ok (.aload_n 0, 1) := by decide +kernel
theorem dX3_putCarried_44 : decode cX3_putCarried 44 = .ok (.iconst 3, 1) := by decide +kernel
theorem dX3_putCarried_45 : decode cX3_putCarried 45 = .ok (.aload_n 1, 1) := by decide +kernel
theorem dX3_putCarried_46 : decode cX3_putCarried 46 = .ok (.iconst 3, 1) := by decide +kernel
theorem dX3_putCarried_47 : decode cX3_putCarried 47 = .ok (.iaload, 1) := by decide +kernel
theorem dX3_putCarried_48 : decode cX3_putCarried 48 = .ok (.aload_n 2, 1) := by decide +kernel
theorem dX3_putCarried_49 : decode cX3_putCarried 49 = .ok (.iconst 3, 1) := by decide +kernel
theorem dX3_putCarried_50 : decode cX3_putCarried 50 = .ok (.iaload, 1) := by decide +kernel
theorem dX3_putCarried_51 : decode cX3_putCarried 51 = .ok (.if_icmp .ne 7, 3) := by decide +kernel
theorem dX3_putCarried_54 : decode cX3_putCarried 54 = .ok (.iconst (-1), 1) := by decide +kernel
theorem dX3_putCarried_55 : decode cX3_putCarried 55 = .ok (.goto 6, 3) := by decide +kernel
theorem dX3_putCarried_58 : decode cX3_putCarried 58 = .ok (.aload_n 1, 1) := by decide +kernel
theorem dX3_putCarried_59 : decode cX3_putCarried 59 = .ok (.iconst 3, 1) := by decide +kernel
theorem dX3_putCarried_60 : decode cX3_putCarried 60 = .ok (.iaload, 1) := by decide +kernel
theorem dX3_putCarried_61 : decode cX3_putCarried 61 = .ok (.iastore, 1) := by decide +kernel
theorem dX3_putCarried_62 : decode cX3_putCarried 62 = .ok (.return_, 1) := by decide +kernel
theorem dX3_addCarried_0 : decode cX3_addCarried 0 = .ok (.aload_n 1, 1) := by decide +kernel
theorem dX3_addCarried_1 : decode cX3_addCarried 1 = .ok (.iconst 0, 1) := by decide +kernel
theorem dX3_addCarried_2 : decode cX3_addCarried 2 = .ok (.iaload, 1) := by decide +kernel
theorem dX3_addCarried_3 : decode cX3_addCarried 3 = .ok (.iconst (-1), 1) := by decide +kernel
theorem dX3_addCarried_4 : decode cX3_addCarried 4 = .ok (.if_icmp .eq 9, 3) := by decide +kernel
theorem dX3_addCarried_7 : decode cX3_addCarried 7 = .ok (.aload_n 0, 1) := by decide +kernel
theorem dX3_addCarried_8 : decode cX3_addCarried 8 = .ok (.iconst 0, 1) := by decide +kernel
theorem dX3_addCarried_9 : decode cX3_addCarried 9 = .ok (.aload_n 1, 1) := by decide +kernel
theorem dX3_addCarried_10 : decode cX3_addCarried 10 = .ok (.iconst 0, 1) := by decide +kernel
theorem dX3_addCarried_11 : decode cX3_addCarried 11 = .ok (.iaload, 1) := by decide +kernel
theorem dX3_addCarried_12 : decode cX3_addCarried 12 = .ok (.iastore, 1) := by decide +kernel
theorem dX3_addCarried_13 : decode cX3_addCarried 13 = .ok (.aload_n 0, 1) := by decide +kernel
theorem dX3_addCarried_14 : decode cX3_addCarried 14 = .ok (.iconst 1, 1) := by decide +kernel
theorem dX3_addCarried_15 : decode cX3_addCarried 15 = .ok (.aload_n 0, 1) := by decide +kernel
theorem dX3_addCarried_16 : decode cX3_addCarried 16 = .ok (.iconst 1, 1) := by decide +kernel
theorem dX3_addCarried_17 : decode cX3_addCarried 17 = .ok (.iaload, 1) := by decide +kernel
theorem dX3_addCarried_18 : decode cX3_addCarried 18 = .ok (.aload_n 1, 1) := by decide +kernel
theorem dX3_addCarried_19 : decode cX3_addCarried 19 = .ok (.iconst 1, 1) := by decide +kernel
theorem dX3_addCarried_20 : decode cX3_addCarried 20 = .ok (.iaload, 1) := by decide +kernel
theorem dX3_addCarried_21 : decode cX3_addCarried 21 = .ok (.iadd, 1) := by decide +kernel
theorem dX3_addCarried_22 : decode cX3_addCarried 22 = .ok (.invokestatic 16, 3) := by decide +kernel
theorem dX3_addCarried_25 : decode cX3_addCarried 25 = .ok (.iastore, 1) := by decide +kernel
theorem dX3_addCarried_26 : decode cX3_addCarried 26 = .ok (.aload_n 0, 1) := by decide +kernel
theorem dX3_addCarried_27 : decode cX3_addCarried 27 = .ok (.iconst 2, 1) := by decide +kernel
theorem dX3_addCarried_28 : decode cX3_addCarried 28 = .ok (.aload_n 0, 1) := by decide +kernel
theorem dX3_addCarried_29 : decode cX3_addCarried 29 = .ok (.iconst 2, 1) := by decide +kernel
theorem dX3_addCarried_30 : decode cX3_addCarried 30 = .ok (.iaload, 1) := by decide +kernel
theorem dX3_addCarried_31 : decode cX3_addCarried 31 = .ok (.aload_n 1, 1) := by decide +kernel
theorem dX3_addCarried_32 : decode cX3_addCarried 32 = .ok (.iconst 2, 1) := by decide +kernel
theorem dX3_addCarried_33 : decode cX3_addCarried 33 = .ok (.iaload, 1) := by decide +kernel
theorem dX3_addCarried_34 : decode cX3_addCarried 34 = .ok (.iadd, 1) := by decide +kernel
theorem dX3_addCarried_35 : decode cX3_addCarried 35 = .ok (.invokestatic 16, 3) := by decide +kernel
theorem dX3_addCarried_38 : decode cX3_addCarried 38 = .ok (.iastore, 1) := by decide +kernel
theorem dX3_addCarried_39 : decode cX3_addCarried 39 = .ok (.aload_n 1, 1) := by decide +kernel
theorem dX3_addCarried_40 : decode cX3_addCarried 40 = .ok (.iconst 3, 1) := by decide +kernel
theorem dX3_addCarried_41 : decode cX3_addCarried 41 = .ok (.iaload, 1) := by decide +kernel
theorem dX3_addCarried_42 : decode cX3_addCarried 42 = .ok (.iconst (-1), 1) := by decide +kernel
theorem dX3_addCarried_43 : decode cX3_addCarried 43 = .ok (.if_icmp .eq 9, 3) := by decide +kernel
theorem dX3_addCarried_46 : decode cX3_addCarried 46 = .ok (.aload_n 0, 1) := by decide +kernel
theorem dX3_addCarried_47 : decode cX3_addCarried 47 = .ok (.iconst 3, 1) := by decide +kernel
theorem dX3_addCarried_48 : decode cX3_addCarried 48 = .ok (.aload_n 1, 1) := by decide +kernel
theorem dX3_addCarried_49 : decode cX3_addCarried 49 = .ok (.iconst 3, 1) := by decide +kernel
theorem dX3_addCarried_50 : decode cX3_addCarried 50 = .ok (.iaload, 1) := by decide +kernel
theorem dX3_addCarried_51 : decode cX3_addCarried 51 = .ok (.iastore, 1) := by decide +kernel
theorem dX3_addCarried_52 : decode cX3_addCarried 52 = .ok (.return_, 1) := by decide +kernel
theorem dX3_sameHeader_0 : decode cX3_sameHeader 0 = .ok (.iconst 0, 1) := by decide +kernel
theorem dX3_sameHeader_1 : decode cX3_sameHeader 1 = .ok (.istore_n 2, 1) := by decide +kernel
theorem dX3_sameHeader_2 : decode cX3_sameHeader 2 = .ok (.iload_n 2, 1) := by decide +kernel
theorem dX3_sameHeader_3 : decode cX3_sameHeader 3 = .ok (.iconst 4, 1) := by decide +kernel
theorem dX3_sameHeader_4 : decode cX3_sameHeader 4 = .ok (.if_icmp .ge 20, 3) := by decide +kernel
theorem dX3_sameHeader_7 : decode cX3_sameHeader 7 = .ok (.aload_n 0, 1) := by decide +kernel
theorem dX3_sameHeader_8 : decode cX3_sameHeader 8 = .ok (.iload_n 2, 1) := by decide +kernel
theorem dX3_sameHeader_9 : decode cX3_sameHeader 9 = .ok (.iaload, 1) := by decide +kernel
theorem dX3_sameHeader_10 : decode cX3_sameHeader 10 = .ok (.aload_n 1, 1) := by decide +kernel
theorem dX3_sameHeader_11 : decode cX3_sameHeader 11 = .ok (.iload_n 2, 1) := by decide +kernel
theorem dX3_sameHeader_12 : decode cX3_sameHeader 12 = .ok (.iaload, 1) := by decide +kernel
theorem dX3_sameHeader_13 : decode cX3_sameHeader 13 = .ok (.if_icmp .eq 5, 3) := by decide +kernel
theorem dX3_sameHeader_16 : decode cX3_sameHeader 16 = .ok (.iconst 0, 1) := by decide +kernel
theorem dX3_sameHeader_17 : decode cX3_sameHeader 17 = .ok (.ireturn, 1) := by decide +kernel
theorem dX3_sameHeader_18 : decode cX3_sameHeader 18 = .ok (.iinc 2 1, 3) := by decide +kernel
theorem dX3_sameHeader_21 : decode cX3_sameHeader 21 = .ok (.goto (-19), 3) := by decide +kernel
theorem dX3_sameHeader_24 : decode cX3_sameHeader 24 = .ok (.iconst 1, 1) := by decide +kernel
theorem dX3_sameHeader_25 : decode cX3_sameHeader 25 = .ok (.ireturn, 1) := by decide +kernel
theorem dX3_sizeOf_0 : decode cX3_sizeOf 0 = .ok (.iconst 3, 1) := by decide +kernel
theorem dX3_sizeOf_1 : decode cX3_sizeOf 1 = .ok (.aload_n 0, 1) := by decide +kernel
theorem dX3_sizeOf_2 : decode cX3_sizeOf 2 = .ok (.iconst 1, 1) := by decide +kernel
theorem dX3_sizeOf_3 : decode cX3_sizeOf 3 = .ok (.iaload, 1) := by decide +kernel
theorem dX3_sizeOf_4 : decode cX3_sizeOf 4 = .ok (.invokestatic 26, 3) := by decide +kernel
theorem dX3_sizeOf_7 : decode cX3_sizeOf 7 = .ok (.iadd, 1) := by decide +kernel
theorem dX3_sizeOf_8 : decode cX3_sizeOf 8 = .ok (.aload_n 0, 1) := by decide +kernel
theorem dX3_sizeOf_9 : decode cX3_sizeOf 9 = .ok (.iconst 2, 1) := by decide +kernel
theorem dX3_sizeOf_10 : decode cX3_sizeOf 10 = .ok (.iaload, 1) := by decide +kernel
theorem dX3_sizeOf_11 : decode cX3_sizeOf 11 = .ok (.invokestatic 26, 3) := by decide +kernel
theorem dX3_sizeOf_14 : decode cX3_sizeOf 14 = .ok (.iadd, 1) := by decide +kernel
theorem dX3_sizeOf_15 : decode cX3_sizeOf 15 = .ok (.istore_n 1, 1) := by decide +kernel
theorem dX3_sizeOf_16 : decode cX3_sizeOf 16 = .ok (.aload_n 0, 1) := by decide +kernel
theorem dX3_sizeOf_17 : decode cX3_sizeOf 17 = .ok (.iconst 0, 1) := by decide +kernel
theorem dX3_sizeOf_18 : decode cX3_sizeOf 18 = .ok (.iaload, 1) := by decide +kernel
theorem dX3_sizeOf_19 : decode cX3_sizeOf 19 = .ok (.iconst (-1), 1) := by decide +kernel
theorem dX3_sizeOf_20 : decode cX3_sizeOf 20 = .ok (.if_icmp .eq 6, 3) := by decide +kernel
theorem dX3_sizeOf_23 : decode cX3_sizeOf 23 = .ok (.iinc 1 1, 3) := by decide +kernel
theorem dX3_sizeOf_26 : decode cX3_sizeOf 26 = .ok (.aload_n 0, 1) := by decide +kernel
theorem dX3_sizeOf_27 : decode cX3_sizeOf 27 = .ok (.iconst 3, 1) := by decide +kernel
theorem dX3_sizeOf_28 : decode cX3_sizeOf 28 = .ok (.iaload, 1) := by decide +kernel
theorem dX3_sizeOf_29 : decode cX3_sizeOf 29 = .ok (.iconst (-1), 1) := by decide +kernel
theorem dX3_sizeOf_30 : decode cX3_sizeOf 30 = .ok (.if_icmp .eq 6, 3) := by decide +kernel
theorem dX3_sizeOf_33 : decode cX3_sizeOf 33 = .ok (.iinc 1 1, 3) := by decide +kernel
theorem dX3_sizeOf_36 : decode cX3_sizeOf 36 = .ok (.iload_n 1, 1) := by decide +kernel
theorem dX3_sizeOf_37 : decode cX3_sizeOf 37 = .ok (.ireturn, 1) := by decide +kernel
theorem dX3_bytesOf_0 : decode cX3_bytesOf 0 = .ok (.iload_n 0, 1) := by decide +kernel
theorem dX3_bytesOf_1 : decode cX3_bytesOf 1 = .ok (.ifCond .ne 5, 3) := by decide +kernel
theorem dX3_bytesOf_4 : decode cX3_bytesOf 4 = .ok (.iconst 0, 1) := by decide +kernel
theorem dX3_bytesOf_5 : decode cX3_bytesOf 5 = .ok (.ireturn, 1) := by decide +kernel
theorem dX3_bytesOf_6 : decode cX3_bytesOf 6 = .ok (.iload_n 0, 1) := by decide +kernel
theorem dX3_bytesOf_7 : decode cX3_bytesOf 7 = .ok (.bipush (-128), 2) := by decide +kernel
theorem dX3_bytesOf_9 : decode cX3_bytesOf 9 = .ok (.bipush 127, 2) := by decide +kernel
theorem dX3_bytesOf_11 : decode cX3_bytesOf 11 = .ok (.invokestatic 29, 3) := by decide +kernel
theorem dX3_bytesOf_14 : decode cX3_bytesOf 14 = .ok (.ifCond .eq 7, 3) := by decide +kernel
theorem dX3_bytesOf_17 : decode cX3_bytesOf 17 = .ok (.iconst 1, 1) := by decide +kernel
theorem dX3_bytesOf_18 : decode cX3_bytesOf 18 = .ok (.goto 4, 3) := by decide +kernel
theorem dX3_bytesOf_21 : decode cX3_bytesOf 21 = .ok (.iconst 2, 1) := by decide +kernel
theorem dX3_bytesOf_22 : decode cX3_bytesOf 22 = .ok (.ireturn, 1) := by decide +kernel
theorem dX4_init_0 : decode cX4_init 0 = .ok (.aload_n 0, 1) := by decide +kernel
theorem dX4_init_1 : decode cX4_init 1 = .ok (.invokespecial 3, 3) := by decide +kernel
theorem dX4_init_4 : decode cX4_init 4 = .ok (.aload_n 0, 1) := by decide +kernel
theorem dX4_init_5 : decode cX4_init 5 = .ok (.bipush 100, 2) := by decide +kernel
theorem dX4_init_7 : decode cX4_init 7 = .ok (.newarray .int, 2) := by decide +kernel
theorem dX4_init_9 : decode cX4_init 9 = .ok (.putfield 9, 3) := by decide +kernel
theorem dX4_init_12 : decode cX4_init 12 = .ok (.aload_n 0, 1) := by decide +kernel
theorem dX4_init_13 : decode cX4_init 13 = .ok (.iconst 0, 1) := by decide +kernel
theorem dX4_init_14 : decode cX4_init 14 = .ok (.putfield 15, 3) := by decide +kernel
theorem dX4_init_17 : decode cX4_init 17 = .ok (.aload_n 0, 1) := by decide +kernel
theorem dX4_init_18 : decode cX4_init 18 = .ok (.bipush 50, 2) := by decide +kernel
theorem dX4_init_20 : decode cX4_init 20 = .ok (.newarray .int, 2) := by decide +kernel
theorem dX4_init_22 : decode cX4_init 22 = .ok (.putfield 19, 3) := by decide +kernel
theorem dX4_init_25 : decode cX4_init 25 = .ok (.aload_n 0, 1) := by decide +kernel
theorem dX4_init_26 : decode cX4_init 26 = .ok (.bipush 50, 2) := by decide +kernel
theorem dX4_init_28 : decode cX4_init 28 = .ok (.newarray .int, 2) := by decide +kernel
theorem dX4_init_30 : decode cX4_init 30 = .ok (.putfield 22, 3) := by decide +kernel
theorem dX4_init_33 : decode cX4_init 33 = .ok (.aload_n 0, 1) := by decide +kernel
theorem dX4_init_34 : decode cX4_init 34 = .ok (.iconst 0, 1) := by decide +kernel
theorem dX4_init_35 : decode cX4_init 35 = .ok (.putfield 25, 3) := by decide +kernel
theorem dX4_init_38 : decode cX4_init 38 = .ok (.return_, 1) := by decide +kernel
theorem dX4_readOrders_0 : decode cX4_readOrders 0 = .ok (.aload_n 0, 1) := by decide +kernel
theorem dX4_readOrders_1 : decode cX4_readOrders 1 = .ok (.iconst 0, 1) := by decide +kernel
theorem dX4_readOrders_2 : decode cX4_readOrders 2 = .ok (.putfield 25, 3) := by decide +kernel
theorem dX4_readOrders_5 : decode cX4_readOrders 5 = .ok (.iconst (-1), 1) := by decide +kernel
theorem dX4_readOrders_6 : decode cX4_readOrders 6 = .ok (.istore_n 1, 1) := by decide +kernel
theorem dX4_readOrders_7 : decode cX4_readOrders 7 = .ok (.iconst 0, 1) := by decide +kernel
theorem dX4_readOrders_8 : decode cX4_readOrders 8 = .ok (.istore_n 2, 1) := by decide +kernel
theorem dX4_readOrders_9 : decode cX4_readOrders 9 = .ok (.iconst 0, 1) := by decide +kernel
theorem dX4_readOrders_10 : decode cX4_readOrders 10 = .ok (.istore_n 3, 1) := by decide +kernel
theorem dX4_readOrders_11 : decode cX4_readOrders 11 = .ok (.iconst 0, 1) := by decide +kernel
theorem dX4_readOrders_12 : decode cX4_readOrders 12 = .ok (.istore 4, 2) := by decide +kernel
theorem dX4_readOrders_14 : decode cX4_readOrders 14 = .ok (.iload 4, 2) := by decide +kernel
theorem dX4_readOrders_16 : decode cX4_readOrders 16 = .ok (.aload_n 0, 1) := by decide +kernel
theorem dX4_readOrders_17 : decode cX4_readOrders 17 = .ok (.getfield 15, 3) := by decide +kernel
theorem dX4_readOrders_20 : decode cX4_readOrders 20 = .ok (.if_icmp .ge 121, 3) := by decide +kernel
theorem dX4_readOrders_23 : decode cX4_readOrders 23 = .ok (.aload_n 0, 1) := by decide +kernel
theorem dX4_readOrders_24 : decode cX4_readOrders 24 = .ok (.getfield 9, 3) := by decide +kernel
theorem dX4_readOrders_27 : decode cX4_readOrders 27 = .ok (.iload 4, 2) := by decide +kernel
theorem dX4_readOrders_29 : decode cX4_readOrders 29 = .ok (.iaload, 1) := by decide +kernel
theorem dX4_readOrders_30 : decode cX4_readOrders 30 = .ok (.istore 5, 2) := by decide +kernel
theorem dX4_readOrders_32 : decode cX4_readOrders 32 = .ok (.iload_n 1, 1) := by decide +kernel
theorem dX4_readOrders_33 : decode cX4_readOrders 33 = .ok (.iconst (-1), 1) := by decide +kernel
theorem dX4_readOrders_34 : decode cX4_readOrders 34 = .ok (.if_icmp .ne 32, 3) := by decide +kernel
theorem dX4_readOrders_37 : decode cX4_readOrders 37 = .ok (.iload 5, 2) := by decide +kernel
theorem dX4_readOrders_39 : decode cX4_readOrders 39 = .ok (.invokestatic 28, 3) := by decide +kernel
theorem dX4_readOrders_42 : decode cX4_readOrders 42 = .ok (.ifCond .ne 14, 3) := by decide +kernel
theorem dX4_readOrders_45 : decode cX4_readOrders 45 = .ok (.iload 5, 2) := by decide +kernel
theorem dX4_readOrders_47 : decode cX4_readOrders 47 = .ok (.invokestatic 32, 3) := by decide +kernel
theorem dX4_readOrders_50 : decode cX4_readOrders 50 = .ok (.ifCond .ne 6, 3) := by decide +kernel
theorem dX4_readOrders_53 : decode cX4_readOrders 53 = .ok (.iload 4, 2) := by decide +kernel
theorem dX4_readOrders_55 : decode cX4_readOrders 55 = .ok (.ireturn, 1) := by decide +kernel
theorem dX4_readOrders_56 : decode cX4_readOrders 56 = .ok (.iload 5, 2) := by decide +kernel
theorem dX4_readOrders_58 : decode cX4_readOrders 58 = .ok (.istore_n 1, 1) := by decide +kernel
theorem dX4_readOrders_59 : decode cX4_readOrders 59 = .ok (.iconst 0, 1) := by decide +kernel
theorem dX4_readOrders_60 : decode cX4_readOrders 60 = .ok (.istore_n 2, 1) := by decide +kernel
theorem dX4_readOrders_61 : decode cX4_readOrders 61 = .ok (.iconst 0, 1) := by decide +kernel
theorem dX4_readOrders_62 : decode cX4_readOrders 62 = .ok (.istore_n 3, 1) := by decide +kernel
theorem dX4_readOrders_63 : decode cX4_readOrders 63 = .ok (.goto 72, 3) := by decide +kernel
theorem dX4_readOrders_66 : decode cX4_readOrders 66 = .ok (.iload_n 1, 1) := by decide +kernel
theorem dX4_readOrders_67 : decode cX4_readOrders 67 = .ok (.invokestatic 32, 3) := by decide +kernel
theorem dX4_readOrders_70 : decode cX4_readOrders 70 = .ok (.ifCond .eq 33, 3) := by decide +kernel
theorem dX4_readOrders_73 : decode cX4_readOrders 73 = .ok (.iload_n 3, 1) := by decide +kernel
theorem dX4_readOrders_74 : decode cX4_readOrders 74 = .ok (.iconst 2, 1) := by decide +kernel
theorem dX4_readOrders_75 : decode cX4_readOrders 75 = .ok (.if_icmp .ge 28, 3) := by decide +kernel
theorem dX4_readOrders_78 : decode cX4_readOrders 78 = .ok (.iload 5, 2) := by decide +kernel
theorem dX4_readOrders_80 : decode cX4_readOrders 80 = .ok (.invokestatic 35, 3) := by decide +kernel
theorem dX4_readOrders_83 : decode cX4_readOrders 83 = .ok (.ifCond .eq 20, 3) := by decide +kernel
theorem dX4_readOrders_86 : decode cX4_readOrders 86 = .ok (.bipush 10, 2) := by decide +kernel
theorem dX4_readOrders_88 : decode cX4_readOrders 88 = .ok (.iload_n 2, 1) := by decide +kernel
theorem dX4_readOrders_89 : decode cX4_readOrders 89 = .ok (.imul, 1) := by decide +kernel
theorem dX4_readOrders_90 : decode cX4_readOrders 90 = .ok (.iload 5, 2) := by decide +kernel
theorem dX4_readOrders_92 : decode cX4_readOrders 92 = .ok (.iadd, 1) := by decide +kernel
theorem dX4_readOrders_93 : decode cX4_readOrders 93 = .ok (.bipush 48, 2) := by decide +kernel
theorem dX4_readOrders_95 : decode cX4_readOrders 95 = .ok (.isub, 1) := by decide +kernel
theorem dX4_readOrders_96 : decode cX4_readOrders 96 = .ok (.istore_n 2, 1) := by decide +kernel
theorem dX4_readOrders_97 : decode cX4_readOrders 97 = .ok (.iinc 3 1, 3) := by decide +kernel
theorem dX4_readOrders_100 : decode cX4_readOrders 100 = .ok (.goto 35, 3) := by decide +kernel
theorem dX4_readOrders_103 : decode cX4_readOrders 103 = .ok (.iload 5, 2) := by decide +kernel
theorem dX4_readOrders_105 : decode cX4_readOrders 105 = .ok (.bipush 59, 2) := by decide +kernel
theorem dX4_readOrders_107 : decode cX4_readOrders 107 = .ok (.if_icmp .ne 25, 3) := by decide +kernel
theorem dX4_readOrders_110 : decode cX4_readOrders 110 = .ok (.iload_n 3, 1) := by decide +kernel
theorem dX4_readOrders_111 : decode cX4_readOrders 111 = .ok (.ifCond .gt 10, 3) := by decide +kernel
theorem dX4_readOrders_114 : decode cX4_readOrders 114 = .ok (.iload_n 1, 1) := by decide +kernel
theorem dX4_readOrders_115 : decode cX4_readOrders 115 = .ok (.invokestatic 28, 3) := by decide +kernel
theorem dX4_readOrders_118 : decode cX4_readOrders 118 = .ok (.ifCond .eq 14, 3) := by decide +kernel
theorem dX4_readOrders_121 : decode cX4_readOrders 121 = .ok (.aload_n 0, 1) := by decide +kernel
theorem dX4_readOrders_122 : decode cX4_readOrders 122 = .ok (.iload_n 1, 1) := by decide +kernel
theorem dX4_readOrders_123 : decode cX4_readOrders 123 = .ok (.iload_n 2, 1) := by decide +kernel
theorem dX4_readOrders_124 : decode cX4_readOrders 124 = .ok (.invokevirtual 38, 3) := by decide +kernel
theorem dX4_readOrders_127 : decode cX4_readOrders 127 = .ok (.iconst (-1), 1) := by decide +kernel
theorem dX4_readOrders_128 : decode cX4_readOrders 128 = .ok (.istore_n 1, 1) := by decide +kernel
theorem dX4_readOrders_129 : decode cX4_readOrders 129 = .ok (.goto 6, 3) := by decide +kernel
theorem dX4_readOrders_132 : decode cX4_readOrders 132 = .ok (.iload 4, 2) := by decide +kernel
theorem dX4_readOrders_134 : decode cX4_readOrders 134 = .ok (.ireturn, 1) := by decide +kernel
theorem dX4_readOrders_135 : decode cX4_readOrders 135 = .ok (.iinc 4 1, 3) := by decide +kernel
theorem dX4_readOrders_138 : decode cX4_readOrders 138 = .ok (.goto (-124), 3) := by decide +kernel
theorem dX4_readOrders_141 : decode cX4_readOrders 141 = .ok (.iload_n 1, 1) := by decide +kernel
theorem dX4_readOrders_142 : decode cX4_readOrders 142 = .ok (.iconst (-1), 1) := by decide +kernel
theorem dX4_readOrders_143 : decode cX4_readOrders 143 = .ok (.if_icmp .ne 7, 3) := by decide +kernel
theorem dX4_readOrders_146 : decode cX4_readOrders 146 = .ok (.iconst (-1), 1) := by decide +kernel
theorem dX4_readOrders_147 : decode cX4_readOrders 147 = .ok (.goto 7, 3) := by decide +kernel
theorem dX4_readOrders_150 : decode cX4_readOrders 150 = .ok (.aload_n 0, 1) := by decide +kernel
theorem dX4_readOrders_151 : decode cX4_readOrders 151 = .ok (.getfield 15, 3) := by decide +kernel
theorem dX4_readOrders_154 : decode cX4_readOrders 154 = .ok (.ireturn, 1) := by decide +kernel
theorem dX4_addOrder_0 : decode cX4_addOrder 0 = .ok (.aload_n 0, 1) := by decide +kernel
theorem dX4_addOrder_1 : decode cX4_addOrder 1 = .ok (.getfield 25, 3) := by decide +kernel
theorem dX4_addOrder_4 : decode cX4_addOrder 4 = .ok (.bipush 50, 2) := by decide +kernel
theorem dX4_addOrder_6 : decode cX4_addOrder 6 = .ok (.if_icmp .ge 33, 3) := by decide +kernel
theorem dX4_addOrder_9 : decode cX4_addOrder 9 = .ok (.aload_n 0, 1) := by decide +kernel
theorem dX4_addOrder_10 : decode cX4_addOrder 10 = .ok (.getfield 19, 3) := by decide +kernel
theorem dX4_addOrder_13 : decode cX4_addOrder 13 = .ok (.aload_n 0, 1) := by decide +kernel
theorem dX4_addOrder_14 : decode cX4_addOrder 14 = .ok (.getfield 25, 3) := by decide +kernel
theorem dX4_addOrder_17 : decode cX4_addOrder 17 = .ok (.iload_n 1, 1) := by decide +kernel
theorem dX4_addOrder_18 : decode cX4_addOrder 18 = .ok (.iastore, 1) := by decide +kernel
theorem dX4_addOrder_19 : decode cX4_addOrder 19 = .ok (.aload_n 0, 1) := by decide +kernel
theorem dX4_addOrder_20 : decode cX4_addOrder 20 = .ok (.getfield 22, 3) := by decide +kernel
theorem dX4_addOrder_23 : decode cX4_addOrder 23 = .ok (.aload_n 0, 1) := by decide +kernel
theorem dX4_addOrder_24 : decode cX4_addOrder 24 = .ok (.getfield 25, 3) := by decide +kernel
theorem dX4_addOrder_27 : decode cX4_addOrder 27 = .ok (.iload_n 2, 1) := by decide +kernel
theorem dX4_addOrder_28 : decode cX4_addOrder 28 = .ok (.iastore, 1) := by decide +kernel
theorem dX4_addOrder_29 : decode cX4_addOrder 29 = .ok (.aload_n 0, 1) := by decide +kernel
theorem dX4_addOrder_30 : decode cX4_addOrder 30 = .ok (.dup, 1) := by decide +kernel
theorem dX4_addOrder_31 : decode cX4_addOrder 31 = .ok (.getfield 25, 3) := by decide +kernel
theorem dX4_addOrder_34 : decode cX4_addOrder 34 = .ok (.iconst 1, 1) := by decide +kernel
theorem dX4_addOrder_35 : decode cX4_addOrder 35 = .ok (.iadd, 1) := by decide +kernel
theorem dX4_addOrder_36 : decode cX4_addOrder 36 = .ok (.putfield 25, 3) := by decide +kernel
theorem dX4_addOrder_39 : decode cX4_addOrder 39 = .ok (.return_, 1) := by decide +kernel
theorem dX4_isPlainLetter_0 : decode cX4_isPlainLetter 0 = .ok (.iload_n 0, 1) := by decide +kernel
theorem dX4_isPlainLetter_1 : decode cX4_isPlainLetter 1 = .ok (.bipush 110, 2) := by decide +kernel
theorem dX4_isPlainLetter_3 : decode cX4_isPlainLetter 3 = .ok (.if_icmp .eq 9, 3) := by decide +kernel
theorem dX4_isPlainLetter_6 : decode cX4_isPlainLetter 6 = .ok (.iload_n 0, 1) := by decide +kernel
theorem dX4_isPlainLetter_7 : decode cX4_isPlainLetter 7 = .ok (.bipush 115, 2) := by decide +kernel
theorem dX4_isPlainLetter_9 : decode cX4_isPlainLetter 9 = .ok (.if_icmp .ne 7, 3) := by decide +kernel
theorem dX4_isPlainLetter_12 : decode cX4_isPlainLetter 12 = .ok (.iconst 1, 1) := by decide +kernel
theorem dX4_isPlainLetter_13 : decode cX4_isPlainLetter 13 = .ok (.goto 4, 3) := by decide +kernel
theorem dX4_isPlainLetter_16 : decode cX4_isPlainLetter 16 = .ok (.iconst 0, 1) := by decide +kernel
theorem dX4_isPlainLetter_17 : decode cX4_isPlainLetter 17 = .ok (.ireturn, 1) := by decide +kernel
theorem dX4_isNumberedLetter_0 : decode cX4_isNumberedLetter 0 = .ok (.iload_n 0, 1) := by decide +kernel
theorem dX4_isNumberedLetter_1 : decode cX4_isNumberedLetter 1 = .ok (.bipush 100, 2) := by decide +kernel
theorem dX4_isNumberedLetter_3 : decode cX4_isNumberedLetter 3 = .ok (.if_icmp .eq 27, 3) := by decide +kernel
theorem dX4_isNumberedLetter_6 : decode cX4_isNumberedLetter 6 = .ok (.iload_n 0, 1) := by decide +kernel
theorem dX4_isNumberedLetter_7 : decode cX4_isNumberedLetter 7 = .ok (.bipush 108, 2) := by decide +kernel
theorem dX4_isNumberedLetter_9 : decode cX4_isNumberedLetter 9 = .ok (.if_icmp .eq 21, 3) := by decide +kernel
theorem dX4_isNumberedLetter_12 : decode cX4_isNumberedLetter 12 = .ok (.iload_n 0, 1) := by decide +kernel
theorem dX4_isNumberedLetter_13 : decode cX4_isNumberedLetter 13 = .ok (.bipush 99, 2) := by decide +kernel
theorem dX4_isNumberedLetter_15 : decode cX4_isNumberedLetter 15 = .ok (.if_icmp .eq 15, 3) := by decide +kernel
theorem dX4_isNumberedLetter_18 : decode cX4_isNumberedLetter 18 = .ok (.iload_n 0, 1) := by decide +kernel
theorem dX4_isNumberedLetter_19 : decode cX4_isNumberedLetter 19 = .ok (.bipush 97, 2) := by decide +kernel
theorem dX4_isNumberedLetter_21 : decode cX4_isNumberedLetter 21 = .ok (.if_icmp .eq 9, 3) := by decide +kernel
theorem dX4_isNumberedLetter_24 : decode cX4_isNumberedLetter 24 = .ok (.iload_n 0, 1) := by decide +kernel
theorem dX4_isNumberedLetter_25 : decode cX4_isNumberedLetter 25 = .ok (.bipush 120, 2) := by decide +kernel
theorem dX4_isNumberedLetter_27 : decode cX4_isNumberedLetter 27 = .ok (.if_icmp .ne 7, 3) := by decide +kernel
theorem dX4_isNumberedLetter_30 : decode cX4_isNumberedLetter 30 = .ok (.iconst 1, 1) := by decide +kernel
theorem dX4_isNumberedLetter_31 : decode cX4_isNumberedLetter 31 = .ok (.goto 4, 3) := by decide +kernel
theorem dX4_isNumberedLetter_34 : decode cX4_isNumberedLetter 34 = .ok (.iconst 0, 1) := by decide +kernel
theorem dX4_isNumberedLetter_35 : decode cX4_isNumberedLetter 35 = .ok (.ireturn, 1) := by decide +kernel
theorem dX4_isDigit_0 : decode cX4_isDigit 0 = .ok (.iload_n 0, 1) := by decide +kernel
theorem dX4_isDigit_1 : decode cX4_isDigit 1 = .ok (.bipush 48, 2) := by decide +kernel
theorem dX4_isDigit_3 : decode cX4_isDigit 3 = .ok (.bipush 57, 2) := by decide +kernel
theorem dX4_isDigit_5 : decode cX4_isDigit 5 = .ok (.invokestatic 42, 3) := by decide +kernel
theorem dX4_isDigit_8 : decode cX4_isDigit 8 = .ok (.ireturn, 1) := by decide +kernel
theorem dX5_init_0 : decode cX5_init 0 = .ok (.aload_n 0, 1) := by decide +kernel
theorem dX5_init_1 : decode cX5_init 1 = .ok (.invokespecial 3, 3) := by decide +kernel
theorem dX5_init_4 : decode cX5_init 4 = .ok (.aload_n 0, 1) := by decide +kernel
theorem dX5_init_5 : decode cX5_init 5 = .ok (.bipush 6, 2) := by decide +kernel
theorem dX5_init_7 : decode cX5_init 7 = .ok (.newarray .int, 2) := by decide +kernel
theorem dX5_init_9 : decode cX5_init 9 = .ok (.putfield 9, 3) := by decide +kernel
theorem dX5_init_12 : decode cX5_init 12 = .ok (.aload_n 0, 1) := by decide +kernel
theorem dX5_init_13 : decode cX5_init 13 = .ok (.iconst 0, 1) := by decide +kernel
theorem dX5_init_14 : decode cX5_init 14 = .ok (.putfield 15, 3) := by decide +kernel
theorem dX5_init_17 : decode cX5_init 17 = .ok (.aload_n 0, 1) := by decide +kernel
theorem dX5_init_18 : decode cX5_init 18 = .ok (.iconst 0, 1) := by decide +kernel
theorem dX5_init_19 : decode cX5_init 19 = .ok (.putfield 19, 3) := by decide +kernel
theorem dX5_init_22 : decode cX5_init 22 = .ok (.aload_n 0, 1) := by decide +kernel
theorem dX5_init_23 : decode cX5_init 23 = .ok (.iconst 0, 1) := by decide +kernel
theorem dX5_init_24 : decode cX5_init 24 = .ok (.putfield 22, 3) := by decide +kernel
theorem dX5_init_27 : decode cX5_init 27 = .ok (.aload_n 0, 1) := by decide +kernel
theorem dX5_init_28 : decode cX5_init 28 = .ok (.iconst 0, 1) := by decide +kernel
theorem dX5_init_29 : decode cX5_init 29 = .ok (.putfield 26, 3) := by decide +kernel
theorem dX5_init_32 : decode cX5_init 32 = .ok (.aload_n 0, 1) := by decide +kernel
theorem dX5_init_33 : decode cX5_init 33 = .ok (.iconst 0, 1) := by decide +kernel
theorem dX5_init_34 : decode cX5_init 34 = .ok (.putfield 29, 3) := by decide +kernel
theorem dX5_init_37 : decode cX5_init 37 = .ok (.aload_n 0, 1) := by decide +kernel
theorem dX5_init_38 : decode cX5_init 38 = .ok (.iconst 0, 1) := by decide +kernel
theorem dX5_init_39 : decode cX5_init 39 = .ok (.putfield 32, 3) := by decide +kernel
theorem dX5_init_42 : decode cX5_init 42 = .ok (.aload_n 0, 1) := by decide +kernel
theorem dX5_init_43 : decode cX5_init 43 = .ok (.sipush 500, 3) := by decide +kernel
theorem dX5_init_46 : decode cX5_init 46 = .ok (.newarray .int, 2) := by decide +kernel
theorem dX5_init_48 : decode cX5_init 48 = .ok (.putfield 35, 3) := by decide +kernel
theorem dX5_init_51 : decode cX5_init 51 = .ok (.aload_n 0, 1) := by decide +kernel
theorem dX5_init_52 : decode cX5_init 52 = .ok (.bipush 6, 2) := by decide +kernel
theorem dX5_init_54 : decode cX5_init 54 = .ok (.newarray .int, 2) := by decide +kernel
theorem dX5_init_56 : decode cX5_init 56 = .ok (.putfield 38, 3) := by decide +kernel
theorem dX5_init_59 : decode cX5_init 59 = .ok (.aload_n 0, 1) := by decide +kernel
theorem dX5_init_60 : decode cX5_init 60 = .ok (.iconst 4, 1) := by decide +kernel
theorem dX5_init_61 : decode cX5_init 61 = .ok (.newarray .int, 2) := by decide +kernel
theorem dX5_init_63 : decode cX5_init 63 = .ok (.putfield 41, 3) := by decide +kernel
theorem dX5_init_66 : decode cX5_init 66 = .ok (.aload_n 0, 1) := by decide +kernel
theorem dX5_init_67 : decode cX5_init 67 = .ok (.aload_n 1, 1) := by decide +kernel
theorem dX5_init_68 : decode cX5_init 68 = .ok (.putfield 44, 3) := by decide +kernel
theorem dX5_init_71 : decode cX5_init 71 = .ok (.aload_n 0, 1) := by decide +kernel
theorem dX5_init_72 : decode cX5_init 72 = .ok (.getfield 9, 3) := by decide +kernel
theorem dX5_init_75 : decode cX5_init 75 = .ok (.iconst 4, 1) := by decide +kernel
theorem dX5_init_76 : decode cX5_init 76 = .ok (.iconst 1, 1) := by decide +kernel
theorem dX5_init_77 : decode cX5_init 77 = .ok (.iastore, 1) := by decide +kernel
theorem dX5_init_78 : decode cX5_init 78 = .ok (.aload_n 0, 1) := by decide +kernel
theorem dX5_init_79 : decode cX5_init 79 = .ok (.getfield 9, 3) := by decide +kernel
theorem dX5_init_82 : decode cX5_init 82 = .ok (.iconst 5, 1) := by decide +kernel
theorem dX5_init_83 : decode cX5_init 83 = .ok (.sipush 160, 3) := by decide +kernel
theorem dX5_init_86 : decode cX5_init 86 = .ok (.iastore, 1) := by decide +kernel
theorem dX5_init_87 : decode cX5_init 87 = .ok (.return_, 1) := by decide +kernel
theorem dX5_copyFrom_0 : decode cX5_copyFrom 0 = .ok (.aload_n 1, 1) := by decide +kernel
theorem dX5_copyFrom_1 : decode cX5_copyFrom 1 = .ok (.getfield 9, 3) := by decide +kernel
theorem dX5_copyFrom_4 : decode cX5_copyFrom 4 = .ok (.aload_n 0, 1) := by decide +kernel
theorem dX5_copyFrom_5 : decode cX5_copyFrom 5 = .ok (.getfield 9, 3) := by decide +kernel
theorem dX5_copyFrom_8 : decode cX5_copyFrom 8 = .ok (.invokestatic 48, 3) := by decide +kernel
theorem dX5_copyFrom_11 : decode cX5_copyFrom 11 = .ok (.aload_n 0, 1) := by decide +kernel
theorem dX5_copyFrom_12 : decode cX5_copyFrom 12 = .ok (.aload_n 1, 1) := by decide +kernel
theorem dX5_copyFrom_13 : decode cX5_copyFrom 13 = .ok (.getfield 15, 3) := by decide +kernel
theorem dX5_copyFrom_16 : decode cX5_copyFrom 16 = .ok (.putfield 15, 3) := by decide +kernel
theorem dX5_copyFrom_19 : decode cX5_copyFrom 19 = .ok (.aload_n 0, 1) := by decide +kernel
theorem dX5_copyFrom_20 : decode cX5_copyFrom 20 = .ok (.aload_n 1, 1) := by decide +kernel
theorem dX5_copyFrom_21 : decode cX5_copyFrom 21 = .ok (.getfield 19, 3) := by decide +kernel
theorem dX5_copyFrom_24 : decode cX5_copyFrom 24 = .ok (.putfield 19, 3) := by decide +kernel
theorem dX5_copyFrom_27 : decode cX5_copyFrom 27 = .ok (.aload_n 0, 1) := by decide +kernel
theorem dX5_copyFrom_28 : decode cX5_copyFrom 28 = .ok (.aload_n 1, 1) := by decide +kernel
theorem dX5_copyFrom_29 : decode cX5_copyFrom 29 = .ok (.getfield 22, 3) := by decide +kernel
theorem dX5_copyFrom_32 : decode cX5_copyFrom 32 = .ok (.putfield 22, 3) := by decide +kernel
theorem dX5_copyFrom_35 : decode cX5_copyFrom 35 = .ok (.aload_n 0, 1) := by decide +kernel
theorem dX5_copyFrom_36 : decode cX5_copyFrom 36 = .ok (.aload_n 1, 1) := by decide +kernel
theorem dX5_copyFrom_37 : decode cX5_copyFrom 37 = .ok (.getfield 26, 3) := by decide +kernel
theorem dX5_copyFrom_40 : decode cX5_copyFrom 40 = .ok (.putfield 26, 3) := by decide +kernel
theorem dX5_copyFrom_43 : decode cX5_copyFrom 43 = .ok (.aload_n 0, 1) := by decide +kernel
theorem dX5_copyFrom_44 : decode cX5_copyFrom 44 = .ok (.aload_n 1, 1) := by decide +kernel
theorem dX5_copyFrom_45 : decode cX5_copyFrom 45 = .ok (.getfield 29, 3) := by decide +kernel
theorem dX5_copyFrom_48 : decode cX5_copyFrom 48 = .ok (.putfield 29, 3) := by decide +kernel
theorem dX5_copyFrom_51 : decode cX5_copyFrom 51 = .ok (.aload_n 0, 1) := by decide +kernel
theorem dX5_copyFrom_52 : decode cX5_copyFrom 52 = .ok (.aload_n 1, 1) := by decide +kernel
theorem dX5_copyFrom_53 : decode cX5_copyFrom 53 = .ok (.getfield 32, 3) := by decide +kernel
theorem dX5_copyFrom_56 : decode cX5_copyFrom 56 = .ok (.putfield 32, 3) := by decide +kernel
theorem dX5_copyFrom_59 : decode cX5_copyFrom 59 = .ok (.aload_n 1, 1) := by decide +kernel
theorem dX5_copyFrom_60 : decode cX5_copyFrom 60 = .ok (.getfield 35, 3) := by decide +kernel
theorem dX5_copyFrom_63 : decode cX5_copyFrom 63 = .ok (.iconst 0, 1) := by decide +kernel
theorem dX5_copyFrom_64 : decode cX5_copyFrom 64 = .ok (.aload_n 0, 1) := by decide +kernel
theorem dX5_copyFrom_65 : decode cX5_copyFrom 65 = .ok (.getfield 35, 3) := by decide +kernel
theorem dX5_copyFrom_68 : decode cX5_copyFrom 68 = .ok (.iconst 0, 1) := by decide +kernel
theorem dX5_copyFrom_69 : decode cX5_copyFrom 69 = .ok (.aload_n 0, 1) := by decide +kernel
theorem dX5_copyFrom_70 : decode cX5_copyFrom 70 = .ok (.getfield 26, 3) := by decide +kernel
theorem dX5_copyFrom_73 : decode cX5_copyFrom 73 = .ok (.invokestatic 54, 3) := by decide +kernel
theorem dX5_copyFrom_76 : decode cX5_copyFrom 76 = .ok (.return_, 1) := by decide +kernel
theorem dX5_step_0 : decode cX5_step 0 = .ok (.aload_n 0, 1) := by decide +kernel
theorem dX5_step_1 : decode cX5_step 1 = .ok (.getfield 9, 3) := by decide +kernel
theorem dX5_step_4 : decode cX5_step 4 = .ok (.iconst 1, 1) := by decide +kernel
theorem dX5_step_5 : decode cX5_step 5 = .ok (.aload_n 0, 1) := by decide +kernel
theorem dX5_step_6 : decode cX5_step 6 = .ok (.getfield 9, 3) := by decide +kernel
theorem dX5_step_9 : decode cX5_step 9 = .ok (.iconst 1, 1) := by decide +kernel
theorem dX5_step_10 : decode cX5_step 10 = .ok (.iaload, 1) := by decide +kernel
theorem dX5_step_11 : decode cX5_step 11 = .ok (.aload_n 0, 1) := by decide +kernel
theorem dX5_step_12 : decode cX5_step 12 = .ok (.getfield 9, 3) := by decide +kernel
theorem dX5_step_15 : decode cX5_step 15 = .ok (.iconst 4, 1) := by decide +kernel
theorem dX5_step_16 : decode cX5_step 16 = .ok (.iaload, 1) := by decide +kernel
theorem dX5_step_17 : decode cX5_step 17 = .ok (.iadd, 1) := by decide +kernel
theorem dX5_step_18 : decode cX5_step 18 = .ok (.invokestatic 60, 3) := by decide +kernel
theorem dX5_step_21 : decode cX5_step 21 = .ok (.iastore, 1) := by decide +kernel
theorem dX5_step_22 : decode cX5_step 22 = .ok (.aload_n 0, 1) := by decide +kernel
theorem dX5_step_23 : decode cX5_step 23 = .ok (.getfield 9, 3) := by decide +kernel
theorem dX5_step_26 : decode cX5_step 26 = .ok (.iconst 2, 1) := by decide +kernel
theorem dX5_step_27 : decode cX5_step 27 = .ok (.aload_n 0, 1) := by decide +kernel
theorem dX5_step_28 : decode cX5_step 28 = .ok (.getfield 9, 3) := by decide +kernel
theorem dX5_step_31 : decode cX5_step 31 = .ok (.iconst 2, 1) := by decide +kernel
theorem dX5_step_32 : decode cX5_step 32 = .ok (.iaload, 1) := by decide +kernel
theorem dX5_step_33 : decode cX5_step 33 = .ok (.aload_n 0, 1) := by decide +kernel
theorem dX5_step_34 : decode cX5_step 34 = .ok (.getfield 9, 3) := by decide +kernel
theorem dX5_step_37 : decode cX5_step 37 = .ok (.iconst 5, 1) := by decide +kernel
theorem dX5_step_38 : decode cX5_step 38 = .ok (.iaload, 1) := by decide +kernel
theorem dX5_step_39 : decode cX5_step 39 = .ok (.iadd, 1) := by decide +kernel
theorem dX5_step_40 : decode cX5_step 40 = .ok (.invokestatic 60, 3) := by decide +kernel
theorem dX5_step_43 : decode cX5_step 43 = .ok (.iastore, 1) := by decide +kernel
theorem dX5_step_44 : decode cX5_step 44 = .ok (.return_, 1) := by decide +kernel
theorem dX5_trustedReference_0 : decode cX5_trustedReference 0 = .ok (.iconst 0, 1) := by decide +kernel
theorem dX5_trustedReference_1 : decode cX5_trustedReference 1 = .ok (.aload_n 0, 1) := by decide +kernel
theorem dX5_trustedReference_2 : decode cX5_trustedReference 2 = .ok (.getfield 26, 3) := by decide +kernel
theorem dX5_trustedReference_5 : decode cX5_trustedReference 5 = .ok (.bipush 15, 2) := by decide +kernel
theorem dX5_trustedReference_7 : decode cX5_trustedReference 7 = .ok (.isub, 1) := by decide +kernel
theorem dX5_trustedReference_8 : decode cX5_trustedReference 8 = .ok (.invokestatic 64, 3) := by decide +kernel
theorem dX5_trustedReference_11 : decode cX5_trustedReference 11 = .ok (.istore_n 2, 1) := by decide +kernel
theorem dX5_trustedReference_12 : decode cX5_trustedReference 12 = .ok (.aload_n 0, 1) := by decide +kernel
theorem dX5_trustedReference_13 : decode cX5_trustedReference 13 = .ok (.getfield 26, 3) := by decide +kernel
theorem dX5_trustedReference_16 : decode cX5_trustedReference 16 = .ok (.iconst 1, 1) := by decide +kernel
theorem dX5_trustedReference_17 : decode cX5_trustedReference 17 = .ok (.isub, 1) := by decide +kernel
theorem dX5_trustedReference_18 : decode cX5_trustedReference 18 = .ok (.istore_n 3, 1) := by decide +kernel
theorem dX5_trustedReference_19 : decode cX5_trustedReference 19 = .ok (.iload_n 3, 1) := by decide +kernel
theorem dX5_trustedReference_20 : decode cX5_trustedReference 20 = .ok (.iload_n 2, 1) := by decide +kernel
theorem dX5_trustedReference_21 : decode cX5_trustedReference 21 = .ok (.if_icmp .lt 47, 3) := by decide +kernel
theorem dX5_trustedReference_24 : decode cX5_trustedReference 24 = .ok (.iload_n 1, 1) := by decide +kernel
theorem dX5_trustedReference_25 : decode cX5_trustedReference 25 = .ok (.ifCond .le 17, 3) := by decide +kernel
theorem dX5_trustedReference_28 : decode cX5_trustedReference 28 = .ok (.aload_n 0, 1) := by decide +kernel
theorem dX5_trustedReference_29 : decode cX5_trustedReference 29 = .ok (.getfield 26, 3) := by decide +kernel
theorem dX5_trustedReference_32 : decode cX5_trustedReference 32 = .ok (.iload_n 3, 1) := by decide +kernel
theorem dX5_trustedReference_33 : decode cX5_trustedReference 33 = .ok (.isub, 1) := by decide +kernel
theorem dX5_trustedReference_34 : decode cX5_trustedReference 34 = .ok (.iload_n 1, 1) := by decide +kernel
theorem dX5_trustedReference_35 : decode cX5_trustedReference 35 = .ok (.if_icmp .lt 7, 3) := by decide +kernel
theorem dX5_trustedReference_38 : decode cX5_trustedReference 38 = .ok (.iconst 1, 1) := by decide +kernel
theorem dX5_trustedReference_39 : decode cX5_trustedReference 39 = .ok (.goto 4, 3) := by decide +kernel
theorem dX5_trustedReference_42 : decode cX5_trustedReference 42 = .ok (.iconst 0, 1) := by decide +kernel
theorem dX5_trustedReference_43 : decode cX5_trustedReference 43 = .ok (.istore 4, 2) := by decide +kernel
theorem dX5_trustedReference_45 : decode cX5_trustedReference 45 = .ok (.iload 4, 2) := by decide +kernel
theorem dX5_trustedReference_47 : decode cX5_trustedReference 47 = .ok (.ifCond .ne 13, 3) := by decide +kernel
theorem dX5_trustedReference_50 : decode cX5_trustedReference 50 = .ok (.aload_n 0, 1) := by decide +kernel
theorem dX5_trustedReference_51 : decode cX5_trustedReference 51 = .ok (.getfield 35, 3) := by decide +kernel
theorem dX5_trustedReference_54 : decode cX5_trustedReference 54 = .ok (.iload_n 3, 1) := by decide +kernel
theorem dX5_trustedReference_55 : decode cX5_trustedReference 55 = .ok (.iaload, 1) := by decide +kernel
theorem dX5_trustedReference_56 : decode cX5_trustedReference 56 = .ok (.iconst 1, 1) := by decide +kernel
theorem dX5_trustedReference_57 : decode cX5_trustedReference 57 = .ok (.if_icmp .ne 5, 3) := by decide +kernel
theorem dX5_trustedReference_60 : decode cX5_trustedReference 60 = .ok (.iload_n 3, 1) := by decide +kernel
theorem dX5_trustedReference_61 : decode cX5_trustedReference 61 = .ok (.ireturn, 1) := by decide +kernel
theorem dX5_trustedReference_62 : decode cX5_trustedReference 62 = .ok (.iinc 3 (-1), 3) := by decide +kernel
theorem dX5_trustedReference_65 : decode cX5_trustedReference 65 = .ok (.goto (-46), 3) := by decide +kernel
theorem dX5_trustedReference_68 : decode cX5_trustedReference 68 = .ok (.iconst (-1), 1) := by decide +kernel
theorem dX5_trustedReference_69 : decode cX5_trustedReference 69 = .ok (.ireturn, 1) := by decide +kernel
theorem dX5_usedReference_0 : decode cX5_usedReference 0 = .ok (.iload_n 1, 1) := by decide +kernel
theorem dX5_usedReference_1 : decode cX5_usedReference 1 = .ok (.ifCond .eq 10, 3) := by decide +kernel
theorem dX5_usedReference_4 : decode cX5_usedReference 4 = .ok (.aload_n 0, 1) := by decide +kernel
theorem dX5_usedReference_5 : decode cX5_usedReference 5 = .ok (.getfield 22, 3) := by decide +kernel
theorem dX5_usedReference_8 : decode cX5_usedReference 8 = .ok (.ifCond .eq 5, 3) := by decide +kernel
theorem dX5_usedReference_11 : decode cX5_usedReference 11 = .ok (.iconst (-1), 1) := by decide +kernel
theorem dX5_usedReference_12 : decode cX5_usedReference 12 = .ok (.ireturn, 1) := by decide +kernel
theorem dX5_usedReference_13 : decode cX5_usedReference 13 = .ok (.aload_n 0, 1) := by decide +kernel
theorem dX5_usedReference_14 : decode cX5_usedReference 14 = .ok (.iload_n 2, 1) := by decide +kernel
theorem dX5_usedReference_15 : decode cX5_usedReference 15 = .ok (.invokevirtual 70, 3) := by decide +kernel
theorem dX5_usedReference_18 : decode cX5_usedReference 18 = .ok (.ireturn, 1) := by decide +kernel
theorem dX5_sizeFrom_0 : decode cX5_sizeFrom 0 = .ok (.iload_n 1, 1) := by decide +kernel
theorem dX5_sizeFrom_1 : decode cX5_sizeFrom 1 = .ok (.iconst (-1), 1) := by decide +kernel
theorem dX5_sizeFrom_2 : decode cX5_sizeFrom 2 = .ok (.if_icmp .ne 6, 3) := by decide +kernel
theorem dX5_sizeFrom_5 : decode cX5_sizeFrom 5 = .ok (.bipush 12, 2) := by decide +kernel
theorem dX5_sizeFrom_7 : decode cX5_sizeFrom 7 = .ok (.ireturn, 1) := by decide +kernel
theorem dX5_sizeFrom_8 : decode cX5_sizeFrom 8 = .ok (.aload_n 0, 1) := by decide +kernel
theorem dX5_sizeFrom_9 : decode cX5_sizeFrom 9 = .ok (.getfield 38, 3) := by decide +kernel
theorem dX5_sizeFrom_12 : decode cX5_sizeFrom 12 = .ok (.aload_n 0, 1) := by decide +kernel
theorem dX5_sizeFrom_13 : decode cX5_sizeFrom 13 = .ok (.getfield 44, 3) := by decide +kernel
theorem dX5_sizeFrom_16 : decode cX5_sizeFrom 16 = .ok (.getfield 73, 3) := by decide +kernel
theorem dX5_sizeFrom_19 : decode cX5_sizeFrom 19 = .ok (.iload_n 1, 1) := by decide +kernel
theorem dX5_sizeFrom_20 : decode cX5_sizeFrom 20 = .ok (.aaload, 1) := by decide +kernel
theorem dX5_sizeFrom_21 : decode cX5_sizeFrom 21 = .ok (.iload_n 2, 1) := by decide +kernel
theorem dX5_sizeFrom_22 : decode cX5_sizeFrom 22 = .ok (.aload_n 0, 1) := by decide +kernel
theorem dX5_sizeFrom_23 : decode cX5_sizeFrom 23 = .ok (.getfield 26, 3) := by decide +kernel
theorem dX5_sizeFrom_26 : decode cX5_sizeFrom 26 = .ok (.iload_n 1, 1) := by decide +kernel
theorem dX5_sizeFrom_27 : decode cX5_sizeFrom 27 = .ok (.isub, 1) := by decide +kernel
theorem dX5_sizeFrom_28 : decode cX5_sizeFrom 28 = .ok (.invokestatic 79, 3) := by decide +kernel
theorem dX5_sizeFrom_31 : decode cX5_sizeFrom 31 = .ok (.aload_n 0, 1) := by decide +kernel
theorem dX5_sizeFrom_32 : decode cX5_sizeFrom 32 = .ok (.getfield 41, 3) := by decide +kernel
theorem dX5_sizeFrom_35 : decode cX5_sizeFrom 35 = .ok (.aload_n 0, 1) := by decide +kernel
theorem dX5_sizeFrom_36 : decode cX5_sizeFrom 36 = .ok (.getfield 9, 3) := by decide +kernel
theorem dX5_sizeFrom_39 : decode cX5_sizeFrom 39 = .ok (.aload_n 0, 1) := by decide +kernel
theorem dX5_sizeFrom_40 : decode cX5_sizeFrom 40 = .ok (.getfield 38, 3) := by decide +kernel
theorem dX5_sizeFrom_43 : decode cX5_sizeFrom 43 = .ok (.invokestatic 83, 3) := by decide +kernel
theorem dX5_sizeFrom_46 : decode cX5_sizeFrom 46 = .ok (.aload_n 0, 1) := by decide +kernel
theorem dX5_sizeFrom_47 : decode cX5_sizeFrom 47 = .ok (.getfield 41, 3) := by decide +kernel
theorem dX5_sizeFrom_50 : decode cX5_sizeFrom 50 = .ok (.invokestatic 87, 3) := by decide +kernel
theorem dX5_sizeFrom_53 : decode cX5_sizeFrom 53 = .ok (.ireturn, 1) := by decide +kernel
theorem dX5_sendPresent_0 : decode cX5_sendPresent 0 = .ok (.aload_n 0, 1) := by decide +kernel
theorem dX5_sendPresent_1 : decode cX5_sendPresent 1 = .ok (.getfield 26, 3) := by decide +kernel
theorem dX5_sendPresent_4 : decode cX5_sendPresent 4 = .ok (.istore_n 1, 1) := by decide +kernel
theorem dX5_sendPresent_5 : decode cX5_sendPresent 5 = .ok (.aload_n 0, 1) := by decide +kernel
theorem dX5_sendPresent_6 : decode cX5_sendPresent 6 = .ok (.aload_n 0, 1) := by decide +kernel
theorem dX5_sendPresent_7 : decode cX5_sendPresent 7 = .ok (.getfield 15, 3) := by decide +kernel
theorem dX5_sendPresent_10 : decode cX5_sendPresent 10 = .ok (.aload_n 0, 1) := by decide +kernel
theorem dX5_sendPresent_11 : decode cX5_sendPresent 11 = .ok (.getfield 19, 3) := by decide +kernel
theorem dX5_sendPresent_14 : decode cX5_sendPresent 14 = .ok (.invokevirtual 91, 3) := by decide +kernel
theorem dX5_sendPresent_17 : decode cX5_sendPresent 17 = .ok (.istore_n 2, 1) := by decide +kernel
theorem dX5_sendPresent_18 : decode cX5_sendPresent 18 = .ok (.aload_n 0, 1) := by decide +kernel
theorem dX5_sendPresent_19 : decode cX5_sendPresent 19 = .ok (.iload_n 2, 1) := by decide +kernel
theorem dX5_sendPresent_20 : decode cX5_sendPresent 20 = .ok (.aload_n 0, 1) := by decide +kernel
theorem dX5_sendPresent_21 : decode cX5_sendPresent 21 = .ok (.getfield 15, 3) := by decide +kernel
theorem dX5_sendPresent_24 : decode cX5_sendPresent 24 = .ok (.invokevirtual 94, 3) := by decide +kernel
theorem dX5_sendPresent_27 : decode cX5_sendPresent 27 = .ok (.istore_n 3, 1) := by decide +kernel
theorem dX5_sendPresent_28 : decode cX5_sendPresent 28 = .ok (.aload_n 0, 1) := by decide +kernel
theorem dX5_sendPresent_29 : decode cX5_sendPresent 29 = .ok (.getfield 9, 3) := by decide +kernel
theorem dX5_sendPresent_32 : decode cX5_sendPresent 32 = .ok (.aload_n 0, 1) := by decide +kernel
theorem dX5_sendPresent_33 : decode cX5_sendPresent 33 = .ok (.getfield 44, 3) := by decide +kernel
theorem dX5_sendPresent_36 : decode cX5_sendPresent 36 = .ok (.getfield 73, 3) := by decide +kernel
theorem dX5_sendPresent_39 : decode cX5_sendPresent 39 = .ok (.iload_n 1, 1) := by decide +kernel
theorem dX5_sendPresent_40 : decode cX5_sendPresent 40 = .ok (.aaload, 1) := by decide +kernel
theorem dX5_sendPresent_41 : decode cX5_sendPresent 41 = .ok (.invokestatic 48, 3) := by decide +kernel
theorem dX5_sendPresent_44 : decode cX5_sendPresent 44 = .ok (.iload_n 2, 1) := by decide +kernel
theorem dX5_sendPresent_45 : decode cX5_sendPresent 45 = .ok (.iconst (-1), 1) := by decide +kernel
theorem dX5_sendPresent_46 : decode cX5_sendPresent 46 = .ok (.if_icmp .ne 16, 3) := by decide +kernel
theorem dX5_sendPresent_49 : decode cX5_sendPresent 49 = .ok (.aload_n 0, 1) := by decide +kernel
theorem dX5_sendPresent_50 : decode cX5_sendPresent 50 = .ok (.dup, 1) := by decide +kernel
theorem dX5_sendPresent_51 : decode cX5_sendPresent 51 = .ok (.getfield 29, 3) := by decide +kernel
theorem dX5_sendPresent_54 : decode cX5_sendPresent 54 = .ok (.iconst 1, 1) := by decide +kernel
theorem dX5_sendPresent_55 : decode cX5_sendPresent 55 = .ok (.iadd, 1) := by decide +kernel
theorem dX5_sendPresent_56 : decode cX5_sendPresent 56 = .ok (.putfield 29, 3) := by decide +kernel
theorem dX5_sendPresent_59 : decode cX5_sendPresent 59 = .ok (.goto 56, 3) := by decide +kernel
theorem dX5_sendPresent_62 : decode cX5_sendPresent 62 = .ok (.aload_n 0, 1) := by decide +kernel
theorem dX5_sendPresent_63 : decode cX5_sendPresent 63 = .ok (.getfield 44, 3) := by decide +kernel
theorem dX5_sendPresent_66 : decode cX5_sendPresent 66 = .ok (.getfield 73, 3) := by decide +kernel
theorem dX5_sendPresent_69 : decode cX5_sendPresent 69 = .ok (.iload_n 1, 1) := by decide +kernel
theorem dX5_sendPresent_70 : decode cX5_sendPresent 70 = .ok (.aaload, 1) := by decide +kernel
theorem dX5_sendPresent_71 : decode cX5_sendPresent 71 = .ok (.iconst 4, 1) := by decide +kernel
theorem dX5_sendPresent_72 : decode cX5_sendPresent 72 = .ok (.aload_n 0, 1) := by decide +kernel
theorem dX5_sendPresent_73 : decode cX5_sendPresent 73 = .ok (.getfield 38, 3) := by decide +kernel
theorem dX5_sendPresent_76 : decode cX5_sendPresent 76 = .ok (.iconst 4, 1) := by decide +kernel
theorem dX5_sendPresent_77 : decode cX5_sendPresent 77 = .ok (.iaload, 1) := by decide +kernel
theorem dX5_sendPresent_78 : decode cX5_sendPresent 78 = .ok (.iastore, 1) := by decide +kernel
theorem dX5_sendPresent_79 : decode cX5_sendPresent 79 = .ok (.aload_n 0, 1) := by decide +kernel
theorem dX5_sendPresent_80 : decode cX5_sendPresent 80 = .ok (.getfield 44, 3) := by decide +kernel
theorem dX5_sendPresent_83 : decode cX5_sendPresent 83 = .ok (.getfield 73, 3) := by decide +kernel
theorem dX5_sendPresent_86 : decode cX5_sendPresent 86 = .ok (.iload_n 1, 1) := by decide +kernel
theorem dX5_sendPresent_87 : decode cX5_sendPresent 87 = .ok (.aaload, 1) := by decide +kernel
theorem dX5_sendPresent_88 : decode cX5_sendPresent 88 = .ok (.iconst 5, 1) := by decide +kernel
theorem dX5_sendPresent_89 : decode cX5_sendPresent 89 = .ok (.aload_n 0, 1) := by decide +kernel
theorem dX5_sendPresent_90 : decode cX5_sendPresent 90 = .ok (.getfield 38, 3) := by decide +kernel
theorem dX5_sendPresent_93 : decode cX5_sendPresent 93 = .ok (.iconst 5, 1) := by decide +kernel
theorem dX5_sendPresent_94 : decode cX5_sendPresent 94 = .ok (.iaload, 1) := by decide +kernel
theorem dX5_sendPresent_95 : decode cX5_sendPresent 95 = .ok (.iastore, 1) := by decide +kernel
theorem dX5_sendPresent_96 : decode cX5_sendPresent 96 = .ok (.aload_n 0, 1) := by decide +kernel
theorem dX5_sendPresent_97 : decode cX5_sendPresent 97 = .ok (.getfield 41, 3) := by decide +kernel
theorem dX5_sendPresent_100 : decode cX5_sendPresent 100 = .ok (.iconst 0, 1) := by decide +kernel
theorem dX5_sendPresent_101 : decode cX5_sendPresent 101 = .ok (.aload_n 0, 1) := by decide +kernel
theorem dX5_sendPresent_102 : decode cX5_sendPresent 102 = .ok (.getfield 44, 3) := by decide +kernel
theorem dX5_sendPresent_105 : decode cX5_sendPresent 105 = .ok (.getfield 97, 3) := by decide +kernel
theorem dX5_sendPresent_108 : decode cX5_sendPresent 108 = .ok (.iload_n 1, 1) := by decide +kernel
theorem dX5_sendPresent_109 : decode cX5_sendPresent 109 = .ok (.aaload, 1) := by decide +kernel
theorem dX5_sendPresent_110 : decode cX5_sendPresent 110 = .ok (.iconst 0, 1) := by decide +kernel
theorem dX5_sendPresent_111 : decode cX5_sendPresent 111 = .ok (.iconst 4, 1) := by decide +kernel
theorem dX5_sendPresent_112 : decode cX5_sendPresent 112 = .ok (.invokestatic 54, 3) := by decide +kernel
theorem dX5_sendPresent_115 : decode cX5_sendPresent 115 = .ok (.aload_n 0, 1) := by decide +kernel
theorem dX5_sendPresent_116 : decode cX5_sendPresent 116 = .ok (.getfield 44, 3) := by decide +kernel
theorem dX5_sendPresent_119 : decode cX5_sendPresent 119 = .ok (.getfield 100, 3) := by decide +kernel
theorem dX5_sendPresent_122 : decode cX5_sendPresent 122 = .ok (.iload_n 1, 1) := by decide +kernel
theorem dX5_sendPresent_123 : decode cX5_sendPresent 123 = .ok (.iload_n 2, 1) := by decide +kernel
theorem dX5_sendPresent_124 : decode cX5_sendPresent 124 = .ok (.iconst (-1), 1) := by decide +kernel
theorem dX5_sendPresent_125 : decode cX5_sendPresent 125 = .ok (.if_icmp .ne 7, 3) := by decide +kernel
theorem dX5_sendPresent_128 : decode cX5_sendPresent 128 = .ok (.iconst 0, 1) := by decide +kernel
theorem dX5_sendPresent_129 : decode cX5_sendPresent 129 = .ok (.goto 7, 3) := by decide +kernel
theorem dX5_sendPresent_132 : decode cX5_sendPresent 132 = .ok (.aload_n 0, 1) := by decide +kernel
theorem dX5_sendPresent_133 : decode cX5_sendPresent 133 = .ok (.getfield 15, 3) := by decide +kernel
theorem dX5_sendPresent_136 : decode cX5_sendPresent 136 = .ok (.iastore, 1) := by decide +kernel
theorem dX5_sendPresent_137 : decode cX5_sendPresent 137 = .ok (.aload_n 0, 1) := by decide +kernel
theorem dX5_sendPresent_138 : decode cX5_sendPresent 138 = .ok (.getfield 44, 3) := by decide +kernel
theorem dX5_sendPresent_141 : decode cX5_sendPresent 141 = .ok (.getfield 103, 3) := by decide +kernel
theorem dX5_sendPresent_144 : decode cX5_sendPresent 144 = .ok (.iload_n 1, 1) := by decide +kernel
theorem dX5_sendPresent_145 : decode cX5_sendPresent 145 = .ok (.iload_n 2, 1) := by decide +kernel
theorem dX5_sendPresent_146 : decode cX5_sendPresent 146 = .ok (.iastore, 1) := by decide +kernel
theorem dX5_sendPresent_147 : decode cX5_sendPresent 147 = .ok (.aload_n 0, 1) := by decide +kernel
theorem dX5_sendPresent_148 : decode cX5_sendPresent 148 = .ok (.getfield 44, 3) := by decide +kernel
theorem dX5_sendPresent_151 : decode cX5_sendPresent 151 = .ok (.getfield 106, 3) := by decide +kernel
theorem dX5_sendPresent_154 : decode cX5_sendPresent 154 = .ok (.iload_n 1, 1) := by decide +kernel
theorem dX5_sendPresent_155 : decode cX5_sendPresent 155 = .ok (.iload_n 3, 1) := by decide +kernel
theorem dX5_sendPresent_156 : decode cX5_sendPresent 156 = .ok (.iastore, 1) := by decide +kernel
theorem dX5_sendPresent_157 : decode cX5_sendPresent 157 = .ok (.aload_n 0, 1) := by decide +kernel
theorem dX5_sendPresent_158 : decode cX5_sendPresent 158 = .ok (.getfield 35, 3) := by decide +kernel
theorem dX5_sendPresent_161 : decode cX5_sendPresent 161 = .ok (.iload_n 1, 1) := by decide +kernel
theorem dX5_sendPresent_162 : decode cX5_sendPresent 162 = .ok (.iconst 0, 1) := by decide +kernel
theorem dX5_sendPresent_163 : decode cX5_sendPresent 163 = .ok (.iastore, 1) := by decide +kernel
theorem dX5_sendPresent_164 : decode cX5_sendPresent 164 = .ok (.aload_n 0, 1) := by decide +kernel
theorem dX5_sendPresent_165 : decode cX5_sendPresent 165 = .ok (.dup, 1) := by decide +kernel
theorem dX5_sendPresent_166 : decode cX5_sendPresent 166 = .ok (.getfield 26, 3) := by decide +kernel
theorem dX5_sendPresent_169 : decode cX5_sendPresent 169 = .ok (.iconst 1, 1) := by decide +kernel
theorem dX5_sendPresent_170 : decode cX5_sendPresent 170 = .ok (.iadd, 1) := by decide +kernel
theorem dX5_sendPresent_171 : decode cX5_sendPresent 171 = .ok (.putfield 26, 3) := by decide +kernel
theorem dX5_sendPresent_174 : decode cX5_sendPresent 174 = .ok (.aload_n 0, 1) := by decide +kernel
theorem dX5_sendPresent_175 : decode cX5_sendPresent 175 = .ok (.dup, 1) := by decide +kernel
theorem dX5_sendPresent_176 : decode cX5_sendPresent 176 = .ok (.getfield 32, 3) := by decide +kernel
theorem dX5_sendPresent_179 : decode cX5_sendPresent 179 = .ok (.iload_n 3, 1) := by decide +kernel
theorem dX5_sendPresent_180 : decode cX5_sendPresent 180 = .ok (.iadd, 1) := by decide +kernel
theorem dX5_sendPresent_181 : decode cX5_sendPresent 181 = .ok (.putfield 32, 3) := by decide +kernel
theorem dX5_sendPresent_184 : decode cX5_sendPresent 184 = .ok (.aload_n 0, 1) := by decide +kernel
theorem dX5_sendPresent_185 : decode cX5_sendPresent 185 = .ok (.iconst 0, 1) := by decide +kernel
theorem dX5_sendPresent_186 : decode cX5_sendPresent 186 = .ok (.putfield 22, 3) := by decide +kernel
theorem dX5_sendPresent_189 : decode cX5_sendPresent 189 = .ok (.iload_n 1, 1) := by decide +kernel
theorem dX5_sendPresent_190 : decode cX5_sendPresent 190 = .ok (.ireturn, 1) := by decide +kernel
theorem dX5_hear_0 : decode cX5_hear 0 = .ok (.iload_n 1, 1) := by decide +kernel
theorem dX5_hear_1 : decode cX5_hear 1 = .ok (.iconst (-1), 1) := by decide +kernel
theorem dX5_hear_2 : decode cX5_hear 2 = .ok (.if_icmp .ne 11, 3) := by decide +kernel
theorem dX5_hear_5 : decode cX5_hear 5 = .ok (.aload_n 0, 1) := by decide +kernel
theorem dX5_hear_6 : decode cX5_hear 6 = .ok (.iconst 1, 1) := by decide +kernel
theorem dX5_hear_7 : decode cX5_hear 7 = .ok (.putfield 22, 3) := by decide +kernel
theorem dX5_hear_10 : decode cX5_hear 10 = .ok (.goto 24, 3) := by decide +kernel
theorem dX5_hear_13 : decode cX5_hear 13 = .ok (.iload_n 1, 1) := by decide +kernel
theorem dX5_hear_14 : decode cX5_hear 14 = .ok (.iconst 0, 1) := by decide +kernel
theorem dX5_hear_15 : decode cX5_hear 15 = .ok (.aload_n 0, 1) := by decide +kernel
theorem dX5_hear_16 : decode cX5_hear 16 = .ok (.getfield 26, 3) := by decide +kernel
theorem dX5_hear_19 : decode cX5_hear 19 = .ok (.iconst 1, 1) := by decide +kernel
theorem dX5_hear_20 : decode cX5_hear 20 = .ok (.isub, 1) := by decide +kernel
theorem dX5_hear_21 : decode cX5_hear 21 = .ok (.invokestatic 109, 3) := by decide +kernel
theorem dX5_hear_24 : decode cX5_hear 24 = .ok (.ifCond .eq 10, 3) := by decide +kernel
theorem dX5_hear_27 : decode cX5_hear 27 = .ok (.aload_n 0, 1) := by decide +kernel
theorem dX5_hear_28 : decode cX5_hear 28 = .ok (.getfield 35, 3) := by decide +kernel
theorem dX5_hear_31 : decode cX5_hear 31 = .ok (.iload_n 1, 1) := by decide +kernel
theorem dX5_hear_32 : decode cX5_hear 32 = .ok (.iconst 1, 1) := by decide +kernel
theorem dX5_hear_33 : decode cX5_hear 33 = .ok (.iastore, 1) := by decide +kernel
theorem dX5_hear_34 : decode cX5_hear 34 = .ok (.return_, 1) := by decide +kernel
theorem dX5_savedBytes_0 : decode cX5_savedBytes 0 = .ok (.aload_n 0, 1) := by decide +kernel
theorem dX5_savedBytes_1 : decode cX5_savedBytes 1 = .ok (.getfield 26, 3) := by decide +kernel
theorem dX5_savedBytes_4 : decode cX5_savedBytes 4 = .ok (.bipush 6, 2) := by decide +kernel
theorem dX5_savedBytes_6 : decode cX5_savedBytes 6 = .ok (.imul, 1) := by decide +kernel
theorem dX5_savedBytes_7 : decode cX5_savedBytes 7 = .ok (.aload_n 0, 1) := by decide +kernel
theorem dX5_savedBytes_8 : decode cX5_savedBytes 8 = .ok (.getfield 32, 3) := by decide +kernel
theorem dX5_savedBytes_11 : decode cX5_savedBytes 11 = .ok (.isub, 1) := by decide +kernel
theorem dX5_savedBytes_12 : decode cX5_savedBytes 12 = .ok (.ireturn, 1) := by decide +kernel
theorem dX5_sentValue_0 : decode cX5_sentValue 0 = .ok (.iload_n 2, 1) := by decide +kernel
theorem dX5_sentValue_1 : decode cX5_sentValue 1 = .ok (.tableswitch 68 4 7 #[31, 41, 51, 61], 31) := by decide +kernel
theorem dX5_sentValue_32 : decode cX5_sentValue 32 = .ok (.aload_n 0, 1) := by decide +kernel
theorem dX5_sentValue_33 : decode cX5_sentValue 33 = .ok (.getfield 44, 3) := by decide +kernel
theorem dX5_sentValue_36 : decode cX5_sentValue 36 = .ok (.getfield 106, 3) := by decide +kernel
theorem dX5_sentValue_39 : decode cX5_sentValue 39 = .ok (.iload_n 1, 1) := by decide +kernel
theorem dX5_sentValue_40 : decode cX5_sentValue 40 = .ok (.iaload, 1) := by decide +kernel
theorem dX5_sentValue_41 : decode cX5_sentValue 41 = .ok (.ireturn, 1) := by decide +kernel
theorem dX5_sentValue_42 : decode cX5_sentValue 42 = .ok (.aload_n 0, 1) := by decide +kernel
theorem dX5_sentValue_43 : decode cX5_sentValue 43 = .ok (.getfield 44, 3) := by decide +kernel
theorem dX5_sentValue_46 : decode cX5_sentValue 46 = .ok (.getfield 100, 3) := by decide +kernel
theorem dX5_sentValue_49 : decode cX5_sentValue 49 = .ok (.iload_n 1, 1) := by decide +kernel
theorem dX5_sentValue_50 : decode cX5_sentValue 50 = .ok (.iaload, 1) := by decide +kernel
theorem dX5_sentValue_51 : decode cX5_sentValue 51 = .ok (.ireturn, 1) := by decide +kernel
theorem dX5_sentValue_52 : decode cX5_sentValue 52 = .ok (.aload_n 0, 1) := by decide +kernel
theorem dX5_sentValue_53 : decode cX5_sentValue 53 = .ok (.getfield 44, 3) := by decide +kernel
theorem dX5_sentValue_56 : decode cX5_sentValue 56 = .ok (.getfield 103, 3) := by decide +kernel
theorem dX5_sentValue_59 : decode cX5_sentValue 59 = .ok (.iload_n 1, 1) := by decide +kernel
theorem dX5_sentValue_60 : decode cX5_sentValue 60 = .ok (.iaload, 1) := by decide +kernel
theorem dX5_sentValue_61 : decode cX5_sentValue 61 = .ok (.ireturn, 1) := by decide +kernel
theorem dX5_sentValue_62 : decode cX5_sentValue 62 = .ok (.aload_n 0, 1) := by decide +kernel
theorem dX5_sentValue_63 : decode cX5_sentValue 63 = .ok (.getfield 35, 3) := by decide +kernel
theorem dX5_sentValue_66 : decode cX5_sentValue 66 = .ok (.iload_n 1, 1) := by decide +kernel
theorem dX5_sentValue_67 : decode cX5_sentValue 67 = .ok (.iaload, 1) := by decide +kernel
theorem dX5_sentValue_68 : decode cX5_sentValue 68 = .ok (.ireturn, 1) := by decide +kernel
theorem dX5_sentValue_69 : decode cX5_sentValue 69 = .ok (.aload_n 0, 1) := by decide +kernel
theorem dX5_sentValue_70 : decode cX5_sentValue 70 = .ok (.getfield 44, 3) := by decide +kernel
theorem dX5_sentValue_73 : decode cX5_sentValue 73 = .ok (.getfield 73, 3) := by decide +kernel
theorem dX5_sentValue_76 : decode cX5_sentValue 76 = .ok (.iload_n 1, 1) := by decide +kernel
theorem dX5_sentValue_77 : decode cX5_sentValue 77 = .ok (.aaload, 1) := by decide +kernel
theorem dX5_sentValue_78 : decode cX5_sentValue 78 = .ok (.iload_n 2, 1) := by decide +kernel
theorem dX5_sentValue_79 : decode cX5_sentValue 79 = .ok (.iaload, 1) := by decide +kernel
theorem dX5_sentValue_80 : decode cX5_sentValue 80 = .ok (.ireturn, 1) := by decide +kernel
theorem dX5_digestOn_0 : decode cX5_digestOn 0 = .ok (.lload_n 1, 1) := by decide +kernel
theorem dX5_digestOn_1 : decode cX5_digestOn 1 = .ok (.lstore_n 3, 1) := by decide +kernel
theorem dX5_digestOn_2 : decode cX5_digestOn 2 = .ok (.iconst 0, 1) := by decide +kernel
theorem dX5_digestOn_3 : decode cX5_digestOn 3 = .ok (.istore 5, 2) := by decide +kernel
theorem dX5_digestOn_5 : decode cX5_digestOn 5 = .ok (.iload 5, 2) := by decide +kernel
theorem dX5_digestOn_7 : decode cX5_digestOn 7 = .ok (.bipush 6, 2) := by decide +kernel
theorem dX5_digestOn_9 : decode cX5_digestOn 9 = .ok (.if_icmp .ge 22, 3) := by decide +kernel
theorem dX5_digestOn_12 : decode cX5_digestOn 12 = .ok (.lload_n 3, 1) := by decide +kernel
theorem dX5_digestOn_13 : decode cX5_digestOn 13 = .ok (.aload_n 0, 1) := by decide +kernel
theorem dX5_digestOn_14 : decode cX5_digestOn 14 = .ok (.getfield 9, 3) := by decide +kernel
theorem dX5_digestOn_17 : decode cX5_digestOn 17 = .ok (.iload 5, 2) := by decide +kernel
theorem dX5_digestOn_19 : decode cX5_digestOn 19 = .ok (.iaload, 1) := by decide +kernel
theorem dX5_digestOn_20 : decode cX5_digestOn 20 = .ok (.i2l, 1) := by decide +kernel
theorem dX5_digestOn_21 : decode cX5_digestOn 21 = .ok (.invokestatic 113, 3) := by decide +kernel
theorem dX5_digestOn_24 : decode cX5_digestOn 24 = .ok (.lstore_n 3, 1) := by decide +kernel
theorem dX5_digestOn_25 : decode cX5_digestOn 25 = .ok (.iinc 5 1, 3) := by decide +kernel
theorem dX5_digestOn_28 : decode cX5_digestOn 28 = .ok (.goto (-23), 3) := by decide +kernel
theorem dX5_digestOn_31 : decode cX5_digestOn 31 = .ok (.lload_n 3, 1) := by decide +kernel
theorem dX5_digestOn_32 : decode cX5_digestOn 32 = .ok (.aload_n 0, 1) := by decide +kernel
theorem dX5_digestOn_33 : decode cX5_digestOn 33 = .ok (.getfield 15, 3) := by decide +kernel
theorem dX5_digestOn_36 : decode cX5_digestOn 36 = .ok (.i2l, 1) := by decide +kernel
theorem dX5_digestOn_37 : decode cX5_digestOn 37 = .ok (.invokestatic 113, 3) := by decide +kernel
theorem dX5_digestOn_40 : decode cX5_digestOn 40 = .ok (.lstore_n 3, 1) := by decide +kernel
theorem dX5_digestOn_41 : decode cX5_digestOn 41 = .ok (.lload_n 3, 1) := by decide +kernel
theorem dX5_digestOn_42 : decode cX5_digestOn 42 = .ok (.aload_n 0, 1) := by decide +kernel
theorem dX5_digestOn_43 : decode cX5_digestOn 43 = .ok (.getfield 19, 3) := by decide +kernel
theorem dX5_digestOn_46 : decode cX5_digestOn 46 = .ok (.i2l, 1) := by decide +kernel
theorem dX5_digestOn_47 : decode cX5_digestOn 47 = .ok (.invokestatic 113, 3) := by decide +kernel
theorem dX5_digestOn_50 : decode cX5_digestOn 50 = .ok (.lstore_n 3, 1) := by decide +kernel
theorem dX5_digestOn_51 : decode cX5_digestOn 51 = .ok (.lload_n 3, 1) := by decide +kernel
theorem dX5_digestOn_52 : decode cX5_digestOn 52 = .ok (.aload_n 0, 1) := by decide +kernel
theorem dX5_digestOn_53 : decode cX5_digestOn 53 = .ok (.getfield 22, 3) := by decide +kernel
theorem dX5_digestOn_56 : decode cX5_digestOn 56 = .ok (.ifCond .eq 7, 3) := by decide +kernel
theorem dX5_digestOn_59 : decode cX5_digestOn 59 = .ok (.lconst 1, 1) := by decide +kernel
theorem dX5_digestOn_60 : decode cX5_digestOn 60 = .ok (.goto 4, 3) := by decide +kernel
theorem dX5_digestOn_63 : decode cX5_digestOn 63 = .ok (.lconst 0, 1) := by decide +kernel
theorem dX5_digestOn_64 : decode cX5_digestOn 64 = .ok (.invokestatic 113, 3) := by decide +kernel
theorem dX5_digestOn_67 : decode cX5_digestOn 67 = .ok (.lstore_n 3, 1) := by decide +kernel
theorem dX5_digestOn_68 : decode cX5_digestOn 68 = .ok (.iconst 0, 1) := by decide +kernel
theorem dX5_digestOn_69 : decode cX5_digestOn 69 = .ok (.istore 5, 2) := by decide +kernel
theorem dX5_digestOn_71 : decode cX5_digestOn 71 = .ok (.iload 5, 2) := by decide +kernel
theorem dX5_digestOn_73 : decode cX5_digestOn 73 = .ok (.aload_n 0, 1) := by decide +kernel
theorem dX5_digestOn_74 : decode cX5_digestOn 74 = .ok (.getfield 26, 3) := by decide +kernel
theorem dX5_digestOn_77 : decode cX5_digestOn 77 = .ok (.if_icmp .ge 39, 3) := by decide +kernel
theorem dX5_digestOn_80 : decode cX5_digestOn 80 = .ok (.iconst 0, 1) := by decide +kernel
theorem dX5_digestOn_81 : decode cX5_digestOn 81 = .ok (.istore 6, 2) := by decide +kernel
theorem dX5_digestOn_83 : decode cX5_digestOn 83 = .ok (.iload 6, 2) := by decide +kernel
theorem dX5_digestOn_85 : decode cX5_digestOn 85 = .ok (.bipush 8, 2) := by decide +kernel
theorem dX5_digestOn_87 : decode cX5_digestOn 87 = .ok (.if_icmp .ge 23, 3) := by decide +kernel
theorem dX5_digestOn_90 : decode cX5_digestOn 90 = .ok (.lload_n 3, 1) := by decide +kernel
theorem dX5_digestOn_91 : decode cX5_digestOn 91 = .ok (.aload_n 0, 1) := by decide +kernel
theorem dX5_digestOn_92 : decode cX5_digestOn 92 = .ok (.iload 5, 2) := by decide +kernel
theorem dX5_digestOn_94 : decode cX5_digestOn 94 = .ok (.iload 6, 2) := by decide +kernel
theorem dX5_digestOn_96 : decode cX5_digestOn 96 = .ok (.invokevirtual 117, 3) := by decide +kernel
theorem dX5_digestOn_99 : decode cX5_digestOn 99 = .ok (.i2l, 1) := by decide +kernel
theorem dX5_digestOn_100 : decode cX5_digestOn 100 = .ok (.invokestatic 113, 3) := by decide +kernel
theorem dX5_digestOn_103 : decode cX5_digestOn 103 = .ok (.lstore_n 3, 1) := by decide +kernel
theorem dX5_digestOn_104 : decode cX5_digestOn 104 = .ok (.iinc 6 1, 3) := by decide +kernel
theorem dX5_digestOn_107 : decode cX5_digestOn 107 = .ok (.goto (-24), 3) := by decide +kernel
theorem dX5_digestOn_110 : decode cX5_digestOn 110 = .ok (.iinc 5 1, 3) := by decide +kernel
theorem dX5_digestOn_113 : decode cX5_digestOn 113 = .ok (.goto (-42), 3) := by decide +kernel
theorem dX5_digestOn_116 : decode cX5_digestOn 116 = .ok (.lload_n 3, 1) := by decide +kernel
theorem dX5_digestOn_117 : decode cX5_digestOn 117 = .ok (.lreturn, 1) := by decide +kernel
theorem dX6_init_0 : decode cX6_init 0 = .ok (.aload_n 0, 1) := by decide +kernel
theorem dX6_init_1 : decode cX6_init 1 = .ok (.invokespecial 3, 3) := by decide +kernel
theorem dX6_init_4 : decode cX6_init 4 = .ok (.aload_n 0, 1) := by decide +kernel
theorem dX6_init_5 : decode cX6_init 5 = .ok (.new 9, 3) := by decide +kernel
theorem dX6_init_8 : decode cX6_init 8 = .ok (.dup, 1) := by decide +kernel
theorem dX6_init_9 : decode cX6_init 9 = .ok (.invokespecial 11, 3) := by decide +kernel
theorem dX6_init_12 : decode cX6_init 12 = .ok (.putfield 12, 3) := by decide +kernel
theorem dX6_init_15 : decode cX6_init 15 = .ok (.aload_n 0, 1) := by decide +kernel
theorem dX6_init_16 : decode cX6_init 16 = .ok (.new 9, 3) := by decide +kernel
theorem dX6_init_19 : decode cX6_init 19 = .ok (.dup, 1) := by decide +kernel
theorem dX6_init_20 : decode cX6_init 20 = .ok (.invokespecial 11, 3) := by decide +kernel
theorem dX6_init_23 : decode cX6_init 23 = .ok (.putfield 18, 3) := by decide +kernel
theorem dX6_init_26 : decode cX6_init 26 = .ok (.aload_n 0, 1) := by decide +kernel
theorem dX6_init_27 : decode cX6_init 27 = .ok (.new 21, 3) := by decide +kernel
theorem dX6_init_30 : decode cX6_init 30 = .ok (.dup, 1) := by decide +kernel
theorem dX6_init_31 : decode cX6_init 31 = .ok (.aload_n 1, 1) := by decide +kernel
theorem dX6_init_32 : decode cX6_init 32 = .ok (.invokespecial 23, 3) := by decide +kernel
theorem dX6_init_35 : decode cX6_init 35 = .ok (.putfield 26, 3) := by decide +kernel
theorem dX6_init_38 : decode cX6_init 38 = .ok (.aload_n 0, 1) := by decide +kernel
theorem dX6_init_39 : decode cX6_init 39 = .ok (.new 30, 3) := by decide +kernel
theorem dX6_init_42 : decode cX6_init 42 = .ok (.dup, 1) := by decide +kernel
theorem dX6_init_43 : decode cX6_init 43 = .ok (.aload_n 1, 1) := by decide +kernel
theorem dX6_init_44 : decode cX6_init 44 = .ok (.invokespecial 32, 3) := by decide +kernel
theorem dX6_init_47 : decode cX6_init 47 = .ok (.putfield 33, 3) := by decide +kernel
theorem dX6_init_50 : decode cX6_init 50 = .ok (.return_, 1) := by decide +kernel
theorem dX6_copyFrom_0 : decode cX6_copyFrom 0 = .ok (.aload_n 0, 1) := by decide +kernel
theorem dX6_copyFrom_1 : decode cX6_copyFrom 1 = .ok (.getfield 26, 3) := by decide +kernel
theorem dX6_copyFrom_4 : decode cX6_copyFrom 4 = .ok (.aload_n 1, 1) := by decide +kernel
theorem dX6_copyFrom_5 : decode cX6_copyFrom 5 = .ok (.getfield 26, 3) := by decide +kernel
theorem dX6_copyFrom_8 : decode cX6_copyFrom 8 = .ok (.invokevirtual 37, 3) := by decide +kernel
theorem dX6_copyFrom_11 : decode cX6_copyFrom 11 = .ok (.aload_n 0, 1) := by decide +kernel
theorem dX6_copyFrom_12 : decode cX6_copyFrom 12 = .ok (.getfield 33, 3) := by decide +kernel
theorem dX6_copyFrom_15 : decode cX6_copyFrom 15 = .ok (.aload_n 1, 1) := by decide +kernel
theorem dX6_copyFrom_16 : decode cX6_copyFrom 16 = .ok (.getfield 33, 3) := by decide +kernel
theorem dX6_copyFrom_19 : decode cX6_copyFrom 19 = .ok (.invokevirtual 41, 3) := by decide +kernel
theorem dX6_copyFrom_22 : decode cX6_copyFrom 22 = .ok (.aload_n 0, 1) := by decide +kernel
theorem dX6_copyFrom_23 : decode cX6_copyFrom 23 = .ok (.getfield 12, 3) := by decide +kernel
theorem dX6_copyFrom_26 : decode cX6_copyFrom 26 = .ok (.aload_n 1, 1) := by decide +kernel
theorem dX6_copyFrom_27 : decode cX6_copyFrom 27 = .ok (.getfield 12, 3) := by decide +kernel
theorem dX6_copyFrom_30 : decode cX6_copyFrom 30 = .ok (.invokevirtual 44, 3) := by decide +kernel
theorem dX6_copyFrom_33 : decode cX6_copyFrom 33 = .ok (.aload_n 0, 1) := by decide +kernel
theorem dX6_copyFrom_34 : decode cX6_copyFrom 34 = .ok (.getfield 18, 3) := by decide +kernel
theorem dX6_copyFrom_37 : decode cX6_copyFrom 37 = .ok (.aload_n 1, 1) := by decide +kernel
theorem dX6_copyFrom_38 : decode cX6_copyFrom 38 = .ok (.getfield 18, 3) := by decide +kernel
theorem dX6_copyFrom_41 : decode cX6_copyFrom 41 = .ok (.invokevirtual 44, 3) := by decide +kernel
theorem dX6_copyFrom_44 : decode cX6_copyFrom 44 = .ok (.return_, 1) := by decide +kernel
theorem dX6_hasRoomFor_0 : decode cX6_hasRoomFor 0 = .ok (.aload_n 0, 1) := by decide +kernel
theorem dX6_hasRoomFor_1 : decode cX6_hasRoomFor 1 = .ok (.getfield 26, 3) := by decide +kernel
theorem dX6_hasRoomFor_4 : decode cX6_hasRoomFor 4 = .ok (.getfield 47, 3) := by decide +kernel
theorem dX6_hasRoomFor_7 : decode cX6_hasRoomFor 7 = .ok (.iload_n 1, 1) := by decide +kernel
theorem dX6_hasRoomFor_8 : decode cX6_hasRoomFor 8 = .ok (.iadd, 1) := by decide +kernel
theorem dX6_hasRoomFor_9 : decode cX6_hasRoomFor 9 = .ok (.sipush 500, 3) := by decide +kernel
theorem dX6_hasRoomFor_12 : decode cX6_hasRoomFor 12 = .ok (.if_icmp .gt 21, 3) := by decide +kernel
theorem dX6_hasRoomFor_15 : decode cX6_hasRoomFor 15 = .ok (.aload_n 0, 1) := by decide +kernel
theorem dX6_hasRoomFor_16 : decode cX6_hasRoomFor 16 = .ok (.getfield 12, 3) := by decide +kernel
theorem dX6_hasRoomFor_19 : decode cX6_hasRoomFor 19 = .ok (.getfield 51, 3) := by decide +kernel
theorem dX6_hasRoomFor_22 : decode cX6_hasRoomFor 22 = .ok (.iload_n 1, 1) := by decide +kernel
theorem dX6_hasRoomFor_23 : decode cX6_hasRoomFor 23 = .ok (.iadd, 1) := by decide +kernel
theorem dX6_hasRoomFor_24 : decode cX6_hasRoomFor 24 = .ok (.bipush 20, 2) := by decide +kernel
theorem dX6_hasRoomFor_26 : decode cX6_hasRoomFor 26 = .ok (.if_icmp .gt 7, 3) := by decide +kernel
theorem dX6_hasRoomFor_29 : decode cX6_hasRoomFor 29 = .ok (.iconst 1, 1) := by decide +kernel
theorem dX6_hasRoomFor_30 : decode cX6_hasRoomFor 30 = .ok (.goto 4, 3) := by decide +kernel
theorem dX6_hasRoomFor_33 : decode cX6_hasRoomFor 33 = .ok (.iconst 0, 1) := by decide +kernel
theorem dX6_hasRoomFor_34 : decode cX6_hasRoomFor 34 = .ok (.ireturn, 1) := by decide +kernel
theorem dX6_sendNext_0 : decode cX6_sendNext 0 = .ok (.aload_n 0, 1) := by decide +kernel
theorem dX6_sendNext_1 : decode cX6_sendNext 1 = .ok (.getfield 26, 3) := by decide +kernel
theorem dX6_sendNext_4 : decode cX6_sendNext 4 = .ok (.invokevirtual 54, 3) := by decide +kernel
theorem dX6_sendNext_7 : decode cX6_sendNext 7 = .ok (.istore_n 1, 1) := by decide +kernel
theorem dX6_sendNext_8 : decode cX6_sendNext 8 = .ok (.aload_n 0, 1) := by decide +kernel
theorem dX6_sendNext_9 : decode cX6_sendNext 9 = .ok (.getfield 12, 3) := by decide +kernel
theorem dX6_sendNext_12 : decode cX6_sendNext 12 = .ok (.iload_n 1, 1) := by decide +kernel
theorem dX6_sendNext_13 : decode cX6_sendNext 13 = .ok (.invokevirtual 58, 3) := by decide +kernel
theorem dX6_sendNext_16 : decode cX6_sendNext 16 = .ok (.iload_n 1, 1) := by decide +kernel
theorem dX6_sendNext_17 : decode cX6_sendNext 17 = .ok (.ireturn, 1) := by decide +kernel
theorem dX6_deliverPacket_0 : decode cX6_deliverPacket 0 = .ok (.aload_n 0, 1) := by decide +kernel
theorem dX6_deliverPacket_1 : decode cX6_deliverPacket 1 = .ok (.getfield 33, 3) := by decide +kernel
theorem dX6_deliverPacket_4 : decode cX6_deliverPacket 4 = .ok (.aload_n 0, 1) := by decide +kernel
theorem dX6_deliverPacket_5 : decode cX6_deliverPacket 5 = .ok (.getfield 12, 3) := by decide +kernel
theorem dX6_deliverPacket_8 : decode cX6_deliverPacket 8 = .ok (.iload_n 1, 1) := by decide +kernel
theorem dX6_deliverPacket_9 : decode cX6_deliverPacket 9 = .ok (.invokevirtual 62, 3) := by decide +kernel
theorem dX6_deliverPacket_12 : decode cX6_deliverPacket 12 = .ok (.aload_n 0, 1) := by decide +kernel
theorem dX6_deliverPacket_13 : decode cX6_deliverPacket 13 = .ok (.getfield 18, 3) := by decide +kernel
theorem dX6_deliverPacket_16 : decode cX6_deliverPacket 16 = .ok (.invokevirtual 66, 3) := by decide +kernel
theorem dX6_deliverPacket_19 : decode cX6_deliverPacket 19 = .ok (.ireturn, 1) := by decide +kernel
theorem dX6_deliverMessage_0 : decode cX6_deliverMessage 0 = .ok (.aload_n 0, 1) := by decide +kernel
theorem dX6_deliverMessage_1 : decode cX6_deliverMessage 1 = .ok (.getfield 18, 3) := by decide +kernel
theorem dX6_deliverMessage_4 : decode cX6_deliverMessage 4 = .ok (.iload_n 1, 1) := by decide +kernel
theorem dX6_deliverMessage_5 : decode cX6_deliverMessage 5 = .ok (.invokevirtual 62, 3) := by decide +kernel
theorem dX6_deliverMessage_8 : decode cX6_deliverMessage 8 = .ok (.istore_n 2, 1) := by decide +kernel
theorem dX6_deliverMessage_9 : decode cX6_deliverMessage 9 = .ok (.aload_n 0, 1) := by decide +kernel
theorem dX6_deliverMessage_10 : decode cX6_deliverMessage 10 = .ok (.getfield 26, 3) := by decide +kernel
theorem dX6_deliverMessage_13 : decode cX6_deliverMessage 13 = .ok (.iload_n 2, 1) := by decide +kernel
theorem dX6_deliverMessage_14 : decode cX6_deliverMessage 14 = .ok (.invokevirtual 70, 3) := by decide +kernel
theorem dX6_deliverMessage_17 : decode cX6_deliverMessage 17 = .ok (.iload_n 2, 1) := by decide +kernel
theorem dX6_deliverMessage_18 : decode cX6_deliverMessage 18 = .ok (.ireturn, 1) := by decide +kernel
theorem dX6_countOf_0 : decode cX6_countOf 0 = .ok (.iload_n 1, 1) := by decide +kernel
theorem dX6_countOf_1 : decode cX6_countOf 1 = .ok (.tableswitch 107 0 6 #[43, 51, 59, 69, 79, 89, 99], 43) := by decide +kernel
theorem dX6_countOf_44 : decode cX6_countOf 44 = .ok (.aload_n 0, 1) := by decide +kernel
theorem dX6_countOf_45 : decode cX6_countOf 45 = .ok (.getfield 26, 3) := by decide +kernel
theorem dX6_countOf_48 : decode cX6_countOf 48 = .ok (.getfield 47, 3) := by decide +kernel
theorem dX6_countOf_51 : decode cX6_countOf 51 = .ok (.ireturn, 1) := by decide +kernel
theorem dX6_countOf_52 : decode cX6_countOf 52 = .ok (.aload_n 0, 1) := by decide +kernel
theorem dX6_countOf_53 : decode cX6_countOf 53 = .ok (.getfield 33, 3) := by decide +kernel
theorem dX6_countOf_56 : decode cX6_countOf 56 = .ok (.invokevirtual 73, 3) := by decide +kernel
theorem dX6_countOf_59 : decode cX6_countOf 59 = .ok (.ireturn, 1) := by decide +kernel
theorem dX6_countOf_60 : decode cX6_countOf 60 = .ok (.aload_n 0, 1) := by decide +kernel
theorem dX6_countOf_61 : decode cX6_countOf 61 = .ok (.getfield 33, 3) := by decide +kernel
theorem dX6_countOf_64 : decode cX6_countOf 64 = .ok (.getfield 76, 3) := by decide +kernel
theorem dX6_countOf_67 : decode cX6_countOf 67 = .ok (.iconst 0, 1) := by decide +kernel
theorem dX6_countOf_68 : decode cX6_countOf 68 = .ok (.iaload, 1) := by decide +kernel
theorem dX6_countOf_69 : decode cX6_countOf 69 = .ok (.ireturn, 1) := by decide +kernel
theorem dX6_countOf_70 : decode cX6_countOf 70 = .ok (.aload_n 0, 1) := by decide +kernel
theorem dX6_countOf_71 : decode cX6_countOf 71 = .ok (.getfield 33, 3) := by decide +kernel
theorem dX6_countOf_74 : decode cX6_countOf 74 = .ok (.getfield 76, 3) := by decide +kernel
theorem dX6_countOf_77 : decode cX6_countOf 77 = .ok (.iconst 1, 1) := by decide +kernel
theorem dX6_countOf_78 : decode cX6_countOf 78 = .ok (.iaload, 1) := by decide +kernel
theorem dX6_countOf_79 : decode cX6_countOf 79 = .ok (.ireturn, 1) := by decide +kernel
theorem dX6_countOf_80 : decode cX6_countOf 80 = .ok (.aload_n 0, 1) := by decide +kernel
theorem dX6_countOf_81 : decode cX6_countOf 81 = .ok (.getfield 33, 3) := by decide +kernel
theorem dX6_countOf_84 : decode cX6_countOf 84 = .ok (.getfield 76, 3) := by decide +kernel
theorem dX6_countOf_87 : decode cX6_countOf 87 = .ok (.iconst 2, 1) := by decide +kernel
theorem dX6_countOf_88 : decode cX6_countOf 88 = .ok (.iaload, 1) := by decide +kernel
theorem dX6_countOf_89 : decode cX6_countOf 89 = .ok (.ireturn, 1) := by decide +kernel
theorem dX6_countOf_90 : decode cX6_countOf 90 = .ok (.aload_n 0, 1) := by decide +kernel
theorem dX6_countOf_91 : decode cX6_countOf 91 = .ok (.getfield 33, 3) := by decide +kernel
theorem dX6_countOf_94 : decode cX6_countOf 94 = .ok (.getfield 76, 3) := by decide +kernel
theorem dX6_countOf_97 : decode cX6_countOf 97 = .ok (.iconst 3, 1) := by decide +kernel
theorem dX6_countOf_98 : decode cX6_countOf 98 = .ok (.iaload, 1) := by decide +kernel
theorem dX6_countOf_99 : decode cX6_countOf 99 = .ok (.ireturn, 1) := by decide +kernel
theorem dX6_countOf_100 : decode cX6_countOf 100 = .ok (.aload_n 0, 1) := by decide +kernel
theorem dX6_countOf_101 : decode cX6_countOf 101 = .ok (.getfield 33, 3) := by decide +kernel
theorem dX6_countOf_104 : decode cX6_countOf 104 = .ok (.getfield 80, 3) := by decide +kernel
theorem dX6_countOf_107 : decode cX6_countOf 107 = .ok (.ireturn, 1) := by decide +kernel
theorem dX6_countOf_108 : decode cX6_countOf 108 = .ok (.aload_n 0, 1) := by decide +kernel
theorem dX6_countOf_109 : decode cX6_countOf 109 = .ok (.getfield 26, 3) := by decide +kernel
theorem dX6_countOf_112 : decode cX6_countOf 112 = .ok (.getfield 83, 3) := by decide +kernel
theorem dX6_countOf_115 : decode cX6_countOf 115 = .ok (.ireturn, 1) := by decide +kernel
theorem dX6_obey_0 : decode cX6_obey 0 = .ok (.aload_n 0, 1) := by decide +kernel
theorem dX6_obey_1 : decode cX6_obey 1 = .ok (.iload_n 1, 1) := by decide +kernel
theorem dX6_obey_2 : decode cX6_obey 2 = .ok (.iload_n 2, 1) := by decide +kernel
theorem dX6_obey_3 : decode cX6_obey 3 = .ok (.invokevirtual 86, 3) := by decide +kernel
theorem dX6_obey_6 : decode cX6_obey 6 = .ok (.ifCond .ne 5, 3) := by decide +kernel
theorem dX6_obey_9 : decode cX6_obey 9 = .ok (.iconst 0, 1) := by decide +kernel
theorem dX6_obey_10 : decode cX6_obey 10 = .ok (.ireturn, 1) := by decide +kernel
theorem dX6_obey_11 : decode cX6_obey 11 = .ok (.iload_n 1, 1) := by decide +kernel
theorem dX6_obey_12 : decode cX6_obey 12 = .ok (.tableswitch 159 97 115 #[150, 159, 131, 110, 159, 159, 159, 159, 159, 159, 159, 119, 159, 92, 159, 159, 159, 159, 102], 92) := by decide +kernel
theorem dX6_obey_104 : decode cX6_obey 104 = .ok (.aload_n 0, 1) := by decide +kernel
theorem dX6_obey_105 : decode cX6_obey 105 = .ok (.getfield 26, 3) := by decide +kernel
theorem dX6_obey_108 : decode cX6_obey 108 = .ok (.invokevirtual 90, 3) := by decide +kernel
theorem dX6_obey_111 : decode cX6_obey 111 = .ok (.goto 69, 3) := by decide +kernel
theorem dX6_obey_114 : decode cX6_obey 114 = .ok (.aload_n 0, 1) := by decide +kernel
theorem dX6_obey_115 : decode cX6_obey 115 = .ok (.invokevirtual 93, 3) := by decide +kernel
theorem dX6_obey_118 : decode cX6_obey 118 = .ok (.pop, 1) := by decide +kernel
theorem dX6_obey_119 : decode cX6_obey 119 = .ok (.goto 61, 3) := by decide +kernel
theorem dX6_obey_122 : decode cX6_obey 122 = .ok (.aload_n 0, 1) := by decide +kernel
theorem dX6_obey_123 : decode cX6_obey 123 = .ok (.iload_n 2, 1) := by decide +kernel
theorem dX6_obey_124 : decode cX6_obey 124 = .ok (.invokevirtual 96, 3) := by decide +kernel
theorem dX6_obey_127 : decode cX6_obey 127 = .ok (.pop, 1) := by decide +kernel
theorem dX6_obey_128 : decode cX6_obey 128 = .ok (.goto 52, 3) := by decide +kernel
theorem dX6_obey_131 : decode cX6_obey 131 = .ok (.aload_n 0, 1) := by decide +kernel
theorem dX6_obey_132 : decode cX6_obey 132 = .ok (.getfield 12, 3) := by decide +kernel
theorem dX6_obey_135 : decode cX6_obey 135 = .ok (.iload_n 2, 1) := by decide +kernel
theorem dX6_obey_136 : decode cX6_obey 136 = .ok (.invokevirtual 62, 3) := by decide +kernel
theorem dX6_obey_139 : decode cX6_obey 139 = .ok (.pop, 1) := by decide +kernel
theorem dX6_obey_140 : decode cX6_obey 140 = .ok (.goto 40, 3) := by decide +kernel
theorem dX6_obey_143 : decode cX6_obey 143 = .ok (.aload_n 0, 1) := by decide +kernel
theorem dX6_obey_144 : decode cX6_obey 144 = .ok (.getfield 12, 3) := by decide +kernel
theorem dX6_obey_147 : decode cX6_obey 147 = .ok (.aload_n 0, 1) := by decide +kernel
theorem dX6_obey_148 : decode cX6_obey 148 = .ok (.getfield 12, 3) := by decide +kernel
theorem dX6_obey_151 : decode cX6_obey 151 = .ok (.getfield 99, 3) := by decide +kernel
theorem dX6_obey_154 : decode cX6_obey 154 = .ok (.iload_n 2, 1) := by decide +kernel
theorem dX6_obey_155 : decode cX6_obey 155 = .ok (.iaload, 1) := by decide +kernel
theorem dX6_obey_156 : decode cX6_obey 156 = .ok (.invokevirtual 58, 3) := by decide +kernel
theorem dX6_obey_159 : decode cX6_obey 159 = .ok (.goto 21, 3) := by decide +kernel
theorem dX6_obey_162 : decode cX6_obey 162 = .ok (.aload_n 0, 1) := by decide +kernel
theorem dX6_obey_163 : decode cX6_obey 163 = .ok (.iload_n 2, 1) := by decide +kernel
theorem dX6_obey_164 : decode cX6_obey 164 = .ok (.invokevirtual 102, 3) := by decide +kernel
theorem dX6_obey_167 : decode cX6_obey 167 = .ok (.pop, 1) := by decide +kernel
theorem dX6_obey_168 : decode cX6_obey 168 = .ok (.goto 12, 3) := by decide +kernel
theorem dX6_obey_171 : decode cX6_obey 171 = .ok (.aload_n 0, 1) := by decide +kernel
theorem dX6_obey_172 : decode cX6_obey 172 = .ok (.getfield 18, 3) := by decide +kernel
theorem dX6_obey_175 : decode cX6_obey 175 = .ok (.iload_n 2, 1) := by decide +kernel
theorem dX6_obey_176 : decode cX6_obey 176 = .ok (.invokevirtual 62, 3) := by decide +kernel
theorem dX6_obey_179 : decode cX6_obey 179 = .ok (.pop, 1) := by decide +kernel
theorem dX6_obey_180 : decode cX6_obey 180 = .ok (.iconst 1, 1) := by decide +kernel
theorem dX6_obey_181 : decode cX6_obey 181 = .ok (.ireturn, 1) := by decide +kernel
theorem dX6_isPossible_0 : decode cX6_isPossible 0 = .ok (.iload_n 1, 1) := by decide +kernel
theorem dX6_isPossible_1 : decode cX6_isPossible 1 = .ok (.lookupswitch 95 #[(97, 59), (99, 68), (110, 51), (115, 53), (120, 59)], 51) := by decide +kernel
theorem dX6_isPossible_52 : decode cX6_isPossible 52 = .ok (.iconst 1, 1) := by decide +kernel
theorem dX6_isPossible_53 : decode cX6_isPossible 53 = .ok (.ireturn, 1) := by decide +kernel
theorem dX6_isPossible_54 : decode cX6_isPossible 54 = .ok (.aload_n 0, 1) := by decide +kernel
theorem dX6_isPossible_55 : decode cX6_isPossible 55 = .ok (.iconst 1, 1) := by decide +kernel
theorem dX6_isPossible_56 : decode cX6_isPossible 56 = .ok (.invokevirtual 105, 3) := by decide +kernel
theorem dX6_isPossible_59 : decode cX6_isPossible 59 = .ok (.ireturn, 1) := by decide +kernel
theorem dX6_isPossible_60 : decode cX6_isPossible 60 = .ok (.aload_n 0, 1) := by decide +kernel
theorem dX6_isPossible_61 : decode cX6_isPossible 61 = .ok (.getfield 18, 3) := by decide +kernel
theorem dX6_isPossible_64 : decode cX6_isPossible 64 = .ok (.iload_n 2, 1) := by decide +kernel
theorem dX6_isPossible_65 : decode cX6_isPossible 65 = .ok (.invokevirtual 109, 3) := by decide +kernel
theorem dX6_isPossible_68 : decode cX6_isPossible 68 = .ok (.ireturn, 1) := by decide +kernel
theorem dX6_isPossible_69 : decode cX6_isPossible 69 = .ok (.aload_n 0, 1) := by decide +kernel
theorem dX6_isPossible_70 : decode cX6_isPossible 70 = .ok (.getfield 12, 3) := by decide +kernel
theorem dX6_isPossible_73 : decode cX6_isPossible 73 = .ok (.iload_n 2, 1) := by decide +kernel
theorem dX6_isPossible_74 : decode cX6_isPossible 74 = .ok (.invokevirtual 109, 3) := by decide +kernel
theorem dX6_isPossible_77 : decode cX6_isPossible 77 = .ok (.ifCond .eq 17, 3) := by decide +kernel
theorem dX6_isPossible_80 : decode cX6_isPossible 80 = .ok (.aload_n 0, 1) := by decide +kernel
theorem dX6_isPossible_81 : decode cX6_isPossible 81 = .ok (.getfield 12, 3) := by decide +kernel
theorem dX6_isPossible_84 : decode cX6_isPossible 84 = .ok (.invokevirtual 112, 3) := by decide +kernel
theorem dX6_isPossible_87 : decode cX6_isPossible 87 = .ok (.ifCond .ne 7, 3) := by decide +kernel
theorem dX6_isPossible_90 : decode cX6_isPossible 90 = .ok (.iconst 1, 1) := by decide +kernel
theorem dX6_isPossible_91 : decode cX6_isPossible 91 = .ok (.goto 4, 3) := by decide +kernel
theorem dX6_isPossible_94 : decode cX6_isPossible 94 = .ok (.iconst 0, 1) := by decide +kernel
theorem dX6_isPossible_95 : decode cX6_isPossible 95 = .ok (.ireturn, 1) := by decide +kernel
theorem dX6_isPossible_96 : decode cX6_isPossible 96 = .ok (.aload_n 0, 1) := by decide +kernel
theorem dX6_isPossible_97 : decode cX6_isPossible 97 = .ok (.getfield 12, 3) := by decide +kernel
theorem dX6_isPossible_100 : decode cX6_isPossible 100 = .ok (.iload_n 2, 1) := by decide +kernel
theorem dX6_isPossible_101 : decode cX6_isPossible 101 = .ok (.invokevirtual 109, 3) := by decide +kernel
theorem dX6_isPossible_104 : decode cX6_isPossible 104 = .ok (.ireturn, 1) := by decide +kernel
theorem dX7_init_0 : decode cX7_init 0 = .ok (.aload_n 0, 1) := by decide +kernel
theorem dX7_init_1 : decode cX7_init 1 = .ok (.invokespecial 3, 3) := by decide +kernel
theorem dX7_init_4 : decode cX7_init 4 = .ok (.aload_n 0, 1) := by decide +kernel
theorem dX7_init_5 : decode cX7_init 5 = .ok (.bipush 64, 2) := by decide +kernel
theorem dX7_init_7 : decode cX7_init 7 = .ok (.newarray .int, 2) := by decide +kernel
theorem dX7_init_9 : decode cX7_init 9 = .ok (.putfield 9, 3) := by decide +kernel
theorem dX7_init_12 : decode cX7_init 12 = .ok (.aload_n 0, 1) := by decide +kernel
theorem dX7_init_13 : decode cX7_init 13 = .ok (.bipush 64, 2) := by decide +kernel
theorem dX7_init_15 : decode cX7_init 15 = .ok (.bipush 6, 2) := by decide +kernel
theorem dX7_init_17 : decode cX7_init 17 = .ok (.multianewarray 15 2, 4) := by decide +kernel
theorem dX7_init_21 : decode cX7_init 21 = .ok (.putfield 17, 3) := by decide +kernel
theorem dX7_init_24 : decode cX7_init 24 = .ok (.aload_n 0, 1) := by decide +kernel
theorem dX7_init_25 : decode cX7_init 25 = .ok (.getfield 9, 3) := by decide +kernel
theorem dX7_init_28 : decode cX7_init 28 = .ok (.iconst (-1), 1) := by decide +kernel
theorem dX7_init_29 : decode cX7_init 29 = .ok (.invokestatic 20, 3) := by decide +kernel
theorem dX7_init_32 : decode cX7_init 32 = .ok (.return_, 1) := by decide +kernel
theorem dX7_copyFrom_0 : decode cX7_copyFrom 0 = .ok (.aload_n 1, 1) := by decide +kernel
theorem dX7_copyFrom_1 : decode cX7_copyFrom 1 = .ok (.getfield 9, 3) := by decide +kernel
theorem dX7_copyFrom_4 : decode cX7_copyFrom 4 = .ok (.iconst 0, 1) := by decide +kernel
theorem dX7_copyFrom_5 : decode cX7_copyFrom 5 = .ok (.aload_n 0, 1) := by decide +kernel
theorem dX7_copyFrom_6 : decode cX7_copyFrom 6 = .ok (.getfield 9, 3) := by decide +kernel
theorem dX7_copyFrom_9 : decode cX7_copyFrom 9 = .ok (.iconst 0, 1) := by decide +kernel
theorem dX7_copyFrom_10 : decode cX7_copyFrom 10 = .ok (.bipush 64, 2) := by decide +kernel
theorem dX7_copyFrom_12 : decode cX7_copyFrom 12 = .ok (.invokestatic 26, 3) := by decide +kernel
theorem dX7_copyFrom_15 : decode cX7_copyFrom 15 = .ok (.iconst 0, 1) := by decide +kernel
theorem dX7_copyFrom_16 : decode cX7_copyFrom 16 = .ok (.istore_n 2, 1) := by decide +kernel
theorem dX7_copyFrom_17 : decode cX7_copyFrom 17 = .ok (.iload_n 2, 1) := by decide +kernel
theorem dX7_copyFrom_18 : decode cX7_copyFrom 18 = .ok (.bipush 64, 2) := by decide +kernel
theorem dX7_copyFrom_20 : decode cX7_copyFrom 20 = .ok (.if_icmp .ge 24, 3) := by decide +kernel
theorem dX7_copyFrom_23 : decode cX7_copyFrom 23 = .ok (.aload_n 1, 1) := by decide +kernel
theorem dX7_copyFrom_24 : decode cX7_copyFrom 24 = .ok (.getfield 17, 3) := by decide +kernel
theorem dX7_copyFrom_27 : decode cX7_copyFrom 27 = .ok (.iload_n 2, 1) := by decide +kernel
theorem dX7_copyFrom_28 : decode cX7_copyFrom 28 = .ok (.aaload, 1) := by decide +kernel
theorem dX7_copyFrom_29 : decode cX7_copyFrom 29 = .ok (.aload_n 0, 1) := by decide +kernel
theorem dX7_copyFrom_30 : decode cX7_copyFrom 30 = .ok (.getfield 17, 3) := by decide +kernel
theorem dX7_copyFrom_33 : decode cX7_copyFrom 33 = .ok (.iload_n 2, 1) := by decide +kernel
theorem dX7_copyFrom_34 : decode cX7_copyFrom 34 = .ok (.aaload, 1) := by decide +kernel
theorem dX7_copyFrom_35 : decode cX7_copyFrom 35 = .ok (.invokestatic 32, 3) := by decide +kernel
theorem dX7_copyFrom_38 : decode cX7_copyFrom 38 = .ok (.iinc 2 1, 3) := by decide +kernel
theorem dX7_copyFrom_41 : decode cX7_copyFrom 41 = .ok (.goto (-24), 3) := by decide +kernel
theorem dX7_copyFrom_44 : decode cX7_copyFrom 44 = .ok (.return_, 1) := by decide +kernel
theorem dX7_has_0 : decode cX7_has 0 = .ok (.iload_n 1, 1) := by decide +kernel
theorem dX7_has_1 : decode cX7_has 1 = .ok (.ifCond .lt 20, 3) := by decide +kernel
theorem dX7_has_4 : decode cX7_has 4 = .ok (.aload_n 0, 1) := by decide +kernel
theorem dX7_has_5 : decode cX7_has 5 = .ok (.getfield 9, 3) := by decide +kernel
theorem dX7_has_8 : decode cX7_has 8 = .ok (.iload_n 1, 1) := by decide +kernel
theorem dX7_has_9 : decode cX7_has 9 = .ok (.bipush 64, 2) := by decide +kernel
theorem dX7_has_11 : decode cX7_has 11 = .ok (.irem, 1) := by decide +kernel
theorem dX7_has_12 : decode cX7_has 12 = .ok (.iaload, 1) := by decide +kernel
theorem dX7_has_13 : decode cX7_has 13 = .ok (.iload_n 1, 1) := by decide +kernel
theorem dX7_has_14 : decode cX7_has 14 = .ok (.if_icmp .ne 7, 3) := by decide +kernel
theorem dX7_has_17 : decode cX7_has 17 = .ok (.iconst 1, 1) := by decide +kernel
theorem dX7_has_18 : decode cX7_has 18 = .ok (.goto 4, 3) := by decide +kernel
theorem dX7_has_21 : decode cX7_has 21 = .ok (.iconst 0, 1) := by decide +kernel
theorem dX7_has_22 : decode cX7_has 22 = .ok (.ireturn, 1) := by decide +kernel
theorem dX7_rowOf_0 : decode cX7_rowOf 0 = .ok (.aload_n 0, 1) := by decide +kernel
theorem dX7_rowOf_1 : decode cX7_rowOf 1 = .ok (.getfield 17, 3) := by decide +kernel
theorem dX7_rowOf_4 : decode cX7_rowOf 4 = .ok (.iload_n 1, 1) := by decide +kernel
theorem dX7_rowOf_5 : decode cX7_rowOf 5 = .ok (.bipush 64, 2) := by decide +kernel
theorem dX7_rowOf_7 : decode cX7_rowOf 7 = .ok (.invokestatic 38, 3) := by decide +kernel
theorem dX7_rowOf_10 : decode cX7_rowOf 10 = .ok (.aaload, 1) := by decide +kernel
theorem dX7_rowOf_11 : decode cX7_rowOf 11 = .ok (.areturn, 1) := by decide +kernel
theorem dX7_keep_0 : decode cX7_keep 0 = .ok (.iload_n 1, 1) := by decide +kernel
theorem dX7_keep_1 : decode cX7_keep 1 = .ok (.bipush 64, 2) := by decide +kernel
theorem dX7_keep_3 : decode cX7_keep 3 = .ok (.invokestatic 38, 3) := by decide +kernel
theorem dX7_keep_6 : decode cX7_keep 6 = .ok (.istore_n 3, 1) := by decide +kernel
theorem dX7_keep_7 : decode cX7_keep 7 = .ok (.aload_n 0, 1) := by decide +kernel
theorem dX7_keep_8 : decode cX7_keep 8 = .ok (.getfield 9, 3) := by decide +kernel
theorem dX7_keep_11 : decode cX7_keep 11 = .ok (.iload_n 3, 1) := by decide +kernel
theorem dX7_keep_12 : decode cX7_keep 12 = .ok (.iload_n 1, 1) := by decide +kernel
theorem dX7_keep_13 : decode cX7_keep 13 = .ok (.iastore, 1) := by decide +kernel
theorem dX7_keep_14 : decode cX7_keep 14 = .ok (.aload_n 2, 1) := by decide +kernel
theorem dX7_keep_15 : decode cX7_keep 15 = .ok (.aload_n 0, 1) := by decide +kernel
theorem dX7_keep_16 : decode cX7_keep 16 = .ok (.getfield 17, 3) := by decide +kernel
theorem dX7_keep_19 : decode cX7_keep 19 = .ok (.iload_n 3, 1) := by decide +kernel
theorem dX7_keep_20 : decode cX7_keep 20 = .ok (.aaload, 1) := by decide +kernel
theorem dX7_keep_21 : decode cX7_keep 21 = .ok (.invokestatic 32, 3) := by decide +kernel
theorem dX7_keep_24 : decode cX7_keep 24 = .ok (.return_, 1) := by decide +kernel
theorem dX7_dropUpTo_0 : decode cX7_dropUpTo 0 = .ok (.iconst 0, 1) := by decide +kernel
theorem dX7_dropUpTo_1 : decode cX7_dropUpTo 1 = .ok (.istore_n 2, 1) := by decide +kernel
theorem dX7_dropUpTo_2 : decode cX7_dropUpTo 2 = .ok (.iload_n 2, 1) := by decide +kernel
theorem dX7_dropUpTo_3 : decode cX7_dropUpTo 3 = .ok (.bipush 64, 2) := by decide +kernel
theorem dX7_dropUpTo_5 : decode cX7_dropUpTo 5 = .ok (.if_icmp .ge 26, 3) := by decide +kernel
theorem dX7_dropUpTo_8 : decode cX7_dropUpTo 8 = .ok (.aload_n 0, 1) := by decide +kernel
theorem dX7_dropUpTo_9 : decode cX7_dropUpTo 9 = .ok (.getfield 9, 3) := by decide +kernel
theorem dX7_dropUpTo_12 : decode cX7_dropUpTo 12 = .ok (.iload_n 2, 1) := by decide +kernel
theorem dX7_dropUpTo_13 : decode cX7_dropUpTo 13 = .ok (.iaload, 1) := by decide +kernel
theorem dX7_dropUpTo_14 : decode cX7_dropUpTo 14 = .ok (.iload_n 1, 1) := by decide +kernel
theorem dX7_dropUpTo_15 : decode cX7_dropUpTo 15 = .ok (.if_icmp .gt 10, 3) := by decide +kernel
theorem dX7_dropUpTo_18 : decode cX7_dropUpTo 18 = .ok (.aload_n 0, 1) := by decide +kernel
theorem dX7_dropUpTo_19 : decode cX7_dropUpTo 19 = .ok (.getfield 9, 3) := by decide +kernel
theorem dX7_dropUpTo_22 : decode cX7_dropUpTo 22 = .ok (.iload_n 2, 1) := by decide +kernel
theorem dX7_dropUpTo_23 : decode cX7_dropUpTo 23 = .ok (.iconst (-1), 1) := by decide +kernel
theorem dX7_dropUpTo_24 : decode cX7_dropUpTo 24 = .ok (.iastore, 1) := by decide +kernel
theorem dX7_dropUpTo_25 : decode cX7_dropUpTo 25 = .ok (.iinc 2 1, 3) := by decide +kernel
theorem dX7_dropUpTo_28 : decode cX7_dropUpTo 28 = .ok (.goto (-26), 3) := by decide +kernel
theorem dX7_dropUpTo_31 : decode cX7_dropUpTo 31 = .ok (.return_, 1) := by decide +kernel
theorem dX7_size_0 : decode cX7_size 0 = .ok (.iconst 0, 1) := by decide +kernel
theorem dX7_size_1 : decode cX7_size 1 = .ok (.istore_n 1, 1) := by decide +kernel
theorem dX7_size_2 : decode cX7_size 2 = .ok (.iconst 0, 1) := by decide +kernel
theorem dX7_size_3 : decode cX7_size 3 = .ok (.istore_n 2, 1) := by decide +kernel
theorem dX7_size_4 : decode cX7_size 4 = .ok (.iload_n 2, 1) := by decide +kernel
theorem dX7_size_5 : decode cX7_size 5 = .ok (.bipush 64, 2) := by decide +kernel
theorem dX7_size_7 : decode cX7_size 7 = .ok (.if_icmp .ge 22, 3) := by decide +kernel
theorem dX7_size_10 : decode cX7_size 10 = .ok (.aload_n 0, 1) := by decide +kernel
theorem dX7_size_11 : decode cX7_size 11 = .ok (.getfield 9, 3) := by decide +kernel
theorem dX7_size_14 : decode cX7_size 14 = .ok (.iload_n 2, 1) := by decide +kernel
theorem dX7_size_15 : decode cX7_size 15 = .ok (.iaload, 1) := by decide +kernel
theorem dX7_size_16 : decode cX7_size 16 = .ok (.iconst (-1), 1) := by decide +kernel
theorem dX7_size_17 : decode cX7_size 17 = .ok (.if_icmp .eq 6, 3) := by decide +kernel
theorem dX7_size_20 : decode cX7_size 20 = .ok (.iinc 1 1, 3) := by decide +kernel
theorem dX7_size_23 : decode cX7_size 23 = .ok (.iinc 2 1, 3) := by decide +kernel
theorem dX7_size_26 : decode cX7_size 26 = .ok (.goto (-22), 3) := by decide +kernel
theorem dX7_size_29 : decode cX7_size 29 = .ok (.iload_n 1, 1) := by decide +kernel
theorem dX7_size_30 : decode cX7_size 30 = .ok (.ireturn, 1) := by decide +kernel
theorem dX7_valueOf_0 : decode cX7_valueOf 0 = .ok (.aload_n 0, 1) := by decide +kernel
theorem dX7_valueOf_1 : decode cX7_valueOf 1 = .ok (.iload_n 1, 1) := by decide +kernel
theorem dX7_valueOf_2 : decode cX7_valueOf 2 = .ok (.invokevirtual 44, 3) := by decide +kernel
theorem dX7_valueOf_5 : decode cX7_valueOf 5 = .ok (.ifCond .eq 13, 3) := by decide +kernel
theorem dX7_valueOf_8 : decode cX7_valueOf 8 = .ok (.aload_n 0, 1) := by decide +kernel
theorem dX7_valueOf_9 : decode cX7_valueOf 9 = .ok (.iload_n 1, 1) := by decide +kernel
theorem dX7_valueOf_10 : decode cX7_valueOf 10 = .ok (.invokevirtual 48, 3) := by decide +kernel
theorem dX7_valueOf_13 : decode cX7_valueOf 13 = .ok (.iload_n 2, 1) := by decide +kernel
theorem dX7_valueOf_14 : decode cX7_valueOf 14 = .ok (.iaload, 1) := by decide +kernel
theorem dX7_valueOf_15 : decode cX7_valueOf 15 = .ok (.goto 4, 3) := by decide +kernel
theorem dX7_valueOf_18 : decode cX7_valueOf 18 = .ok (.iconst (-1), 1) := by decide +kernel
theorem dX7_valueOf_19 : decode cX7_valueOf 19 = .ok (.ireturn, 1) := by decide +kernel
theorem dX8_init_0 : decode cX8_init 0 = .ok (.aload_n 0, 1) := by decide +kernel
theorem dX8_init_1 : decode cX8_init 1 = .ok (.invokespecial 1, 3) := by decide +kernel
theorem dX8_init_4 : decode cX8_init 4 = .ok (.new 7, 3) := by decide +kernel
theorem dX8_init_7 : decode cX8_init 7 = .ok (.dup, 1) := by decide +kernel
theorem dX8_init_8 : decode cX8_init 8 = .ok (.invokespecial 9, 3) := by decide +kernel
theorem dX8_init_11 : decode cX8_init 11 = .ok (.astore_n 1, 1) := by decide +kernel
theorem dX8_init_12 : decode cX8_init 12 = .ok (.aload_n 0, 1) := by decide +kernel
theorem dX8_init_13 : decode cX8_init 13 = .ok (.new 10, 3) := by decide +kernel
theorem dX8_init_16 : decode cX8_init 16 = .ok (.dup, 1) := by decide +kernel
theorem dX8_init_17 : decode cX8_init 17 = .ok (.aload_n 1, 1) := by decide +kernel
theorem dX8_init_18 : decode cX8_init 18 = .ok (.invokespecial 12, 3) := by decide +kernel
theorem dX8_init_21 : decode cX8_init 21 = .ok (.putfield 15, 3) := by decide +kernel
theorem dX8_init_24 : decode cX8_init 24 = .ok (.aload_n 0, 1) := by decide +kernel
theorem dX8_init_25 : decode cX8_init 25 = .ok (.iconst 5, 1) := by decide +kernel
theorem dX8_init_26 : decode cX8_init 26 = .ok (.anewarray 10, 3) := by decide +kernel
theorem dX8_init_29 : decode cX8_init 29 = .ok (.putfield 21, 3) := by decide +kernel
theorem dX8_init_32 : decode cX8_init 32 = .ok (.iconst 0, 1) := by decide +kernel
theorem dX8_init_33 : decode cX8_init 33 = .ok (.istore_n 2, 1) := by decide +kernel
theorem dX8_init_34 : decode cX8_init 34 = .ok (.iload_n 2, 1) := by decide +kernel
theorem dX8_init_35 : decode cX8_init 35 = .ok (.iconst 5, 1) := by decide +kernel
theorem dX8_init_36 : decode cX8_init 36 = .ok (.if_icmp .ge 23, 3) := by decide +kernel
theorem dX8_init_39 : decode cX8_init 39 = .ok (.aload_n 0, 1) := by decide +kernel
theorem dX8_init_40 : decode cX8_init 40 = .ok (.getfield 21, 3) := by decide +kernel
theorem dX8_init_43 : decode cX8_init 43 = .ok (.iload_n 2, 1) := by decide +kernel
theorem dX8_init_44 : decode cX8_init 44 = .ok (.new 10, 3) := by decide +kernel
theorem dX8_init_47 : decode cX8_init 47 = .ok (.dup, 1) := by decide +kernel
theorem dX8_init_48 : decode cX8_init 48 = .ok (.aload_n 1, 1) := by decide +kernel
theorem dX8_init_49 : decode cX8_init 49 = .ok (.invokespecial 12, 3) := by decide +kernel
theorem dX8_init_52 : decode cX8_init 52 = .ok (.aastore, 1) := by decide +kernel
theorem dX8_init_53 : decode cX8_init 53 = .ok (.iinc 2 1, 3) := by decide +kernel
theorem dX8_init_56 : decode cX8_init 56 = .ok (.goto (-22), 3) := by decide +kernel
theorem dX8_init_59 : decode cX8_init 59 = .ok (.aload_n 0, 1) := by decide +kernel
theorem dX8_init_60 : decode cX8_init 60 = .ok (.new 25, 3) := by decide +kernel
theorem dX8_init_63 : decode cX8_init 63 = .ok (.dup, 1) := by decide +kernel
theorem dX8_init_64 : decode cX8_init 64 = .ok (.invokespecial 27, 3) := by decide +kernel
theorem dX8_init_67 : decode cX8_init 67 = .ok (.putfield 28, 3) := by decide +kernel
theorem dX8_init_70 : decode cX8_init 70 = .ok (.return_, 1) := by decide +kernel
theorem dX8_setField_0 : decode cX8_setField 0 = .ok (.iload_n 1, 1) := by decide +kernel
theorem dX8_setField_1 : decode cX8_setField 1 = .ok (.iconst 0, 1) := by decide +kernel
theorem dX8_setField_2 : decode cX8_setField 2 = .ok (.iconst 3, 1) := by decide +kernel
theorem dX8_setField_3 : decode cX8_setField 3 = .ok (.invokestatic 32, 3) := by decide +kernel
theorem dX8_setField_6 : decode cX8_setField 6 = .ok (.ifCond .ne 13, 3) := by decide +kernel
theorem dX8_setField_9 : decode cX8_setField 9 = .ok (.new 36, 3) := by decide +kernel
theorem dX8_setField_12 : decode cX8_setField 12 = .ok (.dup, 1) := by decide +kernel
theorem dX8_setField_13 : decode cX8_setField 13 = .ok (.ldc 38, 2) := by decide +kernel
theorem dX8_setField_15 : decode cX8_setField 15 = .ok (.invokespecial 40, 3) := by decide +kernel
theorem dX8_setField_18 : decode cX8_setField 18 = .ok (.athrow, 1) := by decide +kernel
theorem dX8_setField_19 : decode cX8_setField 19 = .ok (.iload_n 2, 1) := by decide +kernel
theorem dX8_setField_20 : decode cX8_setField 20 = .ok (.iconst 0, 1) := by decide +kernel
theorem dX8_setField_21 : decode cX8_setField 21 = .ok (.iload_n 1, 1) := by decide +kernel
theorem dX8_setField_22 : decode cX8_setField 22 = .ok (.invokestatic 43, 3) := by decide +kernel
theorem dX8_setField_25 : decode cX8_setField 25 = .ok (.invokestatic 32, 3) := by decide +kernel
theorem dX8_setField_28 : decode cX8_setField 28 = .ok (.ifCond .ne 13, 3) := by decide +kernel
theorem dX8_setField_31 : decode cX8_setField 31 = .ok (.new 47, 3) := by decide +kernel
theorem dX8_setField_34 : decode cX8_setField 34 = .ok (.dup, 1) := by decide +kernel
theorem dX8_setField_35 : decode cX8_setField 35 = .ok (.ldc 49, 2) := by decide +kernel
theorem dX8_setField_37 : decode cX8_setField 37 = .ok (.invokespecial 51, 3) := by decide +kernel
theorem dX8_setField_40 : decode cX8_setField 40 = .ok (.athrow, 1) := by decide +kernel
theorem dX8_setField_41 : decode cX8_setField 41 = .ok (.aload_n 0, 1) := by decide +kernel
theorem dX8_setField_42 : decode cX8_setField 42 = .ok (.invokevirtual 52, 3) := by decide +kernel
theorem dX8_setField_45 : decode cX8_setField 45 = .ok (.aload_n 0, 1) := by decide +kernel
theorem dX8_setField_46 : decode cX8_setField 46 = .ok (.getfield 15, 3) := by decide +kernel
theorem dX8_setField_49 : decode cX8_setField 49 = .ok (.getfield 55, 3) := by decide +kernel
theorem dX8_setField_52 : decode cX8_setField 52 = .ok (.getfield 59, 3) := by decide +kernel
theorem dX8_setField_55 : decode cX8_setField 55 = .ok (.iload_n 1, 1) := by decide +kernel
theorem dX8_setField_56 : decode cX8_setField 56 = .ok (.iaload, 1) := by decide +kernel
theorem dX8_setField_57 : decode cX8_setField 57 = .ok (.istore_n 3, 1) := by decide +kernel
theorem dX8_setField_58 : decode cX8_setField 58 = .ok (.aload_n 0, 1) := by decide +kernel
theorem dX8_setField_59 : decode cX8_setField 59 = .ok (.getfield 15, 3) := by decide +kernel
theorem dX8_setField_62 : decode cX8_setField 62 = .ok (.getfield 55, 3) := by decide +kernel
theorem dX8_setField_65 : decode cX8_setField 65 = .ok (.getfield 59, 3) := by decide +kernel
theorem dX8_setField_68 : decode cX8_setField 68 = .ok (.iload_n 1, 1) := by decide +kernel
theorem dX8_setField_69 : decode cX8_setField 69 = .ok (.iload_n 2, 1) := by decide +kernel
theorem dX8_setField_70 : decode cX8_setField 70 = .ok (.iastore, 1) := by decide +kernel
theorem dX8_setField_71 : decode cX8_setField 71 = .ok (.iload_n 3, 1) := by decide +kernel
theorem dX8_setField_72 : decode cX8_setField 72 = .ok (.ireturn, 1) := by decide +kernel
theorem dX8_setStrides_0 : decode cX8_setStrides 0 = .ok (.iload_n 1, 1) := by decide +kernel
theorem dX8_setStrides_1 : decode cX8_setStrides 1 = .ok (.iconst 0, 1) := by decide +kernel
theorem dX8_setStrides_2 : decode cX8_setStrides 2 = .ok (.sipush 255, 3) := by decide +kernel
theorem dX8_setStrides_5 : decode cX8_setStrides 5 = .ok (.invokestatic 32, 3) := by decide +kernel
theorem dX8_setStrides_8 : decode cX8_setStrides 8 = .ok (.ifCond .eq 14, 3) := by decide +kernel
theorem dX8_setStrides_11 : decode cX8_setStrides 11 = .ok (.iload_n 2, 1) := by decide +kernel
theorem dX8_setStrides_12 : decode cX8_setStrides 12 = .ok (.iconst 0, 1) := by decide +kernel
theorem dX8_setStrides_13 : decode cX8_setStrides 13 = .ok (.sipush 4095, 3) := by decide +kernel
theorem dX8_setStrides_16 : decode cX8_setStrides 16 = .ok (.invokestatic 32, 3) := by decide +kernel
theorem dX8_setStrides_19 : decode cX8_setStrides 19 = .ok (.ifCond .ne 13, 3) := by decide +kernel
theorem dX8_setStrides_22 : decode cX8_setStrides 22 = .ok (.new 47, 3) := by decide +kernel
theorem dX8_setStrides_25 : decode cX8_setStrides 25 = .ok (.dup, 1) := by decide +kernel
theorem dX8_setStrides_26 : decode cX8_setStrides 26 = .ok (.ldc 65, 2) := by decide +kernel
theorem dX8_setStrides_28 : decode cX8_setStrides 28 = .ok (.invokespecial 51, 3) := by decide +kernel
theorem dX8_setStrides_31 : decode cX8_setStrides 31 = .ok (.athrow, 1) := by decide +kernel
theorem dX8_setStrides_32 : decode cX8_setStrides 32 = .ok (.aload_n 0, 1) := by decide +kernel
theorem dX8_setStrides_33 : decode cX8_setStrides 33 = .ok (.invokevirtual 52, 3) := by decide +kernel
theorem dX8_setStrides_36 : decode cX8_setStrides 36 = .ok (.aload_n 0, 1) := by decide +kernel
theorem dX8_setStrides_37 : decode cX8_setStrides 37 = .ok (.getfield 15, 3) := by decide +kernel
theorem dX8_setStrides_40 : decode cX8_setStrides 40 = .ok (.getfield 55, 3) := by decide +kernel
theorem dX8_setStrides_43 : decode cX8_setStrides 43 = .ok (.getfield 59, 3) := by decide +kernel
theorem dX8_setStrides_46 : decode cX8_setStrides 46 = .ok (.iconst 5, 1) := by decide +kernel
theorem dX8_setStrides_47 : decode cX8_setStrides 47 = .ok (.iaload, 1) := by decide +kernel
theorem dX8_setStrides_48 : decode cX8_setStrides 48 = .ok (.istore_n 3, 1) := by decide +kernel
theorem dX8_setStrides_49 : decode cX8_setStrides 49 = .ok (.aload_n 0, 1) := by decide +kernel
theorem dX8_setStrides_50 : decode cX8_setStrides 50 = .ok (.getfield 15, 3) := by decide +kernel
theorem dX8_setStrides_53 : decode cX8_setStrides 53 = .ok (.getfield 55, 3) := by decide +kernel
theorem dX8_setStrides_56 : decode cX8_setStrides 56 = .ok (.getfield 59, 3) := by decide +kernel
theorem dX8_setStrides_59 : decode cX8_setStrides 59 = .ok (.iconst 4, 1) := by decide +kernel
theorem dX8_setStrides_60 : decode cX8_setStrides 60 = .ok (.iload_n 1, 1) := by decide +kernel
theorem dX8_setStrides_61 : decode cX8_setStrides 61 = .ok (.iastore, 1) := by decide +kernel
theorem dX8_setStrides_62 : decode cX8_setStrides 62 = .ok (.aload_n 0, 1) := by decide +kernel
theorem dX8_setStrides_63 : decode cX8_setStrides 63 = .ok (.getfield 15, 3) := by decide +kernel
theorem dX8_setStrides_66 : decode cX8_setStrides 66 = .ok (.getfield 55, 3) := by decide +kernel
theorem dX8_setStrides_69 : decode cX8_setStrides 69 = .ok (.getfield 59, 3) := by decide +kernel
theorem dX8_setStrides_72 : decode cX8_setStrides 72 = .ok (.iconst 5, 1) := by decide +kernel
theorem dX8_setStrides_73 : decode cX8_setStrides 73 = .ok (.iload_n 2, 1) := by decide +kernel
theorem dX8_setStrides_74 : decode cX8_setStrides 74 = .ok (.iastore, 1) := by decide +kernel
theorem dX8_setStrides_75 : decode cX8_setStrides 75 = .ok (.iload_n 3, 1) := by decide +kernel
theorem dX8_setStrides_76 : decode cX8_setStrides 76 = .ok (.ireturn, 1) := by decide +kernel
theorem dX8_setPolicy_0 : decode cX8_setPolicy 0 = .ok (.iload_n 1, 1) := by decide +kernel
theorem dX8_setPolicy_1 : decode cX8_setPolicy 1 = .ok (.iconst 0, 1) := by decide +kernel
theorem dX8_setPolicy_2 : decode cX8_setPolicy 2 = .ok (.iconst 2, 1) := by decide +kernel
theorem dX8_setPolicy_3 : decode cX8_setPolicy 3 = .ok (.invokestatic 32, 3) := by decide +kernel
theorem dX8_setPolicy_6 : decode cX8_setPolicy 6 = .ok (.ifCond .eq 13, 3) := by decide +kernel
theorem dX8_setPolicy_9 : decode cX8_setPolicy 9 = .ok (.iload_n 2, 1) := by decide +kernel
theorem dX8_setPolicy_10 : decode cX8_setPolicy 10 = .ok (.iconst 0, 1) := by decide +kernel
theorem dX8_setPolicy_11 : decode cX8_setPolicy 11 = .ok (.bipush 15, 2) := by decide +kernel
theorem dX8_setPolicy_13 : decode cX8_setPolicy 13 = .ok (.invokestatic 32, 3) := by decide +kernel
theorem dX8_setPolicy_16 : decode cX8_setPolicy 16 = .ok (.ifCond .ne 13, 3) := by decide +kernel
theorem dX8_setPolicy_19 : decode cX8_setPolicy 19 = .ok (.new 47, 3) := by decide +kernel
theorem dX8_setPolicy_22 : decode cX8_setPolicy 22 = .ok (.dup, 1) := by decide +kernel
theorem dX8_setPolicy_23 : decode cX8_setPolicy 23 = .ok (.ldc 67, 2) := by decide +kernel
theorem dX8_setPolicy_25 : decode cX8_setPolicy 25 = .ok (.invokespecial 51, 3) := by decide +kernel
theorem dX8_setPolicy_28 : decode cX8_setPolicy 28 = .ok (.athrow, 1) := by decide +kernel
theorem dX8_setPolicy_29 : decode cX8_setPolicy 29 = .ok (.aload_n 0, 1) := by decide +kernel
theorem dX8_setPolicy_30 : decode cX8_setPolicy 30 = .ok (.invokevirtual 52, 3) := by decide +kernel
theorem dX8_setPolicy_33 : decode cX8_setPolicy 33 = .ok (.aload_n 0, 1) := by decide +kernel
theorem dX8_setPolicy_34 : decode cX8_setPolicy 34 = .ok (.getfield 15, 3) := by decide +kernel
theorem dX8_setPolicy_37 : decode cX8_setPolicy 37 = .ok (.getfield 55, 3) := by decide +kernel
theorem dX8_setPolicy_40 : decode cX8_setPolicy 40 = .ok (.getfield 69, 3) := by decide +kernel
theorem dX8_setPolicy_43 : decode cX8_setPolicy 43 = .ok (.istore_n 3, 1) := by decide +kernel
theorem dX8_setPolicy_44 : decode cX8_setPolicy 44 = .ok (.aload_n 0, 1) := by decide +kernel
theorem dX8_setPolicy_45 : decode cX8_setPolicy 45 = .ok (.getfield 15, 3) := by decide +kernel
theorem dX8_setPolicy_48 : decode cX8_setPolicy 48 = .ok (.getfield 55, 3) := by decide +kernel
theorem dX8_setPolicy_51 : decode cX8_setPolicy 51 = .ok (.iload_n 1, 1) := by decide +kernel
theorem dX8_setPolicy_52 : decode cX8_setPolicy 52 = .ok (.putfield 69, 3) := by decide +kernel
theorem dX8_setPolicy_55 : decode cX8_setPolicy 55 = .ok (.aload_n 0, 1) := by decide +kernel
theorem dX8_setPolicy_56 : decode cX8_setPolicy 56 = .ok (.getfield 15, 3) := by decide +kernel
theorem dX8_setPolicy_59 : decode cX8_setPolicy 59 = .ok (.getfield 55, 3) := by decide +kernel
theorem dX8_setPolicy_62 : decode cX8_setPolicy 62 = .ok (.iload_n 2, 1) := by decide +kernel
theorem dX8_setPolicy_63 : decode cX8_setPolicy 63 = .ok (.putfield 73, 3) := by decide +kernel
theorem dX8_setPolicy_66 : decode cX8_setPolicy 66 = .ok (.iload_n 3, 1) := by decide +kernel
theorem dX8_setPolicy_67 : decode cX8_setPolicy 67 = .ok (.ireturn, 1) := by decide +kernel
theorem dX8_advance_0 : decode cX8_advance 0 = .ok (.aload_n 0, 1) := by decide +kernel
theorem dX8_advance_1 : decode cX8_advance 1 = .ok (.invokevirtual 52, 3) := by decide +kernel
theorem dX8_advance_4 : decode cX8_advance 4 = .ok (.aload_n 0, 1) := by decide +kernel
theorem dX8_advance_5 : decode cX8_advance 5 = .ok (.getfield 15, 3) := by decide +kernel
theorem dX8_advance_8 : decode cX8_advance 8 = .ok (.getfield 55, 3) := by decide +kernel
theorem dX8_advance_11 : decode cX8_advance 11 = .ok (.invokevirtual 76, 3) := by decide +kernel
theorem dX8_advance_14 : decode cX8_advance 14 = .ok (.aload_n 0, 1) := by decide +kernel
theorem dX8_advance_15 : decode cX8_advance 15 = .ok (.getfield 15, 3) := by decide +kernel
theorem dX8_advance_18 : decode cX8_advance 18 = .ok (.getfield 55, 3) := by decide +kernel
theorem dX8_advance_21 : decode cX8_advance 21 = .ok (.getfield 59, 3) := by decide +kernel
theorem dX8_advance_24 : decode cX8_advance 24 = .ok (.iconst 1, 1) := by decide +kernel
theorem dX8_advance_25 : decode cX8_advance 25 = .ok (.iaload, 1) := by decide +kernel
theorem dX8_advance_26 : decode cX8_advance 26 = .ok (.ireturn, 1) := by decide +kernel
theorem dX8_send_0 : decode cX8_send 0 = .ok (.aload_n 0, 1) := by decide +kernel
theorem dX8_send_1 : decode cX8_send 1 = .ok (.getfield 15, 3) := by decide +kernel
theorem dX8_send_4 : decode cX8_send 4 = .ok (.iconst 1, 1) := by decide +kernel
theorem dX8_send_5 : decode cX8_send 5 = .ok (.invokevirtual 79, 3) := by decide +kernel
theorem dX8_send_8 : decode cX8_send 8 = .ok (.ifCond .ne 13, 3) := by decide +kernel
theorem dX8_send_11 : decode cX8_send 11 = .ok (.new 83, 3) := by decide +kernel
theorem dX8_send_14 : decode cX8_send 14 = .ok (.dup, 1) := by decide +kernel
theorem dX8_send_15 : decode cX8_send 15 = .ok (.ldc 85, 2) := by decide +kernel
theorem dX8_send_17 : decode cX8_send 17 = .ok (.invokespecial 87, 3) := by decide +kernel
theorem dX8_send_20 : decode cX8_send 20 = .ok (.athrow, 1) := by decide +kernel
theorem dX8_send_21 : decode cX8_send 21 = .ok (.aload_n 0, 1) := by decide +kernel
theorem dX8_send_22 : decode cX8_send 22 = .ok (.invokevirtual 52, 3) := by decide +kernel
theorem dX8_send_25 : decode cX8_send 25 = .ok (.aload_n 0, 1) := by decide +kernel
theorem dX8_send_26 : decode cX8_send 26 = .ok (.getfield 15, 3) := by decide +kernel
theorem dX8_send_29 : decode cX8_send 29 = .ok (.invokevirtual 88, 3) := by decide +kernel
theorem dX8_send_32 : decode cX8_send 32 = .ok (.ireturn, 1) := by decide +kernel
theorem dX8_stream_0 : decode cX8_stream 0 = .ok (.iload_n 1, 1) := by decide +kernel
theorem dX8_stream_1 : decode cX8_stream 1 = .ok (.iconst 1, 1) := by decide +kernel
theorem dX8_stream_2 : decode cX8_stream 2 = .ok (.bipush 20, 2) := by decide +kernel
theorem dX8_stream_4 : decode cX8_stream 4 = .ok (.invokestatic 32, 3) := by decide +kernel
theorem dX8_stream_7 : decode cX8_stream 7 = .ok (.ifCond .ne 13, 3) := by decide +kernel
theorem dX8_stream_10 : decode cX8_stream 10 = .ok (.new 47, 3) := by decide +kernel
theorem dX8_stream_13 : decode cX8_stream 13 = .ok (.dup, 1) := by decide +kernel
theorem dX8_stream_14 : decode cX8_stream 14 = .ok (.ldc 92, 2) := by decide +kernel
theorem dX8_stream_16 : decode cX8_stream 16 = .ok (.invokespecial 51, 3) := by decide +kernel
theorem dX8_stream_19 : decode cX8_stream 19 = .ok (.athrow, 1) := by decide +kernel
theorem dX8_stream_20 : decode cX8_stream 20 = .ok (.aload_n 0, 1) := by decide +kernel
theorem dX8_stream_21 : decode cX8_stream 21 = .ok (.getfield 15, 3) := by decide +kernel
theorem dX8_stream_24 : decode cX8_stream 24 = .ok (.iload_n 1, 1) := by decide +kernel
theorem dX8_stream_25 : decode cX8_stream 25 = .ok (.invokevirtual 79, 3) := by decide +kernel
theorem dX8_stream_28 : decode cX8_stream 28 = .ok (.ifCond .ne 13, 3) := by decide +kernel
theorem dX8_stream_31 : decode cX8_stream 31 = .ok (.new 83, 3) := by decide +kernel
theorem dX8_stream_34 : decode cX8_stream 34 = .ok (.dup, 1) := by decide +kernel
theorem dX8_stream_35 : decode cX8_stream 35 = .ok (.ldc 94, 2) := by decide +kernel
theorem dX8_stream_37 : decode cX8_stream 37 = .ok (.invokespecial 87, 3) := by decide +kernel
theorem dX8_stream_40 : decode cX8_stream 40 = .ok (.athrow, 1) := by decide +kernel
theorem dX8_stream_41 : decode cX8_stream 41 = .ok (.aload_n 0, 1) := by decide +kernel
theorem dX8_stream_42 : decode cX8_stream 42 = .ok (.invokevirtual 52, 3) := by decide +kernel
theorem dX8_stream_45 : decode cX8_stream 45 = .ok (.iconst 0, 1) := by decide +kernel
theorem dX8_stream_46 : decode cX8_stream 46 = .ok (.istore_n 2, 1) := by decide +kernel
theorem dX8_stream_47 : decode cX8_stream 47 = .ok (.iload_n 2, 1) := by decide +kernel
theorem dX8_stream_48 : decode cX8_stream 48 = .ok (.iload_n 1, 1) := by decide +kernel
theorem dX8_stream_49 : decode cX8_stream 49 = .ok (.if_icmp .ge 27, 3) := by decide +kernel
theorem dX8_stream_52 : decode cX8_stream 52 = .ok (.aload_n 0, 1) := by decide +kernel
theorem dX8_stream_53 : decode cX8_stream 53 = .ok (.getfield 15, 3) := by decide +kernel
theorem dX8_stream_56 : decode cX8_stream 56 = .ok (.getfield 55, 3) := by decide +kernel
theorem dX8_stream_59 : decode cX8_stream 59 = .ok (.invokevirtual 76, 3) := by decide +kernel
theorem dX8_stream_62 : decode cX8_stream 62 = .ok (.aload_n 0, 1) := by decide +kernel
theorem dX8_stream_63 : decode cX8_stream 63 = .ok (.getfield 15, 3) := by decide +kernel
theorem dX8_stream_66 : decode cX8_stream 66 = .ok (.invokevirtual 88, 3) := by decide +kernel
theorem dX8_stream_69 : decode cX8_stream 69 = .ok (.pop, 1) := by decide +kernel
theorem dX8_stream_70 : decode cX8_stream 70 = .ok (.iinc 2 1, 3) := by decide +kernel
theorem dX8_stream_73 : decode cX8_stream 73 = .ok (.goto (-26), 3) := by decide +kernel
theorem dX8_stream_76 : decode cX8_stream 76 = .ok (.aload_n 0, 1) := by decide +kernel
theorem dX8_stream_77 : decode cX8_stream 77 = .ok (.getfield 15, 3) := by decide +kernel
theorem dX8_stream_80 : decode cX8_stream 80 = .ok (.getfield 96, 3) := by decide +kernel
theorem dX8_stream_83 : decode cX8_stream 83 = .ok (.getfield 100, 3) := by decide +kernel
theorem dX8_stream_86 : decode cX8_stream 86 = .ok (.ireturn, 1) := by decide +kernel
theorem dX8_field_0 : decode cX8_field 0 = .ok (.iload_n 1, 1) := by decide +kernel
theorem dX8_field_1 : decode cX8_field 1 = .ok (.iconst 0, 1) := by decide +kernel
theorem dX8_field_2 : decode cX8_field 2 = .ok (.iconst 3, 1) := by decide +kernel
theorem dX8_field_3 : decode cX8_field 3 = .ok (.invokestatic 32, 3) := by decide +kernel
theorem dX8_field_6 : decode cX8_field 6 = .ok (.ifCond .ne 13, 3) := by decide +kernel
theorem dX8_field_9 : decode cX8_field 9 = .ok (.new 36, 3) := by decide +kernel
theorem dX8_field_12 : decode cX8_field 12 = .ok (.dup, 1) := by decide +kernel
theorem dX8_field_13 : decode cX8_field 13 = .ok (.ldc 38, 2) := by decide +kernel
theorem dX8_field_15 : decode cX8_field 15 = .ok (.invokespecial 40, 3) := by decide +kernel
theorem dX8_field_18 : decode cX8_field 18 = .ok (.athrow, 1) := by decide +kernel
theorem dX8_field_19 : decode cX8_field 19 = .ok (.aload_n 0, 1) := by decide +kernel
theorem dX8_field_20 : decode cX8_field 20 = .ok (.getfield 15, 3) := by decide +kernel
theorem dX8_field_23 : decode cX8_field 23 = .ok (.getfield 55, 3) := by decide +kernel
theorem dX8_field_26 : decode cX8_field 26 = .ok (.getfield 59, 3) := by decide +kernel
theorem dX8_field_29 : decode cX8_field 29 = .ok (.iload_n 1, 1) := by decide +kernel
theorem dX8_field_30 : decode cX8_field 30 = .ok (.iaload, 1) := by decide +kernel
theorem dX8_field_31 : decode cX8_field 31 = .ok (.ireturn, 1) := by decide +kernel
theorem dX8_sizeWith_0 : decode cX8_sizeWith 0 = .ok (.iload_n 1, 1) := by decide +kernel
theorem dX8_sizeWith_1 : decode cX8_sizeWith 1 = .ok (.iconst 0, 1) := by decide +kernel
theorem dX8_sizeWith_2 : decode cX8_sizeWith 2 = .ok (.iconst 2, 1) := by decide +kernel
theorem dX8_sizeWith_3 : decode cX8_sizeWith 3 = .ok (.invokestatic 32, 3) := by decide +kernel
theorem dX8_sizeWith_6 : decode cX8_sizeWith 6 = .ok (.ifCond .eq 13, 3) := by decide +kernel
theorem dX8_sizeWith_9 : decode cX8_sizeWith 9 = .ok (.iload_n 2, 1) := by decide +kernel
theorem dX8_sizeWith_10 : decode cX8_sizeWith 10 = .ok (.iconst 0, 1) := by decide +kernel
theorem dX8_sizeWith_11 : decode cX8_sizeWith 11 = .ok (.bipush 15, 2) := by decide +kernel
theorem dX8_sizeWith_13 : decode cX8_sizeWith 13 = .ok (.invokestatic 32, 3) := by decide +kernel
theorem dX8_sizeWith_16 : decode cX8_sizeWith 16 = .ok (.ifCond .ne 13, 3) := by decide +kernel
theorem dX8_sizeWith_19 : decode cX8_sizeWith 19 = .ok (.new 47, 3) := by decide +kernel
theorem dX8_sizeWith_22 : decode cX8_sizeWith 22 = .ok (.dup, 1) := by decide +kernel
theorem dX8_sizeWith_23 : decode cX8_sizeWith 23 = .ok (.ldc 67, 2) := by decide +kernel
theorem dX8_sizeWith_25 : decode cX8_sizeWith 25 = .ok (.invokespecial 51, 3) := by decide +kernel
theorem dX8_sizeWith_28 : decode cX8_sizeWith 28 = .ok (.athrow, 1) := by decide +kernel
theorem dX8_sizeWith_29 : decode cX8_sizeWith 29 = .ok (.aload_n 0, 1) := by decide +kernel
theorem dX8_sizeWith_30 : decode cX8_sizeWith 30 = .ok (.getfield 15, 3) := by decide +kernel
theorem dX8_sizeWith_33 : decode cX8_sizeWith 33 = .ok (.getfield 55, 3) := by decide +kernel
theorem dX8_sizeWith_36 : decode cX8_sizeWith 36 = .ok (.aload_n 0, 1) := by decide +kernel
theorem dX8_sizeWith_37 : decode cX8_sizeWith 37 = .ok (.getfield 15, 3) := by decide +kernel
theorem dX8_sizeWith_40 : decode cX8_sizeWith 40 = .ok (.getfield 55, 3) := by decide +kernel
theorem dX8_sizeWith_43 : decode cX8_sizeWith 43 = .ok (.iload_n 1, 1) := by decide +kernel
theorem dX8_sizeWith_44 : decode cX8_sizeWith 44 = .ok (.iload_n 2, 1) := by decide +kernel
theorem dX8_sizeWith_45 : decode cX8_sizeWith 45 = .ok (.invokevirtual 105, 3) := by decide +kernel
theorem dX8_sizeWith_48 : decode cX8_sizeWith 48 = .ok (.iload_n 1, 1) := by decide +kernel
theorem dX8_sizeWith_49 : decode cX8_sizeWith 49 = .ok (.invokevirtual 109, 3) := by decide +kernel
theorem dX8_sizeWith_52 : decode cX8_sizeWith 52 = .ok (.ireturn, 1) := by decide +kernel
theorem dX8_reference_0 : decode cX8_reference 0 = .ok (.aload_n 0, 1) := by decide +kernel
theorem dX8_reference_1 : decode cX8_reference 1 = .ok (.getfield 15, 3) := by decide +kernel
theorem dX8_reference_4 : decode cX8_reference 4 = .ok (.getfield 55, 3) := by decide +kernel
theorem dX8_reference_7 : decode cX8_reference 7 = .ok (.aload_n 0, 1) := by decide +kernel
theorem dX8_reference_8 : decode cX8_reference 8 = .ok (.getfield 15, 3) := by decide +kernel
theorem dX8_reference_11 : decode cX8_reference 11 = .ok (.getfield 55, 3) := by decide +kernel
theorem dX8_reference_14 : decode cX8_reference 14 = .ok (.getfield 73, 3) := by decide +kernel
theorem dX8_reference_17 : decode cX8_reference 17 = .ok (.invokevirtual 112, 3) := by decide +kernel
theorem dX8_reference_20 : decode cX8_reference 20 = .ok (.ireturn, 1) := by decide +kernel
theorem dX8_sent_0 : decode cX8_sent 0 = .ok (.iload_n 1, 1) := by decide +kernel
theorem dX8_sent_1 : decode cX8_sent 1 = .ok (.iconst 0, 1) := by decide +kernel
theorem dX8_sent_2 : decode cX8_sent 2 = .ok (.aload_n 0, 1) := by decide +kernel
theorem dX8_sent_3 : decode cX8_sent 3 = .ok (.getfield 15, 3) := by decide +kernel
theorem dX8_sent_6 : decode cX8_sent 6 = .ok (.getfield 55, 3) := by decide +kernel
theorem dX8_sent_9 : decode cX8_sent 9 = .ok (.getfield 115, 3) := by decide +kernel
theorem dX8_sent_12 : decode cX8_sent 12 = .ok (.iconst 1, 1) := by decide +kernel
theorem dX8_sent_13 : decode cX8_sent 13 = .ok (.isub, 1) := by decide +kernel
theorem dX8_sent_14 : decode cX8_sent 14 = .ok (.invokestatic 32, 3) := by decide +kernel
theorem dX8_sent_17 : decode cX8_sent 17 = .ok (.ifCond .ne 13, 3) := by decide +kernel
theorem dX8_sent_20 : decode cX8_sent 20 = .ok (.new 36, 3) := by decide +kernel
theorem dX8_sent_23 : decode cX8_sent 23 = .ok (.dup, 1) := by decide +kernel
theorem dX8_sent_24 : decode cX8_sent 24 = .ok (.ldc 118, 2) := by decide +kernel
theorem dX8_sent_26 : decode cX8_sent 26 = .ok (.invokespecial 40, 3) := by decide +kernel
theorem dX8_sent_29 : decode cX8_sent 29 = .ok (.athrow, 1) := by decide +kernel
theorem dX8_sent_30 : decode cX8_sent 30 = .ok (.iload_n 2, 1) := by decide +kernel
theorem dX8_sent_31 : decode cX8_sent 31 = .ok (.iconst 0, 1) := by decide +kernel
theorem dX8_sent_32 : decode cX8_sent 32 = .ok (.bipush 7, 2) := by decide +kernel
theorem dX8_sent_34 : decode cX8_sent 34 = .ok (.invokestatic 32, 3) := by decide +kernel
theorem dX8_sent_37 : decode cX8_sent 37 = .ok (.ifCond .ne 13, 3) := by decide +kernel
theorem dX8_sent_40 : decode cX8_sent 40 = .ok (.new 47, 3) := by decide +kernel
theorem dX8_sent_43 : decode cX8_sent 43 = .ok (.dup, 1) := by decide +kernel
theorem dX8_sent_44 : decode cX8_sent 44 = .ok (.ldc 120, 2) := by decide +kernel
theorem dX8_sent_46 : decode cX8_sent 46 = .ok (.invokespecial 51, 3) := by decide +kernel
theorem dX8_sent_49 : decode cX8_sent 49 = .ok (.athrow, 1) := by decide +kernel
theorem dX8_sent_50 : decode cX8_sent 50 = .ok (.aload_n 0, 1) := by decide +kernel
theorem dX8_sent_51 : decode cX8_sent 51 = .ok (.getfield 15, 3) := by decide +kernel
theorem dX8_sent_54 : decode cX8_sent 54 = .ok (.getfield 55, 3) := by decide +kernel
theorem dX8_sent_57 : decode cX8_sent 57 = .ok (.iload_n 1, 1) := by decide +kernel
theorem dX8_sent_58 : decode cX8_sent 58 = .ok (.iload_n 2, 1) := by decide +kernel
theorem dX8_sent_59 : decode cX8_sent 59 = .ok (.invokevirtual 122, 3) := by decide +kernel
theorem dX8_sent_62 : decode cX8_sent 62 = .ok (.ireturn, 1) := by decide +kernel
theorem dX8_deliver_0 : decode cX8_deliver 0 = .ok (.aload_n 0, 1) := by decide +kernel
theorem dX8_deliver_1 : decode cX8_deliver 1 = .ok (.getfield 15, 3) := by decide +kernel
theorem dX8_deliver_4 : decode cX8_deliver 4 = .ok (.getfield 96, 3) := by decide +kernel
theorem dX8_deliver_7 : decode cX8_deliver 7 = .ok (.iload_n 1, 1) := by decide +kernel
theorem dX8_deliver_8 : decode cX8_deliver 8 = .ok (.invokevirtual 125, 3) := by decide +kernel
theorem dX8_deliver_11 : decode cX8_deliver 11 = .ok (.ifCond .ne 13, 3) := by decide +kernel
theorem dX8_deliver_14 : decode cX8_deliver 14 = .ok (.new 36, 3) := by decide +kernel
theorem dX8_deliver_17 : decode cX8_deliver 17 = .ok (.dup, 1) := by decide +kernel
theorem dX8_deliver_18 : decode cX8_deliver 18 = .ok (.ldc 128, 2) := by decide +kernel
theorem dX8_deliver_20 : decode cX8_deliver 20 = .ok (.invokespecial 40, 3) := by decide +kernel
theorem dX8_deliver_23 : decode cX8_deliver 23 = .ok (.athrow, 1) := by decide +kernel
theorem dX8_deliver_24 : decode cX8_deliver 24 = .ok (.aload_n 0, 1) := by decide +kernel
theorem dX8_deliver_25 : decode cX8_deliver 25 = .ok (.invokevirtual 52, 3) := by decide +kernel
theorem dX8_deliver_28 : decode cX8_deliver 28 = .ok (.aload_n 0, 1) := by decide +kernel
theorem dX8_deliver_29 : decode cX8_deliver 29 = .ok (.getfield 15, 3) := by decide +kernel
theorem dX8_deliver_32 : decode cX8_deliver 32 = .ok (.iload_n 1, 1) := by decide +kernel
theorem dX8_deliver_33 : decode cX8_deliver 33 = .ok (.invokevirtual 130, 3) := by decide +kernel
theorem dX8_deliver_36 : decode cX8_deliver 36 = .ok (.ireturn, 1) := by decide +kernel
theorem dX8_deliverAll_0 : decode cX8_deliverAll 0 = .ok (.aload_n 0, 1) := by decide +kernel
theorem dX8_deliverAll_1 : decode cX8_deliverAll 1 = .ok (.invokevirtual 52, 3) := by decide +kernel
theorem dX8_deliverAll_4 : decode cX8_deliverAll 4 = .ok (.aload_n 0, 1) := by decide +kernel
theorem dX8_deliverAll_5 : decode cX8_deliverAll 5 = .ok (.getfield 15, 3) := by decide +kernel
theorem dX8_deliverAll_8 : decode cX8_deliverAll 8 = .ok (.getfield 96, 3) := by decide +kernel
theorem dX8_deliverAll_11 : decode cX8_deliverAll 11 = .ok (.getfield 100, 3) := by decide +kernel
theorem dX8_deliverAll_14 : decode cX8_deliverAll 14 = .ok (.istore_n 1, 1) := by decide +kernel
theorem dX8_deliverAll_15 : decode cX8_deliverAll 15 = .ok (.iconst 0, 1) := by decide +kernel
theorem dX8_deliverAll_16 : decode cX8_deliverAll 16 = .ok (.istore_n 2, 1) := by decide +kernel
theorem dX8_deliverAll_17 : decode cX8_deliverAll 17 = .ok (.iconst 0, 1) := by decide +kernel
theorem dX8_deliverAll_18 : decode cX8_deliverAll 18 = .ok (.istore_n 3, 1) := by decide +kernel
theorem dX8_deliverAll_19 : decode cX8_deliverAll 19 = .ok (.iload_n 3, 1) := by decide +kernel
theorem dX8_deliverAll_20 : decode cX8_deliverAll 20 = .ok (.iload_n 1, 1) := by decide +kernel
theorem dX8_deliverAll_21 : decode cX8_deliverAll 21 = .ok (.if_icmp .ge 33, 3) := by decide +kernel
theorem dX8_deliverAll_24 : decode cX8_deliverAll 24 = .ok (.aload_n 0, 1) := by decide +kernel
theorem dX8_deliverAll_25 : decode cX8_deliverAll 25 = .ok (.getfield 15, 3) := by decide +kernel
theorem dX8_deliverAll_28 : decode cX8_deliverAll 28 = .ok (.iconst 0, 1) := by decide +kernel
theorem dX8_deliverAll_29 : decode cX8_deliverAll 29 = .ok (.invokevirtual 130, 3) := by decide +kernel
theorem dX8_deliverAll_32 : decode cX8_deliverAll 32 = .ok (.istore 4, 2) := by decide +kernel
theorem dX8_deliverAll_34 : decode cX8_deliverAll 34 = .ok (.iload 4, 2) := by decide +kernel
theorem dX8_deliverAll_36 : decode cX8_deliverAll 36 = .ok (.ifCond .eq 9, 3) := by decide +kernel
theorem dX8_deliverAll_39 : decode cX8_deliverAll 39 = .ok (.iload 4, 2) := by decide +kernel
theorem dX8_deliverAll_41 : decode cX8_deliverAll 41 = .ok (.iconst 1, 1) := by decide +kernel
theorem dX8_deliverAll_42 : decode cX8_deliverAll 42 = .ok (.if_icmp .ne 6, 3) := by decide +kernel
theorem dX8_deliverAll_45 : decode cX8_deliverAll 45 = .ok (.iinc 2 1, 3) := by decide +kernel
theorem dX8_deliverAll_48 : decode cX8_deliverAll 48 = .ok (.iinc 3 1, 3) := by decide +kernel
theorem dX8_deliverAll_51 : decode cX8_deliverAll 51 = .ok (.goto (-32), 3) := by decide +kernel
theorem dX8_deliverAll_54 : decode cX8_deliverAll 54 = .ok (.iload_n 2, 1) := by decide +kernel
theorem dX8_deliverAll_55 : decode cX8_deliverAll 55 = .ok (.ireturn, 1) := by decide +kernel
theorem dX8_lose_0 : decode cX8_lose 0 = .ok (.aload_n 0, 1) := by decide +kernel
theorem dX8_lose_1 : decode cX8_lose 1 = .ok (.getfield 15, 3) := by decide +kernel
theorem dX8_lose_4 : decode cX8_lose 4 = .ok (.getfield 96, 3) := by decide +kernel
theorem dX8_lose_7 : decode cX8_lose 7 = .ok (.iload_n 1, 1) := by decide +kernel
theorem dX8_lose_8 : decode cX8_lose 8 = .ok (.invokevirtual 125, 3) := by decide +kernel
theorem dX8_lose_11 : decode cX8_lose 11 = .ok (.ifCond .ne 13, 3) := by decide +kernel
theorem dX8_lose_14 : decode cX8_lose 14 = .ok (.new 36, 3) := by decide +kernel
theorem dX8_lose_17 : decode cX8_lose 17 = .ok (.dup, 1) := by decide +kernel
theorem dX8_lose_18 : decode cX8_lose 18 = .ok (.ldc 128, 2) := by decide +kernel
theorem dX8_lose_20 : decode cX8_lose 20 = .ok (.invokespecial 40, 3) := by decide +kernel
theorem dX8_lose_23 : decode cX8_lose 23 = .ok (.athrow, 1) := by decide +kernel
theorem dX8_lose_24 : decode cX8_lose 24 = .ok (.aload_n 0, 1) := by decide +kernel
theorem dX8_lose_25 : decode cX8_lose 25 = .ok (.invokevirtual 52, 3) := by decide +kernel
theorem dX8_lose_28 : decode cX8_lose 28 = .ok (.aload_n 0, 1) := by decide +kernel
theorem dX8_lose_29 : decode cX8_lose 29 = .ok (.getfield 15, 3) := by decide +kernel
theorem dX8_lose_32 : decode cX8_lose 32 = .ok (.getfield 96, 3) := by decide +kernel
theorem dX8_lose_35 : decode cX8_lose 35 = .ok (.iload_n 1, 1) := by decide +kernel
theorem dX8_lose_36 : decode cX8_lose 36 = .ok (.invokevirtual 133, 3) := by decide +kernel
theorem dX8_lose_39 : decode cX8_lose 39 = .ok (.ireturn, 1) := by decide +kernel
theorem dX8_copy_0 : decode cX8_copy 0 = .ok (.aload_n 0, 1) := by decide +kernel
theorem dX8_copy_1 : decode cX8_copy 1 = .ok (.getfield 15, 3) := by decide +kernel
theorem dX8_copy_4 : decode cX8_copy 4 = .ok (.getfield 96, 3) := by decide +kernel
theorem dX8_copy_7 : decode cX8_copy 7 = .ok (.iload_n 1, 1) := by decide +kernel
theorem dX8_copy_8 : decode cX8_copy 8 = .ok (.invokevirtual 125, 3) := by decide +kernel
theorem dX8_copy_11 : decode cX8_copy 11 = .ok (.ifCond .ne 13, 3) := by decide +kernel
theorem dX8_copy_14 : decode cX8_copy 14 = .ok (.new 36, 3) := by decide +kernel
theorem dX8_copy_17 : decode cX8_copy 17 = .ok (.dup, 1) := by decide +kernel
theorem dX8_copy_18 : decode cX8_copy 18 = .ok (.ldc 128, 2) := by decide +kernel
theorem dX8_copy_20 : decode cX8_copy 20 = .ok (.invokespecial 40, 3) := by decide +kernel
theorem dX8_copy_23 : decode cX8_copy 23 = .ok (.athrow, 1) := by decide +kernel
theorem dX8_copy_24 : decode cX8_copy 24 = .ok (.aload_n 0, 1) := by decide +kernel
theorem dX8_copy_25 : decode cX8_copy 25 = .ok (.getfield 15, 3) := by decide +kernel
theorem dX8_copy_28 : decode cX8_copy 28 = .ok (.getfield 96, 3) := by decide +kernel
theorem dX8_copy_31 : decode cX8_copy 31 = .ok (.invokevirtual 136, 3) := by decide +kernel
theorem dX8_copy_34 : decode cX8_copy 34 = .ok (.ifCond .eq 13, 3) := by decide +kernel
theorem dX8_copy_37 : decode cX8_copy 37 = .ok (.new 83, 3) := by decide +kernel
theorem dX8_copy_40 : decode cX8_copy 40 = .ok (.dup, 1) := by decide +kernel
theorem dX8_copy_41 : decode cX8_copy 41 = .ok (.ldc 140, 2) := by decide +kernel
theorem dX8_copy_43 : decode cX8_copy 43 = .ok (.invokespecial 87, 3) := by decide +kernel
theorem dX8_copy_46 : decode cX8_copy 46 = .ok (.athrow, 1) := by decide +kernel
theorem dX8_copy_47 : decode cX8_copy 47 = .ok (.aload_n 0, 1) := by decide +kernel
theorem dX8_copy_48 : decode cX8_copy 48 = .ok (.invokevirtual 52, 3) := by decide +kernel
theorem dX8_copy_51 : decode cX8_copy 51 = .ok (.aload_n 0, 1) := by decide +kernel
theorem dX8_copy_52 : decode cX8_copy 52 = .ok (.getfield 15, 3) := by decide +kernel
theorem dX8_copy_55 : decode cX8_copy 55 = .ok (.getfield 96, 3) := by decide +kernel
theorem dX8_copy_58 : decode cX8_copy 58 = .ok (.aload_n 0, 1) := by decide +kernel
theorem dX8_copy_59 : decode cX8_copy 59 = .ok (.getfield 15, 3) := by decide +kernel
theorem dX8_copy_62 : decode cX8_copy 62 = .ok (.getfield 96, 3) := by decide +kernel
theorem dX8_copy_65 : decode cX8_copy 65 = .ok (.getfield 142, 3) := by decide +kernel
theorem dX8_copy_68 : decode cX8_copy 68 = .ok (.iload_n 1, 1) := by decide +kernel
theorem dX8_copy_69 : decode cX8_copy 69 = .ok (.iaload, 1) := by decide +kernel
theorem dX8_copy_70 : decode cX8_copy 70 = .ok (.invokevirtual 145, 3) := by decide +kernel
theorem dX8_copy_73 : decode cX8_copy 73 = .ok (.aload_n 0, 1) := by decide +kernel
theorem dX8_copy_74 : decode cX8_copy 74 = .ok (.getfield 15, 3) := by decide +kernel
theorem dX8_copy_77 : decode cX8_copy 77 = .ok (.getfield 96, 3) := by decide +kernel
theorem dX8_copy_80 : decode cX8_copy 80 = .ok (.getfield 100, 3) := by decide +kernel
theorem dX8_copy_83 : decode cX8_copy 83 = .ok (.ireturn, 1) := by decide +kernel
theorem dX8_deliverBack_0 : decode cX8_deliverBack 0 = .ok (.aload_n 0, 1) := by decide +kernel
theorem dX8_deliverBack_1 : decode cX8_deliverBack 1 = .ok (.getfield 15, 3) := by decide +kernel
theorem dX8_deliverBack_4 : decode cX8_deliverBack 4 = .ok (.getfield 149, 3) := by decide +kernel
theorem dX8_deliverBack_7 : decode cX8_deliverBack 7 = .ok (.iload_n 1, 1) := by decide +kernel
theorem dX8_deliverBack_8 : decode cX8_deliverBack 8 = .ok (.invokevirtual 125, 3) := by decide +kernel
theorem dX8_deliverBack_11 : decode cX8_deliverBack 11 = .ok (.ifCond .ne 13, 3) := by decide +kernel
theorem dX8_deliverBack_14 : decode cX8_deliverBack 14 = .ok (.new 36, 3) := by decide +kernel
theorem dX8_deliverBack_17 : decode cX8_deliverBack 17 = .ok (.dup, 1) := by decide +kernel
theorem dX8_deliverBack_18 : decode cX8_deliverBack 18 = .ok (.ldc 152, 2) := by decide +kernel
theorem dX8_deliverBack_20 : decode cX8_deliverBack 20 = .ok (.invokespecial 40, 3) := by decide +kernel
theorem dX8_deliverBack_23 : decode cX8_deliverBack 23 = .ok (.athrow, 1) := by decide +kernel
theorem dX8_deliverBack_24 : decode cX8_deliverBack 24 = .ok (.aload_n 0, 1) := by decide +kernel
theorem dX8_deliverBack_25 : decode cX8_deliverBack 25 = .ok (.invokevirtual 52, 3) := by decide +kernel
theorem dX8_deliverBack_28 : decode cX8_deliverBack 28 = .ok (.aload_n 0, 1) := by decide +kernel
theorem dX8_deliverBack_29 : decode cX8_deliverBack 29 = .ok (.getfield 15, 3) := by decide +kernel
theorem dX8_deliverBack_32 : decode cX8_deliverBack 32 = .ok (.iload_n 1, 1) := by decide +kernel
theorem dX8_deliverBack_33 : decode cX8_deliverBack 33 = .ok (.invokevirtual 154, 3) := by decide +kernel
theorem dX8_deliverBack_36 : decode cX8_deliverBack 36 = .ok (.ireturn, 1) := by decide +kernel
theorem dX8_loseBack_0 : decode cX8_loseBack 0 = .ok (.aload_n 0, 1) := by decide +kernel
theorem dX8_loseBack_1 : decode cX8_loseBack 1 = .ok (.getfield 15, 3) := by decide +kernel
theorem dX8_loseBack_4 : decode cX8_loseBack 4 = .ok (.getfield 149, 3) := by decide +kernel
theorem dX8_loseBack_7 : decode cX8_loseBack 7 = .ok (.iload_n 1, 1) := by decide +kernel
theorem dX8_loseBack_8 : decode cX8_loseBack 8 = .ok (.invokevirtual 125, 3) := by decide +kernel
theorem dX8_loseBack_11 : decode cX8_loseBack 11 = .ok (.ifCond .ne 13, 3) := by decide +kernel
theorem dX8_loseBack_14 : decode cX8_loseBack 14 = .ok (.new 36, 3) := by decide +kernel
theorem dX8_loseBack_17 : decode cX8_loseBack 17 = .ok (.dup, 1) := by decide +kernel
theorem dX8_loseBack_18 : decode cX8_loseBack 18 = .ok (.ldc 152, 2) := by decide +kernel
theorem dX8_loseBack_20 : decode cX8_loseBack 20 = .ok (.invokespecial 40, 3) := by decide +kernel
theorem dX8_loseBack_23 : decode cX8_loseBack 23 = .ok (.athrow, 1) := by decide +kernel
theorem dX8_loseBack_24 : decode cX8_loseBack 24 = .ok (.aload_n 0, 1) := by decide +kernel
theorem dX8_loseBack_25 : decode cX8_loseBack 25 = .ok (.invokevirtual 52, 3) := by decide +kernel
theorem dX8_loseBack_28 : decode cX8_loseBack 28 = .ok (.aload_n 0, 1) := by decide +kernel
theorem dX8_loseBack_29 : decode cX8_loseBack 29 = .ok (.getfield 15, 3) := by decide +kernel
theorem dX8_loseBack_32 : decode cX8_loseBack 32 = .ok (.getfield 149, 3) := by decide +kernel
theorem dX8_loseBack_35 : decode cX8_loseBack 35 = .ok (.iload_n 1, 1) := by decide +kernel
theorem dX8_loseBack_36 : decode cX8_loseBack 36 = .ok (.invokevirtual 133, 3) := by decide +kernel
theorem dX8_loseBack_39 : decode cX8_loseBack 39 = .ok (.ireturn, 1) := by decide +kernel
theorem dX8_waiting_0 : decode cX8_waiting 0 = .ok (.aload_n 0, 1) := by decide +kernel
theorem dX8_waiting_1 : decode cX8_waiting 1 = .ok (.iload_n 1, 1) := by decide +kernel
theorem dX8_waiting_2 : decode cX8_waiting 2 = .ok (.invokevirtual 157, 3) := by decide +kernel
theorem dX8_waiting_5 : decode cX8_waiting 5 = .ok (.getfield 100, 3) := by decide +kernel
theorem dX8_waiting_8 : decode cX8_waiting 8 = .ok (.ireturn, 1) := by decide +kernel
theorem dX8_waitingAt_0 : decode cX8_waitingAt 0 = .ok (.aload_n 0, 1) := by decide +kernel
theorem dX8_waitingAt_1 : decode cX8_waitingAt 1 = .ok (.iload_n 1, 1) := by decide +kernel
theorem dX8_waitingAt_2 : decode cX8_waitingAt 2 = .ok (.invokevirtual 157, 3) := by decide +kernel
theorem dX8_waitingAt_5 : decode cX8_waitingAt 5 = .ok (.astore_n 3, 1) := by decide +kernel
theorem dX8_waitingAt_6 : decode cX8_waitingAt 6 = .ok (.aload_n 3, 1) := by decide +kernel
theorem dX8_waitingAt_7 : decode cX8_waitingAt 7 = .ok (.iload_n 2, 1) := by decide +kernel
theorem dX8_waitingAt_8 : decode cX8_waitingAt 8 = .ok (.invokevirtual 125, 3) := by decide +kernel
theorem dX8_waitingAt_11 : decode cX8_waitingAt 11 = .ok (.ifCond .ne 13, 3) := by decide +kernel
theorem dX8_waitingAt_14 : decode cX8_waitingAt 14 = .ok (.new 36, 3) := by decide +kernel
theorem dX8_waitingAt_17 : decode cX8_waitingAt 17 = .ok (.dup, 1) := by decide +kernel
theorem dX8_waitingAt_18 : decode cX8_waitingAt 18 = .ok (.ldc 161, 2) := by decide +kernel
theorem dX8_waitingAt_20 : decode cX8_waitingAt 20 = .ok (.invokespecial 40, 3) := by decide +kernel
theorem dX8_waitingAt_23 : decode cX8_waitingAt 23 = .ok (.athrow, 1) := by decide +kernel
theorem dX8_waitingAt_24 : decode cX8_waitingAt 24 = .ok (.aload_n 3, 1) := by decide +kernel
theorem dX8_waitingAt_25 : decode cX8_waitingAt 25 = .ok (.getfield 142, 3) := by decide +kernel
theorem dX8_waitingAt_28 : decode cX8_waitingAt 28 = .ok (.iload_n 2, 1) := by decide +kernel
theorem dX8_waitingAt_29 : decode cX8_waitingAt 29 = .ok (.iaload, 1) := by decide +kernel
theorem dX8_waitingAt_30 : decode cX8_waitingAt 30 = .ok (.ireturn, 1) := by decide +kernel
theorem dX8_setReceiver_0 : decode cX8_setReceiver 0 = .ok (.iload_n 1, 1) := by decide +kernel
theorem dX8_setReceiver_1 : decode cX8_setReceiver 1 = .ok (.iconst 0, 1) := by decide +kernel
theorem dX8_setReceiver_2 : decode cX8_setReceiver 2 = .ok (.bipush 15, 2) := by decide +kernel
theorem dX8_setReceiver_4 : decode cX8_setReceiver 4 = .ok (.invokestatic 32, 3) := by decide +kernel
theorem dX8_setReceiver_7 : decode cX8_setReceiver 7 = .ok (.ifCond .eq 23, 3) := by decide +kernel
theorem dX8_setReceiver_10 : decode cX8_setReceiver 10 = .ok (.iload_n 2, 1) := by decide +kernel
theorem dX8_setReceiver_11 : decode cX8_setReceiver 11 = .ok (.iconst 1, 1) := by decide +kernel
theorem dX8_setReceiver_12 : decode cX8_setReceiver 12 = .ok (.bipush 16, 2) := by decide +kernel
theorem dX8_setReceiver_14 : decode cX8_setReceiver 14 = .ok (.invokestatic 32, 3) := by decide +kernel
theorem dX8_setReceiver_17 : decode cX8_setReceiver 17 = .ok (.ifCond .eq 13, 3) := by decide +kernel
theorem dX8_setReceiver_20 : decode cX8_setReceiver 20 = .ok (.iload_n 3, 1) := by decide +kernel
theorem dX8_setReceiver_21 : decode cX8_setReceiver 21 = .ok (.iconst 1, 1) := by decide +kernel
theorem dX8_setReceiver_22 : decode cX8_setReceiver 22 = .ok (.bipush 8, 2) := by decide +kernel
theorem dX8_setReceiver_24 : decode cX8_setReceiver 24 = .ok (.invokestatic 32, 3) := by decide +kernel
theorem dX8_setReceiver_27 : decode cX8_setReceiver 27 = .ok (.ifCond .ne 13, 3) := by decide +kernel
theorem dX8_setReceiver_30 : decode cX8_setReceiver 30 = .ok (.new 47, 3) := by decide +kernel
theorem dX8_setReceiver_33 : decode cX8_setReceiver 33 = .ok (.dup, 1) := by decide +kernel
theorem dX8_setReceiver_34 : decode cX8_setReceiver 34 = .ok (.ldc 163, 2) := by decide +kernel
theorem dX8_setReceiver_36 : decode cX8_setReceiver 36 = .ok (.invokespecial 51, 3) := by decide +kernel
theorem dX8_setReceiver_39 : decode cX8_setReceiver 39 = .ok (.athrow, 1) := by decide +kernel
theorem dX8_setReceiver_40 : decode cX8_setReceiver 40 = .ok (.aload_n 0, 1) := by decide +kernel
theorem dX8_setReceiver_41 : decode cX8_setReceiver 41 = .ok (.invokevirtual 52, 3) := by decide +kernel
theorem dX8_setReceiver_44 : decode cX8_setReceiver 44 = .ok (.aload_n 0, 1) := by decide +kernel
theorem dX8_setReceiver_45 : decode cX8_setReceiver 45 = .ok (.getfield 15, 3) := by decide +kernel
theorem dX8_setReceiver_48 : decode cX8_setReceiver 48 = .ok (.getfield 165, 3) := by decide +kernel
theorem dX8_setReceiver_51 : decode cX8_setReceiver 51 = .ok (.getfield 169, 3) := by decide +kernel
theorem dX8_setReceiver_54 : decode cX8_setReceiver 54 = .ok (.istore 4, 2) := by decide +kernel
theorem dX8_setReceiver_56 : decode cX8_setReceiver 56 = .ok (.aload_n 0, 1) := by decide +kernel
theorem dX8_setReceiver_57 : decode cX8_setReceiver 57 = .ok (.getfield 15, 3) := by decide +kernel
theorem dX8_setReceiver_60 : decode cX8_setReceiver 60 = .ok (.getfield 165, 3) := by decide +kernel
theorem dX8_setReceiver_63 : decode cX8_setReceiver 63 = .ok (.iload_n 1, 1) := by decide +kernel
theorem dX8_setReceiver_64 : decode cX8_setReceiver 64 = .ok (.putfield 169, 3) := by decide +kernel
theorem dX8_setReceiver_67 : decode cX8_setReceiver 67 = .ok (.aload_n 0, 1) := by decide +kernel
theorem dX8_setReceiver_68 : decode cX8_setReceiver 68 = .ok (.getfield 15, 3) := by decide +kernel
theorem dX8_setReceiver_71 : decode cX8_setReceiver 71 = .ok (.getfield 165, 3) := by decide +kernel
theorem dX8_setReceiver_74 : decode cX8_setReceiver 74 = .ok (.iload_n 2, 1) := by decide +kernel
theorem dX8_setReceiver_75 : decode cX8_setReceiver 75 = .ok (.putfield 174, 3) := by decide +kernel
theorem dX8_setReceiver_78 : decode cX8_setReceiver 78 = .ok (.aload_n 0, 1) := by decide +kernel
theorem dX8_setReceiver_79 : decode cX8_setReceiver 79 = .ok (.getfield 15, 3) := by decide +kernel
theorem dX8_setReceiver_82 : decode cX8_setReceiver 82 = .ok (.getfield 165, 3) := by decide +kernel
theorem dX8_setReceiver_85 : decode cX8_setReceiver 85 = .ok (.iload_n 3, 1) := by decide +kernel
theorem dX8_setReceiver_86 : decode cX8_setReceiver 86 = .ok (.putfield 177, 3) := by decide +kernel
theorem dX8_setReceiver_89 : decode cX8_setReceiver 89 = .ok (.iload 4, 2) := by decide +kernel
theorem dX8_setReceiver_91 : decode cX8_setReceiver 91 = .ok (.ireturn, 1) := by decide +kernel
theorem dX8_highest_0 : decode cX8_highest 0 = .ok (.aload_n 0, 1) := by decide +kernel
theorem dX8_highest_1 : decode cX8_highest 1 = .ok (.getfield 15, 3) := by decide +kernel
theorem dX8_highest_4 : decode cX8_highest 4 = .ok (.getfield 165, 3) := by decide +kernel
theorem dX8_highest_7 : decode cX8_highest 7 = .ok (.getfield 180, 3) := by decide +kernel
theorem dX8_highest_10 : decode cX8_highest 10 = .ok (.ireturn, 1) := by decide +kernel
theorem dX8_record_0 : decode cX8_record 0 = .ok (.iload_n 1, 1) := by decide +kernel
theorem dX8_record_1 : decode cX8_record 1 = .ok (.iconst 0, 1) := by decide +kernel
theorem dX8_record_2 : decode cX8_record 2 = .ok (.sipush 999, 3) := by decide +kernel
theorem dX8_record_5 : decode cX8_record 5 = .ok (.invokestatic 32, 3) := by decide +kernel
theorem dX8_record_8 : decode cX8_record 8 = .ok (.ifCond .eq 12, 3) := by decide +kernel
theorem dX8_record_11 : decode cX8_record 11 = .ok (.iload_n 2, 1) := by decide +kernel
theorem dX8_record_12 : decode cX8_record 12 = .ok (.iconst 0, 1) := by decide +kernel
theorem dX8_record_13 : decode cX8_record 13 = .ok (.iconst 5, 1) := by decide +kernel
theorem dX8_record_14 : decode cX8_record 14 = .ok (.invokestatic 32, 3) := by decide +kernel
theorem dX8_record_17 : decode cX8_record 17 = .ok (.ifCond .ne 13, 3) := by decide +kernel
theorem dX8_record_20 : decode cX8_record 20 = .ok (.new 47, 3) := by decide +kernel
theorem dX8_record_23 : decode cX8_record 23 = .ok (.dup, 1) := by decide +kernel
theorem dX8_record_24 : decode cX8_record 24 = .ok (.ldc 183, 2) := by decide +kernel
theorem dX8_record_26 : decode cX8_record 26 = .ok (.invokespecial 51, 3) := by decide +kernel
theorem dX8_record_29 : decode cX8_record 29 = .ok (.athrow, 1) := by decide +kernel
theorem dX8_record_30 : decode cX8_record 30 = .ok (.aload_n 0, 1) := by decide +kernel
theorem dX8_record_31 : decode cX8_record 31 = .ok (.getfield 15, 3) := by decide +kernel
theorem dX8_record_34 : decode cX8_record 34 = .ok (.getfield 165, 3) := by decide +kernel
theorem dX8_record_37 : decode cX8_record 37 = .ok (.getfield 185, 3) := by decide +kernel
theorem dX8_record_40 : decode cX8_record 40 = .ok (.iload_n 1, 1) := by decide +kernel
theorem dX8_record_41 : decode cX8_record 41 = .ok (.iload_n 2, 1) := by decide +kernel
theorem dX8_record_42 : decode cX8_record 42 = .ok (.invokevirtual 189, 3) := by decide +kernel
theorem dX8_record_45 : decode cX8_record 45 = .ok (.ireturn, 1) := by decide +kernel
theorem dX8_records_0 : decode cX8_records 0 = .ok (.aload_n 0, 1) := by decide +kernel
theorem dX8_records_1 : decode cX8_records 1 = .ok (.getfield 15, 3) := by decide +kernel
theorem dX8_records_4 : decode cX8_records 4 = .ok (.getfield 165, 3) := by decide +kernel
theorem dX8_records_7 : decode cX8_records 7 = .ok (.getfield 185, 3) := by decide +kernel
theorem dX8_records_10 : decode cX8_records 10 = .ok (.invokevirtual 194, 3) := by decide +kernel
theorem dX8_records_13 : decode cX8_records 13 = .ok (.ireturn, 1) := by decide +kernel
theorem dX8_numberFor_0 : decode cX8_numberFor 0 = .ok (.iload_n 1, 1) := by decide +kernel
theorem dX8_numberFor_1 : decode cX8_numberFor 1 = .ok (.iconst 0, 1) := by decide +kernel
theorem dX8_numberFor_2 : decode cX8_numberFor 2 = .ok (.bipush 63, 2) := by decide +kernel
theorem dX8_numberFor_4 : decode cX8_numberFor 4 = .ok (.invokestatic 32, 3) := by decide +kernel
theorem dX8_numberFor_7 : decode cX8_numberFor 7 = .ok (.ifCond .ne 13, 3) := by decide +kernel
theorem dX8_numberFor_10 : decode cX8_numberFor 10 = .ok (.new 47, 3) := by decide +kernel
theorem dX8_numberFor_13 : decode cX8_numberFor 13 = .ok (.dup, 1) := by decide +kernel
theorem dX8_numberFor_14 : decode cX8_numberFor 14 = .ok (.ldc 197, 2) := by decide +kernel
theorem dX8_numberFor_16 : decode cX8_numberFor 16 = .ok (.invokespecial 51, 3) := by decide +kernel
theorem dX8_numberFor_19 : decode cX8_numberFor 19 = .ok (.athrow, 1) := by decide +kernel
theorem dX8_numberFor_20 : decode cX8_numberFor 20 = .ok (.aload_n 0, 1) := by decide +kernel
theorem dX8_numberFor_21 : decode cX8_numberFor 21 = .ok (.getfield 15, 3) := by decide +kernel
theorem dX8_numberFor_24 : decode cX8_numberFor 24 = .ok (.getfield 165, 3) := by decide +kernel
theorem dX8_numberFor_27 : decode cX8_numberFor 27 = .ok (.iload_n 1, 1) := by decide +kernel
theorem dX8_numberFor_28 : decode cX8_numberFor 28 = .ok (.invokevirtual 199, 3) := by decide +kernel
theorem dX8_numberFor_31 : decode cX8_numberFor 31 = .ok (.ireturn, 1) := by decide +kernel
theorem dX8_count_0 : decode cX8_count 0 = .ok (.iload_n 1, 1) := by decide +kernel
theorem dX8_count_1 : decode cX8_count 1 = .ok (.iconst 0, 1) := by decide +kernel
theorem dX8_count_2 : decode cX8_count 2 = .ok (.bipush 7, 2) := by decide +kernel
theorem dX8_count_4 : decode cX8_count 4 = .ok (.invokestatic 32, 3) := by decide +kernel
theorem dX8_count_7 : decode cX8_count 7 = .ok (.ifCond .ne 13, 3) := by decide +kernel
theorem dX8_count_10 : decode cX8_count 10 = .ok (.new 47, 3) := by decide +kernel
theorem dX8_count_13 : decode cX8_count 13 = .ok (.dup, 1) := by decide +kernel
theorem dX8_count_14 : decode cX8_count 14 = .ok (.ldc 120, 2) := by decide +kernel
theorem dX8_count_16 : decode cX8_count 16 = .ok (.invokespecial 51, 3) := by decide +kernel
theorem dX8_count_19 : decode cX8_count 19 = .ok (.athrow, 1) := by decide +kernel
theorem dX8_count_20 : decode cX8_count 20 = .ok (.aload_n 0, 1) := by decide +kernel
theorem dX8_count_21 : decode cX8_count 21 = .ok (.getfield 15, 3) := by decide +kernel
theorem dX8_count_24 : decode cX8_count 24 = .ok (.iload_n 1, 1) := by decide +kernel
theorem dX8_count_25 : decode cX8_count 25 = .ok (.invokevirtual 202, 3) := by decide +kernel
theorem dX8_count_28 : decode cX8_count 28 = .ok (.ireturn, 1) := by decide +kernel
theorem dX8_saved_0 : decode cX8_saved 0 = .ok (.aload_n 0, 1) := by decide +kernel
theorem dX8_saved_1 : decode cX8_saved 1 = .ok (.getfield 15, 3) := by decide +kernel
theorem dX8_saved_4 : decode cX8_saved 4 = .ok (.getfield 55, 3) := by decide +kernel
theorem dX8_saved_7 : decode cX8_saved 7 = .ok (.invokevirtual 205, 3) := by decide +kernel
theorem dX8_saved_10 : decode cX8_saved 10 = .ok (.ireturn, 1) := by decide +kernel
theorem dX8_lateness_0 : decode cX8_lateness 0 = .ok (.aload_n 0, 1) := by decide +kernel
theorem dX8_lateness_1 : decode cX8_lateness 1 = .ok (.getfield 15, 3) := by decide +kernel
theorem dX8_lateness_4 : decode cX8_lateness 4 = .ok (.getfield 165, 3) := by decide +kernel
theorem dX8_lateness_7 : decode cX8_lateness 7 = .ok (.getfield 208, 3) := by decide +kernel
theorem dX8_lateness_10 : decode cX8_lateness 10 = .ok (.ireturn, 1) := by decide +kernel
theorem dX8_meanSize_0 : decode cX8_meanSize 0 = .ok (.aload_n 0, 1) := by decide +kernel
theorem dX8_meanSize_1 : decode cX8_meanSize 1 = .ok (.getfield 15, 3) := by decide +kernel
theorem dX8_meanSize_4 : decode cX8_meanSize 4 = .ok (.getfield 55, 3) := by decide +kernel
theorem dX8_meanSize_7 : decode cX8_meanSize 7 = .ok (.getfield 115, 3) := by decide +kernel
theorem dX8_meanSize_10 : decode cX8_meanSize 10 = .ok (.istore_n 1, 1) := by decide +kernel
theorem dX8_meanSize_11 : decode cX8_meanSize 11 = .ok (.iload_n 1, 1) := by decide +kernel
theorem dX8_meanSize_12 : decode cX8_meanSize 12 = .ok (.ifCond .ne 7, 3) := by decide +kernel
theorem dX8_meanSize_15 : decode cX8_meanSize 15 = .ok (.dconst 0, 1) := by decide +kernel
theorem dX8_meanSize_16 : decode cX8_meanSize 16 = .ok (.goto 17, 3) := by decide +kernel
theorem dX8_meanSize_19 : decode cX8_meanSize 19 = .ok (.aload_n 0, 1) := by decide +kernel
theorem dX8_meanSize_20 : decode cX8_meanSize 20 = .ok (.getfield 15, 3) := by decide +kernel
theorem dX8_meanSize_23 : decode cX8_meanSize 23 = .ok (.getfield 55, 3) := by decide +kernel
theorem dX8_meanSize_26 : decode cX8_meanSize 26 = .ok (.getfield 211, 3) := by decide +kernel
theorem dX8_meanSize_29 : decode cX8_meanSize 29 = .ok (.i2d, 1) := by decide +kernel
theorem dX8_meanSize_30 : decode cX8_meanSize 30 = .ok (.iload_n 1, 1) := by decide +kernel
theorem dX8_meanSize_31 : decode cX8_meanSize 31 = .ok (.i2d, 1) := by decide +kernel
theorem dX8_meanSize_32 : decode cX8_meanSize 32 = .ok (.ddiv, 1) := by decide +kernel
theorem dX8_meanSize_33 : decode cX8_meanSize 33 = .ok (.dreturn, 1) := by decide +kernel
theorem dX8_append_0 : decode cX8_append 0 = .ok (.iload_n 1, 1) := by decide +kernel
theorem dX8_append_1 : decode cX8_append 1 = .ok (.iconst 0, 1) := by decide +kernel
theorem dX8_append_2 : decode cX8_append 2 = .ok (.bipush 127, 2) := by decide +kernel
theorem dX8_append_4 : decode cX8_append 4 = .ok (.invokestatic 32, 3) := by decide +kernel
theorem dX8_append_7 : decode cX8_append 7 = .ok (.ifCond .ne 13, 3) := by decide +kernel
theorem dX8_append_10 : decode cX8_append 10 = .ok (.new 47, 3) := by decide +kernel
theorem dX8_append_13 : decode cX8_append 13 = .ok (.dup, 1) := by decide +kernel
theorem dX8_append_14 : decode cX8_append 14 = .ok (.ldc 49, 2) := by decide +kernel
theorem dX8_append_16 : decode cX8_append 16 = .ok (.invokespecial 51, 3) := by decide +kernel
theorem dX8_append_19 : decode cX8_append 19 = .ok (.athrow, 1) := by decide +kernel
theorem dX8_append_20 : decode cX8_append 20 = .ok (.aload_n 0, 1) := by decide +kernel
theorem dX8_append_21 : decode cX8_append 21 = .ok (.getfield 28, 3) := by decide +kernel
theorem dX8_append_24 : decode cX8_append 24 = .ok (.getfield 214, 3) := by decide +kernel
theorem dX8_append_27 : decode cX8_append 27 = .ok (.bipush 100, 2) := by decide +kernel
theorem dX8_append_29 : decode cX8_append 29 = .ok (.if_icmp .lt 13, 3) := by decide +kernel
theorem dX8_append_32 : decode cX8_append 32 = .ok (.new 83, 3) := by decide +kernel
theorem dX8_append_35 : decode cX8_append 35 = .ok (.dup, 1) := by decide +kernel
theorem dX8_append_36 : decode cX8_append 36 = .ok (.ldc 215, 2) := by decide +kernel
theorem dX8_append_38 : decode cX8_append 38 = .ok (.invokespecial 87, 3) := by decide +kernel
theorem dX8_append_41 : decode cX8_append 41 = .ok (.athrow, 1) := by decide +kernel
theorem dX8_append_42 : decode cX8_append 42 = .ok (.aload_n 0, 1) := by decide +kernel
theorem dX8_append_43 : decode cX8_append 43 = .ok (.getfield 28, 3) := by decide +kernel
theorem dX8_append_46 : decode cX8_append 46 = .ok (.getfield 217, 3) := by decide +kernel
theorem dX8_append_49 : decode cX8_append 49 = .ok (.aload_n 0, 1) := by decide +kernel
theorem dX8_append_50 : decode cX8_append 50 = .ok (.getfield 28, 3) := by decide +kernel
theorem dX8_append_53 : decode cX8_append 53 = .ok (.getfield 214, 3) := by decide +kernel
theorem dX8_append_56 : decode cX8_append 56 = .ok (.iload_n 1, 1) := by decide +kernel
theorem dX8_append_57 : decode cX8_append 57 = .ok (.iastore, 1) := by decide +kernel
theorem dX8_append_58 : decode cX8_append 58 = .ok (.aload_n 0, 1) := by decide +kernel
theorem dX8_append_59 : decode cX8_append 59 = .ok (.getfield 28, 3) := by decide +kernel
theorem dX8_append_62 : decode cX8_append 62 = .ok (.dup, 1) := by decide +kernel
theorem dX8_append_63 : decode cX8_append 63 = .ok (.getfield 214, 3) := by decide +kernel
theorem dX8_append_66 : decode cX8_append 66 = .ok (.iconst 1, 1) := by decide +kernel
theorem dX8_append_67 : decode cX8_append 67 = .ok (.iadd, 1) := by decide +kernel
theorem dX8_append_68 : decode cX8_append 68 = .ok (.putfield 214, 3) := by decide +kernel
theorem dX8_append_71 : decode cX8_append 71 = .ok (.aload_n 0, 1) := by decide +kernel
theorem dX8_append_72 : decode cX8_append 72 = .ok (.getfield 28, 3) := by decide +kernel
theorem dX8_append_75 : decode cX8_append 75 = .ok (.getfield 214, 3) := by decide +kernel
theorem dX8_append_78 : decode cX8_append 78 = .ok (.ireturn, 1) := by decide +kernel
theorem dX8_clearText_0 : decode cX8_clearText 0 = .ok (.aload_n 0, 1) := by decide +kernel
theorem dX8_clearText_1 : decode cX8_clearText 1 = .ok (.getfield 28, 3) := by decide +kernel
theorem dX8_clearText_4 : decode cX8_clearText 4 = .ok (.getfield 214, 3) := by decide +kernel
theorem dX8_clearText_7 : decode cX8_clearText 7 = .ok (.istore_n 1, 1) := by decide +kernel
theorem dX8_clearText_8 : decode cX8_clearText 8 = .ok (.aload_n 0, 1) := by decide +kernel
theorem dX8_clearText_9 : decode cX8_clearText 9 = .ok (.getfield 28, 3) := by decide +kernel
theorem dX8_clearText_12 : decode cX8_clearText 12 = .ok (.iconst 0, 1) := by decide +kernel
theorem dX8_clearText_13 : decode cX8_clearText 13 = .ok (.putfield 214, 3) := by decide +kernel
theorem dX8_clearText_16 : decode cX8_clearText 16 = .ok (.iload_n 1, 1) := by decide +kernel
theorem dX8_clearText_17 : decode cX8_clearText 17 = .ok (.ireturn, 1) := by decide +kernel
theorem dX8_carryOut_0 : decode cX8_carryOut 0 = .ok (.aload_n 0, 1) := by decide +kernel
theorem dX8_carryOut_1 : decode cX8_carryOut 1 = .ok (.getfield 28, 3) := by decide +kernel
theorem dX8_carryOut_4 : decode cX8_carryOut 4 = .ok (.invokevirtual 220, 3) := by decide +kernel
theorem dX8_carryOut_7 : decode cX8_carryOut 7 = .ok (.istore_n 1, 1) := by decide +kernel
theorem dX8_carryOut_8 : decode cX8_carryOut 8 = .ok (.iload_n 1, 1) := by decide +kernel
theorem dX8_carryOut_9 : decode cX8_carryOut 9 = .ok (.iconst (-1), 1) := by decide +kernel
theorem dX8_carryOut_10 : decode cX8_carryOut 10 = .ok (.if_icmp .eq 8, 3) := by decide +kernel
theorem dX8_carryOut_13 : decode cX8_carryOut 13 = .ok (.bipush (-10), 2) := by decide +kernel
theorem dX8_carryOut_15 : decode cX8_carryOut 15 = .ok (.iload_n 1, 1) := by decide +kernel
theorem dX8_carryOut_16 : decode cX8_carryOut 16 = .ok (.isub, 1) := by decide +kernel
theorem dX8_carryOut_17 : decode cX8_carryOut 17 = .ok (.ireturn, 1) := by decide +kernel
theorem dX8_carryOut_18 : decode cX8_carryOut 18 = .ok (.aload_n 0, 1) := by decide +kernel
theorem dX8_carryOut_19 : decode cX8_carryOut 19 = .ok (.getfield 21, 3) := by decide +kernel
theorem dX8_carryOut_22 : decode cX8_carryOut 22 = .ok (.aload_n 0, 1) := by decide +kernel
theorem dX8_carryOut_23 : decode cX8_carryOut 23 = .ok (.invokevirtual 223, 3) := by decide +kernel
theorem dX8_carryOut_26 : decode cX8_carryOut 26 = .ok (.aaload, 1) := by decide +kernel
theorem dX8_carryOut_27 : decode cX8_carryOut 27 = .ok (.astore_n 2, 1) := by decide +kernel
theorem dX8_carryOut_28 : decode cX8_carryOut 28 = .ok (.aload_n 2, 1) := by decide +kernel
theorem dX8_carryOut_29 : decode cX8_carryOut 29 = .ok (.aload_n 0, 1) := by decide +kernel
theorem dX8_carryOut_30 : decode cX8_carryOut 30 = .ok (.getfield 15, 3) := by decide +kernel
theorem dX8_carryOut_33 : decode cX8_carryOut 33 = .ok (.invokevirtual 226, 3) := by decide +kernel
theorem dX8_carryOut_36 : decode cX8_carryOut 36 = .ok (.iconst 0, 1) := by decide +kernel
theorem dX8_carryOut_37 : decode cX8_carryOut 37 = .ok (.istore_n 3, 1) := by decide +kernel
theorem dX8_carryOut_38 : decode cX8_carryOut 38 = .ok (.iload_n 3, 1) := by decide +kernel
theorem dX8_carryOut_39 : decode cX8_carryOut 39 = .ok (.aload_n 0, 1) := by decide +kernel
theorem dX8_carryOut_40 : decode cX8_carryOut 40 = .ok (.getfield 28, 3) := by decide +kernel
theorem dX8_carryOut_43 : decode cX8_carryOut 43 = .ok (.getfield 230, 3) := by decide +kernel
theorem dX8_carryOut_46 : decode cX8_carryOut 46 = .ok (.if_icmp .ge 51, 3) := by decide +kernel
theorem dX8_carryOut_49 : decode cX8_carryOut 49 = .ok (.aload_n 0, 1) := by decide +kernel
theorem dX8_carryOut_50 : decode cX8_carryOut 50 = .ok (.getfield 15, 3) := by decide +kernel
theorem dX8_carryOut_53 : decode cX8_carryOut 53 = .ok (.aload_n 0, 1) := by decide +kernel
theorem dX8_carryOut_54 : decode cX8_carryOut 54 = .ok (.getfield 28, 3) := by decide +kernel
theorem dX8_carryOut_57 : decode cX8_carryOut 57 = .ok (.getfield 233, 3) := by decide +kernel
theorem dX8_carryOut_60 : decode cX8_carryOut 60 = .ok (.iload_n 3, 1) := by decide +kernel
theorem dX8_carryOut_61 : decode cX8_carryOut 61 = .ok (.iaload, 1) := by decide +kernel
theorem dX8_carryOut_62 : decode cX8_carryOut 62 = .ok (.aload_n 0, 1) := by decide +kernel
theorem dX8_carryOut_63 : decode cX8_carryOut 63 = .ok (.getfield 28, 3) := by decide +kernel
theorem dX8_carryOut_66 : decode cX8_carryOut 66 = .ok (.getfield 236, 3) := by decide +kernel
theorem dX8_carryOut_69 : decode cX8_carryOut 69 = .ok (.iload_n 3, 1) := by decide +kernel
theorem dX8_carryOut_70 : decode cX8_carryOut 70 = .ok (.iaload, 1) := by decide +kernel
theorem dX8_carryOut_71 : decode cX8_carryOut 71 = .ok (.invokevirtual 239, 3) := by decide +kernel
theorem dX8_carryOut_74 : decode cX8_carryOut 74 = .ok (.ifCond .ne 17, 3) := by decide +kernel
theorem dX8_carryOut_77 : decode cX8_carryOut 77 = .ok (.aload_n 0, 1) := by decide +kernel
theorem dX8_carryOut_78 : decode cX8_carryOut 78 = .ok (.getfield 15, 3) := by decide +kernel
theorem dX8_carryOut_81 : decode cX8_carryOut 81 = .ok (.aload_n 2, 1) := by decide +kernel
theorem dX8_carryOut_82 : decode cX8_carryOut 82 = .ok (.invokevirtual 226, 3) := by decide +kernel
theorem dX8_carryOut_85 : decode cX8_carryOut 85 = .ok (.sipush (-1000), 3) := by decide +kernel
theorem dX8_carryOut_88 : decode cX8_carryOut 88 = .ok (.iload_n 3, 1) := by decide +kernel
theorem dX8_carryOut_89 : decode cX8_carryOut 89 = .ok (.isub, 1) := by decide +kernel
theorem dX8_carryOut_90 : decode cX8_carryOut 90 = .ok (.ireturn, 1) := by decide +kernel
theorem dX8_carryOut_91 : decode cX8_carryOut 91 = .ok (.iinc 3 1, 3) := by decide +kernel
theorem dX8_carryOut_94 : decode cX8_carryOut 94 = .ok (.goto (-56), 3) := by decide +kernel
theorem dX8_carryOut_97 : decode cX8_carryOut 97 = .ok (.aload_n 0, 1) := by decide +kernel
theorem dX8_carryOut_98 : decode cX8_carryOut 98 = .ok (.invokevirtual 243, 3) := by decide +kernel
theorem dX8_carryOut_101 : decode cX8_carryOut 101 = .ok (.aload_n 0, 1) := by decide +kernel
theorem dX8_carryOut_102 : decode cX8_carryOut 102 = .ok (.getfield 28, 3) := by decide +kernel
theorem dX8_carryOut_105 : decode cX8_carryOut 105 = .ok (.getfield 230, 3) := by decide +kernel
theorem dX8_carryOut_108 : decode cX8_carryOut 108 = .ok (.ireturn, 1) := by decide +kernel
theorem dX8_undo_0 : decode cX8_undo 0 = .ok (.aload_n 0, 1) := by decide +kernel
theorem dX8_undo_1 : decode cX8_undo 1 = .ok (.getfield 246, 3) := by decide +kernel
theorem dX8_undo_4 : decode cX8_undo 4 = .ok (.ifCond .ne 13, 3) := by decide +kernel
theorem dX8_undo_7 : decode cX8_undo 7 = .ok (.new 83, 3) := by decide +kernel
theorem dX8_undo_10 : decode cX8_undo 10 = .ok (.dup, 1) := by decide +kernel
theorem dX8_undo_11 : decode cX8_undo 11 = .ok (.ldc 249, 2) := by decide +kernel
theorem dX8_undo_13 : decode cX8_undo 13 = .ok (.invokespecial 87, 3) := by decide +kernel
theorem dX8_undo_16 : decode cX8_undo 16 = .ok (.athrow, 1) := by decide +kernel
theorem dX8_undo_17 : decode cX8_undo 17 = .ok (.aload_n 0, 1) := by decide +kernel
theorem dX8_undo_18 : decode cX8_undo 18 = .ok (.getfield 15, 3) := by decide +kernel
theorem dX8_undo_21 : decode cX8_undo 21 = .ok (.aload_n 0, 1) := by decide +kernel
theorem dX8_undo_22 : decode cX8_undo 22 = .ok (.getfield 21, 3) := by decide +kernel
theorem dX8_undo_25 : decode cX8_undo 25 = .ok (.aload_n 0, 1) := by decide +kernel
theorem dX8_undo_26 : decode cX8_undo 26 = .ok (.getfield 251, 3) := by decide +kernel
theorem dX8_undo_29 : decode cX8_undo 29 = .ok (.aaload, 1) := by decide +kernel
theorem dX8_undo_30 : decode cX8_undo 30 = .ok (.invokevirtual 226, 3) := by decide +kernel
theorem dX8_undo_33 : decode cX8_undo 33 = .ok (.aload_n 0, 1) := by decide +kernel
theorem dX8_undo_34 : decode cX8_undo 34 = .ok (.aload_n 0, 1) := by decide +kernel
theorem dX8_undo_35 : decode cX8_undo 35 = .ok (.getfield 251, 3) := by decide +kernel
theorem dX8_undo_38 : decode cX8_undo 38 = .ok (.iconst 5, 1) := by decide +kernel
theorem dX8_undo_39 : decode cX8_undo 39 = .ok (.iadd, 1) := by decide +kernel
theorem dX8_undo_40 : decode cX8_undo 40 = .ok (.iconst 1, 1) := by decide +kernel
theorem dX8_undo_41 : decode cX8_undo 41 = .ok (.isub, 1) := by decide +kernel
theorem dX8_undo_42 : decode cX8_undo 42 = .ok (.iconst 5, 1) := by decide +kernel
theorem dX8_undo_43 : decode cX8_undo 43 = .ok (.irem, 1) := by decide +kernel
theorem dX8_undo_44 : decode cX8_undo 44 = .ok (.putfield 251, 3) := by decide +kernel
theorem dX8_undo_47 : decode cX8_undo 47 = .ok (.aload_n 0, 1) := by decide +kernel
theorem dX8_undo_48 : decode cX8_undo 48 = .ok (.dup, 1) := by decide +kernel
theorem dX8_undo_49 : decode cX8_undo 49 = .ok (.getfield 246, 3) := by decide +kernel
theorem dX8_undo_52 : decode cX8_undo 52 = .ok (.iconst 1, 1) := by decide +kernel
theorem dX8_undo_53 : decode cX8_undo 53 = .ok (.isub, 1) := by decide +kernel
theorem dX8_undo_54 : decode cX8_undo 54 = .ok (.putfield 246, 3) := by decide +kernel
theorem dX8_undo_57 : decode cX8_undo 57 = .ok (.aload_n 0, 1) := by decide +kernel
theorem dX8_undo_58 : decode cX8_undo 58 = .ok (.getfield 246, 3) := by decide +kernel
theorem dX8_undo_61 : decode cX8_undo 61 = .ok (.ireturn, 1) := by decide +kernel
theorem dX8_digest_0 : decode cX8_digest 0 = .ok (.ldc2_w 254, 3) := by decide +kernel
theorem dX8_digest_3 : decode cX8_digest 3 = .ok (.aload_n 0, 1) := by decide +kernel
theorem dX8_digest_4 : decode cX8_digest 4 = .ok (.getfield 28, 3) := by decide +kernel
theorem dX8_digest_7 : decode cX8_digest 7 = .ok (.getfield 214, 3) := by decide +kernel
theorem dX8_digest_10 : decode cX8_digest 10 = .ok (.i2l, 1) := by decide +kernel
theorem dX8_digest_11 : decode cX8_digest 11 = .ok (.invokestatic 256, 3) := by decide +kernel
theorem dX8_digest_14 : decode cX8_digest 14 = .ok (.lstore_n 1, 1) := by decide +kernel
theorem dX8_digest_15 : decode cX8_digest 15 = .ok (.aload_n 0, 1) := by decide +kernel
theorem dX8_digest_16 : decode cX8_digest 16 = .ok (.getfield 15, 3) := by decide +kernel
theorem dX8_digest_19 : decode cX8_digest 19 = .ok (.getfield 55, 3) := by decide +kernel
theorem dX8_digest_22 : decode cX8_digest 22 = .ok (.lload_n 1, 1) := by decide +kernel
theorem dX8_digest_23 : decode cX8_digest 23 = .ok (.invokevirtual 260, 3) := by decide +kernel
theorem dX8_digest_26 : decode cX8_digest 26 = .ok (.lstore_n 1, 1) := by decide +kernel
theorem dX8_digest_27 : decode cX8_digest 27 = .ok (.aload_n 0, 1) := by decide +kernel
theorem dX8_digest_28 : decode cX8_digest 28 = .ok (.getfield 15, 3) := by decide +kernel
theorem dX8_digest_31 : decode cX8_digest 31 = .ok (.getfield 96, 3) := by decide +kernel
theorem dX8_digest_34 : decode cX8_digest 34 = .ok (.lload_n 1, 1) := by decide +kernel
theorem dX8_digest_35 : decode cX8_digest 35 = .ok (.invokevirtual 264, 3) := by decide +kernel
theorem dX8_digest_38 : decode cX8_digest 38 = .ok (.lstore_n 1, 1) := by decide +kernel
theorem dX8_digest_39 : decode cX8_digest 39 = .ok (.aload_n 0, 1) := by decide +kernel
theorem dX8_digest_40 : decode cX8_digest 40 = .ok (.getfield 15, 3) := by decide +kernel
theorem dX8_digest_43 : decode cX8_digest 43 = .ok (.getfield 149, 3) := by decide +kernel
theorem dX8_digest_46 : decode cX8_digest 46 = .ok (.lload_n 1, 1) := by decide +kernel
theorem dX8_digest_47 : decode cX8_digest 47 = .ok (.invokevirtual 264, 3) := by decide +kernel
theorem dX8_digest_50 : decode cX8_digest 50 = .ok (.lstore_n 1, 1) := by decide +kernel
theorem dX8_digest_51 : decode cX8_digest 51 = .ok (.aload_n 0, 1) := by decide +kernel
theorem dX8_digest_52 : decode cX8_digest 52 = .ok (.getfield 15, 3) := by decide +kernel
theorem dX8_digest_55 : decode cX8_digest 55 = .ok (.getfield 165, 3) := by decide +kernel
theorem dX8_digest_58 : decode cX8_digest 58 = .ok (.lload_n 1, 1) := by decide +kernel
theorem dX8_digest_59 : decode cX8_digest 59 = .ok (.invokevirtual 265, 3) := by decide +kernel
theorem dX8_digest_62 : decode cX8_digest 62 = .ok (.lstore_n 1, 1) := by decide +kernel
theorem dX8_digest_63 : decode cX8_digest 63 = .ok (.iconst 0, 1) := by decide +kernel
theorem dX8_digest_64 : decode cX8_digest 64 = .ok (.istore_n 3, 1) := by decide +kernel
theorem dX8_digest_65 : decode cX8_digest 65 = .ok (.iload_n 3, 1) := by decide +kernel
theorem dX8_digest_66 : decode cX8_digest 66 = .ok (.bipush 8, 2) := by decide +kernel
theorem dX8_digest_68 : decode cX8_digest 68 = .ok (.if_icmp .ge 23, 3) := by decide +kernel
theorem dX8_digest_71 : decode cX8_digest 71 = .ok (.lload_n 1, 1) := by decide +kernel
theorem dX8_digest_72 : decode cX8_digest 72 = .ok (.aload_n 0, 1) := by decide +kernel
theorem dX8_digest_73 : decode cX8_digest 73 = .ok (.getfield 15, 3) := by decide +kernel
theorem dX8_digest_76 : decode cX8_digest 76 = .ok (.iload_n 3, 1) := by decide +kernel
theorem dX8_digest_77 : decode cX8_digest 77 = .ok (.invokevirtual 202, 3) := by decide +kernel
theorem dX8_digest_80 : decode cX8_digest 80 = .ok (.i2l, 1) := by decide +kernel
theorem dX8_digest_81 : decode cX8_digest 81 = .ok (.invokestatic 256, 3) := by decide +kernel
theorem dX8_digest_84 : decode cX8_digest 84 = .ok (.lstore_n 1, 1) := by decide +kernel
theorem dX8_digest_85 : decode cX8_digest 85 = .ok (.iinc 3 1, 3) := by decide +kernel
theorem dX8_digest_88 : decode cX8_digest 88 = .ok (.goto (-23), 3) := by decide +kernel
theorem dX8_digest_91 : decode cX8_digest 91 = .ok (.lload_n 1, 1) := by decide +kernel
theorem dX8_digest_92 : decode cX8_digest 92 = .ok (.aload_n 0, 1) := by decide +kernel
theorem dX8_digest_93 : decode cX8_digest 93 = .ok (.getfield 15, 3) := by decide +kernel
theorem dX8_digest_96 : decode cX8_digest 96 = .ok (.getfield 55, 3) := by decide +kernel
theorem dX8_digest_99 : decode cX8_digest 99 = .ok (.invokevirtual 205, 3) := by decide +kernel
theorem dX8_digest_102 : decode cX8_digest 102 = .ok (.i2l, 1) := by decide +kernel
theorem dX8_digest_103 : decode cX8_digest 103 = .ok (.invokestatic 256, 3) := by decide +kernel
theorem dX8_digest_106 : decode cX8_digest 106 = .ok (.lstore_n 1, 1) := by decide +kernel
theorem dX8_digest_107 : decode cX8_digest 107 = .ok (.lload_n 1, 1) := by decide +kernel
theorem dX8_digest_108 : decode cX8_digest 108 = .ok (.aload_n 0, 1) := by decide +kernel
theorem dX8_digest_109 : decode cX8_digest 109 = .ok (.getfield 15, 3) := by decide +kernel
theorem dX8_digest_112 : decode cX8_digest 112 = .ok (.getfield 165, 3) := by decide +kernel
theorem dX8_digest_115 : decode cX8_digest 115 = .ok (.getfield 208, 3) := by decide +kernel
theorem dX8_digest_118 : decode cX8_digest 118 = .ok (.i2l, 1) := by decide +kernel
theorem dX8_digest_119 : decode cX8_digest 119 = .ok (.invokestatic 256, 3) := by decide +kernel
theorem dX8_digest_122 : decode cX8_digest 122 = .ok (.lstore_n 1, 1) := by decide +kernel
theorem dX8_digest_123 : decode cX8_digest 123 = .ok (.lload_n 1, 1) := by decide +kernel
theorem dX8_digest_124 : decode cX8_digest 124 = .ok (.aload_n 0, 1) := by decide +kernel
theorem dX8_digest_125 : decode cX8_digest 125 = .ok (.getfield 246, 3) := by decide +kernel
theorem dX8_digest_128 : decode cX8_digest 128 = .ok (.i2l, 1) := by decide +kernel
theorem dX8_digest_129 : decode cX8_digest 129 = .ok (.invokestatic 256, 3) := by decide +kernel
theorem dX8_digest_132 : decode cX8_digest 132 = .ok (.lreturn, 1) := by decide +kernel
theorem dX8_linkOf_0 : decode cX8_linkOf 0 = .ok (.iload_n 1, 1) := by decide +kernel
theorem dX8_linkOf_1 : decode cX8_linkOf 1 = .ok (.ifCond .eq 13, 3) := by decide +kernel
theorem dX8_linkOf_4 : decode cX8_linkOf 4 = .ok (.aload_n 0, 1) := by decide +kernel
theorem dX8_linkOf_5 : decode cX8_linkOf 5 = .ok (.getfield 15, 3) := by decide +kernel
theorem dX8_linkOf_8 : decode cX8_linkOf 8 = .ok (.getfield 149, 3) := by decide +kernel
theorem dX8_linkOf_11 : decode cX8_linkOf 11 = .ok (.goto 10, 3) := by decide +kernel
theorem dX8_linkOf_14 : decode cX8_linkOf 14 = .ok (.aload_n 0, 1) := by decide +kernel
theorem dX8_linkOf_15 : decode cX8_linkOf 15 = .ok (.getfield 15, 3) := by decide +kernel
theorem dX8_linkOf_18 : decode cX8_linkOf 18 = .ok (.getfield 96, 3) := by decide +kernel
theorem dX8_linkOf_21 : decode cX8_linkOf 21 = .ok (.areturn, 1) := by decide +kernel
theorem dX8_nextPlace_0 : decode cX8_nextPlace 0 = .ok (.aload_n 0, 1) := by decide +kernel
theorem dX8_nextPlace_1 : decode cX8_nextPlace 1 = .ok (.getfield 251, 3) := by decide +kernel
theorem dX8_nextPlace_4 : decode cX8_nextPlace 4 = .ok (.iconst 1, 1) := by decide +kernel
theorem dX8_nextPlace_5 : decode cX8_nextPlace 5 = .ok (.iadd, 1) := by decide +kernel
theorem dX8_nextPlace_6 : decode cX8_nextPlace 6 = .ok (.iconst 5, 1) := by decide +kernel
theorem dX8_nextPlace_7 : decode cX8_nextPlace 7 = .ok (.irem, 1) := by decide +kernel
theorem dX8_nextPlace_8 : decode cX8_nextPlace 8 = .ok (.ireturn, 1) := by decide +kernel
theorem dX8_keepNextPlace_0 : decode cX8_keepNextPlace 0 = .ok (.aload_n 0, 1) := by decide +kernel
theorem dX8_keepNextPlace_1 : decode cX8_keepNextPlace 1 = .ok (.aload_n 0, 1) := by decide +kernel
theorem dX8_keepNextPlace_2 : decode cX8_keepNextPlace 2 = .ok (.invokevirtual 223, 3) := by decide +kernel
theorem dX8_keepNextPlace_5 : decode cX8_keepNextPlace 5 = .ok (.putfield 251, 3) := by decide +kernel
theorem dX8_keepNextPlace_8 : decode cX8_keepNextPlace 8 = .ok (.aload_n 0, 1) := by decide +kernel
theorem dX8_keepNextPlace_9 : decode cX8_keepNextPlace 9 = .ok (.aload_n 0, 1) := by decide +kernel
theorem dX8_keepNextPlace_10 : decode cX8_keepNextPlace 10 = .ok (.getfield 246, 3) := by decide +kernel
theorem dX8_keepNextPlace_13 : decode cX8_keepNextPlace 13 = .ok (.iconst 1, 1) := by decide +kernel
theorem dX8_keepNextPlace_14 : decode cX8_keepNextPlace 14 = .ok (.iadd, 1) := by decide +kernel
theorem dX8_keepNextPlace_15 : decode cX8_keepNextPlace 15 = .ok (.iconst 4, 1) := by decide +kernel
theorem dX8_keepNextPlace_16 : decode cX8_keepNextPlace 16 = .ok (.invokestatic 266, 3) := by decide +kernel
theorem dX8_keepNextPlace_19 : decode cX8_keepNextPlace 19 = .ok (.putfield 246, 3) := by decide +kernel
theorem dX8_keepNextPlace_22 : decode cX8_keepNextPlace 22 = .ok (.return_, 1) := by decide +kernel
theorem dX8_saveState_0 : decode cX8_saveState 0 = .ok (.aload_n 0, 1) := by decide +kernel
theorem dX8_saveState_1 : decode cX8_saveState 1 = .ok (.getfield 21, 3) := by decide +kernel
theorem dX8_saveState_4 : decode cX8_saveState 4 = .ok (.aload_n 0, 1) := by decide +kernel
theorem dX8_saveState_5 : decode cX8_saveState 5 = .ok (.invokevirtual 223, 3) := by decide +kernel
theorem dX8_saveState_8 : decode cX8_saveState 8 = .ok (.aaload, 1) := by decide +kernel
theorem dX8_saveState_9 : decode cX8_saveState 9 = .ok (.aload_n 0, 1) := by decide +kernel
theorem dX8_saveState_10 : decode cX8_saveState 10 = .ok (.getfield 15, 3) := by decide +kernel
theorem dX8_saveState_13 : decode cX8_saveState 13 = .ok (.invokevirtual 226, 3) := by decide +kernel
theorem dX8_saveState_16 : decode cX8_saveState 16 = .ok (.aload_n 0, 1) := by decide +kernel
theorem dX8_saveState_17 : decode cX8_saveState 17 = .ok (.invokevirtual 243, 3) := by decide +kernel
theorem dX8_saveState_20 : decode cX8_saveState 20 = .ok (.return_, 1) := by decide +kernel
theorem dX8_inRange_0 : decode cX8_inRange 0 = .ok (.iload_n 0, 1) := by decide +kernel
theorem dX8_inRange_1 : decode cX8_inRange 1 = .ok (.iload_n 1, 1) := by decide +kernel
theorem dX8_inRange_2 : decode cX8_inRange 2 = .ok (.if_icmp .lt 12, 3) := by decide +kernel
theorem dX8_inRange_5 : decode cX8_inRange 5 = .ok (.iload_n 0, 1) := by decide +kernel
theorem dX8_inRange_6 : decode cX8_inRange 6 = .ok (.iload_n 2, 1) := by decide +kernel
theorem dX8_inRange_7 : decode cX8_inRange 7 = .ok (.if_icmp .gt 7, 3) := by decide +kernel
theorem dX8_inRange_10 : decode cX8_inRange 10 = .ok (.iconst 1, 1) := by decide +kernel
theorem dX8_inRange_11 : decode cX8_inRange 11 = .ok (.goto 4, 3) := by decide +kernel
theorem dX8_inRange_14 : decode cX8_inRange 14 = .ok (.iconst 0, 1) := by decide +kernel
theorem dX8_inRange_15 : decode cX8_inRange 15 = .ok (.ireturn, 1) := by decide +kernel
theorem dX8_fieldMost_0 : decode cX8_fieldMost 0 = .ok (.iload_n 0, 1) := by decide +kernel
theorem dX8_fieldMost_1 : decode cX8_fieldMost 1 = .ok (.lookupswitch 34 #[(0, 27), (3, 31)], 27) := by decide +kernel
theorem dX8_fieldMost_28 : decode cX8_fieldMost 28 = .ok (.sipush 255, 3) := by decide +kernel
theorem dX8_fieldMost_31 : decode cX8_fieldMost 31 = .ok (.ireturn, 1) := by decide +kernel
theorem dX8_fieldMost_32 : decode cX8_fieldMost 32 = .ok (.bipush 15, 2) := by decide +kernel
theorem dX8_fieldMost_34 : decode cX8_fieldMost 34 = .ok (.ireturn, 1) := by decide +kernel
theorem dX8_fieldMost_35 : decode cX8_fieldMost 35 = .ok (.ldc_w 271, 3) := by decide +kernel
theorem dX8_fieldMost_38 : decode cX8_fieldMost 38 = .ok (.ireturn, 1) := by decide +kernel
theorem dX8_mixed_0 : decode cX8_mixed 0 = .ok (.ldc2_w 272, 3) := by decide +kernel
theorem dX8_mixed_3 : decode cX8_mixed 3 = .ok (.lload_n 0, 1) := by decide +kernel
theorem dX8_mixed_4 : decode cX8_mixed 4 = .ok (.lmul, 1) := by decide +kernel
theorem dX8_mixed_5 : decode cX8_mixed 5 = .ok (.lload_n 2, 1) := by decide +kernel
theorem dX8_mixed_6 : decode cX8_mixed 6 = .ok (.ladd, 1) := by decide +kernel
theorem dX8_mixed_7 : decode cX8_mixed 7 = .ok (.lreturn, 1) := by decide +kernel
theorem dJ9_floorMod_7cf53_0 : decode cJ9_floorMod_7cf53 0 = .ok (.iload_n 0, 1) := by decide +kernel
theorem dJ9_floorMod_7cf53_1 : decode cJ9_floorMod_7cf53 1 = .ok (.iload_n 1, 1) := by decide +kernel
theorem dJ9_floorMod_7cf53_2 : decode cJ9_floorMod_7cf53 2 = .ok (.irem, 1) := by decide +kernel
theorem dJ9_floorMod_7cf53_3 : decode cJ9_floorMod_7cf53 3 = .ok (.istore_n 2, 1) := by decide +kernel
theorem dJ9_floorMod_7cf53_4 : decode cJ9_floorMod_7cf53 4 = .ok (.iload_n 0, 1) := by decide +kernel
theorem dJ9_floorMod_7cf53_5 : decode cJ9_floorMod_7cf53 5 = .ok (.iload_n 1, 1) := by decide +kernel
theorem dJ9_floorMod_7cf53_6 : decode cJ9_floorMod_7cf53 6 = .ok (.ixor, 1) := by decide +kernel
theorem dJ9_floorMod_7cf53_7 : decode cJ9_floorMod_7cf53 7 = .ok (.ifCond .ge 11, 3) := by decide +kernel
theorem dJ9_floorMod_7cf53_10 : decode cJ9_floorMod_7cf53 10 = .ok (.iload_n 2, 1) := by decide +kernel
theorem dJ9_floorMod_7cf53_11 : decode cJ9_floorMod_7cf53 11 = .ok (.ifCond .eq 7, 3) := by decide +kernel
theorem dJ9_floorMod_7cf53_14 : decode cJ9_floorMod_7cf53 14 = .ok (.iload_n 2, 1) := by decide +kernel
theorem dJ9_floorMod_7cf53_15 : decode cJ9_floorMod_7cf53 15 = .ok (.iload_n 1, 1) := by decide +kernel
theorem dJ9_floorMod_7cf53_16 : decode cJ9_floorMod_7cf53 16 = .ok (.iadd, 1) := by decide +kernel
theorem dJ9_floorMod_7cf53_17 : decode cJ9_floorMod_7cf53 17 = .ok (.ireturn, 1) := by decide +kernel
theorem dJ9_floorMod_7cf53_18 : decode cJ9_floorMod_7cf53 18 = .ok (.iload_n 2, 1) := by decide +kernel
theorem dJ9_floorMod_7cf53_19 : decode cJ9_floorMod_7cf53 19 = .ok (.ireturn, 1) := by decide +kernel
theorem dJ9_max_7cf53_0 : decode cJ9_max_7cf53 0 = .ok (.iload_n 0, 1) := by decide +kernel
theorem dJ9_max_7cf53_1 : decode cJ9_max_7cf53 1 = .ok (.iload_n 1, 1) := by decide +kernel
theorem dJ9_max_7cf53_2 : decode cJ9_max_7cf53 2 = .ok (.if_icmp .lt 7, 3) := by decide +kernel
theorem dJ9_max_7cf53_5 : decode cJ9_max_7cf53 5 = .ok (.iload_n 0, 1) := by decide +kernel
theorem dJ9_max_7cf53_6 : decode cJ9_max_7cf53 6 = .ok (.goto 4, 3) := by decide +kernel
theorem dJ9_max_7cf53_9 : decode cJ9_max_7cf53 9 = .ok (.iload_n 1, 1) := by decide +kernel
theorem dJ9_max_7cf53_10 : decode cJ9_max_7cf53 10 = .ok (.ireturn, 1) := by decide +kernel
theorem dJ9_min_7cf53_0 : decode cJ9_min_7cf53 0 = .ok (.iload_n 0, 1) := by decide +kernel
theorem dJ9_min_7cf53_1 : decode cJ9_min_7cf53 1 = .ok (.iload_n 1, 1) := by decide +kernel
theorem dJ9_min_7cf53_2 : decode cJ9_min_7cf53 2 = .ok (.if_icmp .gt 7, 3) := by decide +kernel
theorem dJ9_min_7cf53_5 : decode cJ9_min_7cf53 5 = .ok (.iload_n 0, 1) := by decide +kernel
theorem dJ9_min_7cf53_6 : decode cJ9_min_7cf53 6 = .ok (.goto 4, 3) := by decide +kernel
theorem dJ9_min_7cf53_9 : decode cJ9_min_7cf53 9 = .ok (.iload_n 1, 1) := by decide +kernel
theorem dJ9_min_7cf53_10 : decode cJ9_min_7cf53 10 = .ok (.ireturn, 1) := by decide +kernel
theorem dJ7_fill_53178_0 : decode cJ7_fill_53178 0 = .ok (.iconst 0, 1) := by decide +kernel
theorem dJ7_fill_53178_1 : decode cJ7_fill_53178 1 = .ok (.istore_n 2, 1) := by decide +kernel
theorem dJ7_fill_53178_2 : decode cJ7_fill_53178 2 = .ok (.aload_n 0, 1) := by decide +kernel
theorem dJ7_fill_53178_3 : decode cJ7_fill_53178 3 = .ok (.arraylength, 1) := by decide +kernel
theorem dJ7_fill_53178_4 : decode cJ7_fill_53178 4 = .ok (.istore_n 3, 1) := by decide +kernel
theorem dJ7_fill_53178_5 : decode cJ7_fill_53178 5 = .ok (.iload_n 2, 1) := by decide +kernel
theorem dJ7_fill_53178_6 : decode cJ7_fill_53178 6 = .ok (.iload_n 3, 1) := by decide +kernel
theorem dJ7_fill_53178_7 : decode cJ7_fill_53178 7 = .ok (.if_icmp .ge 13, 3) := by decide +kernel
theorem dJ7_fill_53178_10 : decode cJ7_fill_53178 10 = .ok (.aload_n 0, 1) := by decide +kernel
theorem dJ7_fill_53178_11 : decode cJ7_fill_53178 11 = .ok (.iload_n 2, 1) := by decide +kernel
theorem dJ7_fill_53178_12 : decode cJ7_fill_53178 12 = .ok (.iload_n 1, 1) := by decide +kernel
theorem dJ7_fill_53178_13 : decode cJ7_fill_53178 13 = .ok (.iastore, 1) := by decide +kernel
theorem dJ7_fill_53178_14 : decode cJ7_fill_53178 14 = .ok (.iinc 2 1, 3) := by decide +kernel
theorem dJ7_fill_53178_17 : decode cJ7_fill_53178 17 = .ok (.goto (-12), 3) := by decide +kernel
theorem dJ7_fill_53178_20 : decode cJ7_fill_53178 20 = .ok (.return_, 1) := by decide +kernel
theorem dL_setField_0 : decode cL_setField 0 = .ok (.aload_n 3, 1) := by decide +kernel
theorem dL_setField_1 : decode cL_setField 1 = .ok (.iconst 0, 1) := by decide +kernel
theorem dL_setField_2 : decode cL_setField 2 = .ok (.aload_n 0, 1) := by decide +kernel
theorem dL_setField_3 : decode cL_setField 3 = .ok (.iload_n 1, 1) := by decide +kernel
theorem dL_setField_4 : decode cL_setField 4 = .ok (.iload_n 2, 1) := by decide +kernel
theorem dL_setField_5 : decode cL_setField 5 = .ok (.invokevirtual 7, 3) := by decide +kernel
theorem dL_setField_8 : decode cL_setField 8 = .ok (.i2l, 1) := by decide +kernel
theorem dL_setField_9 : decode cL_setField 9 = .ok (.lastore, 1) := by decide +kernel
theorem dL_setField_10 : decode cL_setField 10 = .ok (.goto 11, 3) := by decide +kernel
theorem dL_setField_13 : decode cL_setField 13 = .ok (.astore 4, 2) := by decide +kernel
theorem dL_setField_15 : decode cL_setField 15 = .ok (.iconst 1, 1) := by decide +kernel
theorem dL_setField_16 : decode cL_setField 16 = .ok (.ireturn, 1) := by decide +kernel
theorem dL_setField_17 : decode cL_setField 17 = .ok (.astore 4, 2) := by decide +kernel
theorem dL_setField_19 : decode cL_setField 19 = .ok (.iconst 2, 1) := by decide +kernel
theorem dL_setField_20 : decode cL_setField 20 = .ok (.ireturn, 1) := by decide +kernel
theorem dL_setField_21 : decode cL_setField 21 = .ok (.iconst 0, 1) := by decide +kernel
theorem dL_setField_22 : decode cL_setField 22 = .ok (.ireturn, 1) := by decide +kernel
theorem dL_setStrides_0 : decode cL_setStrides 0 = .ok (.aload_n 3, 1) := by decide +kernel
theorem dL_setStrides_1 : decode cL_setStrides 1 = .ok (.iconst 0, 1) := by decide +kernel
theorem dL_setStrides_2 : decode cL_setStrides 2 = .ok (.aload_n 0, 1) := by decide +kernel
theorem dL_setStrides_3 : decode cL_setStrides 3 = .ok (.iload_n 1, 1) := by decide +kernel
theorem dL_setStrides_4 : decode cL_setStrides 4 = .ok (.iload_n 2, 1) := by decide +kernel
theorem dL_setStrides_5 : decode cL_setStrides 5 = .ok (.invokevirtual 17, 3) := by decide +kernel
theorem dL_setStrides_8 : decode cL_setStrides 8 = .ok (.i2l, 1) := by decide +kernel
theorem dL_setStrides_9 : decode cL_setStrides 9 = .ok (.lastore, 1) := by decide +kernel
theorem dL_setStrides_10 : decode cL_setStrides 10 = .ok (.goto 7, 3) := by decide +kernel
theorem dL_setStrides_13 : decode cL_setStrides 13 = .ok (.astore 4, 2) := by decide +kernel
theorem dL_setStrides_15 : decode cL_setStrides 15 = .ok (.iconst 1, 1) := by decide +kernel
theorem dL_setStrides_16 : decode cL_setStrides 16 = .ok (.ireturn, 1) := by decide +kernel
theorem dL_setStrides_17 : decode cL_setStrides 17 = .ok (.iconst 0, 1) := by decide +kernel
theorem dL_setStrides_18 : decode cL_setStrides 18 = .ok (.ireturn, 1) := by decide +kernel
theorem dL_setPolicy_0 : decode cL_setPolicy 0 = .ok (.aload_n 3, 1) := by decide +kernel
theorem dL_setPolicy_1 : decode cL_setPolicy 1 = .ok (.iconst 0, 1) := by decide +kernel
theorem dL_setPolicy_2 : decode cL_setPolicy 2 = .ok (.aload_n 0, 1) := by decide +kernel
theorem dL_setPolicy_3 : decode cL_setPolicy 3 = .ok (.iload_n 1, 1) := by decide +kernel
theorem dL_setPolicy_4 : decode cL_setPolicy 4 = .ok (.iload_n 2, 1) := by decide +kernel
theorem dL_setPolicy_5 : decode cL_setPolicy 5 = .ok (.invokevirtual 20, 3) := by decide +kernel
theorem dL_setPolicy_8 : decode cL_setPolicy 8 = .ok (.i2l, 1) := by decide +kernel
theorem dL_setPolicy_9 : decode cL_setPolicy 9 = .ok (.lastore, 1) := by decide +kernel
theorem dL_setPolicy_10 : decode cL_setPolicy 10 = .ok (.goto 7, 3) := by decide +kernel
theorem dL_setPolicy_13 : decode cL_setPolicy 13 = .ok (.astore 4, 2) := by decide +kernel
theorem dL_setPolicy_15 : decode cL_setPolicy 15 = .ok (.iconst 1, 1) := by decide +kernel
theorem dL_setPolicy_16 : decode cL_setPolicy 16 = .ok (.ireturn, 1) := by decide +kernel
theorem dL_setPolicy_17 : decode cL_setPolicy 17 = .ok (.iconst 0, 1) := by decide +kernel
theorem dL_setPolicy_18 : decode cL_setPolicy 18 = .ok (.ireturn, 1) := by decide +kernel
theorem dL_send_0 : decode cL_send 0 = .ok (.aload_n 1, 1) := by decide +kernel
theorem dL_send_1 : decode cL_send 1 = .ok (.iconst 0, 1) := by decide +kernel
theorem dL_send_2 : decode cL_send 2 = .ok (.aload_n 0, 1) := by decide +kernel
theorem dL_send_3 : decode cL_send 3 = .ok (.invokevirtual 23, 3) := by decide +kernel
theorem dL_send_6 : decode cL_send 6 = .ok (.i2l, 1) := by decide +kernel
theorem dL_send_7 : decode cL_send 7 = .ok (.lastore, 1) := by decide +kernel
theorem dL_send_8 : decode cL_send 8 = .ok (.goto 6, 3) := by decide +kernel
theorem dL_send_11 : decode cL_send 11 = .ok (.astore_n 2, 1) := by decide +kernel
theorem dL_send_12 : decode cL_send 12 = .ok (.iconst 1, 1) := by decide +kernel
theorem dL_send_13 : decode cL_send 13 = .ok (.ireturn, 1) := by decide +kernel
theorem dL_send_14 : decode cL_send 14 = .ok (.iconst 0, 1) := by decide +kernel
theorem dL_send_15 : decode cL_send 15 = .ok (.ireturn, 1) := by decide +kernel
theorem dL_stream_0 : decode cL_stream 0 = .ok (.aload_n 2, 1) := by decide +kernel
theorem dL_stream_1 : decode cL_stream 1 = .ok (.iconst 0, 1) := by decide +kernel
theorem dL_stream_2 : decode cL_stream 2 = .ok (.aload_n 0, 1) := by decide +kernel
theorem dL_stream_3 : decode cL_stream 3 = .ok (.iload_n 1, 1) := by decide +kernel
theorem dL_stream_4 : decode cL_stream 4 = .ok (.invokevirtual 29, 3) := by decide +kernel
theorem dL_stream_7 : decode cL_stream 7 = .ok (.i2l, 1) := by decide +kernel
theorem dL_stream_8 : decode cL_stream 8 = .ok (.lastore, 1) := by decide +kernel
theorem dL_stream_9 : decode cL_stream 9 = .ok (.goto 9, 3) := by decide +kernel
theorem dL_stream_12 : decode cL_stream 12 = .ok (.astore_n 3, 1) := by decide +kernel
theorem dL_stream_13 : decode cL_stream 13 = .ok (.iconst 1, 1) := by decide +kernel
theorem dL_stream_14 : decode cL_stream 14 = .ok (.ireturn, 1) := by decide +kernel
theorem dL_stream_15 : decode cL_stream 15 = .ok (.astore_n 3, 1) := by decide +kernel
theorem dL_stream_16 : decode cL_stream 16 = .ok (.iconst 2, 1) := by decide +kernel
theorem dL_stream_17 : decode cL_stream 17 = .ok (.ireturn, 1) := by decide +kernel
theorem dL_stream_18 : decode cL_stream 18 = .ok (.iconst 0, 1) := by decide +kernel
theorem dL_stream_19 : decode cL_stream 19 = .ok (.ireturn, 1) := by decide +kernel
theorem dL_field_0 : decode cL_field 0 = .ok (.aload_n 2, 1) := by decide +kernel
theorem dL_field_1 : decode cL_field 1 = .ok (.iconst 0, 1) := by decide +kernel
theorem dL_field_2 : decode cL_field 2 = .ok (.aload_n 0, 1) := by decide +kernel
theorem dL_field_3 : decode cL_field 3 = .ok (.iload_n 1, 1) := by decide +kernel
theorem dL_field_4 : decode cL_field 4 = .ok (.invokevirtual 33, 3) := by decide +kernel
theorem dL_field_7 : decode cL_field 7 = .ok (.i2l, 1) := by decide +kernel
theorem dL_field_8 : decode cL_field 8 = .ok (.lastore, 1) := by decide +kernel
theorem dL_field_9 : decode cL_field 9 = .ok (.goto 6, 3) := by decide +kernel
theorem dL_field_12 : decode cL_field 12 = .ok (.astore_n 3, 1) := by decide +kernel
theorem dL_field_13 : decode cL_field 13 = .ok (.iconst 1, 1) := by decide +kernel
theorem dL_field_14 : decode cL_field 14 = .ok (.ireturn, 1) := by decide +kernel
theorem dL_field_15 : decode cL_field 15 = .ok (.iconst 0, 1) := by decide +kernel
theorem dL_field_16 : decode cL_field 16 = .ok (.ireturn, 1) := by decide +kernel
theorem dL_sizeWith_0 : decode cL_sizeWith 0 = .ok (.aload_n 3, 1) := by decide +kernel
theorem dL_sizeWith_1 : decode cL_sizeWith 1 = .ok (.iconst 0, 1) := by decide +kernel
theorem dL_sizeWith_2 : decode cL_sizeWith 2 = .ok (.aload_n 0, 1) := by decide +kernel
theorem dL_sizeWith_3 : decode cL_sizeWith 3 = .ok (.iload_n 1, 1) := by decide +kernel
theorem dL_sizeWith_4 : decode cL_sizeWith 4 = .ok (.iload_n 2, 1) := by decide +kernel
theorem dL_sizeWith_5 : decode cL_sizeWith 5 = .ok (.invokevirtual 36, 3) := by decide +kernel
theorem dL_sizeWith_8 : decode cL_sizeWith 8 = .ok (.i2l, 1) := by decide +kernel
theorem dL_sizeWith_9 : decode cL_sizeWith 9 = .ok (.lastore, 1) := by decide +kernel
theorem dL_sizeWith_10 : decode cL_sizeWith 10 = .ok (.goto 7, 3) := by decide +kernel
theorem dL_sizeWith_13 : decode cL_sizeWith 13 = .ok (.astore 4, 2) := by decide +kernel
theorem dL_sizeWith_15 : decode cL_sizeWith 15 = .ok (.iconst 1, 1) := by decide +kernel
theorem dL_sizeWith_16 : decode cL_sizeWith 16 = .ok (.ireturn, 1) := by decide +kernel
theorem dL_sizeWith_17 : decode cL_sizeWith 17 = .ok (.iconst 0, 1) := by decide +kernel
theorem dL_sizeWith_18 : decode cL_sizeWith 18 = .ok (.ireturn, 1) := by decide +kernel
theorem dL_sent_0 : decode cL_sent 0 = .ok (.aload_n 3, 1) := by decide +kernel
theorem dL_sent_1 : decode cL_sent 1 = .ok (.iconst 0, 1) := by decide +kernel
theorem dL_sent_2 : decode cL_sent 2 = .ok (.aload_n 0, 1) := by decide +kernel
theorem dL_sent_3 : decode cL_sent 3 = .ok (.iload_n 1, 1) := by decide +kernel
theorem dL_sent_4 : decode cL_sent 4 = .ok (.iload_n 2, 1) := by decide +kernel
theorem dL_sent_5 : decode cL_sent 5 = .ok (.invokevirtual 39, 3) := by decide +kernel
theorem dL_sent_8 : decode cL_sent 8 = .ok (.i2l, 1) := by decide +kernel
theorem dL_sent_9 : decode cL_sent 9 = .ok (.lastore, 1) := by decide +kernel
theorem dL_sent_10 : decode cL_sent 10 = .ok (.goto 11, 3) := by decide +kernel
theorem dL_sent_13 : decode cL_sent 13 = .ok (.astore 4, 2) := by decide +kernel
theorem dL_sent_15 : decode cL_sent 15 = .ok (.iconst 1, 1) := by decide +kernel
theorem dL_sent_16 : decode cL_sent 16 = .ok (.ireturn, 1) := by decide +kernel
theorem dL_sent_17 : decode cL_sent 17 = .ok (.astore 4, 2) := by decide +kernel
theorem dL_sent_19 : decode cL_sent 19 = .ok (.iconst 2, 1) := by decide +kernel
theorem dL_sent_20 : decode cL_sent 20 = .ok (.ireturn, 1) := by decide +kernel
theorem dL_sent_21 : decode cL_sent 21 = .ok (.iconst 0, 1) := by decide +kernel
theorem dL_sent_22 : decode cL_sent 22 = .ok (.ireturn, 1) := by decide +kernel
theorem dL_deliver_0 : decode cL_deliver 0 = .ok (.aload_n 2, 1) := by decide +kernel
theorem dL_deliver_1 : decode cL_deliver 1 = .ok (.iconst 0, 1) := by decide +kernel
theorem dL_deliver_2 : decode cL_deliver 2 = .ok (.aload_n 0, 1) := by decide +kernel
theorem dL_deliver_3 : decode cL_deliver 3 = .ok (.iload_n 1, 1) := by decide +kernel
theorem dL_deliver_4 : decode cL_deliver 4 = .ok (.invokevirtual 42, 3) := by decide +kernel
theorem dL_deliver_7 : decode cL_deliver 7 = .ok (.i2l, 1) := by decide +kernel
theorem dL_deliver_8 : decode cL_deliver 8 = .ok (.lastore, 1) := by decide +kernel
theorem dL_deliver_9 : decode cL_deliver 9 = .ok (.goto 6, 3) := by decide +kernel
theorem dL_deliver_12 : decode cL_deliver 12 = .ok (.astore_n 3, 1) := by decide +kernel
theorem dL_deliver_13 : decode cL_deliver 13 = .ok (.iconst 1, 1) := by decide +kernel
theorem dL_deliver_14 : decode cL_deliver 14 = .ok (.ireturn, 1) := by decide +kernel
theorem dL_deliver_15 : decode cL_deliver 15 = .ok (.iconst 0, 1) := by decide +kernel
theorem dL_deliver_16 : decode cL_deliver 16 = .ok (.ireturn, 1) := by decide +kernel
theorem dL_lose_0 : decode cL_lose 0 = .ok (.aload_n 2, 1) := by decide +kernel
theorem dL_lose_1 : decode cL_lose 1 = .ok (.iconst 0, 1) := by decide +kernel
theorem dL_lose_2 : decode cL_lose 2 = .ok (.aload_n 0, 1) := by decide +kernel
theorem dL_lose_3 : decode cL_lose 3 = .ok (.iload_n 1, 1) := by decide +kernel
theorem dL_lose_4 : decode cL_lose 4 = .ok (.invokevirtual 45, 3) := by decide +kernel
theorem dL_lose_7 : decode cL_lose 7 = .ok (.i2l, 1) := by decide +kernel
theorem dL_lose_8 : decode cL_lose 8 = .ok (.lastore, 1) := by decide +kernel
theorem dL_lose_9 : decode cL_lose 9 = .ok (.goto 6, 3) := by decide +kernel
theorem dL_lose_12 : decode cL_lose 12 = .ok (.astore_n 3, 1) := by decide +kernel
theorem dL_lose_13 : decode cL_lose 13 = .ok (.iconst 1, 1) := by decide +kernel
theorem dL_lose_14 : decode cL_lose 14 = .ok (.ireturn, 1) := by decide +kernel
theorem dL_lose_15 : decode cL_lose 15 = .ok (.iconst 0, 1) := by decide +kernel
theorem dL_lose_16 : decode cL_lose 16 = .ok (.ireturn, 1) := by decide +kernel
theorem dL_copy_0 : decode cL_copy 0 = .ok (.aload_n 2, 1) := by decide +kernel
theorem dL_copy_1 : decode cL_copy 1 = .ok (.iconst 0, 1) := by decide +kernel
theorem dL_copy_2 : decode cL_copy 2 = .ok (.aload_n 0, 1) := by decide +kernel
theorem dL_copy_3 : decode cL_copy 3 = .ok (.iload_n 1, 1) := by decide +kernel
theorem dL_copy_4 : decode cL_copy 4 = .ok (.invokevirtual 48, 3) := by decide +kernel
theorem dL_copy_7 : decode cL_copy 7 = .ok (.i2l, 1) := by decide +kernel
theorem dL_copy_8 : decode cL_copy 8 = .ok (.lastore, 1) := by decide +kernel
theorem dL_copy_9 : decode cL_copy 9 = .ok (.goto 9, 3) := by decide +kernel
theorem dL_copy_12 : decode cL_copy 12 = .ok (.astore_n 3, 1) := by decide +kernel
theorem dL_copy_13 : decode cL_copy 13 = .ok (.iconst 1, 1) := by decide +kernel
theorem dL_copy_14 : decode cL_copy 14 = .ok (.ireturn, 1) := by decide +kernel
theorem dL_copy_15 : decode cL_copy 15 = .ok (.astore_n 3, 1) := by decide +kernel
theorem dL_copy_16 : decode cL_copy 16 = .ok (.iconst 2, 1) := by decide +kernel
theorem dL_copy_17 : decode cL_copy 17 = .ok (.ireturn, 1) := by decide +kernel
theorem dL_copy_18 : decode cL_copy 18 = .ok (.iconst 0, 1) := by decide +kernel
theorem dL_copy_19 : decode cL_copy 19 = .ok (.ireturn, 1) := by decide +kernel
theorem dL_deliverBack_0 : decode cL_deliverBack 0 = .ok (.aload_n 2, 1) := by decide +kernel
theorem dL_deliverBack_1 : decode cL_deliverBack 1 = .ok (.iconst 0, 1) := by decide +kernel
theorem dL_deliverBack_2 : decode cL_deliverBack 2 = .ok (.aload_n 0, 1) := by decide +kernel
theorem dL_deliverBack_3 : decode cL_deliverBack 3 = .ok (.iload_n 1, 1) := by decide +kernel
theorem dL_deliverBack_4 : decode cL_deliverBack 4 = .ok (.invokevirtual 51, 3) := by decide +kernel
theorem dL_deliverBack_7 : decode cL_deliverBack 7 = .ok (.i2l, 1) := by decide +kernel
theorem dL_deliverBack_8 : decode cL_deliverBack 8 = .ok (.lastore, 1) := by decide +kernel
theorem dL_deliverBack_9 : decode cL_deliverBack 9 = .ok (.goto 6, 3) := by decide +kernel
theorem dL_deliverBack_12 : decode cL_deliverBack 12 = .ok (.astore_n 3, 1) := by decide +kernel
theorem dL_deliverBack_13 : decode cL_deliverBack 13 = .ok (.iconst 1, 1) := by decide +kernel
theorem dL_deliverBack_14 : decode cL_deliverBack 14 = .ok (.ireturn, 1) := by decide +kernel
theorem dL_deliverBack_15 : decode cL_deliverBack 15 = .ok (.iconst 0, 1) := by decide +kernel
theorem dL_deliverBack_16 : decode cL_deliverBack 16 = .ok (.ireturn, 1) := by decide +kernel
theorem dL_loseBack_0 : decode cL_loseBack 0 = .ok (.aload_n 2, 1) := by decide +kernel
theorem dL_loseBack_1 : decode cL_loseBack 1 = .ok (.iconst 0, 1) := by decide +kernel
theorem dL_loseBack_2 : decode cL_loseBack 2 = .ok (.aload_n 0, 1) := by decide +kernel
theorem dL_loseBack_3 : decode cL_loseBack 3 = .ok (.iload_n 1, 1) := by decide +kernel
theorem dL_loseBack_4 : decode cL_loseBack 4 = .ok (.invokevirtual 54, 3) := by decide +kernel
theorem dL_loseBack_7 : decode cL_loseBack 7 = .ok (.i2l, 1) := by decide +kernel
theorem dL_loseBack_8 : decode cL_loseBack 8 = .ok (.lastore, 1) := by decide +kernel
theorem dL_loseBack_9 : decode cL_loseBack 9 = .ok (.goto 6, 3) := by decide +kernel
theorem dL_loseBack_12 : decode cL_loseBack 12 = .ok (.astore_n 3, 1) := by decide +kernel
theorem dL_loseBack_13 : decode cL_loseBack 13 = .ok (.iconst 1, 1) := by decide +kernel
theorem dL_loseBack_14 : decode cL_loseBack 14 = .ok (.ireturn, 1) := by decide +kernel
theorem dL_loseBack_15 : decode cL_loseBack 15 = .ok (.iconst 0, 1) := by decide +kernel
theorem dL_loseBack_16 : decode cL_loseBack 16 = .ok (.ireturn, 1) := by decide +kernel
theorem dL_waitingAt_0 : decode cL_waitingAt 0 = .ok (.aload_n 3, 1) := by decide +kernel
theorem dL_waitingAt_1 : decode cL_waitingAt 1 = .ok (.iconst 0, 1) := by decide +kernel
theorem dL_waitingAt_2 : decode cL_waitingAt 2 = .ok (.aload_n 0, 1) := by decide +kernel
theorem dL_waitingAt_3 : decode cL_waitingAt 3 = .ok (.iload_n 1, 1) := by decide +kernel
theorem dL_waitingAt_4 : decode cL_waitingAt 4 = .ok (.iload_n 2, 1) := by decide +kernel
theorem dL_waitingAt_5 : decode cL_waitingAt 5 = .ok (.invokevirtual 57, 3) := by decide +kernel
theorem dL_waitingAt_8 : decode cL_waitingAt 8 = .ok (.i2l, 1) := by decide +kernel
theorem dL_waitingAt_9 : decode cL_waitingAt 9 = .ok (.lastore, 1) := by decide +kernel
theorem dL_waitingAt_10 : decode cL_waitingAt 10 = .ok (.goto 7, 3) := by decide +kernel
theorem dL_waitingAt_13 : decode cL_waitingAt 13 = .ok (.astore 4, 2) := by decide +kernel
theorem dL_waitingAt_15 : decode cL_waitingAt 15 = .ok (.iconst 1, 1) := by decide +kernel
theorem dL_waitingAt_16 : decode cL_waitingAt 16 = .ok (.ireturn, 1) := by decide +kernel
theorem dL_waitingAt_17 : decode cL_waitingAt 17 = .ok (.iconst 0, 1) := by decide +kernel
theorem dL_waitingAt_18 : decode cL_waitingAt 18 = .ok (.ireturn, 1) := by decide +kernel
theorem dL_setReceiver_0 : decode cL_setReceiver 0 = .ok (.aload 4, 2) := by decide +kernel
theorem dL_setReceiver_2 : decode cL_setReceiver 2 = .ok (.iconst 0, 1) := by decide +kernel
theorem dL_setReceiver_3 : decode cL_setReceiver 3 = .ok (.aload_n 0, 1) := by decide +kernel
theorem dL_setReceiver_4 : decode cL_setReceiver 4 = .ok (.iload_n 1, 1) := by decide +kernel
theorem dL_setReceiver_5 : decode cL_setReceiver 5 = .ok (.iload_n 2, 1) := by decide +kernel
theorem dL_setReceiver_6 : decode cL_setReceiver 6 = .ok (.iload_n 3, 1) := by decide +kernel
theorem dL_setReceiver_7 : decode cL_setReceiver 7 = .ok (.invokevirtual 61, 3) := by decide +kernel
theorem dL_setReceiver_10 : decode cL_setReceiver 10 = .ok (.i2l, 1) := by decide +kernel
theorem dL_setReceiver_11 : decode cL_setReceiver 11 = .ok (.lastore, 1) := by decide +kernel
theorem dL_setReceiver_12 : decode cL_setReceiver 12 = .ok (.goto 7, 3) := by decide +kernel
theorem dL_setReceiver_15 : decode cL_setReceiver 15 = .ok (.astore 5, 2) := by decide +kernel
theorem dL_setReceiver_17 : decode cL_setReceiver 17 = .ok (.iconst 1, 1) := by decide +kernel
theorem dL_setReceiver_18 : decode cL_setReceiver 18 = .ok (.ireturn, 1) := by decide +kernel
theorem dL_setReceiver_19 : decode cL_setReceiver 19 = .ok (.iconst 0, 1) := by decide +kernel
theorem dL_setReceiver_20 : decode cL_setReceiver 20 = .ok (.ireturn, 1) := by decide +kernel
theorem dL_record_0 : decode cL_record 0 = .ok (.aload_n 3, 1) := by decide +kernel
theorem dL_record_1 : decode cL_record 1 = .ok (.iconst 0, 1) := by decide +kernel
theorem dL_record_2 : decode cL_record 2 = .ok (.aload_n 0, 1) := by decide +kernel
theorem dL_record_3 : decode cL_record 3 = .ok (.iload_n 1, 1) := by decide +kernel
theorem dL_record_4 : decode cL_record 4 = .ok (.iload_n 2, 1) := by decide +kernel
theorem dL_record_5 : decode cL_record 5 = .ok (.invokevirtual 65, 3) := by decide +kernel
theorem dL_record_8 : decode cL_record 8 = .ok (.i2l, 1) := by decide +kernel
theorem dL_record_9 : decode cL_record 9 = .ok (.lastore, 1) := by decide +kernel
theorem dL_record_10 : decode cL_record 10 = .ok (.goto 7, 3) := by decide +kernel
theorem dL_record_13 : decode cL_record 13 = .ok (.astore 4, 2) := by decide +kernel
theorem dL_record_15 : decode cL_record 15 = .ok (.iconst 1, 1) := by decide +kernel
theorem dL_record_16 : decode cL_record 16 = .ok (.ireturn, 1) := by decide +kernel
theorem dL_record_17 : decode cL_record 17 = .ok (.iconst 0, 1) := by decide +kernel
theorem dL_record_18 : decode cL_record 18 = .ok (.ireturn, 1) := by decide +kernel
theorem dL_numberFor_0 : decode cL_numberFor 0 = .ok (.aload_n 2, 1) := by decide +kernel
theorem dL_numberFor_1 : decode cL_numberFor 1 = .ok (.iconst 0, 1) := by decide +kernel
theorem dL_numberFor_2 : decode cL_numberFor 2 = .ok (.aload_n 0, 1) := by decide +kernel
theorem dL_numberFor_3 : decode cL_numberFor 3 = .ok (.iload_n 1, 1) := by decide +kernel
theorem dL_numberFor_4 : decode cL_numberFor 4 = .ok (.invokevirtual 68, 3) := by decide +kernel
theorem dL_numberFor_7 : decode cL_numberFor 7 = .ok (.i2l, 1) := by decide +kernel
theorem dL_numberFor_8 : decode cL_numberFor 8 = .ok (.lastore, 1) := by decide +kernel
theorem dL_numberFor_9 : decode cL_numberFor 9 = .ok (.goto 6, 3) := by decide +kernel
theorem dL_numberFor_12 : decode cL_numberFor 12 = .ok (.astore_n 3, 1) := by decide +kernel
theorem dL_numberFor_13 : decode cL_numberFor 13 = .ok (.iconst 1, 1) := by decide +kernel
theorem dL_numberFor_14 : decode cL_numberFor 14 = .ok (.ireturn, 1) := by decide +kernel
theorem dL_numberFor_15 : decode cL_numberFor 15 = .ok (.iconst 0, 1) := by decide +kernel
theorem dL_numberFor_16 : decode cL_numberFor 16 = .ok (.ireturn, 1) := by decide +kernel
theorem dL_count_0 : decode cL_count 0 = .ok (.aload_n 2, 1) := by decide +kernel
theorem dL_count_1 : decode cL_count 1 = .ok (.iconst 0, 1) := by decide +kernel
theorem dL_count_2 : decode cL_count 2 = .ok (.aload_n 0, 1) := by decide +kernel
theorem dL_count_3 : decode cL_count 3 = .ok (.iload_n 1, 1) := by decide +kernel
theorem dL_count_4 : decode cL_count 4 = .ok (.invokevirtual 71, 3) := by decide +kernel
theorem dL_count_7 : decode cL_count 7 = .ok (.i2l, 1) := by decide +kernel
theorem dL_count_8 : decode cL_count 8 = .ok (.lastore, 1) := by decide +kernel
theorem dL_count_9 : decode cL_count 9 = .ok (.goto 6, 3) := by decide +kernel
theorem dL_count_12 : decode cL_count 12 = .ok (.astore_n 3, 1) := by decide +kernel
theorem dL_count_13 : decode cL_count 13 = .ok (.iconst 1, 1) := by decide +kernel
theorem dL_count_14 : decode cL_count 14 = .ok (.ireturn, 1) := by decide +kernel
theorem dL_count_15 : decode cL_count 15 = .ok (.iconst 0, 1) := by decide +kernel
theorem dL_count_16 : decode cL_count 16 = .ok (.ireturn, 1) := by decide +kernel
theorem dL_append_0 : decode cL_append 0 = .ok (.aload_n 2, 1) := by decide +kernel
theorem dL_append_1 : decode cL_append 1 = .ok (.iconst 0, 1) := by decide +kernel
theorem dL_append_2 : decode cL_append 2 = .ok (.aload_n 0, 1) := by decide +kernel
theorem dL_append_3 : decode cL_append 3 = .ok (.iload_n 1, 1) := by decide +kernel
theorem dL_append_4 : decode cL_append 4 = .ok (.invokevirtual 74, 3) := by decide +kernel
theorem dL_append_7 : decode cL_append 7 = .ok (.i2l, 1) := by decide +kernel
theorem dL_append_8 : decode cL_append 8 = .ok (.lastore, 1) := by decide +kernel
theorem dL_append_9 : decode cL_append 9 = .ok (.goto 9, 3) := by decide +kernel
theorem dL_append_12 : decode cL_append 12 = .ok (.astore_n 3, 1) := by decide +kernel
theorem dL_append_13 : decode cL_append 13 = .ok (.iconst 1, 1) := by decide +kernel
theorem dL_append_14 : decode cL_append 14 = .ok (.ireturn, 1) := by decide +kernel
theorem dL_append_15 : decode cL_append 15 = .ok (.astore_n 3, 1) := by decide +kernel
theorem dL_append_16 : decode cL_append 16 = .ok (.iconst 2, 1) := by decide +kernel
theorem dL_append_17 : decode cL_append 17 = .ok (.ireturn, 1) := by decide +kernel
theorem dL_append_18 : decode cL_append 18 = .ok (.iconst 0, 1) := by decide +kernel
theorem dL_append_19 : decode cL_append 19 = .ok (.ireturn, 1) := by decide +kernel
theorem dL_undo_0 : decode cL_undo 0 = .ok (.aload_n 1, 1) := by decide +kernel
theorem dL_undo_1 : decode cL_undo 1 = .ok (.iconst 0, 1) := by decide +kernel
theorem dL_undo_2 : decode cL_undo 2 = .ok (.aload_n 0, 1) := by decide +kernel
theorem dL_undo_3 : decode cL_undo 3 = .ok (.invokevirtual 77, 3) := by decide +kernel
theorem dL_undo_6 : decode cL_undo 6 = .ok (.i2l, 1) := by decide +kernel
theorem dL_undo_7 : decode cL_undo 7 = .ok (.lastore, 1) := by decide +kernel
theorem dL_undo_8 : decode cL_undo 8 = .ok (.goto 6, 3) := by decide +kernel
theorem dL_undo_11 : decode cL_undo 11 = .ok (.astore_n 2, 1) := by decide +kernel
theorem dL_undo_12 : decode cL_undo 12 = .ok (.iconst 1, 1) := by decide +kernel
theorem dL_undo_13 : decode cL_undo 13 = .ok (.ireturn, 1) := by decide +kernel
theorem dL_undo_14 : decode cL_undo 14 = .ok (.iconst 0, 1) := by decide +kernel
theorem dL_undo_15 : decode cL_undo 15 = .ok (.ireturn, 1) := by decide +kernel
