/-! NEW OBJECTS: rows for constructors -/
set_option maxRecDepth 100000 in
theorem kt_ii_RX4 : Cond.initialized RX4 ∈ TB := inTB 30 (by rfl) (by rfl)
set_option maxRecDepth 100000 in
theorem kt_ii_RX2 : Cond.initialized RX2 ∈ TB := inTB 31 (by rfl) (by rfl)
set_option maxRecDepth 100000 in
theorem kt_ii_RX0 : Cond.initialized RX0 ∈ TB := inTB 33 (by rfl) (by rfl)
set_option maxRecDepth 100000 in
theorem kt_ii_RX3 : Cond.initialized RX3 ∈ TB := inTB 34 (by rfl) (by rfl)
set_option maxRecDepth 100000 in
theorem kt_ii_RX1 : Cond.initialized RX1 ∈ TB := inTB 35 (by rfl) (by rfl)
set_option maxRecDepth 100000 in
theorem kt_ii_RX5 : Cond.initialized RX5 ∈ TB := inTB 36 (by rfl) (by rfl)
set_option maxRecDepth 100000 in
theorem kt_cl_RL_7 : Cond.classLink RL 7 RX4 ∈ TB := inTB 40 (by rfl) (by rfl)
set_option maxRecDepth 100000 in
theorem kt_in_RX4 : Cond.instantiable RX4 6 ∈ TB := inTB 41 (by rfl) (by rfl)
set_option maxRecDepth 100000 in
theorem kt_ml_RL_9 : Cond.methodLink RL 9 yX4_init ∈ TB := inTB 42 (by rfl) (by rfl)
set_option maxRecDepth 100000 in
theorem kt_im_yX4_init : Cond.instanceMethod yX4_init ∈ TB := inTB 43 (by rfl) (by rfl)
set_option maxRecDepth 100000 in
theorem kt_co_yX4_init : Cond.code yX4_init cX4_init 1 none ∈ TB := inTB 44 (by rfl) (by rfl)
set_option maxRecDepth 100000 in
theorem kt_ml_RX4_1 : Cond.methodLink RX4 1 objectInit ∈ TB := inTB 45 (by rfl) (by rfl)
set_option maxRecDepth 100000 in
theorem kt_im_objectInit : Cond.instanceMethod objectInit ∈ TB := inTB 46 (by rfl) (by rfl)
set_option maxRecDepth 100000 in
theorem kt_co_objectInit : Cond.code objectInit ⟨#[0xb1]⟩ 1 none ∈ TB := inTB 47 (by rfl) (by rfl)
set_option maxRecDepth 100000 in
theorem kt_cl_RX4_7 : Cond.classLink RX4 7 RX2 ∈ TB := inTB 48 (by rfl) (by rfl)
set_option maxRecDepth 100000 in
theorem kt_in_RX2 : Cond.instantiable RX2 6 ∈ TB := inTB 49 (by rfl) (by rfl)
set_option maxRecDepth 100000 in
theorem kt_ml_RX4_9 : Cond.methodLink RX4 9 yX2_init ∈ TB := inTB 50 (by rfl) (by rfl)
set_option maxRecDepth 100000 in
theorem kt_im_yX2_init : Cond.instanceMethod yX2_init ∈ TB := inTB 51 (by rfl) (by rfl)
set_option maxRecDepth 100000 in
theorem kt_co_yX2_init : Cond.code yX2_init cX2_init 1 none ∈ TB := inTB 52 (by rfl) (by rfl)
set_option maxRecDepth 100000 in
theorem kt_ml_RX2_3 : Cond.methodLink RX2 3 objectInit ∈ TB := inTB 53 (by rfl) (by rfl)
set_option maxRecDepth 100000 in
theorem kt_arr_int : Cond.arrayClass .int ∈ TB := inTB 84 (by rfl) (by rfl)
set_option maxRecDepth 100000 in
theorem kt_cl_RX4_16 : Cond.classLink RX4 16 RX0 ∈ TB := inTB 85 (by rfl) (by rfl)
set_option maxRecDepth 100000 in
theorem kt_in_RX0 : Cond.instantiable RX0 3 ∈ TB := inTB 86 (by rfl) (by rfl)
set_option maxRecDepth 100000 in
theorem kt_ml_RX4_18 : Cond.methodLink RX4 18 yX0_init ∈ TB := inTB 87 (by rfl) (by rfl)
set_option maxRecDepth 100000 in
theorem kt_im_yX0_init : Cond.instanceMethod yX0_init ∈ TB := inTB 88 (by rfl) (by rfl)
set_option maxRecDepth 100000 in
theorem kt_co_yX0_init : Cond.code yX0_init cX0_init 2 none ∈ TB := inTB 89 (by rfl) (by rfl)
set_option maxRecDepth 100000 in
theorem kt_ml_RX0_3 : Cond.methodLink RX0 3 objectInit ∈ TB := inTB 90 (by rfl) (by rfl)
set_option maxRecDepth 100000 in
theorem kt_cl_RX0_9 : Cond.classLink RX0 9 RX2 ∈ TB := inTB 91 (by rfl) (by rfl)
set_option maxRecDepth 100000 in
theorem kt_ml_RX0_24 : Cond.methodLink RX0 24 yX2_init ∈ TB := inTB 93 (by rfl) (by rfl)
set_option maxRecDepth 100000 in
theorem kt_cl_RX4_23 : Cond.classLink RX4 23 RX3 ∈ TB := inTB 104 (by rfl) (by rfl)
set_option maxRecDepth 100000 in
theorem kt_in_RX3 : Cond.instantiable RX3 2 ∈ TB := inTB 105 (by rfl) (by rfl)
set_option maxRecDepth 100000 in
theorem kt_im_yX3_init : Cond.instanceMethod yX3_init ∈ TB := inTB 107 (by rfl) (by rfl)
set_option maxRecDepth 100000 in
theorem kt_co_yX3_init : Cond.code yX3_init cX3_init 1 none ∈ TB := inTB 108 (by rfl) (by rfl)
set_option maxRecDepth 100000 in
theorem kt_ml_RX3_3 : Cond.methodLink RX3 3 objectInit ∈ TB := inTB 109 (by rfl) (by rfl)
set_option maxRecDepth 100000 in
theorem kt_cl_RX4_30 : Cond.classLink RX4 30 RX1 ∈ TB := inTB 119 (by rfl) (by rfl)
set_option maxRecDepth 100000 in
theorem kt_in_RX1 : Cond.instantiable RX1 4 ∈ TB := inTB 120 (by rfl) (by rfl)
set_option maxRecDepth 100000 in
theorem kt_im_yX1_init : Cond.instanceMethod yX1_init ∈ TB := inTB 122 (by rfl) (by rfl)
set_option maxRecDepth 100000 in
theorem kt_co_yX1_init : Cond.code yX1_init cX1_init 1 none ∈ TB := inTB 123 (by rfl) (by rfl)
set_option maxRecDepth 100000 in
theorem kt_ml_RX1_3 : Cond.methodLink RX1 3 objectInit ∈ TB := inTB 124 (by rfl) (by rfl)
set_option maxRecDepth 100000 in
theorem kt_cl_RL_10 : Cond.classLink RL 10 RX5 ∈ TB := inTB 441 (by rfl) (by rfl)
set_option maxRecDepth 100000 in
theorem kt_in_RX5 : Cond.instantiable RX5 8 ∈ TB := inTB 442 (by rfl) (by rfl)
set_option maxRecDepth 100000 in
theorem kt_ml_RL_12 : Cond.methodLink RL 12 yX5_init ∈ TB := inTB 443 (by rfl) (by rfl)
set_option maxRecDepth 100000 in
theorem kt_im_yX5_init : Cond.instanceMethod yX5_init ∈ TB := inTB 444 (by rfl) (by rfl)
set_option maxRecDepth 100000 in
theorem kt_co_yX5_init : Cond.code yX5_init cX5_init 1 none ∈ TB := inTB 445 (by rfl) (by rfl)
set_option maxRecDepth 100000 in
theorem kt_ml_RX5_1 : Cond.methodLink RX5 1 objectInit ∈ TB := inTB 446 (by rfl) (by rfl)
set_option maxRecDepth 100000 in
theorem kt_arr_boolean : Cond.arrayClass .boolean ∈ TB := inTB 472 (by rfl) (by rfl)
set_option maxRecDepth 100000 in
theorem kt_fl_X0_11 : Cond.fieldLink RX0 11 (TX0 0).1 (TX0 0).2.1 (TX0 0).2.2.1 ∈ TB := inTB 94 (by rfl) (by rfl)
set_option maxRecDepth 100000 in
theorem kt_fl_X0_17 : Cond.fieldLink RX0 17 (TX0 1).1 (TX0 1).2.1 (TX0 1).2.2.1 ∈ TB := inTB 95 (by rfl) (by rfl)
set_option maxRecDepth 100000 in
theorem kt_fl_X0_21 : Cond.fieldLink RX0 21 (TX0 2).1 (TX0 2).2.1 (TX0 2).2.2.1 ∈ TB := inTB 96 (by rfl) (by rfl)
set_option maxRecDepth 100000 in
theorem kt_fl_X1_9 : Cond.fieldLink RX1 9 (TX1 0).1 (TX1 0).2.1 (TX1 0).2.2.1 ∈ TB := inTB 125 (by rfl) (by rfl)
set_option maxRecDepth 100000 in
theorem kt_fl_X1_15 : Cond.fieldLink RX1 15 (TX1 1).1 (TX1 1).2.1 (TX1 1).2.2.1 ∈ TB := inTB 126 (by rfl) (by rfl)
set_option maxRecDepth 100000 in
theorem kt_fl_X1_18 : Cond.fieldLink RX1 18 (TX1 2).1 (TX1 2).2.1 (TX1 2).2.2.1 ∈ TB := inTB 127 (by rfl) (by rfl)
set_option maxRecDepth 100000 in
theorem kt_fl_X1_22 : Cond.fieldLink RX1 22 (TX1 3).1 (TX1 3).2.1 (TX1 3).2.2.1 ∈ TB := inTB 129 (by rfl) (by rfl)
set_option maxRecDepth 100000 in
theorem kt_fl_X2_9 : Cond.fieldLink RX2 9 (TX2 0).1 (TX2 0).2.1 (TX2 0).2.2.1 ∈ TB := inTB 57 (by rfl) (by rfl)
set_option maxRecDepth 100000 in
theorem kt_fl_X2_15 : Cond.fieldLink RX2 15 (TX2 1).1 (TX2 1).2.1 (TX2 1).2.2.1 ∈ TB := inTB 60 (by rfl) (by rfl)
set_option maxRecDepth 100000 in
theorem kt_fl_X2_19 : Cond.fieldLink RX2 19 (TX2 2).1 (TX2 2).2.1 (TX2 2).2.2.1 ∈ TB := inTB 62 (by rfl) (by rfl)
set_option maxRecDepth 100000 in
theorem kt_fl_X2_22 : Cond.fieldLink RX2 22 (TX2 3).1 (TX2 3).2.1 (TX2 3).2.2.1 ∈ TB := inTB 64 (by rfl) (by rfl)
set_option maxRecDepth 100000 in
theorem kt_fl_X2_25 : Cond.fieldLink RX2 25 (TX2 4).1 (TX2 4).2.1 (TX2 4).2.2.1 ∈ TB := inTB 67 (by rfl) (by rfl)
set_option maxRecDepth 100000 in
theorem kt_fl_X2_28 : Cond.fieldLink RX2 28 (TX2 5).1 (TX2 5).2.1 (TX2 5).2.2.1 ∈ TB := inTB 68 (by rfl) (by rfl)
set_option maxRecDepth 100000 in
theorem kt_fl_X3_9 : Cond.fieldLink RX3 9 (TX3 0).1 (TX3 0).2.1 (TX3 0).2.2.1 ∈ TB := inTB 110 (by rfl) (by rfl)
set_option maxRecDepth 100000 in
theorem kt_fl_X3_15 : Cond.fieldLink RX3 15 (TX3 1).1 (TX3 1).2.1 (TX3 1).2.2.1 ∈ TB := inTB 112 (by rfl) (by rfl)
set_option maxRecDepth 100000 in
theorem kt_fl_X4_10 : Cond.fieldLink RX4 10 (TX4 0).1 (TX4 0).2.1 (TX4 0).2.2.1 ∈ TB := inTB 139 (by rfl) (by rfl)
set_option maxRecDepth 100000 in
theorem kt_fl_X4_19 : Cond.fieldLink RX4 19 (TX4 1).1 (TX4 1).2.1 (TX4 1).2.2.1 ∈ TB := inTB 140 (by rfl) (by rfl)
set_option maxRecDepth 100000 in
theorem kt_fl_X4_26 : Cond.fieldLink RX4 26 (TX4 2).1 (TX4 2).2.1 (TX4 2).2.2.1 ∈ TB := inTB 141 (by rfl) (by rfl)
set_option maxRecDepth 100000 in
theorem kt_fl_X4_33 : Cond.fieldLink RX4 33 (TX4 3).1 (TX4 3).2.1 (TX4 3).2.2.1 ∈ TB := inTB 142 (by rfl) (by rfl)
set_option maxRecDepth 100000 in
theorem kt_fl_X4_37 : Cond.fieldLink RX4 37 (TX4 4).1 (TX4 4).2.1 (TX4 4).2.2.1 ∈ TB := inTB 143 (by rfl) (by rfl)
set_option maxRecDepth 100000 in
theorem kt_fl_X4_41 : Cond.fieldLink RX4 41 (TX4 5).1 (TX4 5).2.1 (TX4 5).2.2.1 ∈ TB := inTB 144 (by rfl) (by rfl)
set_option maxRecDepth 100000 in
theorem kt_fl_X5_7 : Cond.fieldLink RX5 7 (TX5 0).1 (TX5 0).2.1 (TX5 0).2.2.1 ∈ TB := inTB 447 (by rfl) (by rfl)
set_option maxRecDepth 100000 in
theorem kt_fl_X5_13 : Cond.fieldLink RX5 13 (TX5 1).1 (TX5 1).2.1 (TX5 1).2.2.1 ∈ TB := inTB 448 (by rfl) (by rfl)
set_option maxRecDepth 100000 in
theorem kt_fl_X5_16 : Cond.fieldLink RX5 16 (TX5 3).1 (TX5 3).2.1 (TX5 3).2.2.1 ∈ TB := inTB 450 (by rfl) (by rfl)
set_option maxRecDepth 100000 in
theorem kt_fl_X5_19 : Cond.fieldLink RX5 19 (TX5 4).1 (TX5 4).2.1 (TX5 4).2.2.1 ∈ TB := inTB 451 (by rfl) (by rfl)
set_option maxRecDepth 100000 in
theorem kt_fl_X5_23 : Cond.fieldLink RX5 23 (TX5 5).1 (TX5 5).2.1 (TX5 5).2.2.1 ∈ TB := inTB 452 (by rfl) (by rfl)
set_option maxRecDepth 100000 in
theorem kt_fl_X5_26 : Cond.fieldLink RX5 26 (TX5 7).1 (TX5 7).2.1 (TX5 7).2.2.1 ∈ TB := inTB 454 (by rfl) (by rfl)
set_option maxRecDepth 100000 in
theorem kt_ml_fill : Cond.methodLink RX2 31 yJ7_fill_53178 ∈ TB := inTB 54 (by rfl) (by rfl)
set_option maxRecDepth 100000 in
theorem kt_st_fill : Cond.static yJ7_fill_53178 ∈ TB := inTB 55 (by rfl) (by rfl)
set_option maxRecDepth 100000 in
theorem kt_ii_fill : Cond.initialized yJ7_fill_53178.cls ∈ TB := inTB 32 (by rfl) (by rfl)
set_option maxRecDepth 100000 in
theorem kt_co_fill : Cond.code yJ7_fill_53178 cJ7_fill_53178 4 none ∈ TB := inTB 56 (by rfl) (by rfl)
theorem dX0_init_0 : decode cX0_init 0 = .ok (.aload_n 0, 1) := by decide +kernel
theorem dX0_init_1 : decode cX0_init 1 = .ok (.invokespecial 3, 3) := by decide +kernel
theorem dX0_init_4 : decode cX0_init 4 = .ok (.aload_n 0, 1) := by decide +kernel
theorem dX0_init_5 : decode cX0_init 5 = .ok (.bipush 6, 2) := by decide +kernel
theorem dX0_init_7 : decode cX0_init 7 = .ok (.anewarray 9, 3) := by decide +kernel
theorem dX0_init_10 : decode cX0_init 10 = .ok (.putfield 11, 3) := by decide +kernel
theorem dX0_init_13 : decode cX0_init 13 = .ok (.aload_n 0, 1) := by decide +kernel
theorem dX0_init_14 : decode cX0_init 14 = .ok (.iconst 0, 1) := by decide +kernel
theorem dX0_init_15 : decode cX0_init 15 = .ok (.putfield 17, 3) := by decide +kernel
theorem dX0_init_18 : decode cX0_init 18 = .ok (.aload_n 0, 1) := by decide +kernel
theorem dX0_init_19 : decode cX0_init 19 = .ok (.iconst 0, 1) := by decide +kernel
theorem dX0_init_20 : decode cX0_init 20 = .ok (.putfield 21, 3) := by decide +kernel
theorem dX0_init_23 : decode cX0_init 23 = .ok (.iconst 0, 1) := by decide +kernel
theorem dX0_init_24 : decode cX0_init 24 = .ok (.istore_n 1, 1) := by decide +kernel
theorem dX0_init_25 : decode cX0_init 25 = .ok (.iload_n 1, 1) := by decide +kernel
theorem dX0_init_26 : decode cX0_init 26 = .ok (.bipush 6, 2) := by decide +kernel
theorem dX0_init_28 : decode cX0_init 28 = .ok (.if_icmp .ge 22, 3) := by decide +kernel
theorem dX0_init_31 : decode cX0_init 31 = .ok (.aload_n 0, 1) := by decide +kernel
theorem dX0_init_32 : decode cX0_init 32 = .ok (.getfield 11, 3) := by decide +kernel
theorem dX0_init_35 : decode cX0_init 35 = .ok (.iload_n 1, 1) := by decide +kernel
theorem dX0_init_36 : decode cX0_init 36 = .ok (.new 9, 3) := by decide +kernel
theorem dX0_init_39 : decode cX0_init 39 = .ok (.dup, 1) := by decide +kernel
theorem dX0_init_40 : decode cX0_init 40 = .ok (.invokespecial 24, 3) := by decide +kernel
theorem dX0_init_43 : decode cX0_init 43 = .ok (.aastore, 1) := by decide +kernel
theorem dX0_init_44 : decode cX0_init 44 = .ok (.iinc 1 1, 3) := by decide +kernel
theorem dX0_init_47 : decode cX0_init 47 = .ok (.goto (-22), 3) := by decide +kernel
theorem dX0_init_50 : decode cX0_init 50 = .ok (.return_, 1) := by decide +kernel
theorem dX1_init_0 : decode cX1_init 0 = .ok (.aload_n 0, 1) := by decide +kernel
theorem dX1_init_1 : decode cX1_init 1 = .ok (.invokespecial 3, 3) := by decide +kernel
theorem dX1_init_4 : decode cX1_init 4 = .ok (.aload_n 0, 1) := by decide +kernel
theorem dX1_init_5 : decode cX1_init 5 = .ok (.bipush 16, 2) := by decide +kernel
theorem dX1_init_7 : decode cX1_init 7 = .ok (.newarray .int, 2) := by decide +kernel
theorem dX1_init_9 : decode cX1_init 9 = .ok (.putfield 9, 3) := by decide +kernel
theorem dX1_init_12 : decode cX1_init 12 = .ok (.aload_n 0, 1) := by decide +kernel
theorem dX1_init_13 : decode cX1_init 13 = .ok (.bipush 16, 2) := by decide +kernel
theorem dX1_init_15 : decode cX1_init 15 = .ok (.newarray .int, 2) := by decide +kernel
theorem dX1_init_17 : decode cX1_init 17 = .ok (.putfield 15, 3) := by decide +kernel
theorem dX1_init_20 : decode cX1_init 20 = .ok (.aload_n 0, 1) := by decide +kernel
theorem dX1_init_21 : decode cX1_init 21 = .ok (.iconst 0, 1) := by decide +kernel
theorem dX1_init_22 : decode cX1_init 22 = .ok (.putfield 18, 3) := by decide +kernel
theorem dX1_init_25 : decode cX1_init 25 = .ok (.aload_n 0, 1) := by decide +kernel
theorem dX1_init_26 : decode cX1_init 26 = .ok (.iconst 0, 1) := by decide +kernel
theorem dX1_init_27 : decode cX1_init 27 = .ok (.putfield 22, 3) := by decide +kernel
theorem dX1_init_30 : decode cX1_init 30 = .ok (.return_, 1) := by decide +kernel
theorem dX2_init_0 : decode cX2_init 0 = .ok (.aload_n 0, 1) := by decide +kernel
theorem dX2_init_1 : decode cX2_init 1 = .ok (.invokespecial 3, 3) := by decide +kernel
theorem dX2_init_4 : decode cX2_init 4 = .ok (.aload_n 0, 1) := by decide +kernel
theorem dX2_init_5 : decode cX2_init 5 = .ok (.iconst 4, 1) := by decide +kernel
theorem dX2_init_6 : decode cX2_init 6 = .ok (.putfield 9, 3) := by decide +kernel
theorem dX2_init_9 : decode cX2_init 9 = .ok (.aload_n 0, 1) := by decide +kernel
theorem dX2_init_10 : decode cX2_init 10 = .ok (.bipush 16, 2) := by decide +kernel
theorem dX2_init_12 : decode cX2_init 12 = .ok (.newarray .int, 2) := by decide +kernel
theorem dX2_init_14 : decode cX2_init 14 = .ok (.putfield 15, 3) := by decide +kernel
theorem dX2_init_17 : decode cX2_init 17 = .ok (.aload_n 0, 1) := by decide +kernel
theorem dX2_init_18 : decode cX2_init 18 = .ok (.bipush 16, 2) := by decide +kernel
theorem dX2_init_20 : decode cX2_init 20 = .ok (.newarray .int, 2) := by decide +kernel
theorem dX2_init_22 : decode cX2_init 22 = .ok (.putfield 19, 3) := by decide +kernel
theorem dX2_init_25 : decode cX2_init 25 = .ok (.aload_n 0, 1) := by decide +kernel
theorem dX2_init_26 : decode cX2_init 26 = .ok (.bipush 16, 2) := by decide +kernel
theorem dX2_init_28 : decode cX2_init 28 = .ok (.newarray .int, 2) := by decide +kernel
theorem dX2_init_30 : decode cX2_init 30 = .ok (.putfield 22, 3) := by decide +kernel
theorem dX2_init_33 : decode cX2_init 33 = .ok (.aload_n 0, 1) := by decide +kernel
theorem dX2_init_34 : decode cX2_init 34 = .ok (.bipush 64, 2) := by decide +kernel
theorem dX2_init_36 : decode cX2_init 36 = .ok (.newarray .int, 2) := by decide +kernel
theorem dX2_init_38 : decode cX2_init 38 = .ok (.putfield 25, 3) := by decide +kernel
theorem dX2_init_41 : decode cX2_init 41 = .ok (.aload_n 0, 1) := by decide +kernel
theorem dX2_init_42 : decode cX2_init 42 = .ok (.iconst 4, 1) := by decide +kernel
theorem dX2_init_43 : decode cX2_init 43 = .ok (.newarray .int, 2) := by decide +kernel
theorem dX2_init_45 : decode cX2_init 45 = .ok (.putfield 28, 3) := by decide +kernel
theorem dX2_init_48 : decode cX2_init 48 = .ok (.aload_n 0, 1) := by decide +kernel
theorem dX2_init_49 : decode cX2_init 49 = .ok (.getfield 15, 3) := by decide +kernel
theorem dX2_init_52 : decode cX2_init 52 = .ok (.iconst (-1), 1) := by decide +kernel
theorem dX2_init_53 : decode cX2_init 53 = .ok (.invokestatic 31, 3) := by decide +kernel
theorem dX2_init_56 : decode cX2_init 56 = .ok (.return_, 1) := by decide +kernel
theorem dX3_init_0 : decode cX3_init 0 = .ok (.aload_n 0, 1) := by decide +kernel
theorem dX3_init_1 : decode cX3_init 1 = .ok (.invokespecial 3, 3) := by decide +kernel
theorem dX3_init_4 : decode cX3_init 4 = .ok (.aload_n 0, 1) := by decide +kernel
theorem dX3_init_5 : decode cX3_init 5 = .ok (.sipush 625, 3) := by decide +kernel
theorem dX3_init_8 : decode cX3_init 8 = .ok (.newarray .int, 2) := by decide +kernel
theorem dX3_init_10 : decode cX3_init 10 = .ok (.putfield 9, 3) := by decide +kernel
theorem dX3_init_13 : decode cX3_init 13 = .ok (.aload_n 0, 1) := by decide +kernel
theorem dX3_init_14 : decode cX3_init 14 = .ok (.sipush 625, 3) := by decide +kernel
theorem dX3_init_17 : decode cX3_init 17 = .ok (.newarray .int, 2) := by decide +kernel
theorem dX3_init_19 : decode cX3_init 19 = .ok (.putfield 15, 3) := by decide +kernel
theorem dX3_init_22 : decode cX3_init 22 = .ok (.return_, 1) := by decide +kernel
theorem dX4_init_0 : decode cX4_init 0 = .ok (.aload_n 0, 1) := by decide +kernel
theorem dX4_init_1 : decode cX4_init 1 = .ok (.invokespecial 1, 3) := by decide +kernel
theorem dX4_init_4 : decode cX4_init 4 = .ok (.aload_n 0, 1) := by decide +kernel
theorem dX4_init_5 : decode cX4_init 5 = .ok (.new 7, 3) := by decide +kernel
theorem dX4_init_8 : decode cX4_init 8 = .ok (.dup, 1) := by decide +kernel
theorem dX4_init_9 : decode cX4_init 9 = .ok (.invokespecial 9, 3) := by decide +kernel
theorem dX4_init_12 : decode cX4_init 12 = .ok (.putfield 10, 3) := by decide +kernel
theorem dX4_init_15 : decode cX4_init 15 = .ok (.aload_n 0, 1) := by decide +kernel
theorem dX4_init_16 : decode cX4_init 16 = .ok (.new 16, 3) := by decide +kernel
theorem dX4_init_19 : decode cX4_init 19 = .ok (.dup, 1) := by decide +kernel
theorem dX4_init_20 : decode cX4_init 20 = .ok (.invokespecial 18, 3) := by decide +kernel
theorem dX4_init_23 : decode cX4_init 23 = .ok (.putfield 19, 3) := by decide +kernel
theorem dX4_init_26 : decode cX4_init 26 = .ok (.aload_n 0, 1) := by decide +kernel
theorem dX4_init_27 : decode cX4_init 27 = .ok (.new 23, 3) := by decide +kernel
theorem dX4_init_30 : decode cX4_init 30 = .ok (.dup, 1) := by decide +kernel
theorem dX4_init_31 : decode cX4_init 31 = .ok (.invokespecial 25, 3) := by decide +kernel
theorem dX4_init_34 : decode cX4_init 34 = .ok (.putfield 26, 3) := by decide +kernel
theorem dX4_init_37 : decode cX4_init 37 = .ok (.aload_n 0, 1) := by decide +kernel
theorem dX4_init_38 : decode cX4_init 38 = .ok (.new 30, 3) := by decide +kernel
theorem dX4_init_41 : decode cX4_init 41 = .ok (.dup, 1) := by decide +kernel
theorem dX4_init_42 : decode cX4_init 42 = .ok (.invokespecial 32, 3) := by decide +kernel
theorem dX4_init_45 : decode cX4_init 45 = .ok (.putfield 33, 3) := by decide +kernel
theorem dX4_init_48 : decode cX4_init 48 = .ok (.aload_n 0, 1) := by decide +kernel
theorem dX4_init_49 : decode cX4_init 49 = .ok (.iconst 0, 1) := by decide +kernel
theorem dX4_init_50 : decode cX4_init 50 = .ok (.putfield 37, 3) := by decide +kernel
theorem dX4_init_53 : decode cX4_init 53 = .ok (.aload_n 0, 1) := by decide +kernel
theorem dX4_init_54 : decode cX4_init 54 = .ok (.iconst 0, 1) := by decide +kernel
theorem dX4_init_55 : decode cX4_init 55 = .ok (.putfield 41, 3) := by decide +kernel
theorem dX4_init_58 : decode cX4_init 58 = .ok (.return_, 1) := by decide +kernel
theorem dX5_init_0 : decode cX5_init 0 = .ok (.aload_n 0, 1) := by decide +kernel
theorem dX5_init_1 : decode cX5_init 1 = .ok (.invokespecial 1, 3) := by decide +kernel
theorem dX5_init_4 : decode cX5_init 4 = .ok (.aload_n 0, 1) := by decide +kernel
theorem dX5_init_5 : decode cX5_init 5 = .ok (.sipush 133, 3) := by decide +kernel
theorem dX5_init_8 : decode cX5_init 8 = .ok (.newarray .int, 2) := by decide +kernel
theorem dX5_init_10 : decode cX5_init 10 = .ok (.putfield 7, 3) := by decide +kernel
theorem dX5_init_13 : decode cX5_init 13 = .ok (.aload_n 0, 1) := by decide +kernel
theorem dX5_init_14 : decode cX5_init 14 = .ok (.sipush 798, 3) := by decide +kernel
theorem dX5_init_17 : decode cX5_init 17 = .ok (.newarray .int, 2) := by decide +kernel
theorem dX5_init_19 : decode cX5_init 19 = .ok (.putfield 13, 3) := by decide +kernel
theorem dX5_init_22 : decode cX5_init 22 = .ok (.aload_n 0, 1) := by decide +kernel
theorem dX5_init_23 : decode cX5_init 23 = .ok (.sipush 625, 3) := by decide +kernel
theorem dX5_init_26 : decode cX5_init 26 = .ok (.newarray .int, 2) := by decide +kernel
theorem dX5_init_28 : decode cX5_init 28 = .ok (.putfield 16, 3) := by decide +kernel
theorem dX5_init_31 : decode cX5_init 31 = .ok (.aload_n 0, 1) := by decide +kernel
theorem dX5_init_32 : decode cX5_init 32 = .ok (.sipush 625, 3) := by decide +kernel
theorem dX5_init_35 : decode cX5_init 35 = .ok (.newarray .boolean, 2) := by decide +kernel
theorem dX5_init_37 : decode cX5_init 37 = .ok (.putfield 19, 3) := by decide +kernel
theorem dX5_init_40 : decode cX5_init 40 = .ok (.aload_n 0, 1) := by decide +kernel
theorem dX5_init_41 : decode cX5_init 41 = .ok (.sipush 625, 3) := by decide +kernel
theorem dX5_init_44 : decode cX5_init 44 = .ok (.newarray .int, 2) := by decide +kernel
theorem dX5_init_46 : decode cX5_init 46 = .ok (.putfield 23, 3) := by decide +kernel
theorem dX5_init_49 : decode cX5_init 49 = .ok (.aload_n 0, 1) := by decide +kernel
theorem dX5_init_50 : decode cX5_init 50 = .ok (.bipush 16, 2) := by decide +kernel
theorem dX5_init_52 : decode cX5_init 52 = .ok (.newarray .int, 2) := by decide +kernel
theorem dX5_init_54 : decode cX5_init 54 = .ok (.putfield 26, 3) := by decide +kernel
theorem dX5_init_57 : decode cX5_init 57 = .ok (.aload_n 0, 1) := by decide +kernel
theorem dX5_init_58 : decode cX5_init 58 = .ok (.getfield 7, 3) := by decide +kernel
theorem dX5_init_61 : decode cX5_init 61 = .ok (.sipush 128, 3) := by decide +kernel
theorem dX5_init_64 : decode cX5_init 64 = .ok (.iconst 4, 1) := by decide +kernel
theorem dX5_init_65 : decode cX5_init 65 = .ok (.iastore, 1) := by decide +kernel
theorem dX5_init_66 : decode cX5_init 66 = .ok (.return_, 1) := by decide +kernel
theorem dJ7_fill_53178_0 : decode cJ7_fill_53178 0 = .ok (.iconst 0, 1) := by decide +kernel
theorem dJ7_fill_53178_1 : decode cJ7_fill_53178 1 = .ok (.istore_n 2, 1) := by decide +kernel
theorem dJ7_fill_53178_2 : decode cJ7_fill_53178 2 = .ok (.aload_n 0, 1) := by decide +kernel
theorem dJ7_fill_53178_3 : decode cJ7_fill_53178 3 = .ok (.arraylength, 1) := by decide +kernel
theorem dJ7_fill_53178_4 : decode cJ7_fill_53178 4 = .ok (.istore_n 3, 1) := by decide +kernel
theorem dJ7_fill_53178_5 : decode cJ7_fill_53178 5 = .ok (.iload_n 2, 1) := by decide +kernel
theorem dJ7_fill_53178_6 : decode cJ7_fill_53178 6 = .ok (.iload_n 3, 1) := by decide +kernel
theorem dJ7_fill_53178_7 : decode cJ7_fill_53178 7 = .ok (.if_icmp .ge 13, 3) := by decide +kernel
theorem dJ7_fill_53178_10 : decode cJ7_fill_53178 10 = .ok (.aload_n 0, 1) := by decide +kernel
theorem dJ7_fill_53178_11 : decode cJ7_fill_53178 11 = .ok (.iload_n 2, 1) := by decide +kernel
theorem dJ7_fill_53178_12 : decode cJ7_fill_53178 12 = .ok (.iload_n 1, 1) := by decide +kernel
theorem dJ7_fill_53178_13 : decode cJ7_fill_53178 13 = .ok (.iastore, 1) := by decide +kernel
theorem dJ7_fill_53178_14 : decode cJ7_fill_53178 14 = .ok (.iinc 2 1, 3) := by decide +kernel
theorem dJ7_fill_53178_17 : decode cJ7_fill_53178 17 = .ok (.goto (-12), 3) := by decide +kernel
theorem dJ7_fill_53178_20 : decode cJ7_fill_53178 20 = .ok (.return_, 1) := by decide +kernel
theorem dL_law_0 : decode cL_law 0 = .ok (.new 7, 3) := by decide +kernel
theorem dL_law_3 : decode cL_law 3 = .ok (.dup, 1) := by decide +kernel
theorem dL_law_4 : decode cL_law 4 = .ok (.invokespecial 9, 3) := by decide +kernel
theorem dL_law_7 : decode cL_law 7 = .ok (.astore_n 1, 1) := by decide +kernel
theorem dL_law_8 : decode cL_law 8 = .ok (.new 10, 3) := by decide +kernel
theorem dL_law_11 : decode cL_law 11 = .ok (.dup, 1) := by decide +kernel
theorem dL_law_12 : decode cL_law 12 = .ok (.invokespecial 12, 3) := by decide +kernel
theorem dL_law_15 : decode cL_law 15 = .ok (.astore_n 2, 1) := by decide +kernel
def fZ : Nat → Int32 := fun _ => 0
def rmN (d mc ms : Nat) : Room := { frames := d, cells := mc, slots := ms, locals := 100 * d }
def PreN (D : va_G) (C : CI3) (w : va_W) (sz : Nat) (U : State) : Prop := U.heap.size = sz ∧ va_P D vwCl w U.heap ∧ va_D (fun _ => True) w ∧ va_K D vwCl (tyl C) U ∧ (∀ w ∈ NW, va_Nw w U) ∧ va_AO RX2 U
def QN (D : va_G) (C : CI3) (A : Nat → Prop) (h0 : Nat) (wf : CI3 → (Nat → Nat) → va_W) : Array Value → State → Outcome → State → Prop := va_Qv (fun q : Nat → Nat => q 0 = h0) (fun q t => va_P D vwCl (wf C q) t.heap ∧ va_D A (wf C q)) A
/-- a constructor's contract: at depth d, mc cells of ms slots come; the object of class ci with fields fs at h0 becomes the world wf -/
def NC (l : Launch) (y : MethodName) (b : ByteArray) (n d mc ms ci : Nat) (fs : List Value) (wf : CI3 → (Nat → Nat) → va_W) : Prop :=
  ∀ (D : va_G) (C : CI3) (h0 sz : Nat), Met l y (mws y b n none) (rmN d mc ms) (va_Pc [.ref h0] (PreN D C [(h0, .inr (ci, fs))] sz)) (QN D C (va_A [(h0, .inr (ci, fs))] sz) h0 wf) mc ms (va_A [(h0, .inr (ci, fs))] sz)
theorem preN_blind {D : va_G} {C : CI3} {w : va_W} {sz : Nat} {av : List Value} : FrameBlind (va_Pc av (PreN D C w sz)) := by
  intro a U gf mk q
  obtain ⟨q0, q1, qP, qD, qK, qN, qO⟩ := q
  exact ⟨q0, q1, qP, qD, va_K.moved (u := U) (U := U.calling gf mk a) (Vm.Alike.refl U.vm) qK, fun w hw => va_Nw.same (u := U) (U := U.calling gf mk a) (nw_tab w hw) rfl (qN w hw), va_AO.moved (u := U) (U := U.calling gf mk a) (Vm.Alike.refl U.vm) qO⟩
theorem cA_int {D : va_G} {C : CI3} {s : State} {cA : ClassId} (h : va_K D vwCl (tyl C ++ [(cA, .int)]) s) : cA = C.1 := by
  have h1 : s.vm.findClass ("[" ++ FieldType.int.toString) = some C.1 := (h.2 0 (C.1, .int) rfl).2
  have h2 : s.vm.findClass ("[" ++ FieldType.int.toString) = some cA := (h.2 3 (cA, .int) rfl).2
  exact Option.some.inj (h2.symm.trans h1)
theorem cA_bool {D : va_G} {C : CI3} {s : State} {cA : ClassId} (h : va_K D vwCl (tyl C ++ [(cA, .boolean)]) s) : cA = C.2.1 := by
  have h1 : s.vm.findClass ("[" ++ FieldType.boolean.toString) = some C.2.1 := (h.2 1 (C.2.1, .boolean) rfl).2
  have h2 : s.vm.findClass ("[" ++ FieldType.boolean.toString) = some cA := (h.2 3 (cA, .boolean) rfl).2
  exact Option.some.inj (h2.symm.trans h1)
theorem cA_ref {D : va_G} {C : CI3} {s : State} {cA : ClassId} (h : va_K D vwCl (tyl C ++ [(cA, .object RX2)]) s) : cA = C.2.2 := by
  obtain ⟨_, _, _, _, _, h1⟩ := (h.2 2 (C.2.2, .object RX2) rfl).2
  obtain ⟨_, _, _, _, _, h2⟩ := (h.2 3 (cA, .object RX2) rfl).2
  exact Option.some.inj (h2.symm.trans h1)
theorem nd_of : ∀ (l : List Nat), l.Nodup → va_nd l = true
  | [], _ => rfl
  | a :: l, h => by
    rw [List.nodup_cons] at h
    simp only [va_nd, Bool.and_eq_true, decide_eq_true_eq]
    exact ⟨h.1, nd_of l h.2⟩
theorem end_at {ws : va_W} {x : Nat × va_E} : (ws ++ [x])[ws.length]? = some x := by simp
theorem join_end {A0 : Nat → Prop} {D : va_G} {cl : List vw_C} {ws w1 : va_W} {x : Nat × va_E} {H H1 : Heap} (hP : va_P D cl (ws ++ [x]) H) (hD : va_D A0 (ws ++ [x])) (hk : ∀ q : Nat, q < H.size → ¬ va_A [x] H.size q → H1[q]? = H[q]?) (hF : ∀ q, va_A [x] H.size q → A0 q) (hP1 : va_P D cl w1 H1) (hD1 : va_D (va_A [x] H.size) w1) : va_P D cl (ws ++ w1) H1 ∧ va_D A0 (ws ++ w1) := by
  refine va_join (wc := [x]) (wr := ws) hP hD [ws.length] (List.range ws.length) (by rw [List.map_cons, end_at]; rfl) ?_ (nd_of _ List.nodup_range) ?_ hk hF hP1 hD1
  · apply List.ext_getElem?
    intro i
    rw [List.getElem?_map, List.getElem?_map]
    by_cases h : i < ws.length
    · rw [List.getElem?_range h, Option.map_some, List.getElem?_append_left h, List.getElem?_eq_getElem h]
      rfl
    · rw [List.getElem?_eq_none (by simpa using h), List.getElem?_eq_none (by omega)]
      rfl
  · intro i hi h
    rw [List.mem_range] at hi
    rw [List.mem_singleton] at h
    omega
/-- what stays true while a constructor runs -/
def Bx (p : Program) (s : State) (m : MethodId) (args : Array Value) (c : Code) (cc : ByteArray) (nL : Nat) (own : String) (D : va_G) (C : CI3) (A : Nat → Prop) : Prop :=
  p.tables.exec = Jvm.exec ∧ c.code = cc ∧ c.maxLocals = nL ∧ s.vm.findClass own = some m.cls ∧ (∀ w ∈ TB, w.before args s = true) ∧ (∀ w ∈ NW, va_Nw w s) ∧ va_K D vwCl (tyl C) s ∧ va_AO RX2 s ∧ (∀ q, s.heap.size ≤ q → A q)
section NEWS
variable {p : Program} {l : Launch} {e : Env} {R : Room} {s : State} {m : MethodId} {args : Array Value} {below : List Frame} {meth : Method} {c : Code} {cells slots : Nat} {Q : State → Prop} {D : va_G} {C : CI3} {A : Nat → Prop} {cc : ByteArray} {nL pc : Nat} {own : String} {H : Heap} {locs : List Loc} {ls : Array Slot} {rest : List Value} {ws : va_W}
theorem bw_obj (X : Bx p s m args c cc nL own D C A) {idx a : Nat} (hl : Cond.methodLink own idx objectInit ∈ TB) (hsz : ls.size = nL) (hr8 : (rest.map fun v => v.category).sum ≤ 8) (hR : 1 ≤ R.frames ∧ 100 ≤ R.locals) (hd : decode cc pc = .ok (.invokespecial idx, 3)) (kk : W p l e R s m args below meth c H locs cells slots Q (F0 m (pc + 3) ls rest)) : W p l e R s m args below meth c H locs cells slots Q (F0 m pc ls (.ref a :: rest)) := by
  obtain ⟨hx, hb, hml, ho, hts, hN, hK, hO, hA⟩ := X
  refine W.objInit hx hb ho (hts _ hl) (hts _ kt_im_objectInit) (hts _ kt_co_objectInit) rfl (by rw [hml]; exact hsz) rfl hd hR.1 ?_ ?_
  · have := lv_room (m := m) (pc := pc) (ls := ls) (rest := .ref a :: rest) hr8
    omega
  · exact kk
theorem bw_newI (X : Bx p s m args c cc nL own D C A) (hP : va_P D vwCl ws H) (hD : va_D A ws) (hS : va_S A s.heap H locs) {n : Int32} {N' : Nat} (hn : ¬ n < 0) (hN : n.toNatClampNeg = N') (hbytes : N' * 4 ≤ 536870912) (hcs : cells + 1 ≤ R.cells ∧ slots + N' ≤ R.slots) (hdg : decode cc pc = .ok (.newarray .int, 2))
    (kk : ∀ (q : Nat) (H1 : Heap), va_P D vwCl (ws ++ [(q, .inl (C.1, N', .inl fZ))]) H1 → va_D A (ws ++ [(q, .inl (C.1, N', .inl fZ))]) → va_S A s.heap H1 locs → W p l e R s m args below meth c H1 locs (cells + 1) (slots + N') Q (F0 m (pc + 2) ls (.ref q :: rest))) : W p l e R s m args below meth c H locs cells slots Q (F0 m pc ls (.int n :: rest)) := by
  obtain ⟨hx, hb, hml, ho, hts, hNw, hK, hO, hA⟩ := X
  refine va_newa (atype := .int) (a0 := (N', .inl fZ)) (ty := .int) hx hb (hts (.arrayClass .int) kt_arr_int) rfl hK hP hD hS hA (fun cA => rfl) hn hN hbytes hcs.1 hcs.2 hdg (fun q cA H1 hK1 hP1 hD1 hS1 => ?_)
  obtain rfl := cA_int hK1
  exact kk q H1 hP1 hD1 hS1
theorem bw_newZ (X : Bx p s m args c cc nL own D C A) (hP : va_P D vwCl ws H) (hD : va_D A ws) (hS : va_S A s.heap H locs) {n : Int32} {N' : Nat} (hn : ¬ n < 0) (hN : n.toNatClampNeg = N') (hbytes : N' * 1 ≤ 536870912) (hcs : cells + 1 ≤ R.cells ∧ slots + N' ≤ R.slots) (hdg : decode cc pc = .ok (.newarray .boolean, 2))
    (kk : ∀ (q : Nat) (H1 : Heap), va_P D vwCl (ws ++ [(q, .inl (C.2.1, N', .inl fZ))]) H1 → va_D A (ws ++ [(q, .inl (C.2.1, N', .inl fZ))]) → va_S A s.heap H1 locs → W p l e R s m args below meth c H1 locs (cells + 1) (slots + N') Q (F0 m (pc + 2) ls (.ref q :: rest))) : W p l e R s m args below meth c H locs cells slots Q (F0 m pc ls (.int n :: rest)) := by
  obtain ⟨hx, hb, hml, ho, hts, hNw, hK, hO, hA⟩ := X
  refine va_newa (atype := .boolean) (a0 := (N', .inl fZ)) (ty := .boolean) hx hb (hts (.arrayClass .boolean) kt_arr_boolean) rfl hK hP hD hS hA (fun cA => rfl) hn hN hbytes hcs.1 hcs.2 hdg (fun q cA H1 hK1 hP1 hD1 hS1 => ?_)
  obtain rfl := cA_bool hK1
  exact kk q H1 hP1 hD1 hS1
theorem bw_newR (X : Bx p s m args c cc nL own D C A) {idx : Nat} (hcl : Cond.classLink own idx RX2 ∈ TB) (hP : va_P D vwCl ws H) (hD : va_D A ws) (hS : va_S A s.heap H locs) {n : Int32} {N' : Nat} (hn : ¬ n < 0) (hN : n.toNatClampNeg = N') (hbytes : N' * 4 ≤ 536870912) (hcs : cells + 1 ≤ R.cells ∧ slots + N' ≤ R.slots) (hdg : decode cc pc = .ok (.anewarray idx, 3))
    (kk : ∀ (q : Nat) (H1 : Heap), va_P D vwCl (ws ++ [(q, .inl (C.2.2, N', .inr (.inr (.inr (.inr (fun _ => none))))))]) H1 → va_D A (ws ++ [(q, .inl (C.2.2, N', .inr (.inr (.inr (.inr (fun _ => none))))))]) → va_S A s.heap H1 locs → W p l e R s m args below meth c H1 locs (cells + 1) (slots + N') Q (F0 m (pc + 3) ls (.ref q :: rest))) : W p l e R s m args below meth c H locs cells slots Q (F0 m pc ls (.int n :: rest)) := by
  obtain ⟨hx, hb, hml, ho, hts, hNw, hK, hO, hA⟩ := X
  refine va_newq hx hb ho (hts _ hcl) hO hK hP hD hS hA hn hN hbytes hcs.1 hcs.2 hdg (fun q cA H1 hK1 hP1 hD1 hS1 => ?_)
  obtain rfl := cA_ref hK1
  exact kk q H1 hP1 hD1 hS1
theorem bw_putF (X : Bx p s m args c cc nL own D C A) {CN : String} {T : u_T} {N ci idx a : Nat} {fs : List Value} (hin : ∀ w ∈ u_ws CN T N, w ∈ TB) (ty0 : Nat → FieldType) (hty : ∀ k, k < N → parseFieldDescriptor (T k).2.2.1 = some (ty0 k)) (hnm : ∀ a, a < N → ∀ b, b < N → a ≠ b → (T a).2.1 ≠ (T b).2.1) (hc : vwCl[ci]? = some (CN, T, N)) (k : Nat) (hk : k < N) (hl : Cond.fieldLink own idx (T k).1 (T k).2.1 (T k).2.2.1 ∈ TB) (hfin : (T k).2.2.2 = true) (hin2 : meth.name = "<init>") (hdecl : (T k).1 = own) {ty : FieldType} {v : Value} (hd : parseFieldDescriptor (T k).2.2.1 = some ty) (hn : narrow ty v = v) (hfit : fits ty v = true) (hlen : k < fs.length) (hdg : decode cc pc = .ok (.putfield idx, 3)) (hP : va_P D vwCl ((a, .inr (ci, fs)) :: ws) H) (hD : va_D A ((a, .inr (ci, fs)) :: ws)) (hS : va_S A s.heap H locs)
    (kk : ∀ (H1 : Heap) (locs1 : List Loc), va_P D vwCl ((a, .inr (ci, fs.set k v)) :: ws) H1 → va_D A ((a, .inr (ci, fs.set k v)) :: ws) → va_S A s.heap H1 locs1 → W p l e R s m args below meth c H1 locs1 cells slots Q (F0 m (pc + 3) ls rest)) : W p l e R s m args below meth c H locs cells slots Q (F0 m pc ls (v :: .ref a :: rest)) := by
  obtain ⟨hx, hb, hml, ho, hts, hNw, hK, hO, hA⟩ := X
  exact va_putF (C := CN) (T := T) (N := N) (ref := (T k).1) hx hb hts hin ty0 hty hnm ho hK hP hD hS 0 rfl hc k hk (hts _ hl) (fun _ h => h) hfin hin2 hdecl hd hn hfit hlen hdg kk
theorem bw_put (X : Bx p s m args c cc nL own D C A) {CN : String} {T : u_T} {N ci idx a : Nat} {fs : List Value} (hin : ∀ w ∈ u_ws CN T N, w ∈ TB) (ty0 : Nat → FieldType) (hty : ∀ k, k < N → parseFieldDescriptor (T k).2.2.1 = some (ty0 k)) (hnm : ∀ a, a < N → ∀ b, b < N → a ≠ b → (T a).2.1 ≠ (T b).2.1) (hc : vwCl[ci]? = some (CN, T, N)) (k : Nat) (hk : k < N) (hl : Cond.fieldLink own idx (T k).1 (T k).2.1 (T k).2.2.1 ∈ TB) (hfin : (T k).2.2.2 = false) {ty : FieldType} {v : Value} (hd : parseFieldDescriptor (T k).2.2.1 = some ty) (hn : narrow ty v = v) (hfit : fits ty v = true) (hlen : k < fs.length) (hdg : decode cc pc = .ok (.putfield idx, 3)) (hP : va_P D vwCl ((a, .inr (ci, fs)) :: ws) H) (hD : va_D A ((a, .inr (ci, fs)) :: ws)) (hS : va_S A s.heap H locs)
    (kk : ∀ (H1 : Heap) (locs1 : List Loc), va_P D vwCl ((a, .inr (ci, fs.set k v)) :: ws) H1 → va_D A ((a, .inr (ci, fs.set k v)) :: ws) → va_S A s.heap H1 locs1 → W p l e R s m args below meth c H1 locs1 cells slots Q (F0 m (pc + 3) ls rest)) : W p l e R s m args below meth c H locs cells slots Q (F0 m pc ls (v :: .ref a :: rest)) := by
  obtain ⟨hx, hb, hml, ho, hts, hNw, hK, hO, hA⟩ := X
  exact va_put (C := CN) (T := T) (N := N) (ref := (T k).1) hx hb hts hin ty0 hty hnm ho hK hP hD hS 0 rfl hc k hk (hts _ hl) (fun _ h => h) hfin hd hn hfit hlen hdg kk
theorem bw_get (X : Bx p s m args c cc nL own D C A) {CN : String} {T : u_T} {N ci idx a : Nat} {fs : List Value} (hin : ∀ w ∈ u_ws CN T N, w ∈ TB) (hc : vwCl[ci]? = some (CN, T, N)) (k : Nat) (hk : k < N) (hl : Cond.fieldLink own idx (T k).1 (T k).2.1 (T k).2.2.1 ∈ TB) {v : Value} (hv : fs[k]? = some v) (hdg : decode cc pc = .ok (.getfield idx, 3)) (hP : va_P D vwCl ((a, .inr (ci, fs)) :: ws) H)
    (kk : W p l e R s m args below meth c H locs cells slots Q (F0 m (pc + 3) ls (v :: rest))) : W p l e R s m args below meth c H locs cells slots Q (F0 m pc ls (.ref a :: rest)) := by
  obtain ⟨hx, hb, hml, ho, hts, hNw, hK, hO, hA⟩ := X
  exact va_get (C := CN) (T := T) (N := N) (ref := (T k).1) hx hb hts hin ho hK hP 0 rfl hc k hk (hts _ hl) (fun _ h => h) hv hdg kk
theorem bw_runI (X : Bx p s m args c cc nL own D C A) {idx nb d mc ms ci q : Nat} {fs : List Value} {y : MethodName} {b : ByteArray} {wf : CI3 → (Nat → Nat) → va_W} (hM : NC l y b nb d mc ms ci fs wf) (hco : Cond.code y b nb none ∈ TB) (hini : Cond.initialized y.cls ∈ TB) (hl : Cond.methodLink own idx y ∈ TB) (him : Cond.instanceMethod y ∈ TB) (hy1 : y.name = "<init>") (hy : y.cls ≠ "java/lang/invoke/MethodHandle" ∧ y.cls ≠ "java/lang/invoke/VarHandle" ∧ (parseMethodDescriptor y.desc).map (fun d => d.parameters.length) = some 0) (hR : d + 1 ≤ R.frames ∧ 8 + (nb + 11) + 100 * d ≤ R.locals) (hr8 : (rest.map fun v => v.category).sum ≤ 8) (hsz : ls.size = nL) (hd : decode cc pc = .ok (.invokespecial idx, 3)) (hcs : cells + mc ≤ R.cells ∧ slots + ms ≤ R.slots) (hp : PreS s H (va_Pc [.ref q] (PreN D C [(q, .inr (ci, fs))] H.size)) [.ref q]) : va_Run p l e R s m args below meth c H locs cells slots mc ms (F0 m pc ls (.ref q :: rest)) rest (QN D C (va_A [(q, .inr (ci, fs))] H.size) q wf #[.ref q]) (va_A [(q, .inr (ci, fs))] H.size) := by
  obtain ⟨hx, hb, hml, ho, hts, hNw, hK, hO, hA⟩ := X
  refine va_runI (As := []) (rest := rest) ⟨hx, hb, hml, ho, hts⟩ (hM D C q H.size) (cwI 0 hts (goodTB (fun w hw => ?_)) rfl rfl rfl (hts _ hini) (hts _ hl) (hts _ him) hy1 hy hR) hp rfl rfl hsz rfl (lv_room hr8) hd hcs
  rcases List.mem_cons.mp hw with h | h
  · rw [h]; exact hco
  · exact h
theorem bw_runIN (X : Bx p s m args c cc nL own D C A) {idx nb d mc ms ci q : Nat} {fs : List Value} {y : MethodName} {b : ByteArray} {wf : CI3 → (Nat → Nat) → va_W} (hM : NC l y b nb d mc ms ci fs wf) (hco : Cond.code y b nb none ∈ TB) (hini : Cond.initialized y.cls ∈ TB) (hl : Cond.methodLinkNest own idx y RX4 ∈ NW) (him : Cond.instanceMethod y ∈ TB) (hy1 : y.name = "<init>") (hy : y.cls ≠ "java/lang/invoke/MethodHandle" ∧ y.cls ≠ "java/lang/invoke/VarHandle" ∧ (parseMethodDescriptor y.desc).map (fun d => d.parameters.length) = some 0) (hR : d + 1 ≤ R.frames ∧ 8 + (nb + 11) + 100 * d ≤ R.locals) (hr8 : (rest.map fun v => v.category).sum ≤ 8) (hsz : ls.size = nL) (hd : decode cc pc = .ok (.invokespecial idx, 3)) (hcs : cells + mc ≤ R.cells ∧ slots + ms ≤ R.slots) (hp : PreS s H (va_Pc [.ref q] (PreN D C [(q, .inr (ci, fs))] H.size)) [.ref q]) : va_Run p l e R s m args below meth c H locs cells slots mc ms (F0 m pc ls (.ref q :: rest)) rest (QN D C (va_A [(q, .inr (ci, fs))] H.size) q wf #[.ref q]) (va_A [(q, .inr (ci, fs))] H.size) := by
  obtain ⟨hx, hb, hml, ho, hts, hNw, hK, hO, hA⟩ := X
  refine va_runIN (As := []) (rest := rest) ⟨hx, hb, hml, ho, hts⟩ (hM D C q H.size) ⟨va_cnB 0 hts (goodTB (fun w hw => ?_)) rfl rfl rfl (hNw _ hl) (hts _ hini) hy hR, hy1, hts _ him⟩ hp rfl rfl hsz rfl (lv_room hr8) hd hcs
  rcases List.mem_cons.mp hw with h | h
  · rw [h]; exact hco
  · exact h
/-- new, dup, the constructor -/
theorem bw_new (X : Bx p s m args c cc nL own D C A) {CN : String} {T : u_T} {N ci idx mc ms : Nat} {fs : List Value} {wf : CI3 → (Nat → Nat) → va_W} (hin : ∀ w ∈ u_ws CN T N, w ∈ TB) (ty : Nat → FieldType) (hty : ∀ k, k < N → parseFieldDescriptor (T k).2.2.1 = some (ty k)) (hcl : Cond.classLink own idx CN ∈ TB) (hinst : Cond.instantiable CN N ∈ TB) (hini : Cond.initialized CN ∈ TB) (hc : vwCl[ci]? = some (CN, T, N)) (hfs : ∀ j, j < N → defaultValue (ty j) = vp_V fs j) (hd1 : decode cc pc = .ok (.new idx, 3)) (hd2 : decode cc (pc + 3) = .ok (.dup, 1)) (hcs : cells + 1 ≤ R.cells ∧ slots + N ≤ R.slots) (hP : va_P D vwCl ws H) (hD : va_D A ws) (hS : va_S A s.heap H locs)
    (hcall : ∀ (q : Nat) (H' : Heap), PreS s H' (va_Pc [.ref q] (PreN D C [(q, .inr (ci, fs))] H'.size)) [.ref q] → va_Run p l e R s m args below meth c H' locs (cells + 1) (slots + N) mc ms (F0 m (pc + 3 + 1) ls (.ref q :: .ref q :: rest)) (.ref q :: rest) (QN D C (va_A [(q, .inr (ci, fs))] H'.size) q wf #[.ref q]) (va_A [(q, .inr (ci, fs))] H'.size))
    (kk : ∀ (q : Nat → Nat) (H1 : Heap) (locs1 : List Loc), va_P D vwCl (ws ++ wf C q) H1 → va_D A (ws ++ wf C q) → va_S A s.heap H1 locs1 → W p l e R s m args below meth c H1 locs1 (cells + 1 + mc) (slots + N + ms) Q (F0 m (pc + 3 + 1 + 3) ls (.ref (q 0) :: rest))) : W p l e R s m args below meth c H locs cells slots Q (F0 m pc ls rest) := by
  obtain ⟨hx, hb, hml, ho, hts, hNw, hK, hO, hA⟩ := X
  refine va_new (ci := ci) (fs := fs) (C := CN) (T := T) (N := N) hx hb hts hin ty hty ho (hts _ hcl) (hts _ hinst) (hts _ hini) hK hP hD hS hA hc hfs hcs.1 hcs.2 hd1 (fun q H1 hP1 hD1 hS1 => ?_)
  refine lv_dup hx hb hd2 rfl ?_
  have hFc := va_free (wc := [(q, .inr (ci, fs))]) hD1 hS1 hA [ws.length] (by rw [List.map_cons, end_at]; rfl)
  have hPc := hP1.sub (ws' := [(q, .inr (ci, fs))]) [ws.length] (by rw [List.filterMap_cons, end_at]; rfl)
  have hDc := hD1.sub (ws' := [(q, .inr (ci, fs))]) [ws.length] rfl (by rw [List.map_cons, end_at]; rfl)
  refine va_callv (hcall q H1 ⟨preN_blind, fun U hU hW => ⟨rfl, by rw [hU], by rw [hU]; exact hPc, hDc.weaken (fun _ _ _ _ => trivial), va_K.moved hW.alike hK, fun w hw => nw_warm hW w hw (hNw w hw), va_AO.moved hW.alike hO⟩⟩) hS1 (fun q _ h => hFc q h) hFc (fun u t H2 locs2 ht hvm hw hB hz1 hk1 hS2 => ?_)
  obtain ⟨hP2, hD2⟩ := hB
  rw [ht] at hP2
  obtain ⟨hP3, hD3⟩ := join_end hP1 hD1 hk1 hFc hP2 hD2
  subst hw
  exact kk u H2 locs2 hP3 hD3 hS2
theorem bw_ret (X : Bx p s m args c cc nL own D C A) {h0 : Nat} {wf : CI3 → (Nat → Nat) → va_W} (q : Nat → Nat) (hr : meth.sig.returnType = none) (hlocks : meth.locks = false) (hP : va_P D vwCl (wf C q) H) (hD : va_D A (wf C q)) (hq : q 0 = h0) (hS : va_S A s.heap H locs) (hdg : decode cc pc = .ok (.return_, 1)) : W p l e R s m args below meth c H locs cells slots (MQ below (QN D C A h0 wf) args s cells slots A) (F0 m pc ls []) :=
  W.vret X.1 X.2.1 hr (fun t ht hW => ⟨⟨q, rfl, hq, by rw [ht]; exact hP, hD⟩, hS.F ht⟩) hS.2.2 hdg hlocks
end NEWS
theorem nc_of {l : Launch} {y : MethodName} {b : ByteArray} {nb d mc ms ci : Nat} {fs : List Value} {wf : CI3 → (Nat → Nat) → va_W} {own : String} (hy : plainName y.cls = true) (ho : own = y.cls) (hni : y.name = "<init>") (hnb : 1 ≤ nb)
    (body : ∀ (p : Program) (e : Env) (s : State) (m : MethodId) (below : List Frame) (meth : Method) (c : Code) (D : va_G) (C : CI3) (A : Nat → Prop) (h0 : Nat) (ls : Array Slot), Bx p s m #[.ref h0] c b nb own D C A → meth.name = "<init>" → meth.sig.returnType = none → meth.locks = false → va_P D vwCl [(h0, .inr (ci, fs))] s.heap → va_D A [(h0, .inr (ci, fs))] → va_S A s.heap s.heap [] → lv_has ls nb [(0, .ref h0)] → W p l e (rmN d mc ms) s m #[.ref h0] below meth c s.heap [] 0 0 (MQ below (QN D C A h0 wf) #[.ref h0] s mc ms A) (F0 m 0 ls [])) : NC l y b nb d mc ms ci fs wf := by
  intro D C h0 sz
  refine Met.ofW (cc := b) (maxL := nb) (ret := none) hy rfl ?_
  intro p e s m args below meth c s₁ B hml hv
  obtain ⟨rfl, hsz, hP, hD0, hK, hN, hO⟩ := hv
  have hts : ∀ w ∈ TB, w.before ([.ref h0] : List Value).toArray s = true := fun w hw => atoms_spec (ws := mws y b nb none) B.pre w (List.mem_cons_of_mem _ hw)
  have hown : s.vm.findClass own = some m.cls := by rw [ho]; exact findClass_of_methodNamed B.named
  have hin : meth.name = "<init>" := (name_of_methodNamed B.named B.method).1.trans hni
  subst hsz
  have hD := hD0.self (sz := s.heap.size)
  generalize hAe : va_A [(h0, .inr (ci, fs))] s.heap.size = A at hD ⊢
  have hA : ∀ q : Nat, s.heap.size ≤ q → A q := fun q h => by rw [← hAe]; exact Or.inr h
  have hl := lv_entry ([.ref h0]) (n := nb) hnb
  rw [lg_entry_eq]
  generalize (lg_sl ([.ref h0]) ++ List.replicate (nb - (lg_sl ([.ref h0])).length) Slot.unset).toArray = ls at hl ⊢
  exact body p e s m below meth c D C A h0 ls ⟨B.exec, B.bytes, hml, hown, hts, hN, hK, hO, hA⟩ hin B.returns B.notSynchronized hP hD va_S.rf hl

