/-! the instructions, by program -/
theorem d_Fc_init_0 : decode c_Fc_init 0 = .ok (.aload_n 0, 1) := by decide +kernel
theorem d_Fc_init_1 : decode c_Fc_init 1 = .ok (.invokespecial 1, 3) := by decide +kernel
theorem d_Fc_init_4 : decode c_Fc_init 4 = .ok (.aload_n 0, 1) := by decide +kernel
theorem d_Fc_init_5 : decode c_Fc_init 5 = .ok (.new 7, 3) := by decide +kernel
theorem d_Fc_init_8 : decode c_Fc_init 8 = .ok (.dup, 1) := by decide +kernel
theorem d_Fc_init_9 : decode c_Fc_init 9 = .ok (.invokespecial 9, 3) := by decide +kernel
theorem d_Fc_init_12 : decode c_Fc_init 12 = .ok (.putfield 10, 3) := by decide +kernel
theorem d_Fc_init_15 : decode c_Fc_init 15 = .ok (.aload_n 0, 1) := by decide +kernel
theorem d_Fc_init_16 : decode c_Fc_init 16 = .ok (.new 16, 3) := by decide +kernel
theorem d_Fc_init_19 : decode c_Fc_init 19 = .ok (.dup, 1) := by decide +kernel
theorem d_Fc_init_20 : decode c_Fc_init 20 = .ok (.invokespecial 18, 3) := by decide +kernel
theorem d_Fc_init_23 : decode c_Fc_init 23 = .ok (.putfield 19, 3) := by decide +kernel
theorem d_Fc_init_26 : decode c_Fc_init 26 = .ok (.aload_n 0, 1) := by decide +kernel
theorem d_Fc_init_27 : decode c_Fc_init 27 = .ok (.new 23, 3) := by decide +kernel
theorem d_Fc_init_30 : decode c_Fc_init 30 = .ok (.dup, 1) := by decide +kernel
theorem d_Fc_init_31 : decode c_Fc_init 31 = .ok (.invokespecial 25, 3) := by decide +kernel
theorem d_Fc_init_34 : decode c_Fc_init 34 = .ok (.putfield 26, 3) := by decide +kernel
theorem d_Fc_init_37 : decode c_Fc_init 37 = .ok (.aload_n 0, 1) := by decide +kernel
theorem d_Fc_init_38 : decode c_Fc_init 38 = .ok (.new 30, 3) := by decide +kernel
theorem d_Fc_init_41 : decode c_Fc_init 41 = .ok (.dup, 1) := by decide +kernel
theorem d_Fc_init_42 : decode c_Fc_init 42 = .ok (.invokespecial 32, 3) := by decide +kernel
theorem d_Fc_init_45 : decode c_Fc_init 45 = .ok (.putfield 33, 3) := by decide +kernel
theorem d_Fc_init_48 : decode c_Fc_init 48 = .ok (.aload_n 0, 1) := by decide +kernel
theorem d_Fc_init_49 : decode c_Fc_init 49 = .ok (.new 37, 3) := by decide +kernel
theorem d_Fc_init_52 : decode c_Fc_init 52 = .ok (.dup, 1) := by decide +kernel
theorem d_Fc_init_53 : decode c_Fc_init 53 = .ok (.invokespecial 39, 3) := by decide +kernel
theorem d_Fc_init_56 : decode c_Fc_init 56 = .ok (.putfield 40, 3) := by decide +kernel
theorem d_Fc_init_59 : decode c_Fc_init 59 = .ok (.aload_n 0, 1) := by decide +kernel
theorem d_Fc_init_60 : decode c_Fc_init 60 = .ok (.new 44, 3) := by decide +kernel
theorem d_Fc_init_63 : decode c_Fc_init 63 = .ok (.dup, 1) := by decide +kernel
theorem d_Fc_init_64 : decode c_Fc_init 64 = .ok (.invokespecial 46, 3) := by decide +kernel
theorem d_Fc_init_67 : decode c_Fc_init 67 = .ok (.putfield 47, 3) := by decide +kernel
theorem d_Fc_init_70 : decode c_Fc_init 70 = .ok (.aload_n 0, 1) := by decide +kernel
theorem d_Fc_init_71 : decode c_Fc_init 71 = .ok (.bipush 8, 2) := by decide +kernel
theorem d_Fc_init_73 : decode c_Fc_init 73 = .ok (.newarray .int, 2) := by decide +kernel
theorem d_Fc_init_75 : decode c_Fc_init 75 = .ok (.putfield 51, 3) := by decide +kernel
theorem d_Fc_init_78 : decode c_Fc_init 78 = .ok (.return_, 1) := by decide +kernel
theorem d_Fc_step_0 : decode c_Fc_step 0 = .ok (.aload_n 0, 1) := by decide +kernel
theorem d_Fc_step_1 : decode c_Fc_step 1 = .ok (.getfield 55, 3) := by decide +kernel
theorem d_Fc_step_4 : decode c_Fc_step 4 = .ok (.ifCond .ne 24, 3) := by decide +kernel
theorem d_Fc_step_7 : decode c_Fc_step 7 = .ok (.aload_n 0, 1) := by decide +kernel
theorem d_Fc_step_8 : decode c_Fc_step 8 = .ok (.getfield 10, 3) := by decide +kernel
theorem d_Fc_step_11 : decode c_Fc_step 11 = .ok (.getfield 59, 3) := by decide +kernel
theorem d_Fc_step_14 : decode c_Fc_step 14 = .ok (.bipush 8, 2) := by decide +kernel
theorem d_Fc_step_16 : decode c_Fc_step 16 = .ok (.if_icmp .eq 12, 3) := by decide +kernel
theorem d_Fc_step_19 : decode c_Fc_step 19 = .ok (.iload_n 1, 1) := by decide +kernel
theorem d_Fc_step_20 : decode c_Fc_step 20 = .ok (.ifCond .lt 8, 3) := by decide +kernel
theorem d_Fc_step_23 : decode c_Fc_step 23 = .ok (.iload_n 1, 1) := by decide +kernel
theorem d_Fc_step_24 : decode c_Fc_step 24 = .ok (.iconst 3, 1) := by decide +kernel
theorem d_Fc_step_25 : decode c_Fc_step 25 = .ok (.if_icmp .lt 6, 3) := by decide +kernel
theorem d_Fc_step_28 : decode c_Fc_step 28 = .ok (.bipush (-2), 2) := by decide +kernel
theorem d_Fc_step_30 : decode c_Fc_step 30 = .ok (.ireturn, 1) := by decide +kernel
theorem d_Fc_step_31 : decode c_Fc_step 31 = .ok (.aload_n 0, 1) := by decide +kernel
theorem d_Fc_step_32 : decode c_Fc_step 32 = .ok (.getfield 10, 3) := by decide +kernel
theorem d_Fc_step_35 : decode c_Fc_step 35 = .ok (.iload_n 1, 1) := by decide +kernel
theorem d_Fc_step_36 : decode c_Fc_step 36 = .ok (.iload_n 2, 1) := by decide +kernel
theorem d_Fc_step_37 : decode c_Fc_step 37 = .ok (.invokevirtual 63, 3) := by decide +kernel
theorem d_Fc_step_40 : decode c_Fc_step 40 = .ok (.ireturn, 1) := by decide +kernel
theorem d_Fc_expression_0 : decode c_Fc_expression 0 = .ok (.aload_n 0, 1) := by decide +kernel
theorem d_Fc_expression_1 : decode c_Fc_expression 1 = .ok (.getfield 55, 3) := by decide +kernel
theorem d_Fc_expression_4 : decode c_Fc_expression 4 = .ok (.ifCond .ne 32, 3) := by decide +kernel
theorem d_Fc_expression_7 : decode c_Fc_expression 7 = .ok (.aload_n 0, 1) := by decide +kernel
theorem d_Fc_expression_8 : decode c_Fc_expression 8 = .ok (.getfield 19, 3) := by decide +kernel
theorem d_Fc_expression_11 : decode c_Fc_expression 11 = .ok (.getfield 67, 3) := by decide +kernel
theorem d_Fc_expression_14 : decode c_Fc_expression 14 = .ok (.bipush 24, 2) := by decide +kernel
theorem d_Fc_expression_16 : decode c_Fc_expression 16 = .ok (.if_icmp .eq 20, 3) := by decide +kernel
theorem d_Fc_expression_19 : decode c_Fc_expression 19 = .ok (.aload_n 0, 1) := by decide +kernel
theorem d_Fc_expression_20 : decode c_Fc_expression 20 = .ok (.getfield 19, 3) := by decide +kernel
theorem d_Fc_expression_23 : decode c_Fc_expression 23 = .ok (.iload_n 1, 1) := by decide +kernel
theorem d_Fc_expression_24 : decode c_Fc_expression 24 = .ok (.iload_n 2, 1) := by decide +kernel
theorem d_Fc_expression_25 : decode c_Fc_expression 25 = .ok (.iload_n 3, 1) := by decide +kernel
theorem d_Fc_expression_26 : decode c_Fc_expression 26 = .ok (.aload_n 0, 1) := by decide +kernel
theorem d_Fc_expression_27 : decode c_Fc_expression 27 = .ok (.getfield 10, 3) := by decide +kernel
theorem d_Fc_expression_30 : decode c_Fc_expression 30 = .ok (.invokevirtual 68, 3) := by decide +kernel
theorem d_Fc_expression_33 : decode c_Fc_expression 33 = .ok (.ifCond .ne 6, 3) := by decide +kernel
theorem d_Fc_expression_36 : decode c_Fc_expression 36 = .ok (.bipush (-2), 2) := by decide +kernel
theorem d_Fc_expression_38 : decode c_Fc_expression 38 = .ok (.ireturn, 1) := by decide +kernel
theorem d_Fc_expression_39 : decode c_Fc_expression 39 = .ok (.aload_n 0, 1) := by decide +kernel
theorem d_Fc_expression_40 : decode c_Fc_expression 40 = .ok (.getfield 19, 3) := by decide +kernel
theorem d_Fc_expression_43 : decode c_Fc_expression 43 = .ok (.iload_n 1, 1) := by decide +kernel
theorem d_Fc_expression_44 : decode c_Fc_expression 44 = .ok (.iload_n 2, 1) := by decide +kernel
theorem d_Fc_expression_45 : decode c_Fc_expression 45 = .ok (.iload_n 3, 1) := by decide +kernel
theorem d_Fc_expression_46 : decode c_Fc_expression 46 = .ok (.invokevirtual 72, 3) := by decide +kernel
theorem d_Fc_expression_49 : decode c_Fc_expression 49 = .ok (.ireturn, 1) := by decide +kernel
theorem d_Fc_transition_0 : decode c_Fc_transition 0 = .ok (.aload_n 0, 1) := by decide +kernel
theorem d_Fc_transition_1 : decode c_Fc_transition 1 = .ok (.getfield 55, 3) := by decide +kernel
theorem d_Fc_transition_4 : decode c_Fc_transition 4 = .ok (.ifCond .ne 23, 3) := by decide +kernel
theorem d_Fc_transition_7 : decode c_Fc_transition 7 = .ok (.aload_n 0, 1) := by decide +kernel
theorem d_Fc_transition_8 : decode c_Fc_transition 8 = .ok (.getfield 26, 3) := by decide +kernel
theorem d_Fc_transition_11 : decode c_Fc_transition 11 = .ok (.getfield 75, 3) := by decide +kernel
theorem d_Fc_transition_14 : decode c_Fc_transition 14 = .ok (.bipush 12, 2) := by decide +kernel
theorem d_Fc_transition_16 : decode c_Fc_transition 16 = .ok (.if_icmp .eq 11, 3) := by decide +kernel
theorem d_Fc_transition_19 : decode c_Fc_transition 19 = .ok (.iload_n 1, 1) := by decide +kernel
theorem d_Fc_transition_20 : decode c_Fc_transition 20 = .ok (.ifCond .eq 7, 3) := by decide +kernel
theorem d_Fc_transition_23 : decode c_Fc_transition 23 = .ok (.iload_n 2, 1) := by decide +kernel
theorem d_Fc_transition_24 : decode c_Fc_transition 24 = .ok (.ifCond .ne 6, 3) := by decide +kernel
theorem d_Fc_transition_27 : decode c_Fc_transition 27 = .ok (.bipush (-2), 2) := by decide +kernel
theorem d_Fc_transition_29 : decode c_Fc_transition 29 = .ok (.ireturn, 1) := by decide +kernel
theorem d_Fc_transition_30 : decode c_Fc_transition 30 = .ok (.aload_n 0, 1) := by decide +kernel
theorem d_Fc_transition_31 : decode c_Fc_transition 31 = .ok (.getfield 10, 3) := by decide +kernel
theorem d_Fc_transition_34 : decode c_Fc_transition 34 = .ok (.iload_n 1, 1) := by decide +kernel
theorem d_Fc_transition_35 : decode c_Fc_transition 35 = .ok (.iload_n 2, 1) := by decide +kernel
theorem d_Fc_transition_36 : decode c_Fc_transition 36 = .ok (.ior, 1) := by decide +kernel
theorem d_Fc_transition_37 : decode c_Fc_transition 37 = .ok (.invokevirtual 76, 3) := by decide +kernel
theorem d_Fc_transition_40 : decode c_Fc_transition 40 = .ok (.istore 4, 2) := by decide +kernel
theorem d_Fc_transition_42 : decode c_Fc_transition 42 = .ok (.iload 4, 2) := by decide +kernel
theorem d_Fc_transition_44 : decode c_Fc_transition 44 = .ok (.ifCond .lt 14, 3) := by decide +kernel
theorem d_Fc_transition_47 : decode c_Fc_transition 47 = .ok (.aload_n 0, 1) := by decide +kernel
theorem d_Fc_transition_48 : decode c_Fc_transition 48 = .ok (.getfield 19, 3) := by decide +kernel
theorem d_Fc_transition_51 : decode c_Fc_transition 51 = .ok (.iload_n 3, 1) := by decide +kernel
theorem d_Fc_transition_52 : decode c_Fc_transition 52 = .ok (.invokevirtual 80, 3) := by decide +kernel
theorem d_Fc_transition_55 : decode c_Fc_transition 55 = .ok (.ifCond .ne 6, 3) := by decide +kernel
theorem d_Fc_transition_58 : decode c_Fc_transition 58 = .ok (.bipush (-2), 2) := by decide +kernel
theorem d_Fc_transition_60 : decode c_Fc_transition 60 = .ok (.ireturn, 1) := by decide +kernel
theorem d_Fc_transition_61 : decode c_Fc_transition 61 = .ok (.aload_n 0, 1) := by decide +kernel
theorem d_Fc_transition_62 : decode c_Fc_transition 62 = .ok (.getfield 26, 3) := by decide +kernel
theorem d_Fc_transition_65 : decode c_Fc_transition 65 = .ok (.iload 4, 2) := by decide +kernel
theorem d_Fc_transition_67 : decode c_Fc_transition 67 = .ok (.iload_n 1, 1) := by decide +kernel
theorem d_Fc_transition_68 : decode c_Fc_transition 68 = .ok (.iload_n 2, 1) := by decide +kernel
theorem d_Fc_transition_69 : decode c_Fc_transition 69 = .ok (.iload_n 3, 1) := by decide +kernel
theorem d_Fc_transition_70 : decode c_Fc_transition 70 = .ok (.invokevirtual 84, 3) := by decide +kernel
theorem d_Fc_transition_73 : decode c_Fc_transition 73 = .ok (.ireturn, 1) := by decide +kernel
theorem d_Fc_order_0 : decode c_Fc_order 0 = .ok (.aload_n 0, 1) := by decide +kernel
theorem d_Fc_order_1 : decode c_Fc_order 1 = .ok (.getfield 55, 3) := by decide +kernel
theorem d_Fc_order_4 : decode c_Fc_order 4 = .ok (.ifCond .ne 25, 3) := by decide +kernel
theorem d_Fc_order_7 : decode c_Fc_order 7 = .ok (.aload_n 0, 1) := by decide +kernel
theorem d_Fc_order_8 : decode c_Fc_order 8 = .ok (.getfield 33, 3) := by decide +kernel
theorem d_Fc_order_11 : decode c_Fc_order 11 = .ok (.getfield 87, 3) := by decide +kernel
theorem d_Fc_order_14 : decode c_Fc_order 14 = .ok (.iconst 4, 1) := by decide +kernel
theorem d_Fc_order_15 : decode c_Fc_order 15 = .ok (.if_icmp .eq 14, 3) := by decide +kernel
theorem d_Fc_order_18 : decode c_Fc_order 18 = .ok (.aload_n 0, 1) := by decide +kernel
theorem d_Fc_order_19 : decode c_Fc_order 19 = .ok (.getfield 10, 3) := by decide +kernel
theorem d_Fc_order_22 : decode c_Fc_order 22 = .ok (.iload_n 1, 1) := by decide +kernel
theorem d_Fc_order_23 : decode c_Fc_order 23 = .ok (.invokevirtual 88, 3) := by decide +kernel
theorem d_Fc_order_26 : decode c_Fc_order 26 = .ok (.ifCond .ne 6, 3) := by decide +kernel
theorem d_Fc_order_29 : decode c_Fc_order 29 = .ok (.bipush (-2), 2) := by decide +kernel
theorem d_Fc_order_31 : decode c_Fc_order 31 = .ok (.ireturn, 1) := by decide +kernel
theorem d_Fc_order_32 : decode c_Fc_order 32 = .ok (.iload_n 2, 1) := by decide +kernel
theorem d_Fc_order_33 : decode c_Fc_order 33 = .ok (.aload_n 0, 1) := by decide +kernel
theorem d_Fc_order_34 : decode c_Fc_order 34 = .ok (.getfield 10, 3) := by decide +kernel
theorem d_Fc_order_37 : decode c_Fc_order 37 = .ok (.getfield 89, 3) := by decide +kernel
theorem d_Fc_order_40 : decode c_Fc_order 40 = .ok (.iload_n 1, 1) := by decide +kernel
theorem d_Fc_order_41 : decode c_Fc_order 41 = .ok (.iaload, 1) := by decide +kernel
theorem d_Fc_order_42 : decode c_Fc_order 42 = .ok (.if_icmp .le 8, 3) := by decide +kernel
theorem d_Fc_order_45 : decode c_Fc_order 45 = .ok (.iload_n 2, 1) := by decide +kernel
theorem d_Fc_order_46 : decode c_Fc_order 46 = .ok (.iconst 3, 1) := by decide +kernel
theorem d_Fc_order_47 : decode c_Fc_order 47 = .ok (.if_icmp .lt 6, 3) := by decide +kernel
theorem d_Fc_order_50 : decode c_Fc_order 50 = .ok (.bipush (-2), 2) := by decide +kernel
theorem d_Fc_order_52 : decode c_Fc_order 52 = .ok (.ireturn, 1) := by decide +kernel
theorem d_Fc_order_53 : decode c_Fc_order 53 = .ok (.iload_n 3, 1) := by decide +kernel
theorem d_Fc_order_54 : decode c_Fc_order 54 = .ok (.iconst (-1), 1) := by decide +kernel
theorem d_Fc_order_55 : decode c_Fc_order 55 = .ok (.if_icmp .eq 22, 3) := by decide +kernel
theorem d_Fc_order_58 : decode c_Fc_order 58 = .ok (.iload_n 3, 1) := by decide +kernel
theorem d_Fc_order_59 : decode c_Fc_order 59 = .ok (.aload_n 0, 1) := by decide +kernel
theorem d_Fc_order_60 : decode c_Fc_order 60 = .ok (.getfield 10, 3) := by decide +kernel
theorem d_Fc_order_63 : decode c_Fc_order 63 = .ok (.getfield 92, 3) := by decide +kernel
theorem d_Fc_order_66 : decode c_Fc_order 66 = .ok (.iload_n 2, 1) := by decide +kernel
theorem d_Fc_order_67 : decode c_Fc_order 67 = .ok (.iaload, 1) := by decide +kernel
theorem d_Fc_order_68 : decode c_Fc_order 68 = .ok (.iconst (-1), 1) := by decide +kernel
theorem d_Fc_order_69 : decode c_Fc_order 69 = .ok (.ixor, 1) := by decide +kernel
theorem d_Fc_order_70 : decode c_Fc_order 70 = .ok (.iand, 1) := by decide +kernel
theorem d_Fc_order_71 : decode c_Fc_order 71 = .ok (.ifCond .eq 6, 3) := by decide +kernel
theorem d_Fc_order_74 : decode c_Fc_order 74 = .ok (.bipush (-2), 2) := by decide +kernel
theorem d_Fc_order_76 : decode c_Fc_order 76 = .ok (.ireturn, 1) := by decide +kernel
theorem d_Fc_order_77 : decode c_Fc_order 77 = .ok (.aload_n 0, 1) := by decide +kernel
theorem d_Fc_order_78 : decode c_Fc_order 78 = .ok (.getfield 33, 3) := by decide +kernel
theorem d_Fc_order_81 : decode c_Fc_order 81 = .ok (.iload_n 1, 1) := by decide +kernel
theorem d_Fc_order_82 : decode c_Fc_order 82 = .ok (.iload_n 2, 1) := by decide +kernel
theorem d_Fc_order_83 : decode c_Fc_order 83 = .ok (.iload_n 3, 1) := by decide +kernel
theorem d_Fc_order_84 : decode c_Fc_order 84 = .ok (.invokevirtual 95, 3) := by decide +kernel
theorem d_Fc_order_87 : decode c_Fc_order 87 = .ok (.ireturn, 1) := by decide +kernel
theorem d_Fc_action_0 : decode c_Fc_action 0 = .ok (.aload_n 0, 1) := by decide +kernel
theorem d_Fc_action_1 : decode c_Fc_action 1 = .ok (.getfield 55, 3) := by decide +kernel
theorem d_Fc_action_4 : decode c_Fc_action 4 = .ok (.ifCond .ne 26, 3) := by decide +kernel
theorem d_Fc_action_7 : decode c_Fc_action 7 = .ok (.aload_n 0, 1) := by decide +kernel
theorem d_Fc_action_8 : decode c_Fc_action 8 = .ok (.getfield 40, 3) := by decide +kernel
theorem d_Fc_action_11 : decode c_Fc_action 11 = .ok (.getfield 96, 3) := by decide +kernel
theorem d_Fc_action_14 : decode c_Fc_action 14 = .ok (.bipush 12, 2) := by decide +kernel
theorem d_Fc_action_16 : decode c_Fc_action 16 = .ok (.if_icmp .eq 14, 3) := by decide +kernel
theorem d_Fc_action_19 : decode c_Fc_action 19 = .ok (.aload_n 0, 1) := by decide +kernel
theorem d_Fc_action_20 : decode c_Fc_action 20 = .ok (.getfield 10, 3) := by decide +kernel
theorem d_Fc_action_23 : decode c_Fc_action 23 = .ok (.iload_n 1, 1) := by decide +kernel
theorem d_Fc_action_24 : decode c_Fc_action 24 = .ok (.invokevirtual 88, 3) := by decide +kernel
theorem d_Fc_action_27 : decode c_Fc_action 27 = .ok (.ifCond .ne 6, 3) := by decide +kernel
theorem d_Fc_action_30 : decode c_Fc_action 30 = .ok (.bipush (-2), 2) := by decide +kernel
theorem d_Fc_action_32 : decode c_Fc_action 32 = .ok (.ireturn, 1) := by decide +kernel
theorem d_Fc_action_33 : decode c_Fc_action 33 = .ok (.iload_n 2, 1) := by decide +kernel
theorem d_Fc_action_34 : decode c_Fc_action 34 = .ok (.invokestatic 97, 3) := by decide +kernel
theorem d_Fc_action_37 : decode c_Fc_action 37 = .ok (.ifCond .eq 18, 3) := by decide +kernel
theorem d_Fc_action_40 : decode c_Fc_action 40 = .ok (.iload_n 3, 1) := by decide +kernel
theorem d_Fc_action_41 : decode c_Fc_action 41 = .ok (.invokestatic 100, 3) := by decide +kernel
theorem d_Fc_action_44 : decode c_Fc_action 44 = .ok (.ifCond .eq 11, 3) := by decide +kernel
theorem d_Fc_action_47 : decode c_Fc_action 47 = .ok (.iload 4, 2) := by decide +kernel
theorem d_Fc_action_49 : decode c_Fc_action 49 = .ok (.invokestatic 103, 3) := by decide +kernel
theorem d_Fc_action_52 : decode c_Fc_action 52 = .ok (.ifCond .ne 6, 3) := by decide +kernel
theorem d_Fc_action_55 : decode c_Fc_action 55 = .ok (.bipush (-2), 2) := by decide +kernel
theorem d_Fc_action_57 : decode c_Fc_action 57 = .ok (.ireturn, 1) := by decide +kernel
theorem d_Fc_action_58 : decode c_Fc_action 58 = .ok (.aload_n 0, 1) := by decide +kernel
theorem d_Fc_action_59 : decode c_Fc_action 59 = .ok (.getfield 40, 3) := by decide +kernel
theorem d_Fc_action_62 : decode c_Fc_action 62 = .ok (.iload_n 1, 1) := by decide +kernel
theorem d_Fc_action_63 : decode c_Fc_action 63 = .ok (.iload_n 2, 1) := by decide +kernel
theorem d_Fc_action_64 : decode c_Fc_action 64 = .ok (.iload_n 3, 1) := by decide +kernel
theorem d_Fc_action_65 : decode c_Fc_action 65 = .ok (.iload 4, 2) := by decide +kernel
theorem d_Fc_action_67 : decode c_Fc_action 67 = .ok (.invokevirtual 106, 3) := by decide +kernel
theorem d_Fc_action_70 : decode c_Fc_action 70 = .ok (.ireturn, 1) := by decide +kernel
theorem d_Fc_unreached_0 : decode c_Fc_unreached 0 = .ok (.aload_n 0, 1) := by decide +kernel
theorem d_Fc_unreached_1 : decode c_Fc_unreached 1 = .ok (.getfield 10, 3) := by decide +kernel
theorem d_Fc_unreached_4 : decode c_Fc_unreached 4 = .ok (.getfield 107, 3) := by decide +kernel
theorem d_Fc_unreached_7 : decode c_Fc_unreached 7 = .ok (.istore_n 1, 1) := by decide +kernel
theorem d_Fc_unreached_8 : decode c_Fc_unreached 8 = .ok (.iconst 0, 1) := by decide +kernel
theorem d_Fc_unreached_9 : decode c_Fc_unreached 9 = .ok (.istore_n 2, 1) := by decide +kernel
theorem d_Fc_unreached_10 : decode c_Fc_unreached 10 = .ok (.iload_n 2, 1) := by decide +kernel
theorem d_Fc_unreached_11 : decode c_Fc_unreached 11 = .ok (.bipush 8, 2) := by decide +kernel
theorem d_Fc_unreached_13 : decode c_Fc_unreached 13 = .ok (.if_icmp .ge 36, 3) := by decide +kernel
theorem d_Fc_unreached_16 : decode c_Fc_unreached 16 = .ok (.iload_n 1, 1) := by decide +kernel
theorem d_Fc_unreached_17 : decode c_Fc_unreached 17 = .ok (.aload_n 0, 1) := by decide +kernel
theorem d_Fc_unreached_18 : decode c_Fc_unreached 18 = .ok (.getfield 26, 3) := by decide +kernel
theorem d_Fc_unreached_21 : decode c_Fc_unreached 21 = .ok (.aload_n 0, 1) := by decide +kernel
theorem d_Fc_unreached_22 : decode c_Fc_unreached 22 = .ok (.getfield 26, 3) := by decide +kernel
theorem d_Fc_unreached_25 : decode c_Fc_unreached 25 = .ok (.iload_n 1, 1) := by decide +kernel
theorem d_Fc_unreached_26 : decode c_Fc_unreached 26 = .ok (.invokevirtual 110, 3) := by decide +kernel
theorem d_Fc_unreached_29 : decode c_Fc_unreached 29 = .ok (.invokevirtual 113, 3) := by decide +kernel
theorem d_Fc_unreached_32 : decode c_Fc_unreached 32 = .ok (.aload_n 0, 1) := by decide +kernel
theorem d_Fc_unreached_33 : decode c_Fc_unreached 33 = .ok (.getfield 33, 3) := by decide +kernel
theorem d_Fc_unreached_36 : decode c_Fc_unreached 36 = .ok (.iload_n 1, 1) := by decide +kernel
theorem d_Fc_unreached_37 : decode c_Fc_unreached 37 = .ok (.invokevirtual 116, 3) := by decide +kernel
theorem d_Fc_unreached_40 : decode c_Fc_unreached 40 = .ok (.ior, 1) := by decide +kernel
theorem d_Fc_unreached_41 : decode c_Fc_unreached 41 = .ok (.ior, 1) := by decide +kernel
theorem d_Fc_unreached_42 : decode c_Fc_unreached 42 = .ok (.istore_n 1, 1) := by decide +kernel
theorem d_Fc_unreached_43 : decode c_Fc_unreached 43 = .ok (.iinc 2 1, 3) := by decide +kernel
theorem d_Fc_unreached_46 : decode c_Fc_unreached 46 = .ok (.goto (-36), 3) := by decide +kernel
theorem d_Fc_unreached_49 : decode c_Fc_unreached 49 = .ok (.aload_n 0, 1) := by decide +kernel
theorem d_Fc_unreached_50 : decode c_Fc_unreached 50 = .ok (.getfield 10, 3) := by decide +kernel
theorem d_Fc_unreached_53 : decode c_Fc_unreached 53 = .ok (.invokevirtual 119, 3) := by decide +kernel
theorem d_Fc_unreached_56 : decode c_Fc_unreached 56 = .ok (.iload_n 1, 1) := by decide +kernel
theorem d_Fc_unreached_57 : decode c_Fc_unreached 57 = .ok (.iconst (-1), 1) := by decide +kernel
theorem d_Fc_unreached_58 : decode c_Fc_unreached 58 = .ok (.ixor, 1) := by decide +kernel
theorem d_Fc_unreached_59 : decode c_Fc_unreached 59 = .ok (.iand, 1) := by decide +kernel
theorem d_Fc_unreached_60 : decode c_Fc_unreached 60 = .ok (.ireturn, 1) := by decide +kernel
theorem d_Fc_start_0 : decode c_Fc_start 0 = .ok (.aload_n 0, 1) := by decide +kernel
theorem d_Fc_start_1 : decode c_Fc_start 1 = .ok (.getfield 55, 3) := by decide +kernel
theorem d_Fc_start_4 : decode c_Fc_start 4 = .ok (.ifCond .ne 13, 3) := by decide +kernel
theorem d_Fc_start_7 : decode c_Fc_start 7 = .ok (.aload_n 0, 1) := by decide +kernel
theorem d_Fc_start_8 : decode c_Fc_start 8 = .ok (.getfield 10, 3) := by decide +kernel
theorem d_Fc_start_11 : decode c_Fc_start 11 = .ok (.getfield 107, 3) := by decide +kernel
theorem d_Fc_start_14 : decode c_Fc_start 14 = .ok (.ifCond .ne 5, 3) := by decide +kernel
theorem d_Fc_start_17 : decode c_Fc_start 17 = .ok (.iconst 0, 1) := by decide +kernel
theorem d_Fc_start_18 : decode c_Fc_start 18 = .ok (.ireturn, 1) := by decide +kernel
theorem d_Fc_start_19 : decode c_Fc_start 19 = .ok (.aload_n 0, 1) := by decide +kernel
theorem d_Fc_start_20 : decode c_Fc_start 20 = .ok (.invokevirtual 123, 3) := by decide +kernel
theorem d_Fc_start_23 : decode c_Fc_start 23 = .ok (.aload_n 0, 1) := by decide +kernel
theorem d_Fc_start_24 : decode c_Fc_start 24 = .ok (.iconst 1, 1) := by decide +kernel
theorem d_Fc_start_25 : decode c_Fc_start 25 = .ok (.putfield 55, 3) := by decide +kernel
theorem d_Fc_start_28 : decode c_Fc_start 28 = .ok (.aload_n 0, 1) := by decide +kernel
theorem d_Fc_start_29 : decode c_Fc_start 29 = .ok (.iload_n 1, 1) := by decide +kernel
theorem d_Fc_start_30 : decode c_Fc_start 30 = .ok (.putfield 126, 3) := by decide +kernel
theorem d_Fc_start_33 : decode c_Fc_start 33 = .ok (.aload_n 0, 1) := by decide +kernel
theorem d_Fc_start_34 : decode c_Fc_start 34 = .ok (.aload_n 0, 1) := by decide +kernel
theorem d_Fc_start_35 : decode c_Fc_start 35 = .ok (.getfield 10, 3) := by decide +kernel
theorem d_Fc_start_38 : decode c_Fc_start 38 = .ok (.getfield 107, 3) := by decide +kernel
theorem d_Fc_start_41 : decode c_Fc_start 41 = .ok (.putfield 129, 3) := by decide +kernel
theorem d_Fc_start_44 : decode c_Fc_start 44 = .ok (.iconst 1, 1) := by decide +kernel
theorem d_Fc_start_45 : decode c_Fc_start 45 = .ok (.ireturn, 1) := by decide +kernel
theorem d_Fc_stop_0 : decode c_Fc_stop 0 = .ok (.aload_n 0, 1) := by decide +kernel
theorem d_Fc_stop_1 : decode c_Fc_stop 1 = .ok (.invokevirtual 123, 3) := by decide +kernel
theorem d_Fc_stop_4 : decode c_Fc_stop 4 = .ok (.aload_n 0, 1) := by decide +kernel
theorem d_Fc_stop_5 : decode c_Fc_stop 5 = .ok (.iconst 0, 1) := by decide +kernel
theorem d_Fc_stop_6 : decode c_Fc_stop 6 = .ok (.putfield 55, 3) := by decide +kernel
theorem d_Fc_stop_9 : decode c_Fc_stop 9 = .ok (.return_, 1) := by decide +kernel
theorem d_Fc_scan_0 : decode c_Fc_scan 0 = .ok (.aload_n 0, 1) := by decide +kernel
theorem d_Fc_scan_1 : decode c_Fc_scan 1 = .ok (.getfield 55, 3) := by decide +kernel
theorem d_Fc_scan_4 : decode c_Fc_scan 4 = .ok (.ifCond .eq 10, 3) := by decide +kernel
theorem d_Fc_scan_7 : decode c_Fc_scan 7 = .ok (.iload_n 2, 1) := by decide +kernel
theorem d_Fc_scan_8 : decode c_Fc_scan 8 = .ok (.invokestatic 103, 3) := by decide +kernel
theorem d_Fc_scan_11 : decode c_Fc_scan 11 = .ok (.ifCond .ne 6, 3) := by decide +kernel
theorem d_Fc_scan_14 : decode c_Fc_scan 14 = .ok (.bipush (-2), 2) := by decide +kernel
theorem d_Fc_scan_16 : decode c_Fc_scan 16 = .ok (.ireturn, 1) := by decide +kernel
theorem d_Fc_scan_17 : decode c_Fc_scan 17 = .ok (.iload_n 1, 1) := by decide +kernel
theorem d_Fc_scan_18 : decode c_Fc_scan 18 = .ok (.sipush 255, 3) := by decide +kernel
theorem d_Fc_scan_21 : decode c_Fc_scan 21 = .ok (.iand, 1) := by decide +kernel
theorem d_Fc_scan_22 : decode c_Fc_scan 22 = .ok (.istore_n 3, 1) := by decide +kernel
theorem d_Fc_scan_23 : decode c_Fc_scan 23 = .ok (.aload_n 0, 1) := by decide +kernel
theorem d_Fc_scan_24 : decode c_Fc_scan 24 = .ok (.getfield 47, 3) := by decide +kernel
theorem d_Fc_scan_27 : decode c_Fc_scan 27 = .ok (.aload_n 0, 1) := by decide +kernel
theorem d_Fc_scan_28 : decode c_Fc_scan 28 = .ok (.getfield 129, 3) := by decide +kernel
theorem d_Fc_scan_31 : decode c_Fc_scan 31 = .ok (.aload_n 0, 1) := by decide +kernel
theorem d_Fc_scan_32 : decode c_Fc_scan 32 = .ok (.getfield 51, 3) := by decide +kernel
theorem d_Fc_scan_35 : decode c_Fc_scan 35 = .ok (.iload_n 2, 1) := by decide +kernel
theorem d_Fc_scan_36 : decode c_Fc_scan 36 = .ok (.invokevirtual 132, 3) := by decide +kernel
theorem d_Fc_scan_39 : decode c_Fc_scan 39 = .ok (.aload_n 0, 1) := by decide +kernel
theorem d_Fc_scan_40 : decode c_Fc_scan 40 = .ok (.getfield 47, 3) := by decide +kernel
theorem d_Fc_scan_43 : decode c_Fc_scan 43 = .ok (.aload_n 0, 1) := by decide +kernel
theorem d_Fc_scan_44 : decode c_Fc_scan 44 = .ok (.getfield 136, 3) := by decide +kernel
theorem d_Fc_scan_47 : decode c_Fc_scan 47 = .ok (.iload_n 3, 1) := by decide +kernel
theorem d_Fc_scan_48 : decode c_Fc_scan 48 = .ok (.invokevirtual 139, 3) := by decide +kernel
theorem d_Fc_scan_51 : decode c_Fc_scan 51 = .ok (.aload_n 0, 1) := by decide +kernel
theorem d_Fc_scan_52 : decode c_Fc_scan 52 = .ok (.invokevirtual 143, 3) := by decide +kernel
theorem d_Fc_scan_55 : decode c_Fc_scan 55 = .ok (.istore 4, 2) := by decide +kernel
theorem d_Fc_scan_57 : decode c_Fc_scan 57 = .ok (.aload_n 0, 1) := by decide +kernel
theorem d_Fc_scan_58 : decode c_Fc_scan 58 = .ok (.aload_n 0, 1) := by decide +kernel
theorem d_Fc_scan_59 : decode c_Fc_scan 59 = .ok (.getfield 47, 3) := by decide +kernel
theorem d_Fc_scan_62 : decode c_Fc_scan 62 = .ok (.getfield 147, 3) := by decide +kernel
theorem d_Fc_scan_65 : decode c_Fc_scan 65 = .ok (.putfield 150, 3) := by decide +kernel
theorem d_Fc_scan_68 : decode c_Fc_scan 68 = .ok (.aload_n 0, 1) := by decide +kernel
theorem d_Fc_scan_69 : decode c_Fc_scan 69 = .ok (.aload_n 0, 1) := by decide +kernel
theorem d_Fc_scan_70 : decode c_Fc_scan 70 = .ok (.getfield 47, 3) := by decide +kernel
theorem d_Fc_scan_73 : decode c_Fc_scan 73 = .ok (.getfield 151, 3) := by decide +kernel
theorem d_Fc_scan_76 : decode c_Fc_scan 76 = .ok (.putfield 154, 3) := by decide +kernel
theorem d_Fc_scan_79 : decode c_Fc_scan 79 = .ok (.iload 4, 2) := by decide +kernel
theorem d_Fc_scan_81 : decode c_Fc_scan 81 = .ok (.ifCond .ne 5, 3) := by decide +kernel
theorem d_Fc_scan_84 : decode c_Fc_scan 84 = .ok (.iconst (-1), 1) := by decide +kernel
theorem d_Fc_scan_85 : decode c_Fc_scan 85 = .ok (.ireturn, 1) := by decide +kernel
theorem d_Fc_scan_86 : decode c_Fc_scan 86 = .ok (.aload_n 0, 1) := by decide +kernel
theorem d_Fc_scan_87 : decode c_Fc_scan 87 = .ok (.iload_n 3, 1) := by decide +kernel
theorem d_Fc_scan_88 : decode c_Fc_scan 88 = .ok (.putfield 136, 3) := by decide +kernel
theorem d_Fc_scan_91 : decode c_Fc_scan 91 = .ok (.aload_n 0, 1) := by decide +kernel
theorem d_Fc_scan_92 : decode c_Fc_scan 92 = .ok (.iload_n 2, 1) := by decide +kernel
theorem d_Fc_scan_93 : decode c_Fc_scan 93 = .ok (.invokevirtual 155, 3) := by decide +kernel
theorem d_Fc_scan_96 : decode c_Fc_scan 96 = .ok (.aload_n 0, 1) := by decide +kernel
theorem d_Fc_scan_97 : decode c_Fc_scan 97 = .ok (.getfield 159, 3) := by decide +kernel
theorem d_Fc_scan_100 : decode c_Fc_scan 100 = .ok (.ireturn, 1) := by decide +kernel
theorem d_Fc_active_0 : decode c_Fc_active 0 = .ok (.aload_n 0, 1) := by decide +kernel
theorem d_Fc_active_1 : decode c_Fc_active 1 = .ok (.getfield 129, 3) := by decide +kernel
theorem d_Fc_active_4 : decode c_Fc_active 4 = .ok (.ireturn, 1) := by decide +kernel
theorem d_Fc_time_0 : decode c_Fc_time 0 = .ok (.aload_n 0, 1) := by decide +kernel
theorem d_Fc_time_1 : decode c_Fc_time 1 = .ok (.getfield 10, 3) := by decide +kernel
theorem d_Fc_time_4 : decode c_Fc_time 4 = .ok (.iload_n 1, 1) := by decide +kernel
theorem d_Fc_time_5 : decode c_Fc_time 5 = .ok (.invokevirtual 88, 3) := by decide +kernel
theorem d_Fc_time_8 : decode c_Fc_time 8 = .ok (.ifCond .eq 12, 3) := by decide +kernel
theorem d_Fc_time_11 : decode c_Fc_time 11 = .ok (.aload_n 0, 1) := by decide +kernel
theorem d_Fc_time_12 : decode c_Fc_time 12 = .ok (.getfield 51, 3) := by decide +kernel
theorem d_Fc_time_15 : decode c_Fc_time 15 = .ok (.iload_n 1, 1) := by decide +kernel
theorem d_Fc_time_16 : decode c_Fc_time 16 = .ok (.iaload, 1) := by decide +kernel
theorem d_Fc_time_17 : decode c_Fc_time 17 = .ok (.goto 4, 3) := by decide +kernel
theorem d_Fc_time_20 : decode c_Fc_time 20 = .ok (.iconst 0, 1) := by decide +kernel
theorem d_Fc_time_21 : decode c_Fc_time 21 = .ok (.ireturn, 1) := by decide +kernel
theorem d_Fc_enabled_0 : decode c_Fc_enabled 0 = .ok (.aload_n 0, 1) := by decide +kernel
theorem d_Fc_enabled_1 : decode c_Fc_enabled 1 = .ok (.getfield 26, 3) := by decide +kernel
theorem d_Fc_enabled_4 : decode c_Fc_enabled 4 = .ok (.aload_n 0, 1) := by decide +kernel
theorem d_Fc_enabled_5 : decode c_Fc_enabled 5 = .ok (.getfield 129, 3) := by decide +kernel
theorem d_Fc_enabled_8 : decode c_Fc_enabled 8 = .ok (.invokevirtual 110, 3) := by decide +kernel
theorem d_Fc_enabled_11 : decode c_Fc_enabled 11 = .ok (.ireturn, 1) := by decide +kernel
theorem d_Fc_outputs_0 : decode c_Fc_outputs 0 = .ok (.aload_n 0, 1) := by decide +kernel
theorem d_Fc_outputs_1 : decode c_Fc_outputs 1 = .ok (.getfield 162, 3) := by decide +kernel
theorem d_Fc_outputs_4 : decode c_Fc_outputs 4 = .ok (.ireturn, 1) := by decide +kernel
theorem d_Fc_stored_0 : decode c_Fc_stored 0 = .ok (.aload_n 0, 1) := by decide +kernel
theorem d_Fc_stored_1 : decode c_Fc_stored 1 = .ok (.getfield 40, 3) := by decide +kernel
theorem d_Fc_stored_4 : decode c_Fc_stored 4 = .ok (.iload_n 1, 1) := by decide +kernel
theorem d_Fc_stored_5 : decode c_Fc_stored 5 = .ok (.invokevirtual 165, 3) := by decide +kernel
theorem d_Fc_stored_8 : decode c_Fc_stored 8 = .ok (.ireturn, 1) := by decide +kernel
theorem d_Fc_evolutions_0 : decode c_Fc_evolutions 0 = .ok (.aload_n 0, 1) := by decide +kernel
theorem d_Fc_evolutions_1 : decode c_Fc_evolutions 1 = .ok (.getfield 159, 3) := by decide +kernel
theorem d_Fc_evolutions_4 : decode c_Fc_evolutions 4 = .ok (.ireturn, 1) := by decide +kernel
theorem d_Fc_cleared_0 : decode c_Fc_cleared 0 = .ok (.aload_n 0, 1) := by decide +kernel
theorem d_Fc_cleared_1 : decode c_Fc_cleared 1 = .ok (.getfield 168, 3) := by decide +kernel
theorem d_Fc_cleared_4 : decode c_Fc_cleared 4 = .ok (.ireturn, 1) := by decide +kernel
theorem d_Fc_lead_0 : decode c_Fc_lead 0 = .ok (.aload_n 0, 1) := by decide +kernel
theorem d_Fc_lead_1 : decode c_Fc_lead 1 = .ok (.getfield 150, 3) := by decide +kernel
theorem d_Fc_lead_4 : decode c_Fc_lead 4 = .ok (.ireturn, 1) := by decide +kernel
theorem d_Fc_period_0 : decode c_Fc_period 0 = .ok (.aload_n 0, 1) := by decide +kernel
theorem d_Fc_period_1 : decode c_Fc_period 1 = .ok (.getfield 154, 3) := by decide +kernel
theorem d_Fc_period_4 : decode c_Fc_period 4 = .ok (.ireturn, 1) := by decide +kernel
theorem d_Fc_forgetRun_0 : decode c_Fc_forgetRun 0 = .ok (.iconst 0, 1) := by decide +kernel
theorem d_Fc_forgetRun_1 : decode c_Fc_forgetRun 1 = .ok (.istore_n 1, 1) := by decide +kernel
theorem d_Fc_forgetRun_2 : decode c_Fc_forgetRun 2 = .ok (.iload_n 1, 1) := by decide +kernel
theorem d_Fc_forgetRun_3 : decode c_Fc_forgetRun 3 = .ok (.bipush 8, 2) := by decide +kernel
theorem d_Fc_forgetRun_5 : decode c_Fc_forgetRun 5 = .ok (.if_icmp .ge 16, 3) := by decide +kernel
theorem d_Fc_forgetRun_8 : decode c_Fc_forgetRun 8 = .ok (.aload_n 0, 1) := by decide +kernel
theorem d_Fc_forgetRun_9 : decode c_Fc_forgetRun 9 = .ok (.getfield 51, 3) := by decide +kernel
theorem d_Fc_forgetRun_12 : decode c_Fc_forgetRun 12 = .ok (.iload_n 1, 1) := by decide +kernel
theorem d_Fc_forgetRun_13 : decode c_Fc_forgetRun 13 = .ok (.iconst 0, 1) := by decide +kernel
theorem d_Fc_forgetRun_14 : decode c_Fc_forgetRun 14 = .ok (.iastore, 1) := by decide +kernel
theorem d_Fc_forgetRun_15 : decode c_Fc_forgetRun 15 = .ok (.iinc 1 1, 3) := by decide +kernel
theorem d_Fc_forgetRun_18 : decode c_Fc_forgetRun 18 = .ok (.goto (-16), 3) := by decide +kernel
theorem d_Fc_forgetRun_21 : decode c_Fc_forgetRun 21 = .ok (.aload_n 0, 1) := by decide +kernel
theorem d_Fc_forgetRun_22 : decode c_Fc_forgetRun 22 = .ok (.getfield 40, 3) := by decide +kernel
theorem d_Fc_forgetRun_25 : decode c_Fc_forgetRun 25 = .ok (.invokevirtual 171, 3) := by decide +kernel
theorem d_Fc_forgetRun_28 : decode c_Fc_forgetRun 28 = .ok (.aload_n 0, 1) := by decide +kernel
theorem d_Fc_forgetRun_29 : decode c_Fc_forgetRun 29 = .ok (.iconst 0, 1) := by decide +kernel
theorem d_Fc_forgetRun_30 : decode c_Fc_forgetRun 30 = .ok (.putfield 129, 3) := by decide +kernel
theorem d_Fc_forgetRun_33 : decode c_Fc_forgetRun 33 = .ok (.aload_n 0, 1) := by decide +kernel
theorem d_Fc_forgetRun_34 : decode c_Fc_forgetRun 34 = .ok (.iconst 0, 1) := by decide +kernel
theorem d_Fc_forgetRun_35 : decode c_Fc_forgetRun 35 = .ok (.putfield 174, 3) := by decide +kernel
theorem d_Fc_forgetRun_38 : decode c_Fc_forgetRun 38 = .ok (.aload_n 0, 1) := by decide +kernel
theorem d_Fc_forgetRun_39 : decode c_Fc_forgetRun 39 = .ok (.iconst 0, 1) := by decide +kernel
theorem d_Fc_forgetRun_40 : decode c_Fc_forgetRun 40 = .ok (.putfield 136, 3) := by decide +kernel
theorem d_Fc_forgetRun_43 : decode c_Fc_forgetRun 43 = .ok (.aload_n 0, 1) := by decide +kernel
theorem d_Fc_forgetRun_44 : decode c_Fc_forgetRun 44 = .ok (.iconst 0, 1) := by decide +kernel
theorem d_Fc_forgetRun_45 : decode c_Fc_forgetRun 45 = .ok (.putfield 162, 3) := by decide +kernel
theorem d_Fc_forgetRun_48 : decode c_Fc_forgetRun 48 = .ok (.aload_n 0, 1) := by decide +kernel
theorem d_Fc_forgetRun_49 : decode c_Fc_forgetRun 49 = .ok (.iconst 0, 1) := by decide +kernel
theorem d_Fc_forgetRun_50 : decode c_Fc_forgetRun 50 = .ok (.putfield 159, 3) := by decide +kernel
theorem d_Fc_forgetRun_53 : decode c_Fc_forgetRun 53 = .ok (.aload_n 0, 1) := by decide +kernel
theorem d_Fc_forgetRun_54 : decode c_Fc_forgetRun 54 = .ok (.iconst 0, 1) := by decide +kernel
theorem d_Fc_forgetRun_55 : decode c_Fc_forgetRun 55 = .ok (.putfield 168, 3) := by decide +kernel
theorem d_Fc_forgetRun_58 : decode c_Fc_forgetRun 58 = .ok (.aload_n 0, 1) := by decide +kernel
theorem d_Fc_forgetRun_59 : decode c_Fc_forgetRun 59 = .ok (.iconst 0, 1) := by decide +kernel
theorem d_Fc_forgetRun_60 : decode c_Fc_forgetRun 60 = .ok (.putfield 150, 3) := by decide +kernel
theorem d_Fc_forgetRun_63 : decode c_Fc_forgetRun 63 = .ok (.aload_n 0, 1) := by decide +kernel
theorem d_Fc_forgetRun_64 : decode c_Fc_forgetRun 64 = .ok (.iconst 0, 1) := by decide +kernel
theorem d_Fc_forgetRun_65 : decode c_Fc_forgetRun 65 = .ok (.putfield 154, 3) := by decide +kernel
theorem d_Fc_forgetRun_68 : decode c_Fc_forgetRun 68 = .ok (.return_, 1) := by decide +kernel
theorem d_Fc_comesToAnEnd_0 : decode c_Fc_comesToAnEnd 0 = .ok (.aload_n 0, 1) := by decide +kernel
theorem d_Fc_comesToAnEnd_1 : decode c_Fc_comesToAnEnd 1 = .ok (.getfield 126, 3) := by decide +kernel
theorem d_Fc_comesToAnEnd_4 : decode c_Fc_comesToAnEnd 4 = .ok (.ifCond .ne 10, 3) := by decide +kernel
theorem d_Fc_comesToAnEnd_7 : decode c_Fc_comesToAnEnd 7 = .ok (.aload_n 0, 1) := by decide +kernel
theorem d_Fc_comesToAnEnd_8 : decode c_Fc_comesToAnEnd 8 = .ok (.invokevirtual 177, 3) := by decide +kernel
theorem d_Fc_comesToAnEnd_11 : decode c_Fc_comesToAnEnd 11 = .ok (.pop, 1) := by decide +kernel
theorem d_Fc_comesToAnEnd_12 : decode c_Fc_comesToAnEnd 12 = .ok (.iconst 1, 1) := by decide +kernel
theorem d_Fc_comesToAnEnd_13 : decode c_Fc_comesToAnEnd 13 = .ok (.ireturn, 1) := by decide +kernel
theorem d_Fc_comesToAnEnd_14 : decode c_Fc_comesToAnEnd 14 = .ok (.iconst 0, 1) := by decide +kernel
theorem d_Fc_comesToAnEnd_15 : decode c_Fc_comesToAnEnd 15 = .ok (.istore_n 1, 1) := by decide +kernel
theorem d_Fc_comesToAnEnd_16 : decode c_Fc_comesToAnEnd 16 = .ok (.iload_n 1, 1) := by decide +kernel
theorem d_Fc_comesToAnEnd_17 : decode c_Fc_comesToAnEnd 17 = .ok (.sipush 511, 3) := by decide +kernel
theorem d_Fc_comesToAnEnd_20 : decode c_Fc_comesToAnEnd 20 = .ok (.if_icmp .gt 37, 3) := by decide +kernel
theorem d_Fc_comesToAnEnd_23 : decode c_Fc_comesToAnEnd 23 = .ok (.aload_n 0, 1) := by decide +kernel
theorem d_Fc_comesToAnEnd_24 : decode c_Fc_comesToAnEnd 24 = .ok (.invokevirtual 177, 3) := by decide +kernel
theorem d_Fc_comesToAnEnd_27 : decode c_Fc_comesToAnEnd 27 = .ok (.ifCond .ne 5, 3) := by decide +kernel
theorem d_Fc_comesToAnEnd_30 : decode c_Fc_comesToAnEnd 30 = .ok (.iconst 1, 1) := by decide +kernel
theorem d_Fc_comesToAnEnd_31 : decode c_Fc_comesToAnEnd 31 = .ok (.ireturn, 1) := by decide +kernel
theorem d_Fc_comesToAnEnd_32 : decode c_Fc_comesToAnEnd 32 = .ok (.aload_n 0, 1) := by decide +kernel
theorem d_Fc_comesToAnEnd_33 : decode c_Fc_comesToAnEnd 33 = .ok (.getfield 47, 3) := by decide +kernel
theorem d_Fc_comesToAnEnd_36 : decode c_Fc_comesToAnEnd 36 = .ok (.invokevirtual 180, 3) := by decide +kernel
theorem d_Fc_comesToAnEnd_39 : decode c_Fc_comesToAnEnd 39 = .ok (.aload_n 0, 1) := by decide +kernel
theorem d_Fc_comesToAnEnd_40 : decode c_Fc_comesToAnEnd 40 = .ok (.getfield 47, 3) := by decide +kernel
theorem d_Fc_comesToAnEnd_43 : decode c_Fc_comesToAnEnd 43 = .ok (.invokevirtual 183, 3) := by decide +kernel
theorem d_Fc_comesToAnEnd_46 : decode c_Fc_comesToAnEnd 46 = .ok (.ifCond .eq 5, 3) := by decide +kernel
theorem d_Fc_comesToAnEnd_49 : decode c_Fc_comesToAnEnd 49 = .ok (.iconst 0, 1) := by decide +kernel
theorem d_Fc_comesToAnEnd_50 : decode c_Fc_comesToAnEnd 50 = .ok (.ireturn, 1) := by decide +kernel
theorem d_Fc_comesToAnEnd_51 : decode c_Fc_comesToAnEnd 51 = .ok (.iinc 1 1, 3) := by decide +kernel
theorem d_Fc_comesToAnEnd_54 : decode c_Fc_comesToAnEnd 54 = .ok (.goto (-38), 3) := by decide +kernel
theorem d_Fc_comesToAnEnd_57 : decode c_Fc_comesToAnEnd 57 = .ok (.iconst 0, 1) := by decide +kernel
theorem d_Fc_comesToAnEnd_58 : decode c_Fc_comesToAnEnd 58 = .ok (.ireturn, 1) := by decide +kernel
theorem d_Fc_evolve_0 : decode c_Fc_evolve 0 = .ok (.aload_n 0, 1) := by decide +kernel
theorem d_Fc_evolve_1 : decode c_Fc_evolve 1 = .ok (.getfield 26, 3) := by decide +kernel
theorem d_Fc_evolve_4 : decode c_Fc_evolve 4 = .ok (.aload_n 0, 1) := by decide +kernel
theorem d_Fc_evolve_5 : decode c_Fc_evolve 5 = .ok (.getfield 47, 3) := by decide +kernel
theorem d_Fc_evolve_8 : decode c_Fc_evolve 8 = .ok (.getfield 186, 3) := by decide +kernel
theorem d_Fc_evolve_11 : decode c_Fc_evolve 11 = .ok (.aload_n 0, 1) := by decide +kernel
theorem d_Fc_evolve_12 : decode c_Fc_evolve 12 = .ok (.getfield 19, 3) := by decide +kernel
theorem d_Fc_evolve_15 : decode c_Fc_evolve 15 = .ok (.aload_n 0, 1) := by decide +kernel
theorem d_Fc_evolve_16 : decode c_Fc_evolve 16 = .ok (.getfield 47, 3) := by decide +kernel
theorem d_Fc_evolve_19 : decode c_Fc_evolve 19 = .ok (.invokevirtual 187, 3) := by decide +kernel
theorem d_Fc_evolve_22 : decode c_Fc_evolve 22 = .ok (.invokevirtual 191, 3) := by decide +kernel
theorem d_Fc_evolve_25 : decode c_Fc_evolve 25 = .ok (.istore_n 1, 1) := by decide +kernel
theorem d_Fc_evolve_26 : decode c_Fc_evolve 26 = .ok (.iconst 0, 1) := by decide +kernel
theorem d_Fc_evolve_27 : decode c_Fc_evolve 27 = .ok (.istore_n 2, 1) := by decide +kernel
theorem d_Fc_evolve_28 : decode c_Fc_evolve 28 = .ok (.iconst 0, 1) := by decide +kernel
theorem d_Fc_evolve_29 : decode c_Fc_evolve 29 = .ok (.istore_n 3, 1) := by decide +kernel
theorem d_Fc_evolve_30 : decode c_Fc_evolve 30 = .ok (.iconst 0, 1) := by decide +kernel
theorem d_Fc_evolve_31 : decode c_Fc_evolve 31 = .ok (.istore 4, 2) := by decide +kernel
theorem d_Fc_evolve_33 : decode c_Fc_evolve 33 = .ok (.iload 4, 2) := by decide +kernel
theorem d_Fc_evolve_35 : decode c_Fc_evolve 35 = .ok (.iconst 3, 1) := by decide +kernel
theorem d_Fc_evolve_36 : decode c_Fc_evolve 36 = .ok (.if_icmp .ge 133, 3) := by decide +kernel
theorem d_Fc_evolve_39 : decode c_Fc_evolve 39 = .ok (.aload_n 0, 1) := by decide +kernel
theorem d_Fc_evolve_40 : decode c_Fc_evolve 40 = .ok (.getfield 47, 3) := by decide +kernel
theorem d_Fc_evolve_43 : decode c_Fc_evolve 43 = .ok (.getfield 186, 3) := by decide +kernel
theorem d_Fc_evolve_46 : decode c_Fc_evolve 46 = .ok (.aload_n 0, 1) := by decide +kernel
theorem d_Fc_evolve_47 : decode c_Fc_evolve 47 = .ok (.getfield 10, 3) := by decide +kernel
theorem d_Fc_evolve_50 : decode c_Fc_evolve 50 = .ok (.getfield 92, 3) := by decide +kernel
theorem d_Fc_evolve_53 : decode c_Fc_evolve 53 = .ok (.iload 4, 2) := by decide +kernel
theorem d_Fc_evolve_55 : decode c_Fc_evolve 55 = .ok (.iaload, 1) := by decide +kernel
theorem d_Fc_evolve_56 : decode c_Fc_evolve 56 = .ok (.iand, 1) := by decide +kernel
theorem d_Fc_evolve_57 : decode c_Fc_evolve 57 = .ok (.istore 5, 2) := by decide +kernel
theorem d_Fc_evolve_59 : decode c_Fc_evolve 59 = .ok (.aload_n 0, 1) := by decide +kernel
theorem d_Fc_evolve_60 : decode c_Fc_evolve 60 = .ok (.getfield 33, 3) := by decide +kernel
theorem d_Fc_evolve_63 : decode c_Fc_evolve 63 = .ok (.iload 4, 2) := by decide +kernel
theorem d_Fc_evolve_65 : decode c_Fc_evolve 65 = .ok (.iload_n 3, 1) := by decide +kernel
theorem d_Fc_evolve_66 : decode c_Fc_evolve 66 = .ok (.invokevirtual 195, 3) := by decide +kernel
theorem d_Fc_evolve_69 : decode c_Fc_evolve 69 = .ok (.istore 6, 2) := by decide +kernel
theorem d_Fc_evolve_71 : decode c_Fc_evolve 71 = .ok (.iload 6, 2) := by decide +kernel
theorem d_Fc_evolve_73 : decode c_Fc_evolve 73 = .ok (.iconst (-1), 1) := by decide +kernel
theorem d_Fc_evolve_74 : decode c_Fc_evolve 74 = .ok (.if_icmp .eq 20, 3) := by decide +kernel
theorem d_Fc_evolve_77 : decode c_Fc_evolve 77 = .ok (.iload_n 3, 1) := by decide +kernel
theorem d_Fc_evolve_78 : decode c_Fc_evolve 78 = .ok (.aload_n 0, 1) := by decide +kernel
theorem d_Fc_evolve_79 : decode c_Fc_evolve 79 = .ok (.getfield 33, 3) := by decide +kernel
theorem d_Fc_evolve_82 : decode c_Fc_evolve 82 = .ok (.iload 6, 2) := by decide +kernel
theorem d_Fc_evolve_84 : decode c_Fc_evolve 84 = .ok (.iload 5, 2) := by decide +kernel
theorem d_Fc_evolve_86 : decode c_Fc_evolve 86 = .ok (.invokevirtual 198, 3) := by decide +kernel
theorem d_Fc_evolve_89 : decode c_Fc_evolve 89 = .ok (.ior, 1) := by decide +kernel
theorem d_Fc_evolve_90 : decode c_Fc_evolve 90 = .ok (.istore_n 3, 1) := by decide +kernel
theorem d_Fc_evolve_91 : decode c_Fc_evolve 91 = .ok (.goto 72, 3) := by decide +kernel
theorem d_Fc_evolve_94 : decode c_Fc_evolve 94 = .ok (.iload_n 1, 1) := by decide +kernel
theorem d_Fc_evolve_95 : decode c_Fc_evolve 95 = .ok (.aload_n 0, 1) := by decide +kernel
theorem d_Fc_evolve_96 : decode c_Fc_evolve 96 = .ok (.getfield 26, 3) := by decide +kernel
theorem d_Fc_evolve_99 : decode c_Fc_evolve 99 = .ok (.getfield 201, 3) := by decide +kernel
theorem d_Fc_evolve_102 : decode c_Fc_evolve 102 = .ok (.iload 4, 2) := by decide +kernel
theorem d_Fc_evolve_104 : decode c_Fc_evolve 104 = .ok (.iaload, 1) := by decide +kernel
theorem d_Fc_evolve_105 : decode c_Fc_evolve 105 = .ok (.iand, 1) := by decide +kernel
theorem d_Fc_evolve_106 : decode c_Fc_evolve 106 = .ok (.istore 7, 2) := by decide +kernel
theorem d_Fc_evolve_108 : decode c_Fc_evolve 108 = .ok (.aload_n 0, 1) := by decide +kernel
theorem d_Fc_evolve_109 : decode c_Fc_evolve 109 = .ok (.getfield 126, 3) := by decide +kernel
theorem d_Fc_evolve_112 : decode c_Fc_evolve 112 = .ok (.ifCond .eq 8, 3) := by decide +kernel
theorem d_Fc_evolve_115 : decode c_Fc_evolve 115 = .ok (.iload 7, 2) := by decide +kernel
theorem d_Fc_evolve_117 : decode c_Fc_evolve 117 = .ok (.goto 12, 3) := by decide +kernel
theorem d_Fc_evolve_120 : decode c_Fc_evolve 120 = .ok (.aload_n 0, 1) := by decide +kernel
theorem d_Fc_evolve_121 : decode c_Fc_evolve 121 = .ok (.getfield 26, 3) := by decide +kernel
theorem d_Fc_evolve_124 : decode c_Fc_evolve 124 = .ok (.iload 7, 2) := by decide +kernel
theorem d_Fc_evolve_126 : decode c_Fc_evolve 126 = .ok (.invokevirtual 202, 3) := by decide +kernel
theorem d_Fc_evolve_129 : decode c_Fc_evolve 129 = .ok (.istore 8, 2) := by decide +kernel
theorem d_Fc_evolve_131 : decode c_Fc_evolve 131 = .ok (.iload_n 3, 1) := by decide +kernel
theorem d_Fc_evolve_132 : decode c_Fc_evolve 132 = .ok (.iload 5, 2) := by decide +kernel
theorem d_Fc_evolve_134 : decode c_Fc_evolve 134 = .ok (.aload_n 0, 1) := by decide +kernel
theorem d_Fc_evolve_135 : decode c_Fc_evolve 135 = .ok (.getfield 26, 3) := by decide +kernel
theorem d_Fc_evolve_138 : decode c_Fc_evolve 138 = .ok (.iload 8, 2) := by decide +kernel
theorem d_Fc_evolve_140 : decode c_Fc_evolve 140 = .ok (.invokevirtual 205, 3) := by decide +kernel
theorem d_Fc_evolve_143 : decode c_Fc_evolve 143 = .ok (.iconst (-1), 1) := by decide +kernel
theorem d_Fc_evolve_144 : decode c_Fc_evolve 144 = .ok (.ixor, 1) := by decide +kernel
theorem d_Fc_evolve_145 : decode c_Fc_evolve 145 = .ok (.iand, 1) := by decide +kernel
theorem d_Fc_evolve_146 : decode c_Fc_evolve 146 = .ok (.aload_n 0, 1) := by decide +kernel
theorem d_Fc_evolve_147 : decode c_Fc_evolve 147 = .ok (.getfield 26, 3) := by decide +kernel
theorem d_Fc_evolve_150 : decode c_Fc_evolve 150 = .ok (.iload 8, 2) := by decide +kernel
theorem d_Fc_evolve_152 : decode c_Fc_evolve 152 = .ok (.invokevirtual 113, 3) := by decide +kernel
theorem d_Fc_evolve_155 : decode c_Fc_evolve 155 = .ok (.ior, 1) := by decide +kernel
theorem d_Fc_evolve_156 : decode c_Fc_evolve 156 = .ok (.ior, 1) := by decide +kernel
theorem d_Fc_evolve_157 : decode c_Fc_evolve 157 = .ok (.istore_n 3, 1) := by decide +kernel
theorem d_Fc_evolve_158 : decode c_Fc_evolve 158 = .ok (.iload_n 2, 1) := by decide +kernel
theorem d_Fc_evolve_159 : decode c_Fc_evolve 159 = .ok (.iload 8, 2) := by decide +kernel
theorem d_Fc_evolve_161 : decode c_Fc_evolve 161 = .ok (.ior, 1) := by decide +kernel
theorem d_Fc_evolve_162 : decode c_Fc_evolve 162 = .ok (.istore_n 2, 1) := by decide +kernel
theorem d_Fc_evolve_163 : decode c_Fc_evolve 163 = .ok (.iinc 4 1, 3) := by decide +kernel
theorem d_Fc_evolve_166 : decode c_Fc_evolve 166 = .ok (.goto (-133), 3) := by decide +kernel
theorem d_Fc_evolve_169 : decode c_Fc_evolve 169 = .ok (.aload_n 0, 1) := by decide +kernel
theorem d_Fc_evolve_170 : decode c_Fc_evolve 170 = .ok (.getfield 47, 3) := by decide +kernel
theorem d_Fc_evolve_173 : decode c_Fc_evolve 173 = .ok (.iload_n 3, 1) := by decide +kernel
theorem d_Fc_evolve_174 : decode c_Fc_evolve 174 = .ok (.iload_n 2, 1) := by decide +kernel
theorem d_Fc_evolve_175 : decode c_Fc_evolve 175 = .ok (.invokevirtual 208, 3) := by decide +kernel
theorem d_Fc_evolve_178 : decode c_Fc_evolve 178 = .ok (.ireturn, 1) := by decide +kernel
theorem d_Fc_keepTrial_0 : decode c_Fc_keepTrial 0 = .ok (.aload_n 0, 1) := by decide +kernel
theorem d_Fc_keepTrial_1 : decode c_Fc_keepTrial 1 = .ok (.aload_n 0, 1) := by decide +kernel
theorem d_Fc_keepTrial_2 : decode c_Fc_keepTrial 2 = .ok (.getfield 47, 3) := by decide +kernel
theorem d_Fc_keepTrial_5 : decode c_Fc_keepTrial 5 = .ok (.getfield 186, 3) := by decide +kernel
theorem d_Fc_keepTrial_8 : decode c_Fc_keepTrial 8 = .ok (.putfield 129, 3) := by decide +kernel
theorem d_Fc_keepTrial_11 : decode c_Fc_keepTrial 11 = .ok (.iconst 0, 1) := by decide +kernel
theorem d_Fc_keepTrial_12 : decode c_Fc_keepTrial 12 = .ok (.istore_n 2, 1) := by decide +kernel
theorem d_Fc_keepTrial_13 : decode c_Fc_keepTrial 13 = .ok (.iload_n 2, 1) := by decide +kernel
theorem d_Fc_keepTrial_14 : decode c_Fc_keepTrial 14 = .ok (.bipush 8, 2) := by decide +kernel
theorem d_Fc_keepTrial_16 : decode c_Fc_keepTrial 16 = .ok (.if_icmp .ge 23, 3) := by decide +kernel
theorem d_Fc_keepTrial_19 : decode c_Fc_keepTrial 19 = .ok (.aload_n 0, 1) := by decide +kernel
theorem d_Fc_keepTrial_20 : decode c_Fc_keepTrial 20 = .ok (.getfield 51, 3) := by decide +kernel
theorem d_Fc_keepTrial_23 : decode c_Fc_keepTrial 23 = .ok (.iload_n 2, 1) := by decide +kernel
theorem d_Fc_keepTrial_24 : decode c_Fc_keepTrial 24 = .ok (.aload_n 0, 1) := by decide +kernel
theorem d_Fc_keepTrial_25 : decode c_Fc_keepTrial 25 = .ok (.getfield 47, 3) := by decide +kernel
theorem d_Fc_keepTrial_28 : decode c_Fc_keepTrial 28 = .ok (.iload_n 2, 1) := by decide +kernel
theorem d_Fc_keepTrial_29 : decode c_Fc_keepTrial 29 = .ok (.invokevirtual 212, 3) := by decide +kernel
theorem d_Fc_keepTrial_32 : decode c_Fc_keepTrial 32 = .ok (.iastore, 1) := by decide +kernel
theorem d_Fc_keepTrial_33 : decode c_Fc_keepTrial 33 = .ok (.iinc 2 1, 3) := by decide +kernel
theorem d_Fc_keepTrial_36 : decode c_Fc_keepTrial 36 = .ok (.goto (-23), 3) := by decide +kernel
theorem d_Fc_keepTrial_39 : decode c_Fc_keepTrial 39 = .ok (.aload_n 0, 1) := by decide +kernel
theorem d_Fc_keepTrial_40 : decode c_Fc_keepTrial 40 = .ok (.aload_n 0, 1) := by decide +kernel
theorem d_Fc_keepTrial_41 : decode c_Fc_keepTrial 41 = .ok (.getfield 47, 3) := by decide +kernel
theorem d_Fc_keepTrial_44 : decode c_Fc_keepTrial 44 = .ok (.getfield 215, 3) := by decide +kernel
theorem d_Fc_keepTrial_47 : decode c_Fc_keepTrial 47 = .ok (.putfield 159, 3) := by decide +kernel
theorem d_Fc_keepTrial_50 : decode c_Fc_keepTrial 50 = .ok (.aload_n 0, 1) := by decide +kernel
theorem d_Fc_keepTrial_51 : decode c_Fc_keepTrial 51 = .ok (.aload_n 0, 1) := by decide +kernel
theorem d_Fc_keepTrial_52 : decode c_Fc_keepTrial 52 = .ok (.getfield 47, 3) := by decide +kernel
theorem d_Fc_keepTrial_55 : decode c_Fc_keepTrial 55 = .ok (.getfield 218, 3) := by decide +kernel
theorem d_Fc_keepTrial_58 : decode c_Fc_keepTrial 58 = .ok (.putfield 168, 3) := by decide +kernel
theorem d_Fc_keepTrial_61 : decode c_Fc_keepTrial 61 = .ok (.aload_n 0, 1) := by decide +kernel
theorem d_Fc_keepTrial_62 : decode c_Fc_keepTrial 62 = .ok (.getfield 40, 3) := by decide +kernel
theorem d_Fc_keepTrial_65 : decode c_Fc_keepTrial 65 = .ok (.iload_n 1, 1) := by decide +kernel
theorem d_Fc_keepTrial_66 : decode c_Fc_keepTrial 66 = .ok (.invokevirtual 219, 3) := by decide +kernel
theorem d_Fc_keepTrial_69 : decode c_Fc_keepTrial 69 = .ok (.aload_n 0, 1) := by decide +kernel
theorem d_Fc_keepTrial_70 : decode c_Fc_keepTrial 70 = .ok (.aload_n 0, 1) := by decide +kernel
theorem d_Fc_keepTrial_71 : decode c_Fc_keepTrial 71 = .ok (.getfield 40, 3) := by decide +kernel
theorem d_Fc_keepTrial_74 : decode c_Fc_keepTrial 74 = .ok (.aload_n 0, 1) := by decide +kernel
theorem d_Fc_keepTrial_75 : decode c_Fc_keepTrial 75 = .ok (.getfield 129, 3) := by decide +kernel
theorem d_Fc_keepTrial_78 : decode c_Fc_keepTrial 78 = .ok (.aload_n 0, 1) := by decide +kernel
theorem d_Fc_keepTrial_79 : decode c_Fc_keepTrial 79 = .ok (.getfield 174, 3) := by decide +kernel
theorem d_Fc_keepTrial_82 : decode c_Fc_keepTrial 82 = .ok (.aload_n 0, 1) := by decide +kernel
theorem d_Fc_keepTrial_83 : decode c_Fc_keepTrial 83 = .ok (.getfield 51, 3) := by decide +kernel
theorem d_Fc_keepTrial_86 : decode c_Fc_keepTrial 86 = .ok (.invokevirtual 222, 3) := by decide +kernel
theorem d_Fc_keepTrial_89 : decode c_Fc_keepTrial 89 = .ok (.putfield 162, 3) := by decide +kernel
theorem d_Fc_keepTrial_92 : decode c_Fc_keepTrial 92 = .ok (.aload_n 0, 1) := by decide +kernel
theorem d_Fc_keepTrial_93 : decode c_Fc_keepTrial 93 = .ok (.aload_n 0, 1) := by decide +kernel
theorem d_Fc_keepTrial_94 : decode c_Fc_keepTrial 94 = .ok (.getfield 129, 3) := by decide +kernel
theorem d_Fc_keepTrial_97 : decode c_Fc_keepTrial 97 = .ok (.putfield 174, 3) := by decide +kernel
theorem d_Fc_keepTrial_100 : decode c_Fc_keepTrial 100 = .ok (.return_, 1) := by decide +kernel
theorem d_Fc_isIn_0 : decode c_Fc_isIn 0 = .ok (.iload_n 1, 1) := by decide +kernel
theorem d_Fc_isIn_1 : decode c_Fc_isIn 1 = .ok (.iload_n 0, 1) := by decide +kernel
theorem d_Fc_isIn_2 : decode c_Fc_isIn 2 = .ok (.ishr, 1) := by decide +kernel
theorem d_Fc_isIn_3 : decode c_Fc_isIn 3 = .ok (.iconst 1, 1) := by decide +kernel
theorem d_Fc_isIn_4 : decode c_Fc_isIn 4 = .ok (.iand, 1) := by decide +kernel
theorem d_Fc_isIn_5 : decode c_Fc_isIn 5 = .ok (.ifCond .eq 7, 3) := by decide +kernel
theorem d_Fc_isIn_8 : decode c_Fc_isIn 8 = .ok (.iconst 1, 1) := by decide +kernel
theorem d_Fc_isIn_9 : decode c_Fc_isIn 9 = .ok (.goto 4, 3) := by decide +kernel
theorem d_Fc_isIn_12 : decode c_Fc_isIn 12 = .ok (.iconst 0, 1) := by decide +kernel
theorem d_Fc_isIn_13 : decode c_Fc_isIn 13 = .ok (.ireturn, 1) := by decide +kernel
theorem d_Fc_isLine_0 : decode c_Fc_isLine 0 = .ok (.iload_n 0, 1) := by decide +kernel
theorem d_Fc_isLine_1 : decode c_Fc_isLine 1 = .ok (.ifCond .lt 13, 3) := by decide +kernel
theorem d_Fc_isLine_4 : decode c_Fc_isLine 4 = .ok (.iload_n 0, 1) := by decide +kernel
theorem d_Fc_isLine_5 : decode c_Fc_isLine 5 = .ok (.bipush 8, 2) := by decide +kernel
theorem d_Fc_isLine_7 : decode c_Fc_isLine 7 = .ok (.if_icmp .ge 7, 3) := by decide +kernel
theorem d_Fc_isLine_10 : decode c_Fc_isLine 10 = .ok (.iconst 1, 1) := by decide +kernel
theorem d_Fc_isLine_11 : decode c_Fc_isLine 11 = .ok (.goto 4, 3) := by decide +kernel
theorem d_Fc_isLine_14 : decode c_Fc_isLine 14 = .ok (.iconst 0, 1) := by decide +kernel
theorem d_Fc_isLine_15 : decode c_Fc_isLine 15 = .ok (.ireturn, 1) := by decide +kernel
theorem d_Fc_isSpan_0 : decode c_Fc_isSpan 0 = .ok (.iload_n 0, 1) := by decide +kernel
theorem d_Fc_isSpan_1 : decode c_Fc_isSpan 1 = .ok (.ifCond .lt 13, 3) := by decide +kernel
theorem d_Fc_isSpan_4 : decode c_Fc_isSpan 4 = .ok (.iload_n 0, 1) := by decide +kernel
theorem d_Fc_isSpan_5 : decode c_Fc_isSpan 5 = .ok (.ldc 226, 2) := by decide +kernel
theorem d_Fc_isSpan_7 : decode c_Fc_isSpan 7 = .ok (.if_icmp .gt 7, 3) := by decide +kernel
theorem d_Fc_isSpan_10 : decode c_Fc_isSpan 10 = .ok (.iconst 1, 1) := by decide +kernel
theorem d_Fc_isSpan_11 : decode c_Fc_isSpan 11 = .ok (.goto 4, 3) := by decide +kernel
theorem d_Fc_isSpan_14 : decode c_Fc_isSpan 14 = .ok (.iconst 0, 1) := by decide +kernel
theorem d_Fc_isSpan_15 : decode c_Fc_isSpan 15 = .ok (.ireturn, 1) := by decide +kernel
theorem d_St_init_0 : decode c_St_init 0 = .ok (.aload_n 0, 1) := by decide +kernel
theorem d_St_init_1 : decode c_St_init 1 = .ok (.invokespecial 3, 3) := by decide +kernel
theorem d_St_init_4 : decode c_St_init 4 = .ok (.aload_n 0, 1) := by decide +kernel
theorem d_St_init_5 : decode c_St_init 5 = .ok (.bipush 8, 2) := by decide +kernel
theorem d_St_init_7 : decode c_St_init 7 = .ok (.newarray .int, 2) := by decide +kernel
theorem d_St_init_9 : decode c_St_init 9 = .ok (.putfield 9, 3) := by decide +kernel
theorem d_St_init_12 : decode c_St_init 12 = .ok (.aload_n 0, 1) := by decide +kernel
theorem d_St_init_13 : decode c_St_init 13 = .ok (.iconst 3, 1) := by decide +kernel
theorem d_St_init_14 : decode c_St_init 14 = .ok (.newarray .int, 2) := by decide +kernel
theorem d_St_init_16 : decode c_St_init 16 = .ok (.putfield 15, 3) := by decide +kernel
theorem d_St_init_19 : decode c_St_init 19 = .ok (.return_, 1) := by decide +kernel
theorem d_St_add_0 : decode c_St_add 0 = .ok (.aload_n 0, 1) := by decide +kernel
theorem d_St_add_1 : decode c_St_add 1 = .ok (.dup, 1) := by decide +kernel
theorem d_St_add_2 : decode c_St_add 2 = .ok (.getfield 18, 3) := by decide +kernel
theorem d_St_add_5 : decode c_St_add 5 = .ok (.dup_x1, 1) := by decide +kernel
theorem d_St_add_6 : decode c_St_add 6 = .ok (.iconst 1, 1) := by decide +kernel
theorem d_St_add_7 : decode c_St_add 7 = .ok (.iadd, 1) := by decide +kernel
theorem d_St_add_8 : decode c_St_add 8 = .ok (.putfield 18, 3) := by decide +kernel
theorem d_St_add_11 : decode c_St_add 11 = .ok (.istore_n 3, 1) := by decide +kernel
theorem d_St_add_12 : decode c_St_add 12 = .ok (.aload_n 0, 1) := by decide +kernel
theorem d_St_add_13 : decode c_St_add 13 = .ok (.getfield 9, 3) := by decide +kernel
theorem d_St_add_16 : decode c_St_add 16 = .ok (.iload_n 3, 1) := by decide +kernel
theorem d_St_add_17 : decode c_St_add 17 = .ok (.iload_n 1, 1) := by decide +kernel
theorem d_St_add_18 : decode c_St_add 18 = .ok (.iastore, 1) := by decide +kernel
theorem d_St_add_19 : decode c_St_add 19 = .ok (.aload_n 0, 1) := by decide +kernel
theorem d_St_add_20 : decode c_St_add 20 = .ok (.getfield 15, 3) := by decide +kernel
theorem d_St_add_23 : decode c_St_add 23 = .ok (.iload_n 1, 1) := by decide +kernel
theorem d_St_add_24 : decode c_St_add 24 = .ok (.dup2, 1) := by decide +kernel
theorem d_St_add_25 : decode c_St_add 25 = .ok (.iaload, 1) := by decide +kernel
theorem d_St_add_26 : decode c_St_add 26 = .ok (.iconst 1, 1) := by decide +kernel
theorem d_St_add_27 : decode c_St_add 27 = .ok (.iload_n 3, 1) := by decide +kernel
theorem d_St_add_28 : decode c_St_add 28 = .ok (.ishl, 1) := by decide +kernel
theorem d_St_add_29 : decode c_St_add 29 = .ok (.ior, 1) := by decide +kernel
theorem d_St_add_30 : decode c_St_add 30 = .ok (.iastore, 1) := by decide +kernel
theorem d_St_add_31 : decode c_St_add 31 = .ok (.iload_n 2, 1) := by decide +kernel
theorem d_St_add_32 : decode c_St_add 32 = .ok (.ifCond .eq 15, 3) := by decide +kernel
theorem d_St_add_35 : decode c_St_add 35 = .ok (.aload_n 0, 1) := by decide +kernel
theorem d_St_add_36 : decode c_St_add 36 = .ok (.dup, 1) := by decide +kernel
theorem d_St_add_37 : decode c_St_add 37 = .ok (.getfield 22, 3) := by decide +kernel
theorem d_St_add_40 : decode c_St_add 40 = .ok (.iconst 1, 1) := by decide +kernel
theorem d_St_add_41 : decode c_St_add 41 = .ok (.iload_n 3, 1) := by decide +kernel
theorem d_St_add_42 : decode c_St_add 42 = .ok (.ishl, 1) := by decide +kernel
theorem d_St_add_43 : decode c_St_add 43 = .ok (.ior, 1) := by decide +kernel
theorem d_St_add_44 : decode c_St_add 44 = .ok (.putfield 22, 3) := by decide +kernel
theorem d_St_add_47 : decode c_St_add 47 = .ok (.iload_n 3, 1) := by decide +kernel
theorem d_St_add_48 : decode c_St_add 48 = .ok (.ireturn, 1) := by decide +kernel
theorem d_St_has_0 : decode c_St_has 0 = .ok (.iload_n 1, 1) := by decide +kernel
theorem d_St_has_1 : decode c_St_has 1 = .ok (.ifCond .lt 15, 3) := by decide +kernel
theorem d_St_has_4 : decode c_St_has 4 = .ok (.iload_n 1, 1) := by decide +kernel
theorem d_St_has_5 : decode c_St_has 5 = .ok (.aload_n 0, 1) := by decide +kernel
theorem d_St_has_6 : decode c_St_has 6 = .ok (.getfield 18, 3) := by decide +kernel
theorem d_St_has_9 : decode c_St_has 9 = .ok (.if_icmp .ge 7, 3) := by decide +kernel
theorem d_St_has_12 : decode c_St_has 12 = .ok (.iconst 1, 1) := by decide +kernel
theorem d_St_has_13 : decode c_St_has 13 = .ok (.goto 4, 3) := by decide +kernel
theorem d_St_has_16 : decode c_St_has 16 = .ok (.iconst 0, 1) := by decide +kernel
theorem d_St_has_17 : decode c_St_has 17 = .ok (.ireturn, 1) := by decide +kernel
theorem d_St_all_0 : decode c_St_all 0 = .ok (.iconst 1, 1) := by decide +kernel
theorem d_St_all_1 : decode c_St_all 1 = .ok (.aload_n 0, 1) := by decide +kernel
theorem d_St_all_2 : decode c_St_all 2 = .ok (.getfield 18, 3) := by decide +kernel
theorem d_St_all_5 : decode c_St_all 5 = .ok (.ishl, 1) := by decide +kernel
theorem d_St_all_6 : decode c_St_all 6 = .ok (.iconst 1, 1) := by decide +kernel
theorem d_St_all_7 : decode c_St_all 7 = .ok (.isub, 1) := by decide +kernel
theorem d_St_all_8 : decode c_St_all 8 = .ok (.ireturn, 1) := by decide +kernel
theorem d_St_partWithAll_0 : decode c_St_partWithAll 0 = .ok (.iconst 0, 1) := by decide +kernel
theorem d_St_partWithAll_1 : decode c_St_partWithAll 1 = .ok (.istore_n 2, 1) := by decide +kernel
theorem d_St_partWithAll_2 : decode c_St_partWithAll 2 = .ok (.iload_n 2, 1) := by decide +kernel
theorem d_St_partWithAll_3 : decode c_St_partWithAll 3 = .ok (.iconst 3, 1) := by decide +kernel
theorem d_St_partWithAll_4 : decode c_St_partWithAll 4 = .ok (.if_icmp .ge 24, 3) := by decide +kernel
theorem d_St_partWithAll_7 : decode c_St_partWithAll 7 = .ok (.iload_n 1, 1) := by decide +kernel
theorem d_St_partWithAll_8 : decode c_St_partWithAll 8 = .ok (.aload_n 0, 1) := by decide +kernel
theorem d_St_partWithAll_9 : decode c_St_partWithAll 9 = .ok (.getfield 15, 3) := by decide +kernel
theorem d_St_partWithAll_12 : decode c_St_partWithAll 12 = .ok (.iload_n 2, 1) := by decide +kernel
theorem d_St_partWithAll_13 : decode c_St_partWithAll 13 = .ok (.iaload, 1) := by decide +kernel
theorem d_St_partWithAll_14 : decode c_St_partWithAll 14 = .ok (.iconst (-1), 1) := by decide +kernel
theorem d_St_partWithAll_15 : decode c_St_partWithAll 15 = .ok (.ixor, 1) := by decide +kernel
theorem d_St_partWithAll_16 : decode c_St_partWithAll 16 = .ok (.iand, 1) := by decide +kernel
theorem d_St_partWithAll_17 : decode c_St_partWithAll 17 = .ok (.ifCond .ne 5, 3) := by decide +kernel
theorem d_St_partWithAll_20 : decode c_St_partWithAll 20 = .ok (.iload_n 2, 1) := by decide +kernel
theorem d_St_partWithAll_21 : decode c_St_partWithAll 21 = .ok (.ireturn, 1) := by decide +kernel
theorem d_St_partWithAll_22 : decode c_St_partWithAll 22 = .ok (.iinc 2 1, 3) := by decide +kernel
theorem d_St_partWithAll_25 : decode c_St_partWithAll 25 = .ok (.goto (-23), 3) := by decide +kernel
theorem d_St_partWithAll_28 : decode c_St_partWithAll 28 = .ok (.iconst (-1), 1) := by decide +kernel
theorem d_St_partWithAll_29 : decode c_St_partWithAll 29 = .ok (.ireturn, 1) := by decide +kernel
theorem d_Ti_init_0 : decode c_Ti_init 0 = .ok (.aload_n 0, 1) := by decide +kernel
theorem d_Ti_init_1 : decode c_Ti_init 1 = .ok (.invokespecial 3, 3) := by decide +kernel
theorem d_Ti_init_4 : decode c_Ti_init 4 = .ok (.aload_n 0, 1) := by decide +kernel
theorem d_Ti_init_5 : decode c_Ti_init 5 = .ok (.bipush 8, 2) := by decide +kernel
theorem d_Ti_init_7 : decode c_Ti_init 7 = .ok (.newarray .int, 2) := by decide +kernel
theorem d_Ti_init_9 : decode c_Ti_init 9 = .ok (.putfield 9, 3) := by decide +kernel
theorem d_Ti_init_12 : decode c_Ti_init 12 = .ok (.aload_n 0, 1) := by decide +kernel
theorem d_Ti_init_13 : decode c_Ti_init 13 = .ok (.sipush 513, 3) := by decide +kernel
theorem d_Ti_init_16 : decode c_Ti_init 16 = .ok (.newarray .int, 2) := by decide +kernel
theorem d_Ti_init_18 : decode c_Ti_init 18 = .ok (.putfield 15, 3) := by decide +kernel
theorem d_Ti_init_21 : decode c_Ti_init 21 = .ok (.return_, 1) := by decide +kernel
theorem d_Ti_begin_0 : decode c_Ti_begin 0 = .ok (.aload_n 0, 1) := by decide +kernel
theorem d_Ti_begin_1 : decode c_Ti_begin 1 = .ok (.iload_n 1, 1) := by decide +kernel
theorem d_Ti_begin_2 : decode c_Ti_begin 2 = .ok (.putfield 18, 3) := by decide +kernel
theorem d_Ti_begin_5 : decode c_Ti_begin 5 = .ok (.aload_n 0, 1) := by decide +kernel
theorem d_Ti_begin_6 : decode c_Ti_begin 6 = .ok (.iconst 0, 1) := by decide +kernel
theorem d_Ti_begin_7 : decode c_Ti_begin 7 = .ok (.putfield 22, 3) := by decide +kernel
theorem d_Ti_begin_10 : decode c_Ti_begin 10 = .ok (.iconst 0, 1) := by decide +kernel
theorem d_Ti_begin_11 : decode c_Ti_begin 11 = .ok (.istore 4, 2) := by decide +kernel
theorem d_Ti_begin_13 : decode c_Ti_begin 13 = .ok (.iload 4, 2) := by decide +kernel
theorem d_Ti_begin_15 : decode c_Ti_begin 15 = .ok (.bipush 8, 2) := by decide +kernel
theorem d_Ti_begin_17 : decode c_Ti_begin 17 = .ok (.if_icmp .ge 57, 3) := by decide +kernel
theorem d_Ti_begin_20 : decode c_Ti_begin 20 = .ok (.aload_n 0, 1) := by decide +kernel
theorem d_Ti_begin_21 : decode c_Ti_begin 21 = .ok (.getfield 9, 3) := by decide +kernel
theorem d_Ti_begin_24 : decode c_Ti_begin 24 = .ok (.iload 4, 2) := by decide +kernel
theorem d_Ti_begin_26 : decode c_Ti_begin 26 = .ok (.aload_n 2, 1) := by decide +kernel
theorem d_Ti_begin_27 : decode c_Ti_begin 27 = .ok (.iload 4, 2) := by decide +kernel
theorem d_Ti_begin_29 : decode c_Ti_begin 29 = .ok (.iaload, 1) := by decide +kernel
theorem d_Ti_begin_30 : decode c_Ti_begin 30 = .ok (.iload_n 3, 1) := by decide +kernel
theorem d_Ti_begin_31 : decode c_Ti_begin 31 = .ok (.iadd, 1) := by decide +kernel
theorem d_Ti_begin_32 : decode c_Ti_begin 32 = .ok (.iastore, 1) := by decide +kernel
theorem d_Ti_begin_33 : decode c_Ti_begin 33 = .ok (.iload 4, 2) := by decide +kernel
theorem d_Ti_begin_35 : decode c_Ti_begin 35 = .ok (.aload_n 0, 1) := by decide +kernel
theorem d_Ti_begin_36 : decode c_Ti_begin 36 = .ok (.getfield 18, 3) := by decide +kernel
theorem d_Ti_begin_39 : decode c_Ti_begin 39 = .ok (.invokestatic 25, 3) := by decide +kernel
theorem d_Ti_begin_42 : decode c_Ti_begin 42 = .ok (.ifCond .eq 26, 3) := by decide +kernel
theorem d_Ti_begin_45 : decode c_Ti_begin 45 = .ok (.aload_n 0, 1) := by decide +kernel
theorem d_Ti_begin_46 : decode c_Ti_begin 46 = .ok (.getfield 9, 3) := by decide +kernel
theorem d_Ti_begin_49 : decode c_Ti_begin 49 = .ok (.iload 4, 2) := by decide +kernel
theorem d_Ti_begin_51 : decode c_Ti_begin 51 = .ok (.iaload, 1) := by decide +kernel
theorem d_Ti_begin_52 : decode c_Ti_begin 52 = .ok (.ifCond .eq 16, 3) := by decide +kernel
theorem d_Ti_begin_55 : decode c_Ti_begin 55 = .ok (.aload_n 0, 1) := by decide +kernel
theorem d_Ti_begin_56 : decode c_Ti_begin 56 = .ok (.dup, 1) := by decide +kernel
theorem d_Ti_begin_57 : decode c_Ti_begin 57 = .ok (.getfield 22, 3) := by decide +kernel
theorem d_Ti_begin_60 : decode c_Ti_begin 60 = .ok (.iconst 1, 1) := by decide +kernel
theorem d_Ti_begin_61 : decode c_Ti_begin 61 = .ok (.iload 4, 2) := by decide +kernel
theorem d_Ti_begin_63 : decode c_Ti_begin 63 = .ok (.ishl, 1) := by decide +kernel
theorem d_Ti_begin_64 : decode c_Ti_begin 64 = .ok (.ior, 1) := by decide +kernel
theorem d_Ti_begin_65 : decode c_Ti_begin 65 = .ok (.putfield 22, 3) := by decide +kernel
theorem d_Ti_begin_68 : decode c_Ti_begin 68 = .ok (.iinc 4 1, 3) := by decide +kernel
theorem d_Ti_begin_71 : decode c_Ti_begin 71 = .ok (.goto (-58), 3) := by decide +kernel
theorem d_Ti_begin_74 : decode c_Ti_begin 74 = .ok (.aload_n 0, 1) := by decide +kernel
theorem d_Ti_begin_75 : decode c_Ti_begin 75 = .ok (.iconst 0, 1) := by decide +kernel
theorem d_Ti_begin_76 : decode c_Ti_begin 76 = .ok (.putfield 29, 3) := by decide +kernel
theorem d_Ti_begin_79 : decode c_Ti_begin 79 = .ok (.aload_n 0, 1) := by decide +kernel
theorem d_Ti_begin_80 : decode c_Ti_begin 80 = .ok (.iconst 0, 1) := by decide +kernel
theorem d_Ti_begin_81 : decode c_Ti_begin 81 = .ok (.putfield 32, 3) := by decide +kernel
theorem d_Ti_begin_84 : decode c_Ti_begin 84 = .ok (.aload_n 0, 1) := by decide +kernel
theorem d_Ti_begin_85 : decode c_Ti_begin 85 = .ok (.iconst 0, 1) := by decide +kernel
theorem d_Ti_begin_86 : decode c_Ti_begin 86 = .ok (.putfield 35, 3) := by decide +kernel
theorem d_Ti_begin_89 : decode c_Ti_begin 89 = .ok (.aload_n 0, 1) := by decide +kernel
theorem d_Ti_begin_90 : decode c_Ti_begin 90 = .ok (.iconst 0, 1) := by decide +kernel
theorem d_Ti_begin_91 : decode c_Ti_begin 91 = .ok (.putfield 38, 3) := by decide +kernel
theorem d_Ti_begin_94 : decode c_Ti_begin 94 = .ok (.return_, 1) := by decide +kernel
theorem d_Ti_sense_0 : decode c_Ti_sense 0 = .ok (.aload_n 0, 1) := by decide +kernel
theorem d_Ti_sense_1 : decode c_Ti_sense 1 = .ok (.iload_n 2, 1) := by decide +kernel
theorem d_Ti_sense_2 : decode c_Ti_sense 2 = .ok (.putfield 41, 3) := by decide +kernel
theorem d_Ti_sense_5 : decode c_Ti_sense 5 = .ok (.aload_n 0, 1) := by decide +kernel
theorem d_Ti_sense_6 : decode c_Ti_sense 6 = .ok (.iload_n 2, 1) := by decide +kernel
theorem d_Ti_sense_7 : decode c_Ti_sense 7 = .ok (.iload_n 1, 1) := by decide +kernel
theorem d_Ti_sense_8 : decode c_Ti_sense 8 = .ok (.iconst (-1), 1) := by decide +kernel
theorem d_Ti_sense_9 : decode c_Ti_sense 9 = .ok (.ixor, 1) := by decide +kernel
theorem d_Ti_sense_10 : decode c_Ti_sense 10 = .ok (.iand, 1) := by decide +kernel
theorem d_Ti_sense_11 : decode c_Ti_sense 11 = .ok (.putfield 44, 3) := by decide +kernel
theorem d_Ti_sense_14 : decode c_Ti_sense 14 = .ok (.aload_n 0, 1) := by decide +kernel
theorem d_Ti_sense_15 : decode c_Ti_sense 15 = .ok (.iload_n 1, 1) := by decide +kernel
theorem d_Ti_sense_16 : decode c_Ti_sense 16 = .ok (.iload_n 2, 1) := by decide +kernel
theorem d_Ti_sense_17 : decode c_Ti_sense 17 = .ok (.iconst (-1), 1) := by decide +kernel
theorem d_Ti_sense_18 : decode c_Ti_sense 18 = .ok (.ixor, 1) := by decide +kernel
theorem d_Ti_sense_19 : decode c_Ti_sense 19 = .ok (.iand, 1) := by decide +kernel
theorem d_Ti_sense_20 : decode c_Ti_sense 20 = .ok (.putfield 47, 3) := by decide +kernel
theorem d_Ti_sense_23 : decode c_Ti_sense 23 = .ok (.return_, 1) := by decide +kernel
theorem d_Ti_timeOf_0 : decode c_Ti_timeOf 0 = .ok (.iload_n 1, 1) := by decide +kernel
theorem d_Ti_timeOf_1 : decode c_Ti_timeOf 1 = .ok (.aload_n 0, 1) := by decide +kernel
theorem d_Ti_timeOf_2 : decode c_Ti_timeOf 2 = .ok (.getfield 22, 3) := by decide +kernel
theorem d_Ti_timeOf_5 : decode c_Ti_timeOf 5 = .ok (.invokestatic 25, 3) := by decide +kernel
theorem d_Ti_timeOf_8 : decode c_Ti_timeOf 8 = .ok (.ifCond .eq 12, 3) := by decide +kernel
theorem d_Ti_timeOf_11 : decode c_Ti_timeOf 11 = .ok (.aload_n 0, 1) := by decide +kernel
theorem d_Ti_timeOf_12 : decode c_Ti_timeOf 12 = .ok (.getfield 9, 3) := by decide +kernel
theorem d_Ti_timeOf_15 : decode c_Ti_timeOf 15 = .ok (.iload_n 1, 1) := by decide +kernel
theorem d_Ti_timeOf_16 : decode c_Ti_timeOf 16 = .ok (.iaload, 1) := by decide +kernel
theorem d_Ti_timeOf_17 : decode c_Ti_timeOf 17 = .ok (.goto 4, 3) := by decide +kernel
theorem d_Ti_timeOf_20 : decode c_Ti_timeOf 20 = .ok (.iconst 0, 1) := by decide +kernel
theorem d_Ti_timeOf_21 : decode c_Ti_timeOf 21 = .ok (.ireturn, 1) := by decide +kernel
theorem d_Ti_endEdges_0 : decode c_Ti_endEdges 0 = .ok (.aload_n 0, 1) := by decide +kernel
theorem d_Ti_endEdges_1 : decode c_Ti_endEdges 1 = .ok (.iconst 0, 1) := by decide +kernel
theorem d_Ti_endEdges_2 : decode c_Ti_endEdges 2 = .ok (.putfield 44, 3) := by decide +kernel
theorem d_Ti_endEdges_5 : decode c_Ti_endEdges 5 = .ok (.aload_n 0, 1) := by decide +kernel
theorem d_Ti_endEdges_6 : decode c_Ti_endEdges 6 = .ok (.iconst 0, 1) := by decide +kernel
theorem d_Ti_endEdges_7 : decode c_Ti_endEdges 7 = .ok (.putfield 47, 3) := by decide +kernel
theorem d_Ti_endEdges_10 : decode c_Ti_endEdges 10 = .ok (.return_, 1) := by decide +kernel
theorem d_Ti_moveTo_0 : decode c_Ti_moveTo 0 = .ok (.iload_n 2, 1) := by decide +kernel
theorem d_Ti_moveTo_1 : decode c_Ti_moveTo 1 = .ok (.ifCond .ne 13, 3) := by decide +kernel
theorem d_Ti_moveTo_4 : decode c_Ti_moveTo 4 = .ok (.iload_n 1, 1) := by decide +kernel
theorem d_Ti_moveTo_5 : decode c_Ti_moveTo 5 = .ok (.aload_n 0, 1) := by decide +kernel
theorem d_Ti_moveTo_6 : decode c_Ti_moveTo 6 = .ok (.getfield 18, 3) := by decide +kernel
theorem d_Ti_moveTo_9 : decode c_Ti_moveTo 9 = .ok (.if_icmp .ne 5, 3) := by decide +kernel
theorem d_Ti_moveTo_12 : decode c_Ti_moveTo 12 = .ok (.iconst 0, 1) := by decide +kernel
theorem d_Ti_moveTo_13 : decode c_Ti_moveTo 13 = .ok (.ireturn, 1) := by decide +kernel
theorem d_Ti_moveTo_14 : decode c_Ti_moveTo 14 = .ok (.aload_n 0, 1) := by decide +kernel
theorem d_Ti_moveTo_15 : decode c_Ti_moveTo 15 = .ok (.iload_n 1, 1) := by decide +kernel
theorem d_Ti_moveTo_16 : decode c_Ti_moveTo 16 = .ok (.putfield 18, 3) := by decide +kernel
theorem d_Ti_moveTo_19 : decode c_Ti_moveTo 19 = .ok (.aload_n 0, 1) := by decide +kernel
theorem d_Ti_moveTo_20 : decode c_Ti_moveTo 20 = .ok (.dup, 1) := by decide +kernel
theorem d_Ti_moveTo_21 : decode c_Ti_moveTo 21 = .ok (.getfield 22, 3) := by decide +kernel
theorem d_Ti_moveTo_24 : decode c_Ti_moveTo 24 = .ok (.iload_n 1, 1) := by decide +kernel
theorem d_Ti_moveTo_25 : decode c_Ti_moveTo 25 = .ok (.iand, 1) := by decide +kernel
theorem d_Ti_moveTo_26 : decode c_Ti_moveTo 26 = .ok (.putfield 22, 3) := by decide +kernel
theorem d_Ti_moveTo_29 : decode c_Ti_moveTo 29 = .ok (.aload_n 0, 1) := by decide +kernel
theorem d_Ti_moveTo_30 : decode c_Ti_moveTo 30 = .ok (.dup, 1) := by decide +kernel
theorem d_Ti_moveTo_31 : decode c_Ti_moveTo 31 = .ok (.getfield 29, 3) := by decide +kernel
theorem d_Ti_moveTo_34 : decode c_Ti_moveTo 34 = .ok (.iload_n 2, 1) := by decide +kernel
theorem d_Ti_moveTo_35 : decode c_Ti_moveTo 35 = .ok (.ior, 1) := by decide +kernel
theorem d_Ti_moveTo_36 : decode c_Ti_moveTo 36 = .ok (.putfield 29, 3) := by decide +kernel
theorem d_Ti_moveTo_39 : decode c_Ti_moveTo 39 = .ok (.aload_n 0, 1) := by decide +kernel
theorem d_Ti_moveTo_40 : decode c_Ti_moveTo 40 = .ok (.dup, 1) := by decide +kernel
theorem d_Ti_moveTo_41 : decode c_Ti_moveTo 41 = .ok (.getfield 32, 3) := by decide +kernel
theorem d_Ti_moveTo_44 : decode c_Ti_moveTo 44 = .ok (.iconst 1, 1) := by decide +kernel
theorem d_Ti_moveTo_45 : decode c_Ti_moveTo 45 = .ok (.iadd, 1) := by decide +kernel
theorem d_Ti_moveTo_46 : decode c_Ti_moveTo 46 = .ok (.putfield 32, 3) := by decide +kernel
theorem d_Ti_moveTo_49 : decode c_Ti_moveTo 49 = .ok (.iconst 1, 1) := by decide +kernel
theorem d_Ti_moveTo_50 : decode c_Ti_moveTo 50 = .ok (.ireturn, 1) := by decide +kernel
theorem d_Ti_findsCycle_0 : decode c_Ti_findsCycle 0 = .ok (.aload_n 0, 1) := by decide +kernel
theorem d_Ti_findsCycle_1 : decode c_Ti_findsCycle 1 = .ok (.getfield 18, 3) := by decide +kernel
theorem d_Ti_findsCycle_4 : decode c_Ti_findsCycle 4 = .ok (.aload_n 0, 1) := by decide +kernel
theorem d_Ti_findsCycle_5 : decode c_Ti_findsCycle 5 = .ok (.getfield 22, 3) := by decide +kernel
theorem d_Ti_findsCycle_8 : decode c_Ti_findsCycle 8 = .ok (.bipush 8, 2) := by decide +kernel
theorem d_Ti_findsCycle_10 : decode c_Ti_findsCycle 10 = .ok (.ishl, 1) := by decide +kernel
theorem d_Ti_findsCycle_11 : decode c_Ti_findsCycle 11 = .ok (.ior, 1) := by decide +kernel
theorem d_Ti_findsCycle_12 : decode c_Ti_findsCycle 12 = .ok (.istore_n 1, 1) := by decide +kernel
theorem d_Ti_findsCycle_13 : decode c_Ti_findsCycle 13 = .ok (.iconst 1, 1) := by decide +kernel
theorem d_Ti_findsCycle_14 : decode c_Ti_findsCycle 14 = .ok (.istore_n 2, 1) := by decide +kernel
theorem d_Ti_findsCycle_15 : decode c_Ti_findsCycle 15 = .ok (.iload_n 2, 1) := by decide +kernel
theorem d_Ti_findsCycle_16 : decode c_Ti_findsCycle 16 = .ok (.aload_n 0, 1) := by decide +kernel
theorem d_Ti_findsCycle_17 : decode c_Ti_findsCycle 17 = .ok (.getfield 32, 3) := by decide +kernel
theorem d_Ti_findsCycle_20 : decode c_Ti_findsCycle 20 = .ok (.if_icmp .ge 36, 3) := by decide +kernel
theorem d_Ti_findsCycle_23 : decode c_Ti_findsCycle 23 = .ok (.aload_n 0, 1) := by decide +kernel
theorem d_Ti_findsCycle_24 : decode c_Ti_findsCycle 24 = .ok (.getfield 15, 3) := by decide +kernel
theorem d_Ti_findsCycle_27 : decode c_Ti_findsCycle 27 = .ok (.iload_n 2, 1) := by decide +kernel
theorem d_Ti_findsCycle_28 : decode c_Ti_findsCycle 28 = .ok (.iaload, 1) := by decide +kernel
theorem d_Ti_findsCycle_29 : decode c_Ti_findsCycle 29 = .ok (.iload_n 1, 1) := by decide +kernel
theorem d_Ti_findsCycle_30 : decode c_Ti_findsCycle 30 = .ok (.if_icmp .ne 20, 3) := by decide +kernel
theorem d_Ti_findsCycle_33 : decode c_Ti_findsCycle 33 = .ok (.aload_n 0, 1) := by decide +kernel
theorem d_Ti_findsCycle_34 : decode c_Ti_findsCycle 34 = .ok (.iload_n 2, 1) := by decide +kernel
theorem d_Ti_findsCycle_35 : decode c_Ti_findsCycle 35 = .ok (.putfield 35, 3) := by decide +kernel
theorem d_Ti_findsCycle_38 : decode c_Ti_findsCycle 38 = .ok (.aload_n 0, 1) := by decide +kernel
theorem d_Ti_findsCycle_39 : decode c_Ti_findsCycle 39 = .ok (.aload_n 0, 1) := by decide +kernel
theorem d_Ti_findsCycle_40 : decode c_Ti_findsCycle 40 = .ok (.getfield 32, 3) := by decide +kernel
theorem d_Ti_findsCycle_43 : decode c_Ti_findsCycle 43 = .ok (.iload_n 2, 1) := by decide +kernel
theorem d_Ti_findsCycle_44 : decode c_Ti_findsCycle 44 = .ok (.isub, 1) := by decide +kernel
theorem d_Ti_findsCycle_45 : decode c_Ti_findsCycle 45 = .ok (.putfield 38, 3) := by decide +kernel
theorem d_Ti_findsCycle_48 : decode c_Ti_findsCycle 48 = .ok (.iconst 1, 1) := by decide +kernel
theorem d_Ti_findsCycle_49 : decode c_Ti_findsCycle 49 = .ok (.ireturn, 1) := by decide +kernel
theorem d_Ti_findsCycle_50 : decode c_Ti_findsCycle 50 = .ok (.iinc 2 1, 3) := by decide +kernel
theorem d_Ti_findsCycle_53 : decode c_Ti_findsCycle 53 = .ok (.goto (-38), 3) := by decide +kernel
theorem d_Ti_findsCycle_56 : decode c_Ti_findsCycle 56 = .ok (.aload_n 0, 1) := by decide +kernel
theorem d_Ti_findsCycle_57 : decode c_Ti_findsCycle 57 = .ok (.getfield 15, 3) := by decide +kernel
theorem d_Ti_findsCycle_60 : decode c_Ti_findsCycle 60 = .ok (.aload_n 0, 1) := by decide +kernel
theorem d_Ti_findsCycle_61 : decode c_Ti_findsCycle 61 = .ok (.getfield 32, 3) := by decide +kernel
theorem d_Ti_findsCycle_64 : decode c_Ti_findsCycle 64 = .ok (.iload_n 1, 1) := by decide +kernel
theorem d_Ti_findsCycle_65 : decode c_Ti_findsCycle 65 = .ok (.iastore, 1) := by decide +kernel
theorem d_Ti_findsCycle_66 : decode c_Ti_findsCycle 66 = .ok (.iconst 0, 1) := by decide +kernel
theorem d_Ti_findsCycle_67 : decode c_Ti_findsCycle 67 = .ok (.ireturn, 1) := by decide +kernel
theorem d_Ex_init_0 : decode c_Ex_init 0 = .ok (.aload_n 0, 1) := by decide +kernel
theorem d_Ex_init_1 : decode c_Ex_init 1 = .ok (.invokespecial 3, 3) := by decide +kernel
theorem d_Ex_init_4 : decode c_Ex_init 4 = .ok (.aload_n 0, 1) := by decide +kernel
theorem d_Ex_init_5 : decode c_Ex_init 5 = .ok (.bipush 24, 2) := by decide +kernel
theorem d_Ex_init_7 : decode c_Ex_init 7 = .ok (.newarray .int, 2) := by decide +kernel
theorem d_Ex_init_9 : decode c_Ex_init 9 = .ok (.putfield 9, 3) := by decide +kernel
theorem d_Ex_init_12 : decode c_Ex_init 12 = .ok (.aload_n 0, 1) := by decide +kernel
theorem d_Ex_init_13 : decode c_Ex_init 13 = .ok (.bipush 24, 2) := by decide +kernel
theorem d_Ex_init_15 : decode c_Ex_init 15 = .ok (.newarray .int, 2) := by decide +kernel
theorem d_Ex_init_17 : decode c_Ex_init 17 = .ok (.putfield 15, 3) := by decide +kernel
theorem d_Ex_init_20 : decode c_Ex_init 20 = .ok (.aload_n 0, 1) := by decide +kernel
theorem d_Ex_init_21 : decode c_Ex_init 21 = .ok (.bipush 24, 2) := by decide +kernel
theorem d_Ex_init_23 : decode c_Ex_init 23 = .ok (.newarray .int, 2) := by decide +kernel
theorem d_Ex_init_25 : decode c_Ex_init 25 = .ok (.putfield 18, 3) := by decide +kernel
theorem d_Ex_init_28 : decode c_Ex_init 28 = .ok (.aload_n 0, 1) := by decide +kernel
theorem d_Ex_init_29 : decode c_Ex_init 29 = .ok (.bipush 24, 2) := by decide +kernel
theorem d_Ex_init_31 : decode c_Ex_init 31 = .ok (.newarray .int, 2) := by decide +kernel
theorem d_Ex_init_33 : decode c_Ex_init 33 = .ok (.putfield 21, 3) := by decide +kernel
theorem d_Ex_init_36 : decode c_Ex_init 36 = .ok (.return_, 1) := by decide +kernel
theorem d_Ex_has_0 : decode c_Ex_has 0 = .ok (.iload_n 1, 1) := by decide +kernel
theorem d_Ex_has_1 : decode c_Ex_has 1 = .ok (.ifCond .lt 15, 3) := by decide +kernel
theorem d_Ex_has_4 : decode c_Ex_has 4 = .ok (.iload_n 1, 1) := by decide +kernel
theorem d_Ex_has_5 : decode c_Ex_has 5 = .ok (.aload_n 0, 1) := by decide +kernel
theorem d_Ex_has_6 : decode c_Ex_has 6 = .ok (.getfield 24, 3) := by decide +kernel
theorem d_Ex_has_9 : decode c_Ex_has 9 = .ok (.if_icmp .ge 7, 3) := by decide +kernel
theorem d_Ex_has_12 : decode c_Ex_has 12 = .ok (.iconst 1, 1) := by decide +kernel
theorem d_Ex_has_13 : decode c_Ex_has 13 = .ok (.goto 4, 3) := by decide +kernel
theorem d_Ex_has_16 : decode c_Ex_has 16 = .ok (.iconst 0, 1) := by decide +kernel
theorem d_Ex_has_17 : decode c_Ex_has 17 = .ok (.ireturn, 1) := by decide +kernel
theorem d_Ex_allow_0 : decode c_Ex_allow 0 = .ok (.iload_n 1, 1) := by decide +kernel
theorem d_Ex_allow_1 : decode c_Ex_allow 1 = .ok (.tableswitch 109 0 7 #[47, 47, 47, 52, 59, 81, 87, 87], 47) := by decide +kernel
theorem d_Ex_allow_48 : decode c_Ex_allow 48 = .ok (.iload_n 2, 1) := by decide +kernel
theorem d_Ex_allow_49 : decode c_Ex_allow 49 = .ok (.invokestatic 28, 3) := by decide +kernel
theorem d_Ex_allow_52 : decode c_Ex_allow 52 = .ok (.ireturn, 1) := by decide +kernel
theorem d_Ex_allow_53 : decode c_Ex_allow 53 = .ok (.aload 4, 2) := by decide +kernel
theorem d_Ex_allow_55 : decode c_Ex_allow 55 = .ok (.iload_n 2, 1) := by decide +kernel
theorem d_Ex_allow_56 : decode c_Ex_allow 56 = .ok (.invokevirtual 32, 3) := by decide +kernel
theorem d_Ex_allow_59 : decode c_Ex_allow 59 = .ok (.ireturn, 1) := by decide +kernel
theorem d_Ex_allow_60 : decode c_Ex_allow 60 = .ok (.aload 4, 2) := by decide +kernel
theorem d_Ex_allow_62 : decode c_Ex_allow 62 = .ok (.iload_n 2, 1) := by decide +kernel
theorem d_Ex_allow_63 : decode c_Ex_allow 63 = .ok (.invokevirtual 32, 3) := by decide +kernel
theorem d_Ex_allow_66 : decode c_Ex_allow 66 = .ok (.ifCond .eq 14, 3) := by decide +kernel
theorem d_Ex_allow_69 : decode c_Ex_allow 69 = .ok (.iload_n 3, 1) := by decide +kernel
theorem d_Ex_allow_70 : decode c_Ex_allow 70 = .ok (.invokestatic 37, 3) := by decide +kernel
theorem d_Ex_allow_73 : decode c_Ex_allow 73 = .ok (.ifCond .eq 7, 3) := by decide +kernel
theorem d_Ex_allow_76 : decode c_Ex_allow 76 = .ok (.iconst 1, 1) := by decide +kernel
theorem d_Ex_allow_77 : decode c_Ex_allow 77 = .ok (.goto 4, 3) := by decide +kernel
theorem d_Ex_allow_80 : decode c_Ex_allow 80 = .ok (.iconst 0, 1) := by decide +kernel
theorem d_Ex_allow_81 : decode c_Ex_allow 81 = .ok (.ireturn, 1) := by decide +kernel
theorem d_Ex_allow_82 : decode c_Ex_allow 82 = .ok (.aload_n 0, 1) := by decide +kernel
theorem d_Ex_allow_83 : decode c_Ex_allow 83 = .ok (.iload_n 2, 1) := by decide +kernel
theorem d_Ex_allow_84 : decode c_Ex_allow 84 = .ok (.invokevirtual 40, 3) := by decide +kernel
theorem d_Ex_allow_87 : decode c_Ex_allow 87 = .ok (.ireturn, 1) := by decide +kernel
theorem d_Ex_allow_88 : decode c_Ex_allow 88 = .ok (.aload_n 0, 1) := by decide +kernel
theorem d_Ex_allow_89 : decode c_Ex_allow 89 = .ok (.iload_n 2, 1) := by decide +kernel
theorem d_Ex_allow_90 : decode c_Ex_allow 90 = .ok (.invokevirtual 40, 3) := by decide +kernel
theorem d_Ex_allow_93 : decode c_Ex_allow 93 = .ok (.ifCond .eq 15, 3) := by decide +kernel
theorem d_Ex_allow_96 : decode c_Ex_allow 96 = .ok (.aload_n 0, 1) := by decide +kernel
theorem d_Ex_allow_97 : decode c_Ex_allow 97 = .ok (.iload_n 3, 1) := by decide +kernel
theorem d_Ex_allow_98 : decode c_Ex_allow 98 = .ok (.invokevirtual 40, 3) := by decide +kernel
theorem d_Ex_allow_101 : decode c_Ex_allow 101 = .ok (.ifCond .eq 7, 3) := by decide +kernel
theorem d_Ex_allow_104 : decode c_Ex_allow 104 = .ok (.iconst 1, 1) := by decide +kernel
theorem d_Ex_allow_105 : decode c_Ex_allow 105 = .ok (.goto 4, 3) := by decide +kernel
theorem d_Ex_allow_108 : decode c_Ex_allow 108 = .ok (.iconst 0, 1) := by decide +kernel
theorem d_Ex_allow_109 : decode c_Ex_allow 109 = .ok (.ireturn, 1) := by decide +kernel
theorem d_Ex_allow_110 : decode c_Ex_allow 110 = .ok (.iconst 0, 1) := by decide +kernel
theorem d_Ex_allow_111 : decode c_Ex_allow 111 = .ok (.ireturn, 1) := by decide +kernel
theorem d_Ex_canBePart_0 : decode c_Ex_canBePart 0 = .ok (.aload_n 0, 1) := by decide +kernel
theorem d_Ex_canBePart_1 : decode c_Ex_canBePart 1 = .ok (.iload_n 1, 1) := by decide +kernel
theorem d_Ex_canBePart_2 : decode c_Ex_canBePart 2 = .ok (.invokevirtual 43, 3) := by decide +kernel
theorem d_Ex_canBePart_5 : decode c_Ex_canBePart 5 = .ok (.ifCond .eq 17, 3) := by decide +kernel
theorem d_Ex_canBePart_8 : decode c_Ex_canBePart 8 = .ok (.aload_n 0, 1) := by decide +kernel
theorem d_Ex_canBePart_9 : decode c_Ex_canBePart 9 = .ok (.getfield 21, 3) := by decide +kernel
theorem d_Ex_canBePart_12 : decode c_Ex_canBePart 12 = .ok (.iload_n 1, 1) := by decide +kernel
theorem d_Ex_canBePart_13 : decode c_Ex_canBePart 13 = .ok (.iaload, 1) := by decide +kernel
theorem d_Ex_canBePart_14 : decode c_Ex_canBePart 14 = .ok (.iconst 4, 1) := by decide +kernel
theorem d_Ex_canBePart_15 : decode c_Ex_canBePart 15 = .ok (.if_icmp .ge 7, 3) := by decide +kernel
theorem d_Ex_canBePart_18 : decode c_Ex_canBePart 18 = .ok (.iconst 1, 1) := by decide +kernel
theorem d_Ex_canBePart_19 : decode c_Ex_canBePart 19 = .ok (.goto 4, 3) := by decide +kernel
theorem d_Ex_canBePart_22 : decode c_Ex_canBePart 22 = .ok (.iconst 0, 1) := by decide +kernel
theorem d_Ex_canBePart_23 : decode c_Ex_canBePart 23 = .ok (.ireturn, 1) := by decide +kernel
theorem d_Ex_add_0 : decode c_Ex_add 0 = .ok (.aload_n 0, 1) := by decide +kernel
theorem d_Ex_add_1 : decode c_Ex_add 1 = .ok (.dup, 1) := by decide +kernel
theorem d_Ex_add_2 : decode c_Ex_add 2 = .ok (.getfield 24, 3) := by decide +kernel
theorem d_Ex_add_5 : decode c_Ex_add 5 = .ok (.dup_x1, 1) := by decide +kernel
theorem d_Ex_add_6 : decode c_Ex_add 6 = .ok (.iconst 1, 1) := by decide +kernel
theorem d_Ex_add_7 : decode c_Ex_add 7 = .ok (.iadd, 1) := by decide +kernel
theorem d_Ex_add_8 : decode c_Ex_add 8 = .ok (.putfield 24, 3) := by decide +kernel
theorem d_Ex_add_11 : decode c_Ex_add 11 = .ok (.istore 4, 2) := by decide +kernel
theorem d_Ex_add_13 : decode c_Ex_add 13 = .ok (.aload_n 0, 1) := by decide +kernel
theorem d_Ex_add_14 : decode c_Ex_add 14 = .ok (.getfield 9, 3) := by decide +kernel
theorem d_Ex_add_17 : decode c_Ex_add 17 = .ok (.iload 4, 2) := by decide +kernel
theorem d_Ex_add_19 : decode c_Ex_add 19 = .ok (.iload_n 1, 1) := by decide +kernel
theorem d_Ex_add_20 : decode c_Ex_add 20 = .ok (.iastore, 1) := by decide +kernel
theorem d_Ex_add_21 : decode c_Ex_add 21 = .ok (.aload_n 0, 1) := by decide +kernel
theorem d_Ex_add_22 : decode c_Ex_add 22 = .ok (.getfield 15, 3) := by decide +kernel
theorem d_Ex_add_25 : decode c_Ex_add 25 = .ok (.iload 4, 2) := by decide +kernel
theorem d_Ex_add_27 : decode c_Ex_add 27 = .ok (.iload_n 2, 1) := by decide +kernel
theorem d_Ex_add_28 : decode c_Ex_add 28 = .ok (.iastore, 1) := by decide +kernel
theorem d_Ex_add_29 : decode c_Ex_add 29 = .ok (.aload_n 0, 1) := by decide +kernel
theorem d_Ex_add_30 : decode c_Ex_add 30 = .ok (.getfield 18, 3) := by decide +kernel
theorem d_Ex_add_33 : decode c_Ex_add 33 = .ok (.iload 4, 2) := by decide +kernel
theorem d_Ex_add_35 : decode c_Ex_add 35 = .ok (.iload_n 3, 1) := by decide +kernel
theorem d_Ex_add_36 : decode c_Ex_add 36 = .ok (.iastore, 1) := by decide +kernel
theorem d_Ex_add_37 : decode c_Ex_add 37 = .ok (.aload_n 0, 1) := by decide +kernel
theorem d_Ex_add_38 : decode c_Ex_add 38 = .ok (.getfield 21, 3) := by decide +kernel
theorem d_Ex_add_41 : decode c_Ex_add 41 = .ok (.iload 4, 2) := by decide +kernel
theorem d_Ex_add_43 : decode c_Ex_add 43 = .ok (.aload_n 0, 1) := by decide +kernel
theorem d_Ex_add_44 : decode c_Ex_add 44 = .ok (.iload_n 1, 1) := by decide +kernel
theorem d_Ex_add_45 : decode c_Ex_add 45 = .ok (.iload_n 2, 1) := by decide +kernel
theorem d_Ex_add_46 : decode c_Ex_add 46 = .ok (.iload_n 3, 1) := by decide +kernel
theorem d_Ex_add_47 : decode c_Ex_add 47 = .ok (.invokevirtual 44, 3) := by decide +kernel
theorem d_Ex_add_50 : decode c_Ex_add 50 = .ok (.iastore, 1) := by decide +kernel
theorem d_Ex_add_51 : decode c_Ex_add 51 = .ok (.iload 4, 2) := by decide +kernel
theorem d_Ex_add_53 : decode c_Ex_add 53 = .ok (.ireturn, 1) := by decide +kernel
theorem d_Ex_depthFor_0 : decode c_Ex_depthFor 0 = .ok (.iload_n 1, 1) := by decide +kernel
theorem d_Ex_depthFor_1 : decode c_Ex_depthFor 1 = .ok (.tableswitch 54 5 7 #[27, 36, 36], 27) := by decide +kernel
theorem d_Ex_depthFor_28 : decode c_Ex_depthFor 28 = .ok (.aload_n 0, 1) := by decide +kernel
theorem d_Ex_depthFor_29 : decode c_Ex_depthFor 29 = .ok (.getfield 21, 3) := by decide +kernel
theorem d_Ex_depthFor_32 : decode c_Ex_depthFor 32 = .ok (.iload_n 2, 1) := by decide +kernel
theorem d_Ex_depthFor_33 : decode c_Ex_depthFor 33 = .ok (.iaload, 1) := by decide +kernel
theorem d_Ex_depthFor_34 : decode c_Ex_depthFor 34 = .ok (.iconst 1, 1) := by decide +kernel
theorem d_Ex_depthFor_35 : decode c_Ex_depthFor 35 = .ok (.iadd, 1) := by decide +kernel
theorem d_Ex_depthFor_36 : decode c_Ex_depthFor 36 = .ok (.ireturn, 1) := by decide +kernel
theorem d_Ex_depthFor_37 : decode c_Ex_depthFor 37 = .ok (.aload_n 0, 1) := by decide +kernel
theorem d_Ex_depthFor_38 : decode c_Ex_depthFor 38 = .ok (.getfield 21, 3) := by decide +kernel
theorem d_Ex_depthFor_41 : decode c_Ex_depthFor 41 = .ok (.iload_n 2, 1) := by decide +kernel
theorem d_Ex_depthFor_42 : decode c_Ex_depthFor 42 = .ok (.iaload, 1) := by decide +kernel
theorem d_Ex_depthFor_43 : decode c_Ex_depthFor 43 = .ok (.aload_n 0, 1) := by decide +kernel
theorem d_Ex_depthFor_44 : decode c_Ex_depthFor 44 = .ok (.getfield 21, 3) := by decide +kernel
theorem d_Ex_depthFor_47 : decode c_Ex_depthFor 47 = .ok (.iload_n 3, 1) := by decide +kernel
theorem d_Ex_depthFor_48 : decode c_Ex_depthFor 48 = .ok (.iaload, 1) := by decide +kernel
theorem d_Ex_depthFor_49 : decode c_Ex_depthFor 49 = .ok (.invokestatic 48, 3) := by decide +kernel
theorem d_Ex_depthFor_52 : decode c_Ex_depthFor 52 = .ok (.iconst 1, 1) := by decide +kernel
theorem d_Ex_depthFor_53 : decode c_Ex_depthFor 53 = .ok (.iadd, 1) := by decide +kernel
theorem d_Ex_depthFor_54 : decode c_Ex_depthFor 54 = .ok (.ireturn, 1) := by decide +kernel
theorem d_Ex_depthFor_55 : decode c_Ex_depthFor 55 = .ok (.iconst 0, 1) := by decide +kernel
theorem d_Ex_depthFor_56 : decode c_Ex_depthFor 56 = .ok (.ireturn, 1) := by decide +kernel
theorem d_Ex_trueIn_0 : decode c_Ex_trueIn 0 = .ok (.iconst 0, 1) := by decide +kernel
theorem d_Ex_trueIn_1 : decode c_Ex_trueIn 1 = .ok (.istore_n 2, 1) := by decide +kernel
theorem d_Ex_trueIn_2 : decode c_Ex_trueIn 2 = .ok (.iconst 0, 1) := by decide +kernel
theorem d_Ex_trueIn_3 : decode c_Ex_trueIn 3 = .ok (.istore_n 3, 1) := by decide +kernel
theorem d_Ex_trueIn_4 : decode c_Ex_trueIn 4 = .ok (.iload_n 3, 1) := by decide +kernel
theorem d_Ex_trueIn_5 : decode c_Ex_trueIn 5 = .ok (.aload_n 0, 1) := by decide +kernel
theorem d_Ex_trueIn_6 : decode c_Ex_trueIn 6 = .ok (.getfield 24, 3) := by decide +kernel
theorem d_Ex_trueIn_9 : decode c_Ex_trueIn 9 = .ok (.if_icmp .ge 25, 3) := by decide +kernel
theorem d_Ex_trueIn_12 : decode c_Ex_trueIn 12 = .ok (.aload_n 0, 1) := by decide +kernel
theorem d_Ex_trueIn_13 : decode c_Ex_trueIn 13 = .ok (.iload_n 3, 1) := by decide +kernel
theorem d_Ex_trueIn_14 : decode c_Ex_trueIn 14 = .ok (.iload_n 2, 1) := by decide +kernel
theorem d_Ex_trueIn_15 : decode c_Ex_trueIn 15 = .ok (.aload_n 1, 1) := by decide +kernel
theorem d_Ex_trueIn_16 : decode c_Ex_trueIn 16 = .ok (.invokevirtual 54, 3) := by decide +kernel
theorem d_Ex_trueIn_19 : decode c_Ex_trueIn 19 = .ok (.ifCond .eq 9, 3) := by decide +kernel
theorem d_Ex_trueIn_22 : decode c_Ex_trueIn 22 = .ok (.iload_n 2, 1) := by decide +kernel
theorem d_Ex_trueIn_23 : decode c_Ex_trueIn 23 = .ok (.iconst 1, 1) := by decide +kernel
theorem d_Ex_trueIn_24 : decode c_Ex_trueIn 24 = .ok (.iload_n 3, 1) := by decide +kernel
theorem d_Ex_trueIn_25 : decode c_Ex_trueIn 25 = .ok (.ishl, 1) := by decide +kernel
theorem d_Ex_trueIn_26 : decode c_Ex_trueIn 26 = .ok (.ior, 1) := by decide +kernel
theorem d_Ex_trueIn_27 : decode c_Ex_trueIn 27 = .ok (.istore_n 2, 1) := by decide +kernel
theorem d_Ex_trueIn_28 : decode c_Ex_trueIn 28 = .ok (.iinc 3 1, 3) := by decide +kernel
theorem d_Ex_trueIn_31 : decode c_Ex_trueIn 31 = .ok (.goto (-27), 3) := by decide +kernel
theorem d_Ex_trueIn_34 : decode c_Ex_trueIn 34 = .ok (.iload_n 2, 1) := by decide +kernel
theorem d_Ex_trueIn_35 : decode c_Ex_trueIn 35 = .ok (.ireturn, 1) := by decide +kernel
theorem d_Ex_holds_0 : decode c_Ex_holds 0 = .ok (.aload_n 0, 1) := by decide +kernel
theorem d_Ex_holds_1 : decode c_Ex_holds 1 = .ok (.getfield 15, 3) := by decide +kernel
theorem d_Ex_holds_4 : decode c_Ex_holds 4 = .ok (.iload_n 1, 1) := by decide +kernel
theorem d_Ex_holds_5 : decode c_Ex_holds 5 = .ok (.iaload, 1) := by decide +kernel
theorem d_Ex_holds_6 : decode c_Ex_holds 6 = .ok (.istore 4, 2) := by decide +kernel
theorem d_Ex_holds_8 : decode c_Ex_holds 8 = .ok (.aload_n 0, 1) := by decide +kernel
theorem d_Ex_holds_9 : decode c_Ex_holds 9 = .ok (.getfield 18, 3) := by decide +kernel
theorem d_Ex_holds_12 : decode c_Ex_holds 12 = .ok (.iload_n 1, 1) := by decide +kernel
theorem d_Ex_holds_13 : decode c_Ex_holds 13 = .ok (.iaload, 1) := by decide +kernel
theorem d_Ex_holds_14 : decode c_Ex_holds 14 = .ok (.istore 5, 2) := by decide +kernel
theorem d_Ex_holds_16 : decode c_Ex_holds 16 = .ok (.aload_n 0, 1) := by decide +kernel
theorem d_Ex_holds_17 : decode c_Ex_holds 17 = .ok (.getfield 9, 3) := by decide +kernel
theorem d_Ex_holds_20 : decode c_Ex_holds 20 = .ok (.iload_n 1, 1) := by decide +kernel
theorem d_Ex_holds_21 : decode c_Ex_holds 21 = .ok (.iaload, 1) := by decide +kernel
theorem d_Ex_holds_22 : decode c_Ex_holds 22 = .ok (.tableswitch 150 0 6 #[42, 52, 62, 72, 82, 111, 126], 42) := by decide +kernel
theorem d_Ex_holds_64 : decode c_Ex_holds 64 = .ok (.iload 4, 2) := by decide +kernel
theorem d_Ex_holds_66 : decode c_Ex_holds 66 = .ok (.aload_n 3, 1) := by decide +kernel
theorem d_Ex_holds_67 : decode c_Ex_holds 67 = .ok (.getfield 58, 3) := by decide +kernel
theorem d_Ex_holds_70 : decode c_Ex_holds 70 = .ok (.invokestatic 63, 3) := by decide +kernel
theorem d_Ex_holds_73 : decode c_Ex_holds 73 = .ok (.ireturn, 1) := by decide +kernel
theorem d_Ex_holds_74 : decode c_Ex_holds 74 = .ok (.iload 4, 2) := by decide +kernel
theorem d_Ex_holds_76 : decode c_Ex_holds 76 = .ok (.aload_n 3, 1) := by decide +kernel
theorem d_Ex_holds_77 : decode c_Ex_holds 77 = .ok (.getfield 67, 3) := by decide +kernel
theorem d_Ex_holds_80 : decode c_Ex_holds 80 = .ok (.invokestatic 63, 3) := by decide +kernel
theorem d_Ex_holds_83 : decode c_Ex_holds 83 = .ok (.ireturn, 1) := by decide +kernel
theorem d_Ex_holds_84 : decode c_Ex_holds 84 = .ok (.iload 4, 2) := by decide +kernel
theorem d_Ex_holds_86 : decode c_Ex_holds 86 = .ok (.aload_n 3, 1) := by decide +kernel
theorem d_Ex_holds_87 : decode c_Ex_holds 87 = .ok (.getfield 70, 3) := by decide +kernel
theorem d_Ex_holds_90 : decode c_Ex_holds 90 = .ok (.invokestatic 63, 3) := by decide +kernel
theorem d_Ex_holds_93 : decode c_Ex_holds 93 = .ok (.ireturn, 1) := by decide +kernel
theorem d_Ex_holds_94 : decode c_Ex_holds 94 = .ok (.iload 4, 2) := by decide +kernel
theorem d_Ex_holds_96 : decode c_Ex_holds 96 = .ok (.aload_n 3, 1) := by decide +kernel
theorem d_Ex_holds_97 : decode c_Ex_holds 97 = .ok (.getfield 73, 3) := by decide +kernel
theorem d_Ex_holds_100 : decode c_Ex_holds 100 = .ok (.invokestatic 63, 3) := by decide +kernel
theorem d_Ex_holds_103 : decode c_Ex_holds 103 = .ok (.ireturn, 1) := by decide +kernel
theorem d_Ex_holds_104 : decode c_Ex_holds 104 = .ok (.iload 4, 2) := by decide +kernel
theorem d_Ex_holds_106 : decode c_Ex_holds 106 = .ok (.aload_n 3, 1) := by decide +kernel
theorem d_Ex_holds_107 : decode c_Ex_holds 107 = .ok (.getfield 73, 3) := by decide +kernel
theorem d_Ex_holds_110 : decode c_Ex_holds 110 = .ok (.invokestatic 63, 3) := by decide +kernel
theorem d_Ex_holds_113 : decode c_Ex_holds 113 = .ok (.ifCond .eq 18, 3) := by decide +kernel
theorem d_Ex_holds_116 : decode c_Ex_holds 116 = .ok (.aload_n 3, 1) := by decide +kernel
theorem d_Ex_holds_117 : decode c_Ex_holds 117 = .ok (.iload 4, 2) := by decide +kernel
theorem d_Ex_holds_119 : decode c_Ex_holds 119 = .ok (.invokevirtual 76, 3) := by decide +kernel
theorem d_Ex_holds_122 : decode c_Ex_holds 122 = .ok (.iload 5, 2) := by decide +kernel
theorem d_Ex_holds_124 : decode c_Ex_holds 124 = .ok (.if_icmp .lt 7, 3) := by decide +kernel
theorem d_Ex_holds_127 : decode c_Ex_holds 127 = .ok (.iconst 1, 1) := by decide +kernel
theorem d_Ex_holds_128 : decode c_Ex_holds 128 = .ok (.goto 4, 3) := by decide +kernel
theorem d_Ex_holds_131 : decode c_Ex_holds 131 = .ok (.iconst 0, 1) := by decide +kernel
theorem d_Ex_holds_132 : decode c_Ex_holds 132 = .ok (.ireturn, 1) := by decide +kernel
theorem d_Ex_holds_133 : decode c_Ex_holds 133 = .ok (.iload 4, 2) := by decide +kernel
theorem d_Ex_holds_135 : decode c_Ex_holds 135 = .ok (.iload_n 2, 1) := by decide +kernel
theorem d_Ex_holds_136 : decode c_Ex_holds 136 = .ok (.invokestatic 63, 3) := by decide +kernel
theorem d_Ex_holds_139 : decode c_Ex_holds 139 = .ok (.ifCond .ne 7, 3) := by decide +kernel
theorem d_Ex_holds_142 : decode c_Ex_holds 142 = .ok (.iconst 1, 1) := by decide +kernel
theorem d_Ex_holds_143 : decode c_Ex_holds 143 = .ok (.goto 4, 3) := by decide +kernel
theorem d_Ex_holds_146 : decode c_Ex_holds 146 = .ok (.iconst 0, 1) := by decide +kernel
theorem d_Ex_holds_147 : decode c_Ex_holds 147 = .ok (.ireturn, 1) := by decide +kernel
theorem d_Ex_holds_148 : decode c_Ex_holds 148 = .ok (.iload 4, 2) := by decide +kernel
theorem d_Ex_holds_150 : decode c_Ex_holds 150 = .ok (.iload_n 2, 1) := by decide +kernel
theorem d_Ex_holds_151 : decode c_Ex_holds 151 = .ok (.invokestatic 63, 3) := by decide +kernel
theorem d_Ex_holds_154 : decode c_Ex_holds 154 = .ok (.ifCond .eq 16, 3) := by decide +kernel
theorem d_Ex_holds_157 : decode c_Ex_holds 157 = .ok (.iload 5, 2) := by decide +kernel
theorem d_Ex_holds_159 : decode c_Ex_holds 159 = .ok (.iload_n 2, 1) := by decide +kernel
theorem d_Ex_holds_160 : decode c_Ex_holds 160 = .ok (.invokestatic 63, 3) := by decide +kernel
theorem d_Ex_holds_163 : decode c_Ex_holds 163 = .ok (.ifCond .eq 7, 3) := by decide +kernel
theorem d_Ex_holds_166 : decode c_Ex_holds 166 = .ok (.iconst 1, 1) := by decide +kernel
theorem d_Ex_holds_167 : decode c_Ex_holds 167 = .ok (.goto 4, 3) := by decide +kernel
theorem d_Ex_holds_170 : decode c_Ex_holds 170 = .ok (.iconst 0, 1) := by decide +kernel
theorem d_Ex_holds_171 : decode c_Ex_holds 171 = .ok (.ireturn, 1) := by decide +kernel
theorem d_Ex_holds_172 : decode c_Ex_holds 172 = .ok (.iload 4, 2) := by decide +kernel
theorem d_Ex_holds_174 : decode c_Ex_holds 174 = .ok (.iload_n 2, 1) := by decide +kernel
theorem d_Ex_holds_175 : decode c_Ex_holds 175 = .ok (.invokestatic 63, 3) := by decide +kernel
theorem d_Ex_holds_178 : decode c_Ex_holds 178 = .ok (.ifCond .ne 12, 3) := by decide +kernel
theorem d_Ex_holds_181 : decode c_Ex_holds 181 = .ok (.iload 5, 2) := by decide +kernel
theorem d_Ex_holds_183 : decode c_Ex_holds 183 = .ok (.iload_n 2, 1) := by decide +kernel
theorem d_Ex_holds_184 : decode c_Ex_holds 184 = .ok (.invokestatic 63, 3) := by decide +kernel
theorem d_Ex_holds_187 : decode c_Ex_holds 187 = .ok (.ifCond .eq 7, 3) := by decide +kernel
theorem d_Ex_holds_190 : decode c_Ex_holds 190 = .ok (.iconst 1, 1) := by decide +kernel
theorem d_Ex_holds_191 : decode c_Ex_holds 191 = .ok (.goto 4, 3) := by decide +kernel
theorem d_Ex_holds_194 : decode c_Ex_holds 194 = .ok (.iconst 0, 1) := by decide +kernel
theorem d_Ex_holds_195 : decode c_Ex_holds 195 = .ok (.ireturn, 1) := by decide +kernel
theorem d_Tr_init_0 : decode c_Tr_init 0 = .ok (.aload_n 0, 1) := by decide +kernel
theorem d_Tr_init_1 : decode c_Tr_init 1 = .ok (.invokespecial 3, 3) := by decide +kernel
theorem d_Tr_init_4 : decode c_Tr_init 4 = .ok (.aload_n 0, 1) := by decide +kernel
theorem d_Tr_init_5 : decode c_Tr_init 5 = .ok (.bipush 12, 2) := by decide +kernel
theorem d_Tr_init_7 : decode c_Tr_init 7 = .ok (.newarray .int, 2) := by decide +kernel
theorem d_Tr_init_9 : decode c_Tr_init 9 = .ok (.putfield 9, 3) := by decide +kernel
theorem d_Tr_init_12 : decode c_Tr_init 12 = .ok (.aload_n 0, 1) := by decide +kernel
theorem d_Tr_init_13 : decode c_Tr_init 13 = .ok (.bipush 12, 2) := by decide +kernel
theorem d_Tr_init_15 : decode c_Tr_init 15 = .ok (.newarray .int, 2) := by decide +kernel
theorem d_Tr_init_17 : decode c_Tr_init 17 = .ok (.putfield 15, 3) := by decide +kernel
theorem d_Tr_init_20 : decode c_Tr_init 20 = .ok (.aload_n 0, 1) := by decide +kernel
theorem d_Tr_init_21 : decode c_Tr_init 21 = .ok (.bipush 12, 2) := by decide +kernel
theorem d_Tr_init_23 : decode c_Tr_init 23 = .ok (.newarray .int, 2) := by decide +kernel
theorem d_Tr_init_25 : decode c_Tr_init 25 = .ok (.putfield 18, 3) := by decide +kernel
theorem d_Tr_init_28 : decode c_Tr_init 28 = .ok (.aload_n 0, 1) := by decide +kernel
theorem d_Tr_init_29 : decode c_Tr_init 29 = .ok (.iconst 3, 1) := by decide +kernel
theorem d_Tr_init_30 : decode c_Tr_init 30 = .ok (.newarray .int, 2) := by decide +kernel
theorem d_Tr_init_32 : decode c_Tr_init 32 = .ok (.putfield 21, 3) := by decide +kernel
theorem d_Tr_init_35 : decode c_Tr_init 35 = .ok (.return_, 1) := by decide +kernel
theorem d_Tr_add_0 : decode c_Tr_add 0 = .ok (.aload_n 0, 1) := by decide +kernel
theorem d_Tr_add_1 : decode c_Tr_add 1 = .ok (.dup, 1) := by decide +kernel
theorem d_Tr_add_2 : decode c_Tr_add 2 = .ok (.getfield 24, 3) := by decide +kernel
theorem d_Tr_add_5 : decode c_Tr_add 5 = .ok (.dup_x1, 1) := by decide +kernel
theorem d_Tr_add_6 : decode c_Tr_add 6 = .ok (.iconst 1, 1) := by decide +kernel
theorem d_Tr_add_7 : decode c_Tr_add 7 = .ok (.iadd, 1) := by decide +kernel
theorem d_Tr_add_8 : decode c_Tr_add 8 = .ok (.putfield 24, 3) := by decide +kernel
theorem d_Tr_add_11 : decode c_Tr_add 11 = .ok (.istore 5, 2) := by decide +kernel
theorem d_Tr_add_13 : decode c_Tr_add 13 = .ok (.aload_n 0, 1) := by decide +kernel
theorem d_Tr_add_14 : decode c_Tr_add 14 = .ok (.getfield 9, 3) := by decide +kernel
theorem d_Tr_add_17 : decode c_Tr_add 17 = .ok (.iload 5, 2) := by decide +kernel
theorem d_Tr_add_19 : decode c_Tr_add 19 = .ok (.iload_n 2, 1) := by decide +kernel
theorem d_Tr_add_20 : decode c_Tr_add 20 = .ok (.iastore, 1) := by decide +kernel
theorem d_Tr_add_21 : decode c_Tr_add 21 = .ok (.aload_n 0, 1) := by decide +kernel
theorem d_Tr_add_22 : decode c_Tr_add 22 = .ok (.getfield 15, 3) := by decide +kernel
theorem d_Tr_add_25 : decode c_Tr_add 25 = .ok (.iload 5, 2) := by decide +kernel
theorem d_Tr_add_27 : decode c_Tr_add 27 = .ok (.iload_n 3, 1) := by decide +kernel
theorem d_Tr_add_28 : decode c_Tr_add 28 = .ok (.iastore, 1) := by decide +kernel
theorem d_Tr_add_29 : decode c_Tr_add 29 = .ok (.aload_n 0, 1) := by decide +kernel
theorem d_Tr_add_30 : decode c_Tr_add 30 = .ok (.getfield 18, 3) := by decide +kernel
theorem d_Tr_add_33 : decode c_Tr_add 33 = .ok (.iload 5, 2) := by decide +kernel
theorem d_Tr_add_35 : decode c_Tr_add 35 = .ok (.iload 4, 2) := by decide +kernel
theorem d_Tr_add_37 : decode c_Tr_add 37 = .ok (.iastore, 1) := by decide +kernel
theorem d_Tr_add_38 : decode c_Tr_add 38 = .ok (.aload_n 0, 1) := by decide +kernel
theorem d_Tr_add_39 : decode c_Tr_add 39 = .ok (.getfield 21, 3) := by decide +kernel
theorem d_Tr_add_42 : decode c_Tr_add 42 = .ok (.iload_n 1, 1) := by decide +kernel
theorem d_Tr_add_43 : decode c_Tr_add 43 = .ok (.dup2, 1) := by decide +kernel
theorem d_Tr_add_44 : decode c_Tr_add 44 = .ok (.iaload, 1) := by decide +kernel
theorem d_Tr_add_45 : decode c_Tr_add 45 = .ok (.iconst 1, 1) := by decide +kernel
theorem d_Tr_add_46 : decode c_Tr_add 46 = .ok (.iload 5, 2) := by decide +kernel
theorem d_Tr_add_48 : decode c_Tr_add 48 = .ok (.ishl, 1) := by decide +kernel
theorem d_Tr_add_49 : decode c_Tr_add 49 = .ok (.ior, 1) := by decide +kernel
theorem d_Tr_add_50 : decode c_Tr_add 50 = .ok (.iastore, 1) := by decide +kernel
theorem d_Tr_add_51 : decode c_Tr_add 51 = .ok (.iload 5, 2) := by decide +kernel
theorem d_Tr_add_53 : decode c_Tr_add 53 = .ok (.ireturn, 1) := by decide +kernel
theorem d_Tr_enabledIn_0 : decode c_Tr_enabledIn 0 = .ok (.iconst 0, 1) := by decide +kernel
theorem d_Tr_enabledIn_1 : decode c_Tr_enabledIn 1 = .ok (.istore_n 2, 1) := by decide +kernel
theorem d_Tr_enabledIn_2 : decode c_Tr_enabledIn 2 = .ok (.iconst 0, 1) := by decide +kernel
theorem d_Tr_enabledIn_3 : decode c_Tr_enabledIn 3 = .ok (.istore_n 3, 1) := by decide +kernel
theorem d_Tr_enabledIn_4 : decode c_Tr_enabledIn 4 = .ok (.iload_n 3, 1) := by decide +kernel
theorem d_Tr_enabledIn_5 : decode c_Tr_enabledIn 5 = .ok (.aload_n 0, 1) := by decide +kernel
theorem d_Tr_enabledIn_6 : decode c_Tr_enabledIn 6 = .ok (.getfield 24, 3) := by decide +kernel
theorem d_Tr_enabledIn_9 : decode c_Tr_enabledIn 9 = .ok (.if_icmp .ge 28, 3) := by decide +kernel
theorem d_Tr_enabledIn_12 : decode c_Tr_enabledIn 12 = .ok (.aload_n 0, 1) := by decide +kernel
theorem d_Tr_enabledIn_13 : decode c_Tr_enabledIn 13 = .ok (.getfield 9, 3) := by decide +kernel
theorem d_Tr_enabledIn_16 : decode c_Tr_enabledIn 16 = .ok (.iload_n 3, 1) := by decide +kernel
theorem d_Tr_enabledIn_17 : decode c_Tr_enabledIn 17 = .ok (.iaload, 1) := by decide +kernel
theorem d_Tr_enabledIn_18 : decode c_Tr_enabledIn 18 = .ok (.iload_n 1, 1) := by decide +kernel
theorem d_Tr_enabledIn_19 : decode c_Tr_enabledIn 19 = .ok (.iconst (-1), 1) := by decide +kernel
theorem d_Tr_enabledIn_20 : decode c_Tr_enabledIn 20 = .ok (.ixor, 1) := by decide +kernel
theorem d_Tr_enabledIn_21 : decode c_Tr_enabledIn 21 = .ok (.iand, 1) := by decide +kernel
theorem d_Tr_enabledIn_22 : decode c_Tr_enabledIn 22 = .ok (.ifCond .ne 9, 3) := by decide +kernel
theorem d_Tr_enabledIn_25 : decode c_Tr_enabledIn 25 = .ok (.iload_n 2, 1) := by decide +kernel
theorem d_Tr_enabledIn_26 : decode c_Tr_enabledIn 26 = .ok (.iconst 1, 1) := by decide +kernel
theorem d_Tr_enabledIn_27 : decode c_Tr_enabledIn 27 = .ok (.iload_n 3, 1) := by decide +kernel
theorem d_Tr_enabledIn_28 : decode c_Tr_enabledIn 28 = .ok (.ishl, 1) := by decide +kernel
theorem d_Tr_enabledIn_29 : decode c_Tr_enabledIn 29 = .ok (.ior, 1) := by decide +kernel
theorem d_Tr_enabledIn_30 : decode c_Tr_enabledIn 30 = .ok (.istore_n 2, 1) := by decide +kernel
theorem d_Tr_enabledIn_31 : decode c_Tr_enabledIn 31 = .ok (.iinc 3 1, 3) := by decide +kernel
theorem d_Tr_enabledIn_34 : decode c_Tr_enabledIn 34 = .ok (.goto (-30), 3) := by decide +kernel
theorem d_Tr_enabledIn_37 : decode c_Tr_enabledIn 37 = .ok (.iload_n 2, 1) := by decide +kernel
theorem d_Tr_enabledIn_38 : decode c_Tr_enabledIn 38 = .ok (.ireturn, 1) := by decide +kernel
theorem d_Tr_dueIn_0 : decode c_Tr_dueIn 0 = .ok (.aload_n 0, 1) := by decide +kernel
theorem d_Tr_dueIn_1 : decode c_Tr_dueIn 1 = .ok (.iload_n 1, 1) := by decide +kernel
theorem d_Tr_dueIn_2 : decode c_Tr_dueIn 2 = .ok (.invokevirtual 28, 3) := by decide +kernel
theorem d_Tr_dueIn_5 : decode c_Tr_dueIn 5 = .ok (.istore_n 3, 1) := by decide +kernel
theorem d_Tr_dueIn_6 : decode c_Tr_dueIn 6 = .ok (.iconst 0, 1) := by decide +kernel
theorem d_Tr_dueIn_7 : decode c_Tr_dueIn 7 = .ok (.istore 4, 2) := by decide +kernel
theorem d_Tr_dueIn_9 : decode c_Tr_dueIn 9 = .ok (.iload 4, 2) := by decide +kernel
theorem d_Tr_dueIn_11 : decode c_Tr_dueIn 11 = .ok (.aload_n 0, 1) := by decide +kernel
theorem d_Tr_dueIn_12 : decode c_Tr_dueIn 12 = .ok (.getfield 24, 3) := by decide +kernel
theorem d_Tr_dueIn_15 : decode c_Tr_dueIn 15 = .ok (.if_icmp .ge 32, 3) := by decide +kernel
theorem d_Tr_dueIn_18 : decode c_Tr_dueIn 18 = .ok (.aload_n 0, 1) := by decide +kernel
theorem d_Tr_dueIn_19 : decode c_Tr_dueIn 19 = .ok (.getfield 18, 3) := by decide +kernel
theorem d_Tr_dueIn_22 : decode c_Tr_dueIn 22 = .ok (.iload 4, 2) := by decide +kernel
theorem d_Tr_dueIn_24 : decode c_Tr_dueIn 24 = .ok (.iaload, 1) := by decide +kernel
theorem d_Tr_dueIn_25 : decode c_Tr_dueIn 25 = .ok (.iload_n 2, 1) := by decide +kernel
theorem d_Tr_dueIn_26 : decode c_Tr_dueIn 26 = .ok (.invokestatic 32, 3) := by decide +kernel
theorem d_Tr_dueIn_29 : decode c_Tr_dueIn 29 = .ok (.ifCond .ne 12, 3) := by decide +kernel
theorem d_Tr_dueIn_32 : decode c_Tr_dueIn 32 = .ok (.iload_n 3, 1) := by decide +kernel
theorem d_Tr_dueIn_33 : decode c_Tr_dueIn 33 = .ok (.iconst 1, 1) := by decide +kernel
theorem d_Tr_dueIn_34 : decode c_Tr_dueIn 34 = .ok (.iload 4, 2) := by decide +kernel
theorem d_Tr_dueIn_36 : decode c_Tr_dueIn 36 = .ok (.ishl, 1) := by decide +kernel
theorem d_Tr_dueIn_37 : decode c_Tr_dueIn 37 = .ok (.iconst (-1), 1) := by decide +kernel
theorem d_Tr_dueIn_38 : decode c_Tr_dueIn 38 = .ok (.ixor, 1) := by decide +kernel
theorem d_Tr_dueIn_39 : decode c_Tr_dueIn 39 = .ok (.iand, 1) := by decide +kernel
theorem d_Tr_dueIn_40 : decode c_Tr_dueIn 40 = .ok (.istore_n 3, 1) := by decide +kernel
theorem d_Tr_dueIn_41 : decode c_Tr_dueIn 41 = .ok (.iinc 4 1, 3) := by decide +kernel
theorem d_Tr_dueIn_44 : decode c_Tr_dueIn 44 = .ok (.goto (-35), 3) := by decide +kernel
theorem d_Tr_dueIn_47 : decode c_Tr_dueIn 47 = .ok (.iload_n 3, 1) := by decide +kernel
theorem d_Tr_dueIn_48 : decode c_Tr_dueIn 48 = .ok (.ireturn, 1) := by decide +kernel
theorem d_Tr_withoutRivals_0 : decode c_Tr_withoutRivals 0 = .ok (.iconst 0, 1) := by decide +kernel
theorem d_Tr_withoutRivals_1 : decode c_Tr_withoutRivals 1 = .ok (.istore_n 2, 1) := by decide +kernel
theorem d_Tr_withoutRivals_2 : decode c_Tr_withoutRivals 2 = .ok (.iconst 0, 1) := by decide +kernel
theorem d_Tr_withoutRivals_3 : decode c_Tr_withoutRivals 3 = .ok (.istore_n 3, 1) := by decide +kernel
theorem d_Tr_withoutRivals_4 : decode c_Tr_withoutRivals 4 = .ok (.iconst 0, 1) := by decide +kernel
theorem d_Tr_withoutRivals_5 : decode c_Tr_withoutRivals 5 = .ok (.istore 4, 2) := by decide +kernel
theorem d_Tr_withoutRivals_7 : decode c_Tr_withoutRivals 7 = .ok (.iload 4, 2) := by decide +kernel
theorem d_Tr_withoutRivals_9 : decode c_Tr_withoutRivals 9 = .ok (.aload_n 0, 1) := by decide +kernel
theorem d_Tr_withoutRivals_10 : decode c_Tr_withoutRivals 10 = .ok (.getfield 24, 3) := by decide +kernel
theorem d_Tr_withoutRivals_13 : decode c_Tr_withoutRivals 13 = .ok (.if_icmp .ge 47, 3) := by decide +kernel
theorem d_Tr_withoutRivals_16 : decode c_Tr_withoutRivals 16 = .ok (.iload 4, 2) := by decide +kernel
theorem d_Tr_withoutRivals_18 : decode c_Tr_withoutRivals 18 = .ok (.iload_n 1, 1) := by decide +kernel
theorem d_Tr_withoutRivals_19 : decode c_Tr_withoutRivals 19 = .ok (.invokestatic 32, 3) := by decide +kernel
theorem d_Tr_withoutRivals_22 : decode c_Tr_withoutRivals 22 = .ok (.ifCond .eq 32, 3) := by decide +kernel
theorem d_Tr_withoutRivals_25 : decode c_Tr_withoutRivals 25 = .ok (.aload_n 0, 1) := by decide +kernel
theorem d_Tr_withoutRivals_26 : decode c_Tr_withoutRivals 26 = .ok (.getfield 9, 3) := by decide +kernel
theorem d_Tr_withoutRivals_29 : decode c_Tr_withoutRivals 29 = .ok (.iload 4, 2) := by decide +kernel
theorem d_Tr_withoutRivals_31 : decode c_Tr_withoutRivals 31 = .ok (.iaload, 1) := by decide +kernel
theorem d_Tr_withoutRivals_32 : decode c_Tr_withoutRivals 32 = .ok (.iload_n 3, 1) := by decide +kernel
theorem d_Tr_withoutRivals_33 : decode c_Tr_withoutRivals 33 = .ok (.iand, 1) := by decide +kernel
theorem d_Tr_withoutRivals_34 : decode c_Tr_withoutRivals 34 = .ok (.ifCond .ne 20, 3) := by decide +kernel
theorem d_Tr_withoutRivals_37 : decode c_Tr_withoutRivals 37 = .ok (.iload_n 2, 1) := by decide +kernel
theorem d_Tr_withoutRivals_38 : decode c_Tr_withoutRivals 38 = .ok (.iconst 1, 1) := by decide +kernel
theorem d_Tr_withoutRivals_39 : decode c_Tr_withoutRivals 39 = .ok (.iload 4, 2) := by decide +kernel
theorem d_Tr_withoutRivals_41 : decode c_Tr_withoutRivals 41 = .ok (.ishl, 1) := by decide +kernel
theorem d_Tr_withoutRivals_42 : decode c_Tr_withoutRivals 42 = .ok (.ior, 1) := by decide +kernel
theorem d_Tr_withoutRivals_43 : decode c_Tr_withoutRivals 43 = .ok (.istore_n 2, 1) := by decide +kernel
theorem d_Tr_withoutRivals_44 : decode c_Tr_withoutRivals 44 = .ok (.iload_n 3, 1) := by decide +kernel
theorem d_Tr_withoutRivals_45 : decode c_Tr_withoutRivals 45 = .ok (.aload_n 0, 1) := by decide +kernel
theorem d_Tr_withoutRivals_46 : decode c_Tr_withoutRivals 46 = .ok (.getfield 9, 3) := by decide +kernel
theorem d_Tr_withoutRivals_49 : decode c_Tr_withoutRivals 49 = .ok (.iload 4, 2) := by decide +kernel
theorem d_Tr_withoutRivals_51 : decode c_Tr_withoutRivals 51 = .ok (.iaload, 1) := by decide +kernel
theorem d_Tr_withoutRivals_52 : decode c_Tr_withoutRivals 52 = .ok (.ior, 1) := by decide +kernel
theorem d_Tr_withoutRivals_53 : decode c_Tr_withoutRivals 53 = .ok (.istore_n 3, 1) := by decide +kernel
theorem d_Tr_withoutRivals_54 : decode c_Tr_withoutRivals 54 = .ok (.iinc 4 1, 3) := by decide +kernel
theorem d_Tr_withoutRivals_57 : decode c_Tr_withoutRivals 57 = .ok (.goto (-50), 3) := by decide +kernel
theorem d_Tr_withoutRivals_60 : decode c_Tr_withoutRivals 60 = .ok (.iload_n 2, 1) := by decide +kernel
theorem d_Tr_withoutRivals_61 : decode c_Tr_withoutRivals 61 = .ok (.ireturn, 1) := by decide +kernel
theorem d_Tr_preceding_0 : decode c_Tr_preceding 0 = .ok (.aload_n 0, 1) := by decide +kernel
theorem d_Tr_preceding_1 : decode c_Tr_preceding 1 = .ok (.aload_n 0, 1) := by decide +kernel
theorem d_Tr_preceding_2 : decode c_Tr_preceding 2 = .ok (.getfield 9, 3) := by decide +kernel
theorem d_Tr_preceding_5 : decode c_Tr_preceding 5 = .ok (.iload_n 1, 1) := by decide +kernel
theorem d_Tr_preceding_6 : decode c_Tr_preceding 6 = .ok (.invokevirtual 36, 3) := by decide +kernel
theorem d_Tr_preceding_9 : decode c_Tr_preceding 9 = .ok (.ireturn, 1) := by decide +kernel
theorem d_Tr_succeeding_0 : decode c_Tr_succeeding 0 = .ok (.aload_n 0, 1) := by decide +kernel
theorem d_Tr_succeeding_1 : decode c_Tr_succeeding 1 = .ok (.aload_n 0, 1) := by decide +kernel
theorem d_Tr_succeeding_2 : decode c_Tr_succeeding 2 = .ok (.getfield 15, 3) := by decide +kernel
theorem d_Tr_succeeding_5 : decode c_Tr_succeeding 5 = .ok (.iload_n 1, 1) := by decide +kernel
theorem d_Tr_succeeding_6 : decode c_Tr_succeeding 6 = .ok (.invokevirtual 36, 3) := by decide +kernel
theorem d_Tr_succeeding_9 : decode c_Tr_succeeding 9 = .ok (.ireturn, 1) := by decide +kernel
theorem d_Tr_union_0 : decode c_Tr_union 0 = .ok (.iconst 0, 1) := by decide +kernel
theorem d_Tr_union_1 : decode c_Tr_union 1 = .ok (.istore_n 3, 1) := by decide +kernel
theorem d_Tr_union_2 : decode c_Tr_union 2 = .ok (.iconst 0, 1) := by decide +kernel
theorem d_Tr_union_3 : decode c_Tr_union 3 = .ok (.istore 4, 2) := by decide +kernel
theorem d_Tr_union_5 : decode c_Tr_union 5 = .ok (.iload 4, 2) := by decide +kernel
theorem d_Tr_union_7 : decode c_Tr_union 7 = .ok (.aload_n 0, 1) := by decide +kernel
theorem d_Tr_union_8 : decode c_Tr_union 8 = .ok (.getfield 24, 3) := by decide +kernel
theorem d_Tr_union_11 : decode c_Tr_union 11 = .ok (.if_icmp .ge 25, 3) := by decide +kernel
theorem d_Tr_union_14 : decode c_Tr_union 14 = .ok (.iload 4, 2) := by decide +kernel
theorem d_Tr_union_16 : decode c_Tr_union 16 = .ok (.iload_n 2, 1) := by decide +kernel
theorem d_Tr_union_17 : decode c_Tr_union 17 = .ok (.invokestatic 32, 3) := by decide +kernel
theorem d_Tr_union_20 : decode c_Tr_union 20 = .ok (.ifCond .eq 10, 3) := by decide +kernel
theorem d_Tr_union_23 : decode c_Tr_union 23 = .ok (.iload_n 3, 1) := by decide +kernel
theorem d_Tr_union_24 : decode c_Tr_union 24 = .ok (.aload_n 1, 1) := by decide +kernel
theorem d_Tr_union_25 : decode c_Tr_union 25 = .ok (.iload 4, 2) := by decide +kernel
theorem d_Tr_union_27 : decode c_Tr_union 27 = .ok (.iaload, 1) := by decide +kernel
theorem d_Tr_union_28 : decode c_Tr_union 28 = .ok (.ior, 1) := by decide +kernel
theorem d_Tr_union_29 : decode c_Tr_union 29 = .ok (.istore_n 3, 1) := by decide +kernel
theorem d_Tr_union_30 : decode c_Tr_union 30 = .ok (.iinc 4 1, 3) := by decide +kernel
theorem d_Tr_union_33 : decode c_Tr_union 33 = .ok (.goto (-28), 3) := by decide +kernel
theorem d_Tr_union_36 : decode c_Tr_union 36 = .ok (.iload_n 3, 1) := by decide +kernel
theorem d_Tr_union_37 : decode c_Tr_union 37 = .ok (.ireturn, 1) := by decide +kernel
theorem d_Or_init_0 : decode c_Or_init 0 = .ok (.aload_n 0, 1) := by decide +kernel
theorem d_Or_init_1 : decode c_Or_init 1 = .ok (.invokespecial 3, 3) := by decide +kernel
theorem d_Or_init_4 : decode c_Or_init 4 = .ok (.aload_n 0, 1) := by decide +kernel
theorem d_Or_init_5 : decode c_Or_init 5 = .ok (.iconst 4, 1) := by decide +kernel
theorem d_Or_init_6 : decode c_Or_init 6 = .ok (.newarray .int, 2) := by decide +kernel
theorem d_Or_init_8 : decode c_Or_init 8 = .ok (.putfield 9, 3) := by decide +kernel
theorem d_Or_init_11 : decode c_Or_init 11 = .ok (.aload_n 0, 1) := by decide +kernel
theorem d_Or_init_12 : decode c_Or_init 12 = .ok (.iconst 4, 1) := by decide +kernel
theorem d_Or_init_13 : decode c_Or_init 13 = .ok (.newarray .int, 2) := by decide +kernel
theorem d_Or_init_15 : decode c_Or_init 15 = .ok (.putfield 15, 3) := by decide +kernel
theorem d_Or_init_18 : decode c_Or_init 18 = .ok (.aload_n 0, 1) := by decide +kernel
theorem d_Or_init_19 : decode c_Or_init 19 = .ok (.iconst 4, 1) := by decide +kernel
theorem d_Or_init_20 : decode c_Or_init 20 = .ok (.newarray .int, 2) := by decide +kernel
theorem d_Or_init_22 : decode c_Or_init 22 = .ok (.putfield 18, 3) := by decide +kernel
theorem d_Or_init_25 : decode c_Or_init 25 = .ok (.return_, 1) := by decide +kernel
theorem d_Or_add_0 : decode c_Or_add 0 = .ok (.aload_n 0, 1) := by decide +kernel
theorem d_Or_add_1 : decode c_Or_add 1 = .ok (.dup, 1) := by decide +kernel
theorem d_Or_add_2 : decode c_Or_add 2 = .ok (.getfield 21, 3) := by decide +kernel
theorem d_Or_add_5 : decode c_Or_add 5 = .ok (.dup_x1, 1) := by decide +kernel
theorem d_Or_add_6 : decode c_Or_add 6 = .ok (.iconst 1, 1) := by decide +kernel
theorem d_Or_add_7 : decode c_Or_add 7 = .ok (.iadd, 1) := by decide +kernel
theorem d_Or_add_8 : decode c_Or_add 8 = .ok (.putfield 21, 3) := by decide +kernel
theorem d_Or_add_11 : decode c_Or_add 11 = .ok (.istore 4, 2) := by decide +kernel
theorem d_Or_add_13 : decode c_Or_add 13 = .ok (.aload_n 0, 1) := by decide +kernel
theorem d_Or_add_14 : decode c_Or_add 14 = .ok (.getfield 9, 3) := by decide +kernel
theorem d_Or_add_17 : decode c_Or_add 17 = .ok (.iload 4, 2) := by decide +kernel
theorem d_Or_add_19 : decode c_Or_add 19 = .ok (.iload_n 1, 1) := by decide +kernel
theorem d_Or_add_20 : decode c_Or_add 20 = .ok (.iastore, 1) := by decide +kernel
theorem d_Or_add_21 : decode c_Or_add 21 = .ok (.aload_n 0, 1) := by decide +kernel
theorem d_Or_add_22 : decode c_Or_add 22 = .ok (.getfield 15, 3) := by decide +kernel
theorem d_Or_add_25 : decode c_Or_add 25 = .ok (.iload 4, 2) := by decide +kernel
theorem d_Or_add_27 : decode c_Or_add 27 = .ok (.iload_n 2, 1) := by decide +kernel
theorem d_Or_add_28 : decode c_Or_add 28 = .ok (.iastore, 1) := by decide +kernel
theorem d_Or_add_29 : decode c_Or_add 29 = .ok (.aload_n 0, 1) := by decide +kernel
theorem d_Or_add_30 : decode c_Or_add 30 = .ok (.getfield 18, 3) := by decide +kernel
theorem d_Or_add_33 : decode c_Or_add 33 = .ok (.iload 4, 2) := by decide +kernel
theorem d_Or_add_35 : decode c_Or_add 35 = .ok (.iload_n 3, 1) := by decide +kernel
theorem d_Or_add_36 : decode c_Or_add 36 = .ok (.iastore, 1) := by decide +kernel
theorem d_Or_add_37 : decode c_Or_add 37 = .ok (.iload 4, 2) := by decide +kernel
theorem d_Or_add_39 : decode c_Or_add 39 = .ok (.ireturn, 1) := by decide +kernel
theorem d_Or_rulingOver_0 : decode c_Or_rulingOver 0 = .ok (.iconst 0, 1) := by decide +kernel
theorem d_Or_rulingOver_1 : decode c_Or_rulingOver 1 = .ok (.istore_n 3, 1) := by decide +kernel
theorem d_Or_rulingOver_2 : decode c_Or_rulingOver 2 = .ok (.iload_n 3, 1) := by decide +kernel
theorem d_Or_rulingOver_3 : decode c_Or_rulingOver 3 = .ok (.aload_n 0, 1) := by decide +kernel
theorem d_Or_rulingOver_4 : decode c_Or_rulingOver 4 = .ok (.getfield 21, 3) := by decide +kernel
theorem d_Or_rulingOver_7 : decode c_Or_rulingOver 7 = .ok (.if_icmp .ge 34, 3) := by decide +kernel
theorem d_Or_rulingOver_10 : decode c_Or_rulingOver 10 = .ok (.aload_n 0, 1) := by decide +kernel
theorem d_Or_rulingOver_11 : decode c_Or_rulingOver 11 = .ok (.getfield 15, 3) := by decide +kernel
theorem d_Or_rulingOver_14 : decode c_Or_rulingOver 14 = .ok (.iload_n 3, 1) := by decide +kernel
theorem d_Or_rulingOver_15 : decode c_Or_rulingOver 15 = .ok (.iaload, 1) := by decide +kernel
theorem d_Or_rulingOver_16 : decode c_Or_rulingOver 16 = .ok (.iload_n 1, 1) := by decide +kernel
theorem d_Or_rulingOver_17 : decode c_Or_rulingOver 17 = .ok (.if_icmp .ne 18, 3) := by decide +kernel
theorem d_Or_rulingOver_20 : decode c_Or_rulingOver 20 = .ok (.aload_n 0, 1) := by decide +kernel
theorem d_Or_rulingOver_21 : decode c_Or_rulingOver 21 = .ok (.getfield 9, 3) := by decide +kernel
theorem d_Or_rulingOver_24 : decode c_Or_rulingOver 24 = .ok (.iload_n 3, 1) := by decide +kernel
theorem d_Or_rulingOver_25 : decode c_Or_rulingOver 25 = .ok (.iaload, 1) := by decide +kernel
theorem d_Or_rulingOver_26 : decode c_Or_rulingOver 26 = .ok (.iload_n 2, 1) := by decide +kernel
theorem d_Or_rulingOver_27 : decode c_Or_rulingOver 27 = .ok (.invokestatic 25, 3) := by decide +kernel
theorem d_Or_rulingOver_30 : decode c_Or_rulingOver 30 = .ok (.ifCond .eq 5, 3) := by decide +kernel
theorem d_Or_rulingOver_33 : decode c_Or_rulingOver 33 = .ok (.iload_n 3, 1) := by decide +kernel
theorem d_Or_rulingOver_34 : decode c_Or_rulingOver 34 = .ok (.ireturn, 1) := by decide +kernel
theorem d_Or_rulingOver_35 : decode c_Or_rulingOver 35 = .ok (.iinc 3 1, 3) := by decide +kernel
theorem d_Or_rulingOver_38 : decode c_Or_rulingOver 38 = .ok (.goto (-36), 3) := by decide +kernel
theorem d_Or_rulingOver_41 : decode c_Or_rulingOver 41 = .ok (.iconst (-1), 1) := by decide +kernel
theorem d_Or_rulingOver_42 : decode c_Or_rulingOver 42 = .ok (.ireturn, 1) := by decide +kernel
theorem d_Or_forcedSteps_0 : decode c_Or_forcedSteps 0 = .ok (.aload_n 0, 1) := by decide +kernel
theorem d_Or_forcedSteps_1 : decode c_Or_forcedSteps 1 = .ok (.getfield 18, 3) := by decide +kernel
theorem d_Or_forcedSteps_4 : decode c_Or_forcedSteps 4 = .ok (.iload_n 1, 1) := by decide +kernel
theorem d_Or_forcedSteps_5 : decode c_Or_forcedSteps 5 = .ok (.iaload, 1) := by decide +kernel
theorem d_Or_forcedSteps_6 : decode c_Or_forcedSteps 6 = .ok (.iconst (-1), 1) := by decide +kernel
theorem d_Or_forcedSteps_7 : decode c_Or_forcedSteps 7 = .ok (.if_icmp .ne 7, 3) := by decide +kernel
theorem d_Or_forcedSteps_10 : decode c_Or_forcedSteps 10 = .ok (.iload_n 2, 1) := by decide +kernel
theorem d_Or_forcedSteps_11 : decode c_Or_forcedSteps 11 = .ok (.goto 9, 3) := by decide +kernel
theorem d_Or_forcedSteps_14 : decode c_Or_forcedSteps 14 = .ok (.aload_n 0, 1) := by decide +kernel
theorem d_Or_forcedSteps_15 : decode c_Or_forcedSteps 15 = .ok (.getfield 18, 3) := by decide +kernel
theorem d_Or_forcedSteps_18 : decode c_Or_forcedSteps 18 = .ok (.iload_n 1, 1) := by decide +kernel
theorem d_Or_forcedSteps_19 : decode c_Or_forcedSteps 19 = .ok (.iaload, 1) := by decide +kernel
theorem d_Or_forcedSteps_20 : decode c_Or_forcedSteps 20 = .ok (.ireturn, 1) := by decide +kernel
theorem d_Or_fixedBy_0 : decode c_Or_fixedBy 0 = .ok (.iconst 0, 1) := by decide +kernel
theorem d_Or_fixedBy_1 : decode c_Or_fixedBy 1 = .ok (.istore_n 2, 1) := by decide +kernel
theorem d_Or_fixedBy_2 : decode c_Or_fixedBy 2 = .ok (.iconst 0, 1) := by decide +kernel
theorem d_Or_fixedBy_3 : decode c_Or_fixedBy 3 = .ok (.istore_n 3, 1) := by decide +kernel
theorem d_Or_fixedBy_4 : decode c_Or_fixedBy 4 = .ok (.iload_n 3, 1) := by decide +kernel
theorem d_Or_fixedBy_5 : decode c_Or_fixedBy 5 = .ok (.aload_n 0, 1) := by decide +kernel
theorem d_Or_fixedBy_6 : decode c_Or_fixedBy 6 = .ok (.getfield 21, 3) := by decide +kernel
theorem d_Or_fixedBy_9 : decode c_Or_fixedBy 9 = .ok (.if_icmp .ge 31, 3) := by decide +kernel
theorem d_Or_fixedBy_12 : decode c_Or_fixedBy 12 = .ok (.aload_n 0, 1) := by decide +kernel
theorem d_Or_fixedBy_13 : decode c_Or_fixedBy 13 = .ok (.getfield 9, 3) := by decide +kernel
theorem d_Or_fixedBy_16 : decode c_Or_fixedBy 16 = .ok (.iload_n 3, 1) := by decide +kernel
theorem d_Or_fixedBy_17 : decode c_Or_fixedBy 17 = .ok (.iaload, 1) := by decide +kernel
theorem d_Or_fixedBy_18 : decode c_Or_fixedBy 18 = .ok (.iload_n 1, 1) := by decide +kernel
theorem d_Or_fixedBy_19 : decode c_Or_fixedBy 19 = .ok (.invokestatic 25, 3) := by decide +kernel
theorem d_Or_fixedBy_22 : decode c_Or_fixedBy 22 = .ok (.ifCond .eq 12, 3) := by decide +kernel
theorem d_Or_fixedBy_25 : decode c_Or_fixedBy 25 = .ok (.iload_n 2, 1) := by decide +kernel
theorem d_Or_fixedBy_26 : decode c_Or_fixedBy 26 = .ok (.aload_n 0, 1) := by decide +kernel
theorem d_Or_fixedBy_27 : decode c_Or_fixedBy 27 = .ok (.iload_n 3, 1) := by decide +kernel
theorem d_Or_fixedBy_28 : decode c_Or_fixedBy 28 = .ok (.iconst 0, 1) := by decide +kernel
theorem d_Or_fixedBy_29 : decode c_Or_fixedBy 29 = .ok (.invokevirtual 29, 3) := by decide +kernel
theorem d_Or_fixedBy_32 : decode c_Or_fixedBy 32 = .ok (.ior, 1) := by decide +kernel
theorem d_Or_fixedBy_33 : decode c_Or_fixedBy 33 = .ok (.istore_n 2, 1) := by decide +kernel
theorem d_Or_fixedBy_34 : decode c_Or_fixedBy 34 = .ok (.iinc 3 1, 3) := by decide +kernel
theorem d_Or_fixedBy_37 : decode c_Or_fixedBy 37 = .ok (.goto (-33), 3) := by decide +kernel
theorem d_Or_fixedBy_40 : decode c_Or_fixedBy 40 = .ok (.iload_n 2, 1) := by decide +kernel
theorem d_Or_fixedBy_41 : decode c_Or_fixedBy 41 = .ok (.ireturn, 1) := by decide +kernel
theorem d_Ac_init_0 : decode c_Ac_init 0 = .ok (.aload_n 0, 1) := by decide +kernel
theorem d_Ac_init_1 : decode c_Ac_init 1 = .ok (.invokespecial 3, 3) := by decide +kernel
theorem d_Ac_init_4 : decode c_Ac_init 4 = .ok (.aload_n 0, 1) := by decide +kernel
theorem d_Ac_init_5 : decode c_Ac_init 5 = .ok (.bipush 12, 2) := by decide +kernel
theorem d_Ac_init_7 : decode c_Ac_init 7 = .ok (.newarray .int, 2) := by decide +kernel
theorem d_Ac_init_9 : decode c_Ac_init 9 = .ok (.putfield 9, 3) := by decide +kernel
theorem d_Ac_init_12 : decode c_Ac_init 12 = .ok (.aload_n 0, 1) := by decide +kernel
theorem d_Ac_init_13 : decode c_Ac_init 13 = .ok (.bipush 12, 2) := by decide +kernel
theorem d_Ac_init_15 : decode c_Ac_init 15 = .ok (.newarray .int, 2) := by decide +kernel
theorem d_Ac_init_17 : decode c_Ac_init 17 = .ok (.putfield 15, 3) := by decide +kernel
theorem d_Ac_init_20 : decode c_Ac_init 20 = .ok (.aload_n 0, 1) := by decide +kernel
theorem d_Ac_init_21 : decode c_Ac_init 21 = .ok (.bipush 12, 2) := by decide +kernel
theorem d_Ac_init_23 : decode c_Ac_init 23 = .ok (.newarray .int, 2) := by decide +kernel
theorem d_Ac_init_25 : decode c_Ac_init 25 = .ok (.putfield 18, 3) := by decide +kernel
theorem d_Ac_init_28 : decode c_Ac_init 28 = .ok (.aload_n 0, 1) := by decide +kernel
theorem d_Ac_init_29 : decode c_Ac_init 29 = .ok (.bipush 12, 2) := by decide +kernel
theorem d_Ac_init_31 : decode c_Ac_init 31 = .ok (.newarray .int, 2) := by decide +kernel
theorem d_Ac_init_33 : decode c_Ac_init 33 = .ok (.putfield 21, 3) := by decide +kernel
theorem d_Ac_init_36 : decode c_Ac_init 36 = .ok (.aload_n 0, 1) := by decide +kernel
theorem d_Ac_init_37 : decode c_Ac_init 37 = .ok (.bipush 12, 2) := by decide +kernel
theorem d_Ac_init_39 : decode c_Ac_init 39 = .ok (.newarray .int, 2) := by decide +kernel
theorem d_Ac_init_41 : decode c_Ac_init 41 = .ok (.putfield 24, 3) := by decide +kernel
theorem d_Ac_init_44 : decode c_Ac_init 44 = .ok (.return_, 1) := by decide +kernel
theorem d_Ac_isQualifier_0 : decode c_Ac_isQualifier 0 = .ok (.iload_n 0, 1) := by decide +kernel
theorem d_Ac_isQualifier_1 : decode c_Ac_isQualifier 1 = .ok (.ifCond .lt 13, 3) := by decide +kernel
theorem d_Ac_isQualifier_4 : decode c_Ac_isQualifier 4 = .ok (.iload_n 0, 1) := by decide +kernel
theorem d_Ac_isQualifier_5 : decode c_Ac_isQualifier 5 = .ok (.bipush 9, 2) := by decide +kernel
theorem d_Ac_isQualifier_7 : decode c_Ac_isQualifier 7 = .ok (.if_icmp .gt 7, 3) := by decide +kernel
theorem d_Ac_isQualifier_10 : decode c_Ac_isQualifier 10 = .ok (.iconst 1, 1) := by decide +kernel
theorem d_Ac_isQualifier_11 : decode c_Ac_isQualifier 11 = .ok (.goto 4, 3) := by decide +kernel
theorem d_Ac_isQualifier_14 : decode c_Ac_isQualifier 14 = .ok (.iconst 0, 1) := by decide +kernel
theorem d_Ac_isQualifier_15 : decode c_Ac_isQualifier 15 = .ok (.ireturn, 1) := by decide +kernel
theorem d_Ac_add_0 : decode c_Ac_add 0 = .ok (.aload_n 0, 1) := by decide +kernel
theorem d_Ac_add_1 : decode c_Ac_add 1 = .ok (.dup, 1) := by decide +kernel
theorem d_Ac_add_2 : decode c_Ac_add 2 = .ok (.getfield 27, 3) := by decide +kernel
theorem d_Ac_add_5 : decode c_Ac_add 5 = .ok (.dup_x1, 1) := by decide +kernel
theorem d_Ac_add_6 : decode c_Ac_add 6 = .ok (.iconst 1, 1) := by decide +kernel
theorem d_Ac_add_7 : decode c_Ac_add 7 = .ok (.iadd, 1) := by decide +kernel
theorem d_Ac_add_8 : decode c_Ac_add 8 = .ok (.putfield 27, 3) := by decide +kernel
theorem d_Ac_add_11 : decode c_Ac_add 11 = .ok (.istore 5, 2) := by decide +kernel
theorem d_Ac_add_13 : decode c_Ac_add 13 = .ok (.aload_n 0, 1) := by decide +kernel
theorem d_Ac_add_14 : decode c_Ac_add 14 = .ok (.getfield 9, 3) := by decide +kernel
theorem d_Ac_add_17 : decode c_Ac_add 17 = .ok (.iload 5, 2) := by decide +kernel
theorem d_Ac_add_19 : decode c_Ac_add 19 = .ok (.iload_n 1, 1) := by decide +kernel
theorem d_Ac_add_20 : decode c_Ac_add 20 = .ok (.iastore, 1) := by decide +kernel
theorem d_Ac_add_21 : decode c_Ac_add 21 = .ok (.aload_n 0, 1) := by decide +kernel
theorem d_Ac_add_22 : decode c_Ac_add 22 = .ok (.getfield 15, 3) := by decide +kernel
theorem d_Ac_add_25 : decode c_Ac_add 25 = .ok (.iload 5, 2) := by decide +kernel
theorem d_Ac_add_27 : decode c_Ac_add 27 = .ok (.iload_n 2, 1) := by decide +kernel
theorem d_Ac_add_28 : decode c_Ac_add 28 = .ok (.iastore, 1) := by decide +kernel
theorem d_Ac_add_29 : decode c_Ac_add 29 = .ok (.aload_n 0, 1) := by decide +kernel
theorem d_Ac_add_30 : decode c_Ac_add 30 = .ok (.getfield 18, 3) := by decide +kernel
theorem d_Ac_add_33 : decode c_Ac_add 33 = .ok (.iload 5, 2) := by decide +kernel
theorem d_Ac_add_35 : decode c_Ac_add 35 = .ok (.iload_n 3, 1) := by decide +kernel
theorem d_Ac_add_36 : decode c_Ac_add 36 = .ok (.iastore, 1) := by decide +kernel
theorem d_Ac_add_37 : decode c_Ac_add 37 = .ok (.aload_n 0, 1) := by decide +kernel
theorem d_Ac_add_38 : decode c_Ac_add 38 = .ok (.getfield 21, 3) := by decide +kernel
theorem d_Ac_add_41 : decode c_Ac_add 41 = .ok (.iload 5, 2) := by decide +kernel
theorem d_Ac_add_43 : decode c_Ac_add 43 = .ok (.iload 4, 2) := by decide +kernel
theorem d_Ac_add_45 : decode c_Ac_add 45 = .ok (.iastore, 1) := by decide +kernel
theorem d_Ac_add_46 : decode c_Ac_add 46 = .ok (.iload 5, 2) := by decide +kernel
theorem d_Ac_add_48 : decode c_Ac_add 48 = .ok (.ireturn, 1) := by decide +kernel
theorem d_Ac_isStored_0 : decode c_Ac_isStored 0 = .ok (.iload_n 1, 1) := by decide +kernel
theorem d_Ac_isStored_1 : decode c_Ac_isStored 1 = .ok (.ifCond .lt 26, 3) := by decide +kernel
theorem d_Ac_isStored_4 : decode c_Ac_isStored 4 = .ok (.iload_n 1, 1) := by decide +kernel
theorem d_Ac_isStored_5 : decode c_Ac_isStored 5 = .ok (.aload_n 0, 1) := by decide +kernel
theorem d_Ac_isStored_6 : decode c_Ac_isStored 6 = .ok (.getfield 27, 3) := by decide +kernel
theorem d_Ac_isStored_9 : decode c_Ac_isStored 9 = .ok (.if_icmp .ge 18, 3) := by decide +kernel
theorem d_Ac_isStored_12 : decode c_Ac_isStored 12 = .ok (.iload_n 1, 1) := by decide +kernel
theorem d_Ac_isStored_13 : decode c_Ac_isStored 13 = .ok (.aload_n 0, 1) := by decide +kernel
theorem d_Ac_isStored_14 : decode c_Ac_isStored 14 = .ok (.getfield 31, 3) := by decide +kernel
theorem d_Ac_isStored_17 : decode c_Ac_isStored 17 = .ok (.invokestatic 34, 3) := by decide +kernel
theorem d_Ac_isStored_20 : decode c_Ac_isStored 20 = .ok (.ifCond .eq 7, 3) := by decide +kernel
theorem d_Ac_isStored_23 : decode c_Ac_isStored 23 = .ok (.iconst 1, 1) := by decide +kernel
theorem d_Ac_isStored_24 : decode c_Ac_isStored 24 = .ok (.goto 4, 3) := by decide +kernel
theorem d_Ac_isStored_27 : decode c_Ac_isStored 27 = .ok (.iconst 0, 1) := by decide +kernel
theorem d_Ac_isStored_28 : decode c_Ac_isStored 28 = .ok (.ireturn, 1) := by decide +kernel
theorem d_Ac_forgetStored_0 : decode c_Ac_forgetStored 0 = .ok (.aload_n 0, 1) := by decide +kernel
theorem d_Ac_forgetStored_1 : decode c_Ac_forgetStored 1 = .ok (.iconst 0, 1) := by decide +kernel
theorem d_Ac_forgetStored_2 : decode c_Ac_forgetStored 2 = .ok (.putfield 31, 3) := by decide +kernel
theorem d_Ac_forgetStored_5 : decode c_Ac_forgetStored 5 = .ok (.return_, 1) := by decide +kernel
theorem d_Ac_grow_0 : decode c_Ac_grow 0 = .ok (.iconst 0, 1) := by decide +kernel
theorem d_Ac_grow_1 : decode c_Ac_grow 1 = .ok (.istore_n 2, 1) := by decide +kernel
theorem d_Ac_grow_2 : decode c_Ac_grow 2 = .ok (.iload_n 2, 1) := by decide +kernel
theorem d_Ac_grow_3 : decode c_Ac_grow 3 = .ok (.aload_n 0, 1) := by decide +kernel
theorem d_Ac_grow_4 : decode c_Ac_grow 4 = .ok (.getfield 27, 3) := by decide +kernel
theorem d_Ac_grow_7 : decode c_Ac_grow 7 = .ok (.if_icmp .ge 30, 3) := by decide +kernel
theorem d_Ac_grow_10 : decode c_Ac_grow 10 = .ok (.iload_n 2, 1) := by decide +kernel
theorem d_Ac_grow_11 : decode c_Ac_grow 11 = .ok (.aload_n 0, 1) := by decide +kernel
theorem d_Ac_grow_12 : decode c_Ac_grow 12 = .ok (.getfield 31, 3) := by decide +kernel
theorem d_Ac_grow_15 : decode c_Ac_grow 15 = .ok (.invokestatic 34, 3) := by decide +kernel
theorem d_Ac_grow_18 : decode c_Ac_grow 18 = .ok (.ifCond .eq 13, 3) := by decide +kernel
theorem d_Ac_grow_21 : decode c_Ac_grow 21 = .ok (.aload_n 0, 1) := by decide +kernel
theorem d_Ac_grow_22 : decode c_Ac_grow 22 = .ok (.getfield 24, 3) := by decide +kernel
theorem d_Ac_grow_25 : decode c_Ac_grow 25 = .ok (.iload_n 2, 1) := by decide +kernel
theorem d_Ac_grow_26 : decode c_Ac_grow 26 = .ok (.dup2, 1) := by decide +kernel
theorem d_Ac_grow_27 : decode c_Ac_grow 27 = .ok (.iaload, 1) := by decide +kernel
theorem d_Ac_grow_28 : decode c_Ac_grow 28 = .ok (.iload_n 1, 1) := by decide +kernel
theorem d_Ac_grow_29 : decode c_Ac_grow 29 = .ok (.iadd, 1) := by decide +kernel
theorem d_Ac_grow_30 : decode c_Ac_grow 30 = .ok (.iastore, 1) := by decide +kernel
theorem d_Ac_grow_31 : decode c_Ac_grow 31 = .ok (.iinc 2 1, 3) := by decide +kernel
theorem d_Ac_grow_34 : decode c_Ac_grow 34 = .ok (.goto (-32), 3) := by decide +kernel
theorem d_Ac_grow_37 : decode c_Ac_grow 37 = .ok (.return_, 1) := by decide +kernel
theorem d_Ac_workOut_0 : decode c_Ac_workOut 0 = .ok (.aload_n 0, 1) := by decide +kernel
theorem d_Ac_workOut_1 : decode c_Ac_workOut 1 = .ok (.iload_n 1, 1) := by decide +kernel
theorem d_Ac_workOut_2 : decode c_Ac_workOut 2 = .ok (.invokevirtual 38, 3) := by decide +kernel
theorem d_Ac_workOut_5 : decode c_Ac_workOut 5 = .ok (.istore 4, 2) := by decide +kernel
theorem d_Ac_workOut_7 : decode c_Ac_workOut 7 = .ok (.iconst 0, 1) := by decide +kernel
theorem d_Ac_workOut_8 : decode c_Ac_workOut 8 = .ok (.istore 5, 2) := by decide +kernel
theorem d_Ac_workOut_10 : decode c_Ac_workOut 10 = .ok (.iconst 0, 1) := by decide +kernel
theorem d_Ac_workOut_11 : decode c_Ac_workOut 11 = .ok (.istore 6, 2) := by decide +kernel
theorem d_Ac_workOut_13 : decode c_Ac_workOut 13 = .ok (.iload 6, 2) := by decide +kernel
theorem d_Ac_workOut_15 : decode c_Ac_workOut 15 = .ok (.aload_n 0, 1) := by decide +kernel
theorem d_Ac_workOut_16 : decode c_Ac_workOut 16 = .ok (.getfield 27, 3) := by decide +kernel
theorem d_Ac_workOut_19 : decode c_Ac_workOut 19 = .ok (.if_icmp .ge 89, 3) := by decide +kernel
theorem d_Ac_workOut_22 : decode c_Ac_workOut 22 = .ok (.aload_n 0, 1) := by decide +kernel
theorem d_Ac_workOut_23 : decode c_Ac_workOut 23 = .ok (.getfield 9, 3) := by decide +kernel
theorem d_Ac_workOut_26 : decode c_Ac_workOut 26 = .ok (.iload 6, 2) := by decide +kernel
theorem d_Ac_workOut_28 : decode c_Ac_workOut 28 = .ok (.iaload, 1) := by decide +kernel
theorem d_Ac_workOut_29 : decode c_Ac_workOut 29 = .ok (.istore 7, 2) := by decide +kernel
theorem d_Ac_workOut_31 : decode c_Ac_workOut 31 = .ok (.iload 7, 2) := by decide +kernel
theorem d_Ac_workOut_33 : decode c_Ac_workOut 33 = .ok (.iload_n 1, 1) := by decide +kernel
theorem d_Ac_workOut_34 : decode c_Ac_workOut 34 = .ok (.invokestatic 34, 3) := by decide +kernel
theorem d_Ac_workOut_37 : decode c_Ac_workOut 37 = .ok (.istore 8, 2) := by decide +kernel
theorem d_Ac_workOut_39 : decode c_Ac_workOut 39 = .ok (.iload 7, 2) := by decide +kernel
theorem d_Ac_workOut_41 : decode c_Ac_workOut 41 = .ok (.iload_n 2, 1) := by decide +kernel
theorem d_Ac_workOut_42 : decode c_Ac_workOut 42 = .ok (.invokestatic 34, 3) := by decide +kernel
theorem d_Ac_workOut_45 : decode c_Ac_workOut 45 = .ok (.istore 9, 2) := by decide +kernel
theorem d_Ac_workOut_47 : decode c_Ac_workOut 47 = .ok (.aload_n 0, 1) := by decide +kernel
theorem d_Ac_workOut_48 : decode c_Ac_workOut 48 = .ok (.iload 6, 2) := by decide +kernel
theorem d_Ac_workOut_50 : decode c_Ac_workOut 50 = .ok (.aload_n 0, 1) := by decide +kernel
theorem d_Ac_workOut_51 : decode c_Ac_workOut 51 = .ok (.getfield 18, 3) := by decide +kernel
theorem d_Ac_workOut_54 : decode c_Ac_workOut 54 = .ok (.iload 6, 2) := by decide +kernel
theorem d_Ac_workOut_56 : decode c_Ac_workOut 56 = .ok (.iaload, 1) := by decide +kernel
theorem d_Ac_workOut_57 : decode c_Ac_workOut 57 = .ok (.iload 4, 2) := by decide +kernel
theorem d_Ac_workOut_59 : decode c_Ac_workOut 59 = .ok (.invokestatic 34, 3) := by decide +kernel
theorem d_Ac_workOut_62 : decode c_Ac_workOut 62 = .ok (.iload 8, 2) := by decide +kernel
theorem d_Ac_workOut_64 : decode c_Ac_workOut 64 = .ok (.aload_n 3, 1) := by decide +kernel
theorem d_Ac_workOut_65 : decode c_Ac_workOut 65 = .ok (.iload 7, 2) := by decide +kernel
theorem d_Ac_workOut_67 : decode c_Ac_workOut 67 = .ok (.iaload, 1) := by decide +kernel
theorem d_Ac_workOut_68 : decode c_Ac_workOut 68 = .ok (.invokevirtual 42, 3) := by decide +kernel
theorem d_Ac_workOut_71 : decode c_Ac_workOut 71 = .ok (.aload_n 0, 1) := by decide +kernel
theorem d_Ac_workOut_72 : decode c_Ac_workOut 72 = .ok (.iload 6, 2) := by decide +kernel
theorem d_Ac_workOut_74 : decode c_Ac_workOut 74 = .ok (.iload 8, 2) := by decide +kernel
theorem d_Ac_workOut_76 : decode c_Ac_workOut 76 = .ok (.iload 9, 2) := by decide +kernel
theorem d_Ac_workOut_78 : decode c_Ac_workOut 78 = .ok (.aload_n 3, 1) := by decide +kernel
theorem d_Ac_workOut_79 : decode c_Ac_workOut 79 = .ok (.iload 7, 2) := by decide +kernel
theorem d_Ac_workOut_81 : decode c_Ac_workOut 81 = .ok (.iaload, 1) := by decide +kernel
theorem d_Ac_workOut_82 : decode c_Ac_workOut 82 = .ok (.invokevirtual 46, 3) := by decide +kernel
theorem d_Ac_workOut_85 : decode c_Ac_workOut 85 = .ok (.ifCond .eq 17, 3) := by decide +kernel
theorem d_Ac_workOut_88 : decode c_Ac_workOut 88 = .ok (.iload 5, 2) := by decide +kernel
theorem d_Ac_workOut_90 : decode c_Ac_workOut 90 = .ok (.iconst 1, 1) := by decide +kernel
theorem d_Ac_workOut_91 : decode c_Ac_workOut 91 = .ok (.aload_n 0, 1) := by decide +kernel
theorem d_Ac_workOut_92 : decode c_Ac_workOut 92 = .ok (.getfield 18, 3) := by decide +kernel
theorem d_Ac_workOut_95 : decode c_Ac_workOut 95 = .ok (.iload 6, 2) := by decide +kernel
theorem d_Ac_workOut_97 : decode c_Ac_workOut 97 = .ok (.iaload, 1) := by decide +kernel
theorem d_Ac_workOut_98 : decode c_Ac_workOut 98 = .ok (.ishl, 1) := by decide +kernel
theorem d_Ac_workOut_99 : decode c_Ac_workOut 99 = .ok (.ior, 1) := by decide +kernel
theorem d_Ac_workOut_100 : decode c_Ac_workOut 100 = .ok (.istore 5, 2) := by decide +kernel
theorem d_Ac_workOut_102 : decode c_Ac_workOut 102 = .ok (.iinc 6 1, 3) := by decide +kernel
theorem d_Ac_workOut_105 : decode c_Ac_workOut 105 = .ok (.goto (-92), 3) := by decide +kernel
theorem d_Ac_workOut_108 : decode c_Ac_workOut 108 = .ok (.iload 5, 2) := by decide +kernel
theorem d_Ac_workOut_110 : decode c_Ac_workOut 110 = .ok (.iload 4, 2) := by decide +kernel
theorem d_Ac_workOut_112 : decode c_Ac_workOut 112 = .ok (.iconst (-1), 1) := by decide +kernel
theorem d_Ac_workOut_113 : decode c_Ac_workOut 113 = .ok (.ixor, 1) := by decide +kernel
theorem d_Ac_workOut_114 : decode c_Ac_workOut 114 = .ok (.iand, 1) := by decide +kernel
theorem d_Ac_workOut_115 : decode c_Ac_workOut 115 = .ok (.ireturn, 1) := by decide +kernel
theorem d_Ac_resetVariables_0 : decode c_Ac_resetVariables 0 = .ok (.iconst 0, 1) := by decide +kernel
theorem d_Ac_resetVariables_1 : decode c_Ac_resetVariables 1 = .ok (.istore_n 2, 1) := by decide +kernel
theorem d_Ac_resetVariables_2 : decode c_Ac_resetVariables 2 = .ok (.iconst 0, 1) := by decide +kernel
theorem d_Ac_resetVariables_3 : decode c_Ac_resetVariables 3 = .ok (.istore_n 3, 1) := by decide +kernel
theorem d_Ac_resetVariables_4 : decode c_Ac_resetVariables 4 = .ok (.iload_n 3, 1) := by decide +kernel
theorem d_Ac_resetVariables_5 : decode c_Ac_resetVariables 5 = .ok (.aload_n 0, 1) := by decide +kernel
theorem d_Ac_resetVariables_6 : decode c_Ac_resetVariables 6 = .ok (.getfield 27, 3) := by decide +kernel
theorem d_Ac_resetVariables_9 : decode c_Ac_resetVariables 9 = .ok (.if_icmp .ge 43, 3) := by decide +kernel
theorem d_Ac_resetVariables_12 : decode c_Ac_resetVariables 12 = .ok (.aload_n 0, 1) := by decide +kernel
theorem d_Ac_resetVariables_13 : decode c_Ac_resetVariables 13 = .ok (.getfield 15, 3) := by decide +kernel
theorem d_Ac_resetVariables_16 : decode c_Ac_resetVariables 16 = .ok (.iload_n 3, 1) := by decide +kernel
theorem d_Ac_resetVariables_17 : decode c_Ac_resetVariables 17 = .ok (.iaload, 1) := by decide +kernel
theorem d_Ac_resetVariables_18 : decode c_Ac_resetVariables 18 = .ok (.iconst 1, 1) := by decide +kernel
theorem d_Ac_resetVariables_19 : decode c_Ac_resetVariables 19 = .ok (.if_icmp .ne 27, 3) := by decide +kernel
theorem d_Ac_resetVariables_22 : decode c_Ac_resetVariables 22 = .ok (.aload_n 0, 1) := by decide +kernel
theorem d_Ac_resetVariables_23 : decode c_Ac_resetVariables 23 = .ok (.getfield 9, 3) := by decide +kernel
theorem d_Ac_resetVariables_26 : decode c_Ac_resetVariables 26 = .ok (.iload_n 3, 1) := by decide +kernel
theorem d_Ac_resetVariables_27 : decode c_Ac_resetVariables 27 = .ok (.iaload, 1) := by decide +kernel
theorem d_Ac_resetVariables_28 : decode c_Ac_resetVariables 28 = .ok (.iload_n 1, 1) := by decide +kernel
theorem d_Ac_resetVariables_29 : decode c_Ac_resetVariables 29 = .ok (.invokestatic 34, 3) := by decide +kernel
theorem d_Ac_resetVariables_32 : decode c_Ac_resetVariables 32 = .ok (.ifCond .eq 14, 3) := by decide +kernel
theorem d_Ac_resetVariables_35 : decode c_Ac_resetVariables 35 = .ok (.iload_n 2, 1) := by decide +kernel
theorem d_Ac_resetVariables_36 : decode c_Ac_resetVariables 36 = .ok (.iconst 1, 1) := by decide +kernel
theorem d_Ac_resetVariables_37 : decode c_Ac_resetVariables 37 = .ok (.aload_n 0, 1) := by decide +kernel
theorem d_Ac_resetVariables_38 : decode c_Ac_resetVariables 38 = .ok (.getfield 18, 3) := by decide +kernel
theorem d_Ac_resetVariables_41 : decode c_Ac_resetVariables 41 = .ok (.iload_n 3, 1) := by decide +kernel
theorem d_Ac_resetVariables_42 : decode c_Ac_resetVariables 42 = .ok (.iaload, 1) := by decide +kernel
theorem d_Ac_resetVariables_43 : decode c_Ac_resetVariables 43 = .ok (.ishl, 1) := by decide +kernel
theorem d_Ac_resetVariables_44 : decode c_Ac_resetVariables 44 = .ok (.ior, 1) := by decide +kernel
theorem d_Ac_resetVariables_45 : decode c_Ac_resetVariables 45 = .ok (.istore_n 2, 1) := by decide +kernel
theorem d_Ac_resetVariables_46 : decode c_Ac_resetVariables 46 = .ok (.iinc 3 1, 3) := by decide +kernel
theorem d_Ac_resetVariables_49 : decode c_Ac_resetVariables 49 = .ok (.goto (-45), 3) := by decide +kernel
theorem d_Ac_resetVariables_52 : decode c_Ac_resetVariables 52 = .ok (.iload_n 2, 1) := by decide +kernel
theorem d_Ac_resetVariables_53 : decode c_Ac_resetVariables 53 = .ok (.ireturn, 1) := by decide +kernel
theorem d_Ac_store_0 : decode c_Ac_store 0 = .ok (.iload_n 2, 1) := by decide +kernel
theorem d_Ac_store_1 : decode c_Ac_store 1 = .ok (.ifCond .eq 20, 3) := by decide +kernel
theorem d_Ac_store_4 : decode c_Ac_store 4 = .ok (.aload_n 0, 1) := by decide +kernel
theorem d_Ac_store_5 : decode c_Ac_store 5 = .ok (.dup, 1) := by decide +kernel
theorem d_Ac_store_6 : decode c_Ac_store 6 = .ok (.getfield 31, 3) := by decide +kernel
theorem d_Ac_store_9 : decode c_Ac_store 9 = .ok (.iconst 1, 1) := by decide +kernel
theorem d_Ac_store_10 : decode c_Ac_store 10 = .ok (.iload_n 1, 1) := by decide +kernel
theorem d_Ac_store_11 : decode c_Ac_store 11 = .ok (.ishl, 1) := by decide +kernel
theorem d_Ac_store_12 : decode c_Ac_store 12 = .ok (.iconst (-1), 1) := by decide +kernel
theorem d_Ac_store_13 : decode c_Ac_store 13 = .ok (.ixor, 1) := by decide +kernel
theorem d_Ac_store_14 : decode c_Ac_store 14 = .ok (.iand, 1) := by decide +kernel
theorem d_Ac_store_15 : decode c_Ac_store 15 = .ok (.putfield 31, 3) := by decide +kernel
theorem d_Ac_store_18 : decode c_Ac_store 18 = .ok (.goto 47, 3) := by decide +kernel
theorem d_Ac_store_21 : decode c_Ac_store 21 = .ok (.iload_n 3, 1) := by decide +kernel
theorem d_Ac_store_22 : decode c_Ac_store 22 = .ok (.ifCond .eq 43, 3) := by decide +kernel
theorem d_Ac_store_25 : decode c_Ac_store 25 = .ok (.iload_n 1, 1) := by decide +kernel
theorem d_Ac_store_26 : decode c_Ac_store 26 = .ok (.aload_n 0, 1) := by decide +kernel
theorem d_Ac_store_27 : decode c_Ac_store 27 = .ok (.getfield 31, 3) := by decide +kernel
theorem d_Ac_store_30 : decode c_Ac_store 30 = .ok (.invokestatic 34, 3) := by decide +kernel
theorem d_Ac_store_33 : decode c_Ac_store 33 = .ok (.ifCond .ne 32, 3) := by decide +kernel
theorem d_Ac_store_36 : decode c_Ac_store 36 = .ok (.aload_n 0, 1) := by decide +kernel
theorem d_Ac_store_37 : decode c_Ac_store 37 = .ok (.iload_n 1, 1) := by decide +kernel
theorem d_Ac_store_38 : decode c_Ac_store 38 = .ok (.iload 4, 2) := by decide +kernel
theorem d_Ac_store_40 : decode c_Ac_store 40 = .ok (.invokevirtual 50, 3) := by decide +kernel
theorem d_Ac_store_43 : decode c_Ac_store 43 = .ok (.ifCond .eq 22, 3) := by decide +kernel
theorem d_Ac_store_46 : decode c_Ac_store 46 = .ok (.aload_n 0, 1) := by decide +kernel
theorem d_Ac_store_47 : decode c_Ac_store 47 = .ok (.dup, 1) := by decide +kernel
theorem d_Ac_store_48 : decode c_Ac_store 48 = .ok (.getfield 31, 3) := by decide +kernel
theorem d_Ac_store_51 : decode c_Ac_store 51 = .ok (.iconst 1, 1) := by decide +kernel
theorem d_Ac_store_52 : decode c_Ac_store 52 = .ok (.iload_n 1, 1) := by decide +kernel
theorem d_Ac_store_53 : decode c_Ac_store 53 = .ok (.ishl, 1) := by decide +kernel
theorem d_Ac_store_54 : decode c_Ac_store 54 = .ok (.ior, 1) := by decide +kernel
theorem d_Ac_store_55 : decode c_Ac_store 55 = .ok (.putfield 31, 3) := by decide +kernel
theorem d_Ac_store_58 : decode c_Ac_store 58 = .ok (.aload_n 0, 1) := by decide +kernel
theorem d_Ac_store_59 : decode c_Ac_store 59 = .ok (.getfield 24, 3) := by decide +kernel
theorem d_Ac_store_62 : decode c_Ac_store 62 = .ok (.iload_n 1, 1) := by decide +kernel
theorem d_Ac_store_63 : decode c_Ac_store 63 = .ok (.iconst 0, 1) := by decide +kernel
theorem d_Ac_store_64 : decode c_Ac_store 64 = .ok (.iastore, 1) := by decide +kernel
theorem d_Ac_store_65 : decode c_Ac_store 65 = .ok (.return_, 1) := by decide +kernel
theorem d_Ac_storesAt_0 : decode c_Ac_storesAt 0 = .ok (.aload_n 0, 1) := by decide +kernel
theorem d_Ac_storesAt_1 : decode c_Ac_storesAt 1 = .ok (.getfield 15, 3) := by decide +kernel
theorem d_Ac_storesAt_4 : decode c_Ac_storesAt 4 = .ok (.iload_n 1, 1) := by decide +kernel
theorem d_Ac_storesAt_5 : decode c_Ac_storesAt 5 = .ok (.iaload, 1) := by decide +kernel
theorem d_Ac_storesAt_6 : decode c_Ac_storesAt 6 = .ok (.tableswitch 64 2 9 #[46, 64, 64, 64, 64, 46, 48, 46], 46) := by decide +kernel
theorem d_Ac_storesAt_52 : decode c_Ac_storesAt 52 = .ok (.iconst 1, 1) := by decide +kernel
theorem d_Ac_storesAt_53 : decode c_Ac_storesAt 53 = .ok (.ireturn, 1) := by decide +kernel
theorem d_Ac_storesAt_54 : decode c_Ac_storesAt 54 = .ok (.iload_n 2, 1) := by decide +kernel
theorem d_Ac_storesAt_55 : decode c_Ac_storesAt 55 = .ok (.aload_n 0, 1) := by decide +kernel
theorem d_Ac_storesAt_56 : decode c_Ac_storesAt 56 = .ok (.getfield 21, 3) := by decide +kernel
theorem d_Ac_storesAt_59 : decode c_Ac_storesAt 59 = .ok (.iload_n 1, 1) := by decide +kernel
theorem d_Ac_storesAt_60 : decode c_Ac_storesAt 60 = .ok (.iaload, 1) := by decide +kernel
theorem d_Ac_storesAt_61 : decode c_Ac_storesAt 61 = .ok (.if_icmp .lt 7, 3) := by decide +kernel
theorem d_Ac_storesAt_64 : decode c_Ac_storesAt 64 = .ok (.iconst 1, 1) := by decide +kernel
theorem d_Ac_storesAt_65 : decode c_Ac_storesAt 65 = .ok (.goto 4, 3) := by decide +kernel
theorem d_Ac_storesAt_68 : decode c_Ac_storesAt 68 = .ok (.iconst 0, 1) := by decide +kernel
theorem d_Ac_storesAt_69 : decode c_Ac_storesAt 69 = .ok (.ireturn, 1) := by decide +kernel
theorem d_Ac_storesAt_70 : decode c_Ac_storesAt 70 = .ok (.iconst 0, 1) := by decide +kernel
theorem d_Ac_storesAt_71 : decode c_Ac_storesAt 71 = .ok (.ireturn, 1) := by decide +kernel
theorem d_Ac_isOn_0 : decode c_Ac_isOn 0 = .ok (.iload_n 1, 1) := by decide +kernel
theorem d_Ac_isOn_1 : decode c_Ac_isOn 1 = .ok (.aload_n 0, 1) := by decide +kernel
theorem d_Ac_isOn_2 : decode c_Ac_isOn 2 = .ok (.getfield 31, 3) := by decide +kernel
theorem d_Ac_isOn_5 : decode c_Ac_isOn 5 = .ok (.invokestatic 34, 3) := by decide +kernel
theorem d_Ac_isOn_8 : decode c_Ac_isOn 8 = .ok (.istore 5, 2) := by decide +kernel
theorem d_Ac_isOn_10 : decode c_Ac_isOn 10 = .ok (.aload_n 0, 1) := by decide +kernel
theorem d_Ac_isOn_11 : decode c_Ac_isOn 11 = .ok (.getfield 21, 3) := by decide +kernel
theorem d_Ac_isOn_14 : decode c_Ac_isOn 14 = .ok (.iload_n 1, 1) := by decide +kernel
theorem d_Ac_isOn_15 : decode c_Ac_isOn 15 = .ok (.iaload, 1) := by decide +kernel
theorem d_Ac_isOn_16 : decode c_Ac_isOn 16 = .ok (.istore 6, 2) := by decide +kernel
theorem d_Ac_isOn_18 : decode c_Ac_isOn 18 = .ok (.aload_n 0, 1) := by decide +kernel
theorem d_Ac_isOn_19 : decode c_Ac_isOn 19 = .ok (.getfield 15, 3) := by decide +kernel
theorem d_Ac_isOn_22 : decode c_Ac_isOn 22 = .ok (.iload_n 1, 1) := by decide +kernel
theorem d_Ac_isOn_23 : decode c_Ac_isOn 23 = .ok (.iaload, 1) := by decide +kernel
theorem d_Ac_isOn_24 : decode c_Ac_isOn 24 = .ok (.tableswitch 167 0 9 #[56, 167, 58, 61, 78, 95, 109, 123, 58, 145], 56) := by decide +kernel
theorem d_Ac_isOn_80 : decode c_Ac_isOn 80 = .ok (.iload_n 2, 1) := by decide +kernel
theorem d_Ac_isOn_81 : decode c_Ac_isOn 81 = .ok (.ireturn, 1) := by decide +kernel
theorem d_Ac_isOn_82 : decode c_Ac_isOn 82 = .ok (.iload 5, 2) := by decide +kernel
theorem d_Ac_isOn_84 : decode c_Ac_isOn 84 = .ok (.ireturn, 1) := by decide +kernel
theorem d_Ac_isOn_85 : decode c_Ac_isOn 85 = .ok (.iload_n 2, 1) := by decide +kernel
theorem d_Ac_isOn_86 : decode c_Ac_isOn 86 = .ok (.ifCond .eq 14, 3) := by decide +kernel
theorem d_Ac_isOn_89 : decode c_Ac_isOn 89 = .ok (.iload 4, 2) := by decide +kernel
theorem d_Ac_isOn_91 : decode c_Ac_isOn 91 = .ok (.iload 6, 2) := by decide +kernel
theorem d_Ac_isOn_93 : decode c_Ac_isOn 93 = .ok (.if_icmp .ge 7, 3) := by decide +kernel
theorem d_Ac_isOn_96 : decode c_Ac_isOn 96 = .ok (.iconst 1, 1) := by decide +kernel
theorem d_Ac_isOn_97 : decode c_Ac_isOn 97 = .ok (.goto 4, 3) := by decide +kernel
theorem d_Ac_isOn_100 : decode c_Ac_isOn 100 = .ok (.iconst 0, 1) := by decide +kernel
theorem d_Ac_isOn_101 : decode c_Ac_isOn 101 = .ok (.ireturn, 1) := by decide +kernel
theorem d_Ac_isOn_102 : decode c_Ac_isOn 102 = .ok (.iload_n 2, 1) := by decide +kernel
theorem d_Ac_isOn_103 : decode c_Ac_isOn 103 = .ok (.ifCond .eq 14, 3) := by decide +kernel
theorem d_Ac_isOn_106 : decode c_Ac_isOn 106 = .ok (.iload 4, 2) := by decide +kernel
theorem d_Ac_isOn_108 : decode c_Ac_isOn 108 = .ok (.iload 6, 2) := by decide +kernel
theorem d_Ac_isOn_110 : decode c_Ac_isOn 110 = .ok (.if_icmp .lt 7, 3) := by decide +kernel
theorem d_Ac_isOn_113 : decode c_Ac_isOn 113 = .ok (.iconst 1, 1) := by decide +kernel
theorem d_Ac_isOn_114 : decode c_Ac_isOn 114 = .ok (.goto 4, 3) := by decide +kernel
theorem d_Ac_isOn_117 : decode c_Ac_isOn 117 = .ok (.iconst 0, 1) := by decide +kernel
theorem d_Ac_isOn_118 : decode c_Ac_isOn 118 = .ok (.ireturn, 1) := by decide +kernel
theorem d_Ac_isOn_119 : decode c_Ac_isOn 119 = .ok (.iload_n 2, 1) := by decide +kernel
theorem d_Ac_isOn_120 : decode c_Ac_isOn 120 = .ok (.ifCond .eq 11, 3) := by decide +kernel
theorem d_Ac_isOn_123 : decode c_Ac_isOn 123 = .ok (.iload_n 3, 1) := by decide +kernel
theorem d_Ac_isOn_124 : decode c_Ac_isOn 124 = .ok (.ifCond .ne 7, 3) := by decide +kernel
theorem d_Ac_isOn_127 : decode c_Ac_isOn 127 = .ok (.iconst 1, 1) := by decide +kernel
theorem d_Ac_isOn_128 : decode c_Ac_isOn 128 = .ok (.goto 4, 3) := by decide +kernel
theorem d_Ac_isOn_131 : decode c_Ac_isOn 131 = .ok (.iconst 0, 1) := by decide +kernel
theorem d_Ac_isOn_132 : decode c_Ac_isOn 132 = .ok (.ireturn, 1) := by decide +kernel
theorem d_Ac_isOn_133 : decode c_Ac_isOn 133 = .ok (.iload_n 3, 1) := by decide +kernel
theorem d_Ac_isOn_134 : decode c_Ac_isOn 134 = .ok (.ifCond .eq 11, 3) := by decide +kernel
theorem d_Ac_isOn_137 : decode c_Ac_isOn 137 = .ok (.iload_n 2, 1) := by decide +kernel
theorem d_Ac_isOn_138 : decode c_Ac_isOn 138 = .ok (.ifCond .ne 7, 3) := by decide +kernel
theorem d_Ac_isOn_141 : decode c_Ac_isOn 141 = .ok (.iconst 1, 1) := by decide +kernel
theorem d_Ac_isOn_142 : decode c_Ac_isOn 142 = .ok (.goto 4, 3) := by decide +kernel
theorem d_Ac_isOn_145 : decode c_Ac_isOn 145 = .ok (.iconst 0, 1) := by decide +kernel
theorem d_Ac_isOn_146 : decode c_Ac_isOn 146 = .ok (.ireturn, 1) := by decide +kernel
theorem d_Ac_isOn_147 : decode c_Ac_isOn 147 = .ok (.iload 5, 2) := by decide +kernel
theorem d_Ac_isOn_149 : decode c_Ac_isOn 149 = .ok (.ifCond .eq 18, 3) := by decide +kernel
theorem d_Ac_isOn_152 : decode c_Ac_isOn 152 = .ok (.aload_n 0, 1) := by decide +kernel
theorem d_Ac_isOn_153 : decode c_Ac_isOn 153 = .ok (.getfield 24, 3) := by decide +kernel
theorem d_Ac_isOn_156 : decode c_Ac_isOn 156 = .ok (.iload_n 1, 1) := by decide +kernel
theorem d_Ac_isOn_157 : decode c_Ac_isOn 157 = .ok (.iaload, 1) := by decide +kernel
theorem d_Ac_isOn_158 : decode c_Ac_isOn 158 = .ok (.iload 6, 2) := by decide +kernel
theorem d_Ac_isOn_160 : decode c_Ac_isOn 160 = .ok (.if_icmp .lt 7, 3) := by decide +kernel
theorem d_Ac_isOn_163 : decode c_Ac_isOn 163 = .ok (.iconst 1, 1) := by decide +kernel
theorem d_Ac_isOn_164 : decode c_Ac_isOn 164 = .ok (.goto 4, 3) := by decide +kernel
theorem d_Ac_isOn_167 : decode c_Ac_isOn 167 = .ok (.iconst 0, 1) := by decide +kernel
theorem d_Ac_isOn_168 : decode c_Ac_isOn 168 = .ok (.ireturn, 1) := by decide +kernel
theorem d_Ac_isOn_169 : decode c_Ac_isOn 169 = .ok (.iload 5, 2) := by decide +kernel
theorem d_Ac_isOn_171 : decode c_Ac_isOn 171 = .ok (.ifCond .eq 18, 3) := by decide +kernel
theorem d_Ac_isOn_174 : decode c_Ac_isOn 174 = .ok (.aload_n 0, 1) := by decide +kernel
theorem d_Ac_isOn_175 : decode c_Ac_isOn 175 = .ok (.getfield 24, 3) := by decide +kernel
theorem d_Ac_isOn_178 : decode c_Ac_isOn 178 = .ok (.iload_n 1, 1) := by decide +kernel
theorem d_Ac_isOn_179 : decode c_Ac_isOn 179 = .ok (.iaload, 1) := by decide +kernel
theorem d_Ac_isOn_180 : decode c_Ac_isOn 180 = .ok (.iload 6, 2) := by decide +kernel
theorem d_Ac_isOn_182 : decode c_Ac_isOn 182 = .ok (.if_icmp .ge 7, 3) := by decide +kernel
theorem d_Ac_isOn_185 : decode c_Ac_isOn 185 = .ok (.iconst 1, 1) := by decide +kernel
theorem d_Ac_isOn_186 : decode c_Ac_isOn 186 = .ok (.goto 4, 3) := by decide +kernel
theorem d_Ac_isOn_189 : decode c_Ac_isOn 189 = .ok (.iconst 0, 1) := by decide +kernel
theorem d_Ac_isOn_190 : decode c_Ac_isOn 190 = .ok (.ireturn, 1) := by decide +kernel
theorem d_Ac_isOn_191 : decode c_Ac_isOn 191 = .ok (.iconst 0, 1) := by decide +kernel
theorem d_Ac_isOn_192 : decode c_Ac_isOn 192 = .ok (.ireturn, 1) := by decide +kernel
