set_option maxRecDepth 20000
theorem dJ7_copyOf_59c91_0 : decode prog_44_method_123_code 0 = .ok (.iload_n 1, 1) := by decide +kernel
theorem dJ7_copyOf_59c91_1 : decode prog_44_method_123_code 1 = .ok (.aload_n 0, 1) := by decide +kernel
theorem dJ7_copyOf_59c91_2 : decode prog_44_method_123_code 2 = .ok (.arraylength, 1) := by decide +kernel
theorem dJ7_copyOf_59c91_3 : decode prog_44_method_123_code 3 = .ok (.if_icmp .ne 11, 3) := by decide +kernel
theorem dJ7_copyOf_59c91_14 : decode prog_44_method_123_code 14 = .ok (.iload_n 1, 1) := by decide +kernel
theorem dJ7_copyOf_59c91_15 : decode prog_44_method_123_code 15 = .ok (.newarray .int, 2) := by decide +kernel
theorem dJ7_copyOf_59c91_17 : decode prog_44_method_123_code 17 = .ok (.astore_n 2, 1) := by decide +kernel
theorem dJ7_copyOf_59c91_18 : decode prog_44_method_123_code 18 = .ok (.aload_n 0, 1) := by decide +kernel
theorem dJ7_copyOf_59c91_19 : decode prog_44_method_123_code 19 = .ok (.iconst 0, 1) := by decide +kernel
theorem dJ7_copyOf_59c91_20 : decode prog_44_method_123_code 20 = .ok (.aload_n 2, 1) := by decide +kernel
theorem dJ7_copyOf_59c91_21 : decode prog_44_method_123_code 21 = .ok (.iconst 0, 1) := by decide +kernel
theorem dJ7_copyOf_59c91_22 : decode prog_44_method_123_code 22 = .ok (.aload_n 0, 1) := by decide +kernel
theorem dJ7_copyOf_59c91_23 : decode prog_44_method_123_code 23 = .ok (.arraylength, 1) := by decide +kernel
theorem dJ7_copyOf_59c91_24 : decode prog_44_method_123_code 24 = .ok (.iload_n 1, 1) := by decide +kernel
theorem dJ7_copyOf_59c91_25 : decode prog_44_method_123_code 25 = .ok (.invokestatic 304, 3) := by decide +kernel
theorem dJ7_copyOf_59c91_28 : decode prog_44_method_123_code 28 = .ok (.invokestatic 150, 3) := by decide +kernel
theorem dJ7_copyOf_59c91_31 : decode prog_44_method_123_code 31 = .ok (.aload_n 2, 1) := by decide +kernel
theorem dJ7_copyOf_59c91_32 : decode prog_44_method_123_code 32 = .ok (.areturn, 1) := by decide +kernel
theorem dJ9_floorMod_f86c9_0 : decode prog_31_method_52_code 0 = .ok (.lload_n 0, 1) := by decide +kernel
theorem dJ9_floorMod_f86c9_1 : decode prog_31_method_52_code 1 = .ok (.lload_n 2, 1) := by decide +kernel
theorem dJ9_floorMod_f86c9_2 : decode prog_31_method_52_code 2 = .ok (.lrem, 1) := by decide +kernel
theorem dJ9_floorMod_f86c9_3 : decode prog_31_method_52_code 3 = .ok (.lstore 4, 2) := by decide +kernel
theorem dJ9_floorMod_f86c9_5 : decode prog_31_method_52_code 5 = .ok (.lload_n 0, 1) := by decide +kernel
theorem dJ9_floorMod_f86c9_6 : decode prog_31_method_52_code 6 = .ok (.lload_n 2, 1) := by decide +kernel
theorem dJ9_floorMod_f86c9_7 : decode prog_31_method_52_code 7 = .ok (.lxor, 1) := by decide +kernel
theorem dJ9_floorMod_f86c9_8 : decode prog_31_method_52_code 8 = .ok (.lconst 0, 1) := by decide +kernel
theorem dJ9_floorMod_f86c9_9 : decode prog_31_method_52_code 9 = .ok (.lcmp, 1) := by decide +kernel
theorem dJ9_floorMod_f86c9_10 : decode prog_31_method_52_code 10 = .ok (.ifCond .ge 15, 3) := by decide +kernel
theorem dJ9_floorMod_f86c9_13 : decode prog_31_method_52_code 13 = .ok (.lload 4, 2) := by decide +kernel
theorem dJ9_floorMod_f86c9_15 : decode prog_31_method_52_code 15 = .ok (.lconst 0, 1) := by decide +kernel
theorem dJ9_floorMod_f86c9_16 : decode prog_31_method_52_code 16 = .ok (.lcmp, 1) := by decide +kernel
theorem dJ9_floorMod_f86c9_17 : decode prog_31_method_52_code 17 = .ok (.ifCond .eq 8, 3) := by decide +kernel
theorem dJ9_floorMod_f86c9_20 : decode prog_31_method_52_code 20 = .ok (.lload 4, 2) := by decide +kernel
theorem dJ9_floorMod_f86c9_22 : decode prog_31_method_52_code 22 = .ok (.lload_n 2, 1) := by decide +kernel
theorem dJ9_floorMod_f86c9_23 : decode prog_31_method_52_code 23 = .ok (.ladd, 1) := by decide +kernel
theorem dJ9_floorMod_f86c9_24 : decode prog_31_method_52_code 24 = .ok (.lreturn, 1) := by decide +kernel
theorem dJ9_floorMod_f86c9_25 : decode prog_31_method_52_code 25 = .ok (.lload 4, 2) := by decide +kernel
theorem dJ9_floorMod_f86c9_27 : decode prog_31_method_52_code 27 = .ok (.lreturn, 1) := by decide +kernel
theorem dJx35411_hasNext_aae02_0 : decode prog_43_method_2_code 0 = .ok (.aload_n 0, 1) := by decide +kernel
theorem dJx35411_hasNext_aae02_1 : decode prog_43_method_2_code 1 = .ok (.getfield 25, 3) := by decide +kernel
theorem dJx35411_hasNext_aae02_4 : decode prog_43_method_2_code 4 = .ok (.aload_n 0, 1) := by decide +kernel
theorem dJx35411_hasNext_aae02_5 : decode prog_43_method_2_code 5 = .ok (.getfield 1, 3) := by decide +kernel
theorem dJx35411_hasNext_aae02_8 : decode prog_43_method_2_code 8 = .ok (.getfield 28, 3) := by decide +kernel
theorem dJx35411_hasNext_aae02_11 : decode prog_43_method_2_code 11 = .ok (.if_icmp .eq 7, 3) := by decide +kernel
theorem dJx35411_hasNext_aae02_18 : decode prog_43_method_2_code 18 = .ok (.iconst 0, 1) := by decide +kernel
theorem dJx35411_hasNext_aae02_19 : decode prog_43_method_2_code 19 = .ok (.ireturn, 1) := by decide +kernel
theorem dJx35411_init_45d68_0 : decode prog_43_method_1_code 0 = .ok (.aload_n 0, 1) := by decide +kernel
theorem dJx35411_init_45d68_1 : decode prog_43_method_1_code 1 = .ok (.aload_n 1, 1) := by decide +kernel
theorem dJx35411_init_45d68_2 : decode prog_43_method_1_code 2 = .ok (.putfield 1, 3) := by decide +kernel
theorem dJx35411_init_45d68_5 : decode prog_43_method_1_code 5 = .ok (.aload_n 0, 1) := by decide +kernel
theorem dJx35411_init_45d68_6 : decode prog_43_method_1_code 6 = .ok (.invokespecial 7, 3) := by decide +kernel
theorem dJx35411_init_45d68_9 : decode prog_43_method_1_code 9 = .ok (.aload_n 0, 1) := by decide +kernel
theorem dJx35411_init_45d68_10 : decode prog_43_method_1_code 10 = .ok (.iconst (-1), 1) := by decide +kernel
theorem dJx35411_init_45d68_11 : decode prog_43_method_1_code 11 = .ok (.putfield 13, 3) := by decide +kernel
theorem dJx35411_init_45d68_14 : decode prog_43_method_1_code 14 = .ok (.aload_n 0, 1) := by decide +kernel
theorem dJx35411_init_45d68_15 : decode prog_43_method_1_code 15 = .ok (.aload_n 0, 1) := by decide +kernel
theorem dJx35411_init_45d68_16 : decode prog_43_method_1_code 16 = .ok (.getfield 1, 3) := by decide +kernel
theorem dJx35411_init_45d68_19 : decode prog_43_method_1_code 19 = .ok (.getfield 17, 3) := by decide +kernel
theorem dJx35411_init_45d68_22 : decode prog_43_method_1_code 22 = .ok (.putfield 22, 3) := by decide +kernel
theorem dJx35411_init_45d68_25 : decode prog_43_method_1_code 25 = .ok (.return_, 1) := by decide +kernel
theorem dJx4a65c_init_da8c8_0 : decode prog_42_method_2_code 0 = .ok (.aload_n 0, 1) := by decide +kernel
theorem dJx4a65c_init_da8c8_1 : decode prog_42_method_2_code 1 = .ok (.invokespecial 1, 3) := by decide +kernel
theorem dJx4a65c_init_da8c8_4 : decode prog_42_method_2_code 4 = .ok (.aload_n 0, 1) := by decide +kernel
theorem dJx4a65c_init_da8c8_5 : decode prog_42_method_2_code 5 = .ok (.getstatic 39, 3) := by decide +kernel
theorem dJx4a65c_init_da8c8_8 : decode prog_42_method_2_code 8 = .ok (.putfield 9, 3) := by decide +kernel
theorem dJx4a65c_init_da8c8_11 : decode prog_42_method_2_code 11 = .ok (.return_, 1) := by decide +kernel
theorem dJx4a65c_iterator_32c93_0 : decode prog_42_method_55_code 0 = .ok (.new 267, 3) := by decide +kernel
theorem dJx4a65c_iterator_32c93_3 : decode prog_42_method_55_code 3 = .ok (.dup, 1) := by decide +kernel
theorem dJx4a65c_iterator_32c93_4 : decode prog_42_method_55_code 4 = .ok (.aload_n 0, 1) := by decide +kernel
theorem dJx4a65c_iterator_32c93_5 : decode prog_42_method_55_code 5 = .ok (.invokespecial 269, 3) := by decide +kernel
theorem dJx4a65c_iterator_32c93_8 : decode prog_42_method_55_code 8 = .ok (.areturn, 1) := by decide +kernel
theorem dJx4a65c_size_8abf5_0 : decode prog_42_method_8_code 0 = .ok (.aload_n 0, 1) := by decide +kernel
theorem dJx4a65c_size_8abf5_1 : decode prog_42_method_8_code 1 = .ok (.getfield 48, 3) := by decide +kernel
theorem dJx4a65c_size_8abf5_4 : decode prog_42_method_8_code 4 = .ok (.ireturn, 1) := by decide +kernel
theorem dJxa1e45_init_da8c8_0 : decode prog_40_method_1_code 0 = .ok (.aload_n 0, 1) := by decide +kernel
theorem dJxa1e45_init_da8c8_1 : decode prog_40_method_1_code 1 = .ok (.invokespecial 1, 3) := by decide +kernel
theorem dJxa1e45_init_da8c8_4 : decode prog_40_method_1_code 4 = .ok (.return_, 1) := by decide +kernel
theorem dJxc12de_init_da8c8_0 : decode prog_41_method_1_code 0 = .ok (.aload_n 0, 1) := by decide +kernel
theorem dJxc12de_init_da8c8_1 : decode prog_41_method_1_code 1 = .ok (.invokespecial 1, 3) := by decide +kernel
theorem dJxc12de_init_da8c8_4 : decode prog_41_method_1_code 4 = .ok (.aload_n 0, 1) := by decide +kernel
theorem dJxc12de_init_da8c8_5 : decode prog_41_method_1_code 5 = .ok (.iconst 0, 1) := by decide +kernel
theorem dJxc12de_init_da8c8_6 : decode prog_41_method_1_code 6 = .ok (.putfield 7, 3) := by decide +kernel
theorem dJxc12de_init_da8c8_9 : decode prog_41_method_1_code 9 = .ok (.return_, 1) := by decide +kernel
theorem dL_addJunction_0 : decode method_3_code 0 = .ok (.aload_n 3, 1) := by decide +kernel
theorem dL_addJunction_1 : decode method_3_code 1 = .ok (.iconst 0, 1) := by decide +kernel
theorem dL_addJunction_2 : decode method_3_code 2 = .ok (.aload_n 0, 1) := by decide +kernel
theorem dL_addJunction_3 : decode method_3_code 3 = .ok (.iload_n 1, 1) := by decide +kernel
theorem dL_addJunction_4 : decode method_3_code 4 = .ok (.iload_n 2, 1) := by decide +kernel
theorem dL_addJunction_5 : decode method_3_code 5 = .ok (.invokevirtual 7, 3) := by decide +kernel
theorem dL_addJunction_8 : decode method_3_code 8 = .ok (.i2l, 1) := by decide +kernel
theorem dL_addJunction_9 : decode method_3_code 9 = .ok (.lastore, 1) := by decide +kernel
theorem dL_addJunction_10 : decode method_3_code 10 = .ok (.goto 11, 3) := by decide +kernel
theorem dL_addJunction_13 : decode method_3_code 13 = .ok (.astore 4, 2) := by decide +kernel
theorem dL_addJunction_15 : decode method_3_code 15 = .ok (.iconst 1, 1) := by decide +kernel
theorem dL_addJunction_16 : decode method_3_code 16 = .ok (.ireturn, 1) := by decide +kernel
theorem dL_addJunction_21 : decode method_3_code 21 = .ok (.iconst 0, 1) := by decide +kernel
theorem dL_addJunction_22 : decode method_3_code 22 = .ok (.ireturn, 1) := by decide +kernel
theorem dL_addRoad_0 : decode method_4_code 0 = .ok (.aload 5, 2) := by decide +kernel
theorem dL_addRoad_2 : decode method_4_code 2 = .ok (.iconst 0, 1) := by decide +kernel
theorem dL_addRoad_3 : decode method_4_code 3 = .ok (.aload_n 0, 1) := by decide +kernel
theorem dL_addRoad_4 : decode method_4_code 4 = .ok (.iload_n 1, 1) := by decide +kernel
theorem dL_addRoad_5 : decode method_4_code 5 = .ok (.iload_n 2, 1) := by decide +kernel
theorem dL_addRoad_6 : decode method_4_code 6 = .ok (.iload_n 3, 1) := by decide +kernel
theorem dL_addRoad_7 : decode method_4_code 7 = .ok (.iload 4, 2) := by decide +kernel
theorem dL_addRoad_9 : decode method_4_code 9 = .ok (.invokevirtual 17, 3) := by decide +kernel
theorem dL_addRoad_17 : decode method_4_code 17 = .ok (.astore 6, 2) := by decide +kernel
theorem dL_addRoad_19 : decode method_4_code 19 = .ok (.iconst 1, 1) := by decide +kernel
theorem dL_addRoad_20 : decode method_4_code 20 = .ok (.ireturn, 1) := by decide +kernel
theorem dL_addStope_0 : decode method_5_code 0 = .ok (.aload 5, 2) := by decide +kernel
theorem dL_addStope_2 : decode method_5_code 2 = .ok (.iconst 0, 1) := by decide +kernel
theorem dL_addStope_3 : decode method_5_code 3 = .ok (.aload_n 0, 1) := by decide +kernel
theorem dL_addStope_4 : decode method_5_code 4 = .ok (.iload_n 1, 1) := by decide +kernel
theorem dL_addStope_5 : decode method_5_code 5 = .ok (.iload_n 2, 1) := by decide +kernel
theorem dL_addStope_6 : decode method_5_code 6 = .ok (.iload_n 3, 1) := by decide +kernel
theorem dL_addStope_7 : decode method_5_code 7 = .ok (.iload 4, 2) := by decide +kernel
theorem dL_addStope_9 : decode method_5_code 9 = .ok (.invokevirtual 23, 3) := by decide +kernel
theorem dL_addStope_17 : decode method_5_code 17 = .ok (.astore 6, 2) := by decide +kernel
theorem dL_addStope_19 : decode method_5_code 19 = .ok (.iconst 1, 1) := by decide +kernel
theorem dL_addStope_20 : decode method_5_code 20 = .ok (.ireturn, 1) := by decide +kernel
theorem dL_come_0 : decode method_19_code 0 = .ok (.aload_n 2, 1) := by decide +kernel
theorem dL_come_1 : decode method_19_code 1 = .ok (.iconst 0, 1) := by decide +kernel
theorem dL_come_2 : decode method_19_code 2 = .ok (.aload_n 0, 1) := by decide +kernel
theorem dL_come_3 : decode method_19_code 3 = .ok (.iload_n 1, 1) := by decide +kernel
theorem dL_come_4 : decode method_19_code 4 = .ok (.invokevirtual 75, 3) := by decide +kernel
theorem dL_come_12 : decode method_19_code 12 = .ok (.astore_n 3, 1) := by decide +kernel
theorem dL_come_13 : decode method_19_code 13 = .ok (.iconst 1, 1) := by decide +kernel
theorem dL_come_14 : decode method_19_code 14 = .ok (.ireturn, 1) := by decide +kernel
theorem dL_deliver_0 : decode method_29_code 0 = .ok (.aload 4, 2) := by decide +kernel
theorem dL_deliver_2 : decode method_29_code 2 = .ok (.iconst 0, 1) := by decide +kernel
theorem dL_deliver_3 : decode method_29_code 3 = .ok (.aload_n 0, 1) := by decide +kernel
theorem dL_deliver_4 : decode method_29_code 4 = .ok (.iload_n 1, 1) := by decide +kernel
theorem dL_deliver_5 : decode method_29_code 5 = .ok (.iload_n 2, 1) := by decide +kernel
theorem dL_deliver_6 : decode method_29_code 6 = .ok (.iload_n 3, 1) := by decide +kernel
theorem dL_deliver_7 : decode method_29_code 7 = .ok (.invokevirtual 106, 3) := by decide +kernel
theorem dL_deliver_15 : decode method_29_code 15 = .ok (.astore 5, 2) := by decide +kernel
theorem dL_deliver_17 : decode method_29_code 17 = .ok (.iconst 1, 1) := by decide +kernel
theorem dL_deliver_18 : decode method_29_code 18 = .ok (.ireturn, 1) := by decide +kernel
theorem dL_deliver_19 : decode method_29_code 19 = .ok (.astore 5, 2) := by decide +kernel
theorem dL_deliver_21 : decode method_29_code 21 = .ok (.iconst 2, 1) := by decide +kernel
theorem dL_deliver_22 : decode method_29_code 22 = .ok (.ireturn, 1) := by decide +kernel
theorem dL_delivered_0 : decode method_30_code 0 = .ok (.aload_n 2, 1) := by decide +kernel
theorem dL_delivered_1 : decode method_30_code 1 = .ok (.iconst 0, 1) := by decide +kernel
theorem dL_delivered_2 : decode method_30_code 2 = .ok (.aload_n 0, 1) := by decide +kernel
theorem dL_delivered_3 : decode method_30_code 3 = .ok (.iload_n 1, 1) := by decide +kernel
theorem dL_delivered_4 : decode method_30_code 4 = .ok (.invokevirtual 110, 3) := by decide +kernel
theorem dL_delivered_12 : decode method_30_code 12 = .ok (.astore_n 3, 1) := by decide +kernel
theorem dL_delivered_13 : decode method_30_code 13 = .ok (.iconst 1, 1) := by decide +kernel
theorem dL_delivered_14 : decode method_30_code 14 = .ok (.ireturn, 1) := by decide +kernel
theorem dL_flow_0 : decode method_12_code 0 = .ok (.aload_n 2, 1) := by decide +kernel
theorem dL_flow_1 : decode method_12_code 1 = .ok (.iconst 0, 1) := by decide +kernel
theorem dL_flow_2 : decode method_12_code 2 = .ok (.aload_n 0, 1) := by decide +kernel
theorem dL_flow_3 : decode method_12_code 3 = .ok (.iload_n 1, 1) := by decide +kernel
theorem dL_flow_4 : decode method_12_code 4 = .ok (.invokevirtual 53, 3) := by decide +kernel
theorem dL_flow_12 : decode method_12_code 12 = .ok (.astore_n 3, 1) := by decide +kernel
theorem dL_flow_13 : decode method_12_code 13 = .ok (.iconst 1, 1) := by decide +kernel
theorem dL_flow_14 : decode method_12_code 14 = .ok (.ireturn, 1) := by decide +kernel
theorem dL_gas_0 : decode method_14_code 0 = .ok (.aload_n 2, 1) := by decide +kernel
theorem dL_gas_1 : decode method_14_code 1 = .ok (.iconst 0, 1) := by decide +kernel
theorem dL_gas_2 : decode method_14_code 2 = .ok (.aload_n 0, 1) := by decide +kernel
theorem dL_gas_3 : decode method_14_code 3 = .ok (.iload_n 1, 1) := by decide +kernel
theorem dL_gas_4 : decode method_14_code 4 = .ok (.invokevirtual 59, 3) := by decide +kernel
theorem dL_gas_12 : decode method_14_code 12 = .ok (.astore_n 3, 1) := by decide +kernel
theorem dL_gas_13 : decode method_14_code 13 = .ok (.iconst 1, 1) := by decide +kernel
theorem dL_gas_14 : decode method_14_code 14 = .ok (.ireturn, 1) := by decide +kernel
theorem dL_goodShare_0 : decode method_32_code 0 = .ok (.aload_n 1, 1) := by decide +kernel
theorem dL_goodShare_1 : decode method_32_code 1 = .ok (.iconst 0, 1) := by decide +kernel
theorem dL_goodShare_2 : decode method_32_code 2 = .ok (.aload_n 0, 1) := by decide +kernel
theorem dL_goodShare_3 : decode method_32_code 3 = .ok (.invokevirtual 116, 3) := by decide +kernel
theorem dL_goodShare_11 : decode method_32_code 11 = .ok (.astore_n 2, 1) := by decide +kernel
theorem dL_goodShare_12 : decode method_32_code 12 = .ok (.iconst 1, 1) := by decide +kernel
theorem dL_goodShare_13 : decode method_32_code 13 = .ok (.ireturn, 1) := by decide +kernel
theorem dL_hasPower_0 : decode method_18_code 0 = .ok (.aload_n 2, 1) := by decide +kernel
theorem dL_hasPower_1 : decode method_18_code 1 = .ok (.iconst 0, 1) := by decide +kernel
theorem dL_hasPower_2 : decode method_18_code 2 = .ok (.aload_n 0, 1) := by decide +kernel
theorem dL_hasPower_3 : decode method_18_code 3 = .ok (.iload_n 1, 1) := by decide +kernel
theorem dL_hasPower_4 : decode method_18_code 4 = .ok (.invokevirtual 72, 3) := by decide +kernel
theorem dL_hasPower_19 : decode method_18_code 19 = .ok (.astore_n 3, 1) := by decide +kernel
theorem dL_hasPower_20 : decode method_18_code 20 = .ok (.iconst 1, 1) := by decide +kernel
theorem dL_hasPower_21 : decode method_18_code 21 = .ok (.ireturn, 1) := by decide +kernel
theorem dL_isBlocked_0 : decode method_31_code 0 = .ok (.aload_n 2, 1) := by decide +kernel
theorem dL_isBlocked_1 : decode method_31_code 1 = .ok (.iconst 0, 1) := by decide +kernel
theorem dL_isBlocked_2 : decode method_31_code 2 = .ok (.aload_n 0, 1) := by decide +kernel
theorem dL_isBlocked_3 : decode method_31_code 3 = .ok (.iload_n 1, 1) := by decide +kernel
theorem dL_isBlocked_4 : decode method_31_code 4 = .ok (.invokevirtual 113, 3) := by decide +kernel
theorem dL_isBlocked_19 : decode method_31_code 19 = .ok (.astore_n 3, 1) := by decide +kernel
theorem dL_isBlocked_20 : decode method_31_code 20 = .ok (.iconst 1, 1) := by decide +kernel
theorem dL_isBlocked_21 : decode method_31_code 21 = .ok (.ireturn, 1) := by decide +kernel
theorem dL_isFull_0 : decode method_15_code 0 = .ok (.aload_n 2, 1) := by decide +kernel
theorem dL_isFull_1 : decode method_15_code 1 = .ok (.iconst 0, 1) := by decide +kernel
theorem dL_isFull_2 : decode method_15_code 2 = .ok (.aload_n 0, 1) := by decide +kernel
theorem dL_isFull_3 : decode method_15_code 3 = .ok (.iload_n 1, 1) := by decide +kernel
theorem dL_isFull_4 : decode method_15_code 4 = .ok (.invokevirtual 62, 3) := by decide +kernel
theorem dL_isFull_19 : decode method_15_code 19 = .ok (.astore_n 3, 1) := by decide +kernel
theorem dL_isFull_20 : decode method_15_code 20 = .ok (.iconst 1, 1) := by decide +kernel
theorem dL_isFull_21 : decode method_15_code 21 = .ok (.ireturn, 1) := by decide +kernel
theorem dL_isGood_0 : decode method_16_code 0 = .ok (.aload_n 2, 1) := by decide +kernel
theorem dL_isGood_1 : decode method_16_code 1 = .ok (.iconst 0, 1) := by decide +kernel
theorem dL_isGood_2 : decode method_16_code 2 = .ok (.aload_n 0, 1) := by decide +kernel
theorem dL_isGood_3 : decode method_16_code 3 = .ok (.iload_n 1, 1) := by decide +kernel
theorem dL_isGood_4 : decode method_16_code 4 = .ok (.invokevirtual 66, 3) := by decide +kernel
theorem dL_isGood_19 : decode method_16_code 19 = .ok (.astore_n 3, 1) := by decide +kernel
theorem dL_isGood_20 : decode method_16_code 20 = .ok (.iconst 1, 1) := by decide +kernel
theorem dL_isGood_21 : decode method_16_code 21 = .ok (.ireturn, 1) := by decide +kernel
theorem dL_isSafe_0 : decode method_22_code 0 = .ok (.aload_n 2, 1) := by decide +kernel
theorem dL_isSafe_1 : decode method_22_code 1 = .ok (.iconst 0, 1) := by decide +kernel
theorem dL_isSafe_2 : decode method_22_code 2 = .ok (.aload_n 0, 1) := by decide +kernel
theorem dL_isSafe_3 : decode method_22_code 3 = .ok (.iload_n 1, 1) := by decide +kernel
theorem dL_isSafe_4 : decode method_22_code 4 = .ok (.invokevirtual 84, 3) := by decide +kernel
theorem dL_isSafe_19 : decode method_22_code 19 = .ok (.astore_n 3, 1) := by decide +kernel
theorem dL_isSafe_20 : decode method_22_code 20 = .ok (.iconst 1, 1) := by decide +kernel
theorem dL_isSafe_21 : decode method_22_code 21 = .ok (.ireturn, 1) := by decide +kernel
theorem dL_isSafeAnew_0 : decode method_23_code 0 = .ok (.aload_n 2, 1) := by decide +kernel
theorem dL_isSafeAnew_1 : decode method_23_code 1 = .ok (.iconst 0, 1) := by decide +kernel
theorem dL_isSafeAnew_2 : decode method_23_code 2 = .ok (.aload_n 0, 1) := by decide +kernel
theorem dL_isSafeAnew_3 : decode method_23_code 3 = .ok (.iload_n 1, 1) := by decide +kernel
theorem dL_isSafeAnew_4 : decode method_23_code 4 = .ok (.invokevirtual 87, 3) := by decide +kernel
theorem dL_isSafeAnew_19 : decode method_23_code 19 = .ok (.astore_n 3, 1) := by decide +kernel
theorem dL_isSafeAnew_20 : decode method_23_code 20 = .ok (.iconst 1, 1) := by decide +kernel
theorem dL_isSafeAnew_21 : decode method_23_code 21 = .ok (.ireturn, 1) := by decide +kernel
theorem dL_join_0 : decode method_6_code 0 = .ok (.aload_n 3, 1) := by decide +kernel
theorem dL_join_1 : decode method_6_code 1 = .ok (.iconst 0, 1) := by decide +kernel
theorem dL_join_2 : decode method_6_code 2 = .ok (.aload_n 0, 1) := by decide +kernel
theorem dL_join_3 : decode method_6_code 3 = .ok (.iload_n 1, 1) := by decide +kernel
theorem dL_join_4 : decode method_6_code 4 = .ok (.iload_n 2, 1) := by decide +kernel
theorem dL_join_5 : decode method_6_code 5 = .ok (.invokevirtual 27, 3) := by decide +kernel
theorem dL_join_20 : decode method_6_code 20 = .ok (.astore 4, 2) := by decide +kernel
theorem dL_join_22 : decode method_6_code 22 = .ok (.iconst 1, 1) := by decide +kernel
theorem dL_join_23 : decode method_6_code 23 = .ok (.ireturn, 1) := by decide +kernel
theorem dL_law_0 : decode code 0 = .ok (.new 8, 3) := by decide +kernel
theorem dL_law_3 : decode code 3 = .ok (.dup, 1) := by decide +kernel
theorem dL_law_4 : decode code 4 = .ok (.invokespecial 126, 3) := by decide +kernel
theorem dL_law_7 : decode code 7 = .ok (.astore_n 1, 1) := by decide +kernel
theorem dL_law_8 : decode code 8 = .ok (.new 127, 3) := by decide +kernel
theorem dL_law_11 : decode code 11 = .ok (.dup, 1) := by decide +kernel
theorem dL_law_12 : decode code 12 = .ok (.invokespecial 129, 3) := by decide +kernel
theorem dL_law_15 : decode code 15 = .ok (.astore_n 2, 1) := by decide +kernel
theorem dL_law_16 : decode code 16 = .ok (.iconst 1, 1) := by decide +kernel
theorem dL_law_17 : decode code 17 = .ok (.newarray .long, 2) := by decide +kernel
theorem dL_law_19 : decode code 19 = .ok (.astore_n 3, 1) := by decide +kernel
theorem dL_law_20 : decode code 20 = .ok (.iconst 1, 1) := by decide +kernel
theorem dL_law_21 : decode code 21 = .ok (.newarray .double, 2) := by decide +kernel
theorem dL_law_23 : decode code 23 = .ok (.astore 4, 2) := by decide +kernel
theorem dL_law_25 : decode code 25 = .ok (.iconst 0, 1) := by decide +kernel
theorem dL_law_26 : decode code 26 = .ok (.istore 5, 2) := by decide +kernel
theorem dL_law_28 : decode code 28 = .ok (.iload 5, 2) := by decide +kernel
theorem dL_law_30 : decode code 30 = .ok (.aload_n 0, 1) := by decide +kernel
theorem dL_law_31 : decode code 31 = .ok (.arraylength, 1) := by decide +kernel
theorem dL_law_32 : decode code 32 = .ok (.iconst 5, 1) := by decide +kernel
theorem dL_law_33 : decode code 33 = .ok (.isub, 1) := by decide +kernel
theorem dL_law_34 : decode code 34 = .ok (.if_icmp .gt 2250, 3) := by decide +kernel
theorem dL_law_37 : decode code 37 = .ok (.aload_n 0, 1) := by decide +kernel
theorem dL_law_38 : decode code 38 = .ok (.iload 5, 2) := by decide +kernel
theorem dL_law_40 : decode code 40 = .ok (.iaload, 1) := by decide +kernel
theorem dL_law_41 : decode code 41 = .ok (.bipush 63, 2) := by decide +kernel
theorem dL_law_43 : decode code 43 = .ok (.iand, 1) := by decide +kernel
theorem dL_law_44 : decode code 44 = .ok (.tableswitch 2234 0 35 #[160, 244, 352, 444, 519, 575, 650, 706, 788, 832, 845, 901, 957, 1013, 1076, 1139, 1195, 1258, 1314, 1389, 1445, 1508, 1571, 1627, 1683, 1739, 1795, 1851, 1931, 1987, 2050, 2063, 2076, 2090, 2156, 2221], 160) := by decide +kernel
theorem dL_law_204 : decode code 204 = .ok (.aload_n 1, 1) := by decide +kernel
theorem dL_law_205 : decode code 205 = .ok (.aload_n 0, 1) := by decide +kernel
theorem dL_law_206 : decode code 206 = .ok (.iload 5, 2) := by decide +kernel
theorem dL_law_208 : decode code 208 = .ok (.iconst 1, 1) := by decide +kernel
theorem dL_law_209 : decode code 209 = .ok (.iadd, 1) := by decide +kernel
theorem dL_law_210 : decode code 210 = .ok (.iaload, 1) := by decide +kernel
theorem dL_law_211 : decode code 211 = .ok (.ifCond .eq 7, 3) := by decide +kernel
theorem dL_law_214 : decode code 214 = .ok (.iconst 1, 1) := by decide +kernel
theorem dL_law_215 : decode code 215 = .ok (.goto 4, 3) := by decide +kernel
theorem dL_law_218 : decode code 218 = .ok (.iconst 0, 1) := by decide +kernel
theorem dL_law_219 : decode code 219 = .ok (.aload_n 0, 1) := by decide +kernel
theorem dL_law_220 : decode code 220 = .ok (.iload 5, 2) := by decide +kernel
theorem dL_law_222 : decode code 222 = .ok (.iconst 2, 1) := by decide +kernel
theorem dL_law_223 : decode code 223 = .ok (.iadd, 1) := by decide +kernel
theorem dL_law_224 : decode code 224 = .ok (.iaload, 1) := by decide +kernel
theorem dL_law_225 : decode code 225 = .ok (.aload_n 3, 1) := by decide +kernel
theorem dL_law_226 : decode code 226 = .ok (.invokestatic 130, 3) := by decide +kernel
theorem dL_law_229 : decode code 229 = .ok (.istore 6, 2) := by decide +kernel
theorem dL_law_231 : decode code 231 = .ok (.aload_n 2, 1) := by decide +kernel
theorem dL_law_232 : decode code 232 = .ok (.aload_n 0, 1) := by decide +kernel
theorem dL_law_233 : decode code 233 = .ok (.iload 5, 2) := by decide +kernel
theorem dL_law_235 : decode code 235 = .ok (.iconst 1, 1) := by decide +kernel
theorem dL_law_236 : decode code 236 = .ok (.iadd, 1) := by decide +kernel
theorem dL_law_237 : decode code 237 = .ok (.iaload, 1) := by decide +kernel
theorem dL_law_238 : decode code 238 = .ok (.ifCond .eq 7, 3) := by decide +kernel
theorem dL_law_241 : decode code 241 = .ok (.iconst 1, 1) := by decide +kernel
theorem dL_law_242 : decode code 242 = .ok (.goto 4, 3) := by decide +kernel
theorem dL_law_245 : decode code 245 = .ok (.iconst 0, 1) := by decide +kernel
theorem dL_law_246 : decode code 246 = .ok (.aload_n 0, 1) := by decide +kernel
theorem dL_law_247 : decode code 247 = .ok (.iload 5, 2) := by decide +kernel
theorem dL_law_249 : decode code 249 = .ok (.iconst 2, 1) := by decide +kernel
theorem dL_law_250 : decode code 250 = .ok (.iadd, 1) := by decide +kernel
theorem dL_law_251 : decode code 251 = .ok (.iaload, 1) := by decide +kernel
theorem dL_law_252 : decode code 252 = .ok (.invokevirtual 135, 3) := by decide +kernel
theorem dL_law_255 : decode code 255 = .ok (.istore 7, 2) := by decide +kernel
theorem dL_law_257 : decode code 257 = .ok (.aload_n 2, 1) := by decide +kernel
theorem dL_law_258 : decode code 258 = .ok (.invokevirtual 136, 3) := by decide +kernel
theorem dL_law_261 : decode code 261 = .ok (.iload 6, 2) := by decide +kernel
theorem dL_law_263 : decode code 263 = .ok (.if_icmp .eq 5, 3) := by decide +kernel
theorem dL_law_268 : decode code 268 = .ok (.iload 6, 2) := by decide +kernel
theorem dL_law_270 : decode code 270 = .ok (.ifCond .ne 15, 3) := by decide +kernel
theorem dL_law_273 : decode code 273 = .ok (.aload_n 3, 1) := by decide +kernel
theorem dL_law_274 : decode code 274 = .ok (.iconst 0, 1) := by decide +kernel
theorem dL_law_275 : decode code 275 = .ok (.laload, 1) := by decide +kernel
theorem dL_law_276 : decode code 276 = .ok (.iload 7, 2) := by decide +kernel
theorem dL_law_278 : decode code 278 = .ok (.i2l, 1) := by decide +kernel
theorem dL_law_279 : decode code 279 = .ok (.lcmp, 1) := by decide +kernel
theorem dL_law_280 : decode code 280 = .ok (.ifCond .eq 5, 3) := by decide +kernel
theorem dL_law_285 : decode code 285 = .ok (.goto 1993, 3) := by decide +kernel
theorem dL_law_288 : decode code 288 = .ok (.aload_n 1, 1) := by decide +kernel
theorem dL_law_289 : decode code 289 = .ok (.aload_n 0, 1) := by decide +kernel
theorem dL_law_290 : decode code 290 = .ok (.iload 5, 2) := by decide +kernel
theorem dL_law_292 : decode code 292 = .ok (.iconst 1, 1) := by decide +kernel
theorem dL_law_293 : decode code 293 = .ok (.iadd, 1) := by decide +kernel
theorem dL_law_294 : decode code 294 = .ok (.iaload, 1) := by decide +kernel
theorem dL_law_295 : decode code 295 = .ok (.aload_n 0, 1) := by decide +kernel
theorem dL_law_296 : decode code 296 = .ok (.iload 5, 2) := by decide +kernel
theorem dL_law_298 : decode code 298 = .ok (.iconst 2, 1) := by decide +kernel
theorem dL_law_299 : decode code 299 = .ok (.iadd, 1) := by decide +kernel
theorem dL_law_300 : decode code 300 = .ok (.iaload, 1) := by decide +kernel
theorem dL_law_301 : decode code 301 = .ok (.aload_n 0, 1) := by decide +kernel
theorem dL_law_302 : decode code 302 = .ok (.iload 5, 2) := by decide +kernel
theorem dL_law_304 : decode code 304 = .ok (.iconst 3, 1) := by decide +kernel
theorem dL_law_305 : decode code 305 = .ok (.iadd, 1) := by decide +kernel
theorem dL_law_306 : decode code 306 = .ok (.iaload, 1) := by decide +kernel
theorem dL_law_307 : decode code 307 = .ok (.aload_n 0, 1) := by decide +kernel
theorem dL_law_308 : decode code 308 = .ok (.iload 5, 2) := by decide +kernel
theorem dL_law_310 : decode code 310 = .ok (.iconst 4, 1) := by decide +kernel
theorem dL_law_311 : decode code 311 = .ok (.iadd, 1) := by decide +kernel
theorem dL_law_312 : decode code 312 = .ok (.iaload, 1) := by decide +kernel
theorem dL_law_313 : decode code 313 = .ok (.ifCond .eq 7, 3) := by decide +kernel
theorem dL_law_316 : decode code 316 = .ok (.iconst 1, 1) := by decide +kernel
theorem dL_law_317 : decode code 317 = .ok (.goto 4, 3) := by decide +kernel
theorem dL_law_320 : decode code 320 = .ok (.iconst 0, 1) := by decide +kernel
theorem dL_law_321 : decode code 321 = .ok (.aload_n 3, 1) := by decide +kernel
theorem dL_law_322 : decode code 322 = .ok (.invokestatic 139, 3) := by decide +kernel
theorem dL_law_325 : decode code 325 = .ok (.istore 6, 2) := by decide +kernel
theorem dL_law_327 : decode code 327 = .ok (.aload_n 2, 1) := by decide +kernel
theorem dL_law_328 : decode code 328 = .ok (.aload_n 0, 1) := by decide +kernel
theorem dL_law_329 : decode code 329 = .ok (.iload 5, 2) := by decide +kernel
theorem dL_law_331 : decode code 331 = .ok (.iconst 1, 1) := by decide +kernel
theorem dL_law_332 : decode code 332 = .ok (.iadd, 1) := by decide +kernel
theorem dL_law_333 : decode code 333 = .ok (.iaload, 1) := by decide +kernel
theorem dL_law_334 : decode code 334 = .ok (.aload_n 0, 1) := by decide +kernel
theorem dL_law_335 : decode code 335 = .ok (.iload 5, 2) := by decide +kernel
theorem dL_law_337 : decode code 337 = .ok (.iconst 2, 1) := by decide +kernel
theorem dL_law_338 : decode code 338 = .ok (.iadd, 1) := by decide +kernel
theorem dL_law_339 : decode code 339 = .ok (.iaload, 1) := by decide +kernel
theorem dL_law_340 : decode code 340 = .ok (.aload_n 0, 1) := by decide +kernel
theorem dL_law_341 : decode code 341 = .ok (.iload 5, 2) := by decide +kernel
theorem dL_law_343 : decode code 343 = .ok (.iconst 3, 1) := by decide +kernel
theorem dL_law_344 : decode code 344 = .ok (.iadd, 1) := by decide +kernel
theorem dL_law_345 : decode code 345 = .ok (.iaload, 1) := by decide +kernel
theorem dL_law_346 : decode code 346 = .ok (.aload_n 0, 1) := by decide +kernel
theorem dL_law_347 : decode code 347 = .ok (.iload 5, 2) := by decide +kernel
theorem dL_law_349 : decode code 349 = .ok (.iconst 4, 1) := by decide +kernel
theorem dL_law_350 : decode code 350 = .ok (.iadd, 1) := by decide +kernel
theorem dL_law_351 : decode code 351 = .ok (.iaload, 1) := by decide +kernel
theorem dL_law_352 : decode code 352 = .ok (.ifCond .eq 7, 3) := by decide +kernel
theorem dL_law_355 : decode code 355 = .ok (.iconst 1, 1) := by decide +kernel
theorem dL_law_356 : decode code 356 = .ok (.goto 4, 3) := by decide +kernel
theorem dL_law_359 : decode code 359 = .ok (.iconst 0, 1) := by decide +kernel
theorem dL_law_360 : decode code 360 = .ok (.invokevirtual 142, 3) := by decide +kernel
theorem dL_law_363 : decode code 363 = .ok (.istore 7, 2) := by decide +kernel
theorem dL_law_365 : decode code 365 = .ok (.aload_n 2, 1) := by decide +kernel
theorem dL_law_366 : decode code 366 = .ok (.invokevirtual 136, 3) := by decide +kernel
theorem dL_law_369 : decode code 369 = .ok (.iload 6, 2) := by decide +kernel
theorem dL_law_371 : decode code 371 = .ok (.if_icmp .eq 5, 3) := by decide +kernel
theorem dL_law_376 : decode code 376 = .ok (.iload 6, 2) := by decide +kernel
theorem dL_law_378 : decode code 378 = .ok (.ifCond .ne 15, 3) := by decide +kernel
theorem dL_law_393 : decode code 393 = .ok (.goto 1885, 3) := by decide +kernel
theorem dL_law_396 : decode code 396 = .ok (.aload_n 1, 1) := by decide +kernel
theorem dL_law_397 : decode code 397 = .ok (.aload_n 0, 1) := by decide +kernel
theorem dL_law_398 : decode code 398 = .ok (.iload 5, 2) := by decide +kernel
theorem dL_law_400 : decode code 400 = .ok (.iconst 1, 1) := by decide +kernel
theorem dL_law_401 : decode code 401 = .ok (.iadd, 1) := by decide +kernel
theorem dL_law_402 : decode code 402 = .ok (.iaload, 1) := by decide +kernel
theorem dL_law_403 : decode code 403 = .ok (.aload_n 0, 1) := by decide +kernel
theorem dL_law_404 : decode code 404 = .ok (.iload 5, 2) := by decide +kernel
theorem dL_law_406 : decode code 406 = .ok (.iconst 2, 1) := by decide +kernel
theorem dL_law_407 : decode code 407 = .ok (.iadd, 1) := by decide +kernel
theorem dL_law_408 : decode code 408 = .ok (.iaload, 1) := by decide +kernel
theorem dL_law_409 : decode code 409 = .ok (.aload_n 0, 1) := by decide +kernel
theorem dL_law_410 : decode code 410 = .ok (.iload 5, 2) := by decide +kernel
theorem dL_law_412 : decode code 412 = .ok (.iconst 3, 1) := by decide +kernel
theorem dL_law_413 : decode code 413 = .ok (.iadd, 1) := by decide +kernel
theorem dL_law_414 : decode code 414 = .ok (.iaload, 1) := by decide +kernel
theorem dL_law_415 : decode code 415 = .ok (.aload_n 0, 1) := by decide +kernel
theorem dL_law_416 : decode code 416 = .ok (.iload 5, 2) := by decide +kernel
theorem dL_law_418 : decode code 418 = .ok (.iconst 4, 1) := by decide +kernel
theorem dL_law_419 : decode code 419 = .ok (.iadd, 1) := by decide +kernel
theorem dL_law_420 : decode code 420 = .ok (.iaload, 1) := by decide +kernel
theorem dL_law_421 : decode code 421 = .ok (.aload_n 3, 1) := by decide +kernel
theorem dL_law_422 : decode code 422 = .ok (.invokestatic 143, 3) := by decide +kernel
theorem dL_law_425 : decode code 425 = .ok (.istore 6, 2) := by decide +kernel
theorem dL_law_427 : decode code 427 = .ok (.aload_n 2, 1) := by decide +kernel
theorem dL_law_428 : decode code 428 = .ok (.aload_n 0, 1) := by decide +kernel
theorem dL_law_429 : decode code 429 = .ok (.iload 5, 2) := by decide +kernel
theorem dL_law_431 : decode code 431 = .ok (.iconst 1, 1) := by decide +kernel
theorem dL_law_432 : decode code 432 = .ok (.iadd, 1) := by decide +kernel
theorem dL_law_433 : decode code 433 = .ok (.iaload, 1) := by decide +kernel
theorem dL_law_434 : decode code 434 = .ok (.aload_n 0, 1) := by decide +kernel
theorem dL_law_435 : decode code 435 = .ok (.iload 5, 2) := by decide +kernel
theorem dL_law_437 : decode code 437 = .ok (.iconst 2, 1) := by decide +kernel
theorem dL_law_438 : decode code 438 = .ok (.iadd, 1) := by decide +kernel
theorem dL_law_439 : decode code 439 = .ok (.iaload, 1) := by decide +kernel
theorem dL_law_440 : decode code 440 = .ok (.aload_n 0, 1) := by decide +kernel
theorem dL_law_441 : decode code 441 = .ok (.iload 5, 2) := by decide +kernel
theorem dL_law_443 : decode code 443 = .ok (.iconst 3, 1) := by decide +kernel
theorem dL_law_444 : decode code 444 = .ok (.iadd, 1) := by decide +kernel
theorem dL_law_445 : decode code 445 = .ok (.iaload, 1) := by decide +kernel
theorem dL_law_446 : decode code 446 = .ok (.aload_n 0, 1) := by decide +kernel
theorem dL_law_447 : decode code 447 = .ok (.iload 5, 2) := by decide +kernel
theorem dL_law_449 : decode code 449 = .ok (.iconst 4, 1) := by decide +kernel
theorem dL_law_450 : decode code 450 = .ok (.iadd, 1) := by decide +kernel
theorem dL_law_451 : decode code 451 = .ok (.iaload, 1) := by decide +kernel
theorem dL_law_452 : decode code 452 = .ok (.invokevirtual 146, 3) := by decide +kernel
theorem dL_law_455 : decode code 455 = .ok (.istore 7, 2) := by decide +kernel
theorem dL_law_457 : decode code 457 = .ok (.aload_n 2, 1) := by decide +kernel
theorem dL_law_458 : decode code 458 = .ok (.invokevirtual 136, 3) := by decide +kernel
theorem dL_law_461 : decode code 461 = .ok (.iload 6, 2) := by decide +kernel
theorem dL_law_463 : decode code 463 = .ok (.if_icmp .eq 5, 3) := by decide +kernel
theorem dL_law_468 : decode code 468 = .ok (.iload 6, 2) := by decide +kernel
theorem dL_law_470 : decode code 470 = .ok (.ifCond .ne 15, 3) := by decide +kernel
theorem dL_law_485 : decode code 485 = .ok (.goto 1793, 3) := by decide +kernel
theorem dL_law_488 : decode code 488 = .ok (.aload_n 1, 1) := by decide +kernel
theorem dL_law_489 : decode code 489 = .ok (.aload_n 0, 1) := by decide +kernel
theorem dL_law_490 : decode code 490 = .ok (.iload 5, 2) := by decide +kernel
theorem dL_law_492 : decode code 492 = .ok (.iconst 1, 1) := by decide +kernel
theorem dL_law_493 : decode code 493 = .ok (.iadd, 1) := by decide +kernel
theorem dL_law_494 : decode code 494 = .ok (.iaload, 1) := by decide +kernel
theorem dL_law_495 : decode code 495 = .ok (.aload_n 0, 1) := by decide +kernel
theorem dL_law_496 : decode code 496 = .ok (.iload 5, 2) := by decide +kernel
theorem dL_law_498 : decode code 498 = .ok (.iconst 2, 1) := by decide +kernel
theorem dL_law_499 : decode code 499 = .ok (.iadd, 1) := by decide +kernel
theorem dL_law_500 : decode code 500 = .ok (.iaload, 1) := by decide +kernel
theorem dL_law_501 : decode code 501 = .ok (.aload_n 3, 1) := by decide +kernel
theorem dL_law_502 : decode code 502 = .ok (.invokestatic 147, 3) := by decide +kernel
theorem dL_law_505 : decode code 505 = .ok (.istore 6, 2) := by decide +kernel
theorem dL_law_507 : decode code 507 = .ok (.aload_n 2, 1) := by decide +kernel
theorem dL_law_508 : decode code 508 = .ok (.aload_n 0, 1) := by decide +kernel
theorem dL_law_509 : decode code 509 = .ok (.iload 5, 2) := by decide +kernel
theorem dL_law_511 : decode code 511 = .ok (.iconst 1, 1) := by decide +kernel
theorem dL_law_512 : decode code 512 = .ok (.iadd, 1) := by decide +kernel
theorem dL_law_513 : decode code 513 = .ok (.iaload, 1) := by decide +kernel
theorem dL_law_514 : decode code 514 = .ok (.aload_n 0, 1) := by decide +kernel
theorem dL_law_515 : decode code 515 = .ok (.iload 5, 2) := by decide +kernel
theorem dL_law_517 : decode code 517 = .ok (.iconst 2, 1) := by decide +kernel
theorem dL_law_518 : decode code 518 = .ok (.iadd, 1) := by decide +kernel
theorem dL_law_519 : decode code 519 = .ok (.iaload, 1) := by decide +kernel
theorem dL_law_520 : decode code 520 = .ok (.invokevirtual 150, 3) := by decide +kernel
theorem dL_law_523 : decode code 523 = .ok (.istore 7, 2) := by decide +kernel
theorem dL_law_525 : decode code 525 = .ok (.aload_n 2, 1) := by decide +kernel
theorem dL_law_526 : decode code 526 = .ok (.invokevirtual 136, 3) := by decide +kernel
theorem dL_law_529 : decode code 529 = .ok (.iload 6, 2) := by decide +kernel
theorem dL_law_531 : decode code 531 = .ok (.if_icmp .eq 5, 3) := by decide +kernel
theorem dL_law_536 : decode code 536 = .ok (.iload 6, 2) := by decide +kernel
theorem dL_law_538 : decode code 538 = .ok (.ifCond .ne 22, 3) := by decide +kernel
theorem dL_law_560 : decode code 560 = .ok (.goto 1718, 3) := by decide +kernel
theorem dL_law_563 : decode code 563 = .ok (.aload_n 1, 1) := by decide +kernel
theorem dL_law_564 : decode code 564 = .ok (.aload_n 0, 1) := by decide +kernel
theorem dL_law_565 : decode code 565 = .ok (.iload 5, 2) := by decide +kernel
theorem dL_law_567 : decode code 567 = .ok (.iconst 1, 1) := by decide +kernel
theorem dL_law_568 : decode code 568 = .ok (.iadd, 1) := by decide +kernel
theorem dL_law_569 : decode code 569 = .ok (.iaload, 1) := by decide +kernel
theorem dL_law_570 : decode code 570 = .ok (.aload_n 3, 1) := by decide +kernel
theorem dL_law_571 : decode code 571 = .ok (.invokestatic 151, 3) := by decide +kernel
theorem dL_law_574 : decode code 574 = .ok (.istore 6, 2) := by decide +kernel
theorem dL_law_576 : decode code 576 = .ok (.aload_n 2, 1) := by decide +kernel
theorem dL_law_577 : decode code 577 = .ok (.aload_n 0, 1) := by decide +kernel
theorem dL_law_578 : decode code 578 = .ok (.iload 5, 2) := by decide +kernel
theorem dL_law_580 : decode code 580 = .ok (.iconst 1, 1) := by decide +kernel
theorem dL_law_581 : decode code 581 = .ok (.iadd, 1) := by decide +kernel
theorem dL_law_582 : decode code 582 = .ok (.iaload, 1) := by decide +kernel
theorem dL_law_583 : decode code 583 = .ok (.invokevirtual 154, 3) := by decide +kernel
theorem dL_law_586 : decode code 586 = .ok (.istore 7, 2) := by decide +kernel
theorem dL_law_588 : decode code 588 = .ok (.aload_n 2, 1) := by decide +kernel
theorem dL_law_589 : decode code 589 = .ok (.invokevirtual 136, 3) := by decide +kernel
theorem dL_law_592 : decode code 592 = .ok (.iload 6, 2) := by decide +kernel
theorem dL_law_594 : decode code 594 = .ok (.if_icmp .eq 5, 3) := by decide +kernel
theorem dL_law_599 : decode code 599 = .ok (.iload 6, 2) := by decide +kernel
theorem dL_law_601 : decode code 601 = .ok (.ifCond .ne 15, 3) := by decide +kernel
theorem dL_law_604 : decode code 604 = .ok (.aload_n 3, 1) := by decide +kernel
theorem dL_law_605 : decode code 605 = .ok (.iconst 0, 1) := by decide +kernel
theorem dL_law_606 : decode code 606 = .ok (.laload, 1) := by decide +kernel
theorem dL_law_607 : decode code 607 = .ok (.iload 7, 2) := by decide +kernel
theorem dL_law_609 : decode code 609 = .ok (.i2l, 1) := by decide +kernel
theorem dL_law_610 : decode code 610 = .ok (.lcmp, 1) := by decide +kernel
theorem dL_law_611 : decode code 611 = .ok (.ifCond .eq 5, 3) := by decide +kernel
theorem dL_law_616 : decode code 616 = .ok (.goto 1662, 3) := by decide +kernel
theorem dL_law_619 : decode code 619 = .ok (.aload_n 1, 1) := by decide +kernel
theorem dL_law_620 : decode code 620 = .ok (.aload_n 0, 1) := by decide +kernel
theorem dL_law_621 : decode code 621 = .ok (.iload 5, 2) := by decide +kernel
theorem dL_law_623 : decode code 623 = .ok (.iconst 1, 1) := by decide +kernel
theorem dL_law_624 : decode code 624 = .ok (.iadd, 1) := by decide +kernel
theorem dL_law_625 : decode code 625 = .ok (.iaload, 1) := by decide +kernel
theorem dL_law_626 : decode code 626 = .ok (.aload_n 0, 1) := by decide +kernel
theorem dL_law_627 : decode code 627 = .ok (.iload 5, 2) := by decide +kernel
theorem dL_law_629 : decode code 629 = .ok (.iconst 2, 1) := by decide +kernel
theorem dL_law_630 : decode code 630 = .ok (.iadd, 1) := by decide +kernel
theorem dL_law_631 : decode code 631 = .ok (.iaload, 1) := by decide +kernel
theorem dL_law_632 : decode code 632 = .ok (.aload_n 3, 1) := by decide +kernel
theorem dL_law_633 : decode code 633 = .ok (.invokestatic 155, 3) := by decide +kernel
theorem dL_law_636 : decode code 636 = .ok (.istore 6, 2) := by decide +kernel
theorem dL_law_638 : decode code 638 = .ok (.aload_n 2, 1) := by decide +kernel
theorem dL_law_639 : decode code 639 = .ok (.aload_n 0, 1) := by decide +kernel
theorem dL_law_640 : decode code 640 = .ok (.iload 5, 2) := by decide +kernel
theorem dL_law_642 : decode code 642 = .ok (.iconst 1, 1) := by decide +kernel
theorem dL_law_643 : decode code 643 = .ok (.iadd, 1) := by decide +kernel
theorem dL_law_644 : decode code 644 = .ok (.iaload, 1) := by decide +kernel
theorem dL_law_645 : decode code 645 = .ok (.aload_n 0, 1) := by decide +kernel
theorem dL_law_646 : decode code 646 = .ok (.iload 5, 2) := by decide +kernel
theorem dL_law_648 : decode code 648 = .ok (.iconst 2, 1) := by decide +kernel
theorem dL_law_649 : decode code 649 = .ok (.iadd, 1) := by decide +kernel
theorem dL_law_650 : decode code 650 = .ok (.iaload, 1) := by decide +kernel
theorem dL_law_651 : decode code 651 = .ok (.invokevirtual 157, 3) := by decide +kernel
theorem dL_law_654 : decode code 654 = .ok (.istore 7, 2) := by decide +kernel
theorem dL_law_656 : decode code 656 = .ok (.aload_n 2, 1) := by decide +kernel
theorem dL_law_657 : decode code 657 = .ok (.invokevirtual 136, 3) := by decide +kernel
theorem dL_law_660 : decode code 660 = .ok (.iload 6, 2) := by decide +kernel
theorem dL_law_662 : decode code 662 = .ok (.if_icmp .eq 5, 3) := by decide +kernel
theorem dL_law_667 : decode code 667 = .ok (.iload 6, 2) := by decide +kernel
theorem dL_law_669 : decode code 669 = .ok (.ifCond .ne 22, 3) := by decide +kernel
theorem dL_law_691 : decode code 691 = .ok (.goto 1587, 3) := by decide +kernel
theorem dL_law_694 : decode code 694 = .ok (.aload_n 1, 1) := by decide +kernel
theorem dL_law_695 : decode code 695 = .ok (.aload_n 0, 1) := by decide +kernel
theorem dL_law_696 : decode code 696 = .ok (.iload 5, 2) := by decide +kernel
theorem dL_law_698 : decode code 698 = .ok (.iconst 1, 1) := by decide +kernel
theorem dL_law_699 : decode code 699 = .ok (.iadd, 1) := by decide +kernel
theorem dL_law_700 : decode code 700 = .ok (.iaload, 1) := by decide +kernel
theorem dL_law_701 : decode code 701 = .ok (.aload_n 3, 1) := by decide +kernel
theorem dL_law_702 : decode code 702 = .ok (.invokestatic 158, 3) := by decide +kernel
theorem dL_law_705 : decode code 705 = .ok (.istore 6, 2) := by decide +kernel
theorem dL_law_707 : decode code 707 = .ok (.aload_n 2, 1) := by decide +kernel
theorem dL_law_708 : decode code 708 = .ok (.aload_n 0, 1) := by decide +kernel
theorem dL_law_709 : decode code 709 = .ok (.iload 5, 2) := by decide +kernel
theorem dL_law_711 : decode code 711 = .ok (.iconst 1, 1) := by decide +kernel
theorem dL_law_712 : decode code 712 = .ok (.iadd, 1) := by decide +kernel
theorem dL_law_713 : decode code 713 = .ok (.iaload, 1) := by decide +kernel
theorem dL_law_714 : decode code 714 = .ok (.invokevirtual 160, 3) := by decide +kernel
theorem dL_law_717 : decode code 717 = .ok (.istore 7, 2) := by decide +kernel
theorem dL_law_719 : decode code 719 = .ok (.aload_n 2, 1) := by decide +kernel
theorem dL_law_720 : decode code 720 = .ok (.invokevirtual 136, 3) := by decide +kernel
theorem dL_law_723 : decode code 723 = .ok (.iload 6, 2) := by decide +kernel
theorem dL_law_725 : decode code 725 = .ok (.if_icmp .eq 5, 3) := by decide +kernel
theorem dL_law_730 : decode code 730 = .ok (.iload 6, 2) := by decide +kernel
theorem dL_law_732 : decode code 732 = .ok (.ifCond .ne 15, 3) := by decide +kernel
theorem dL_law_747 : decode code 747 = .ok (.goto 1531, 3) := by decide +kernel
theorem dL_law_750 : decode code 750 = .ok (.aload_n 1, 1) := by decide +kernel
theorem dL_law_751 : decode code 751 = .ok (.aload_n 0, 1) := by decide +kernel
theorem dL_law_752 : decode code 752 = .ok (.iload 5, 2) := by decide +kernel
theorem dL_law_754 : decode code 754 = .ok (.iconst 1, 1) := by decide +kernel
theorem dL_law_755 : decode code 755 = .ok (.iadd, 1) := by decide +kernel
theorem dL_law_756 : decode code 756 = .ok (.iaload, 1) := by decide +kernel
theorem dL_law_757 : decode code 757 = .ok (.i2c, 1) := by decide +kernel
theorem dL_law_758 : decode code 758 = .ok (.aload_n 0, 1) := by decide +kernel
theorem dL_law_759 : decode code 759 = .ok (.iload 5, 2) := by decide +kernel
theorem dL_law_761 : decode code 761 = .ok (.iconst 2, 1) := by decide +kernel
theorem dL_law_762 : decode code 762 = .ok (.iadd, 1) := by decide +kernel
theorem dL_law_763 : decode code 763 = .ok (.iaload, 1) := by decide +kernel
theorem dL_law_764 : decode code 764 = .ok (.aload_n 0, 1) := by decide +kernel
theorem dL_law_765 : decode code 765 = .ok (.iload 5, 2) := by decide +kernel
theorem dL_law_767 : decode code 767 = .ok (.iconst 3, 1) := by decide +kernel
theorem dL_law_768 : decode code 768 = .ok (.iadd, 1) := by decide +kernel
theorem dL_law_769 : decode code 769 = .ok (.iaload, 1) := by decide +kernel
theorem dL_law_770 : decode code 770 = .ok (.aload_n 3, 1) := by decide +kernel
theorem dL_law_771 : decode code 771 = .ok (.invokestatic 161, 3) := by decide +kernel
theorem dL_law_774 : decode code 774 = .ok (.istore 6, 2) := by decide +kernel
theorem dL_law_776 : decode code 776 = .ok (.aload_n 2, 1) := by decide +kernel
theorem dL_law_777 : decode code 777 = .ok (.aload_n 0, 1) := by decide +kernel
theorem dL_law_778 : decode code 778 = .ok (.iload 5, 2) := by decide +kernel
theorem dL_law_780 : decode code 780 = .ok (.iconst 1, 1) := by decide +kernel
theorem dL_law_781 : decode code 781 = .ok (.iadd, 1) := by decide +kernel
theorem dL_law_782 : decode code 782 = .ok (.iaload, 1) := by decide +kernel
theorem dL_law_783 : decode code 783 = .ok (.i2c, 1) := by decide +kernel
theorem dL_law_784 : decode code 784 = .ok (.aload_n 0, 1) := by decide +kernel
theorem dL_law_785 : decode code 785 = .ok (.iload 5, 2) := by decide +kernel
theorem dL_law_787 : decode code 787 = .ok (.iconst 2, 1) := by decide +kernel
theorem dL_law_788 : decode code 788 = .ok (.iadd, 1) := by decide +kernel
theorem dL_law_789 : decode code 789 = .ok (.iaload, 1) := by decide +kernel
theorem dL_law_790 : decode code 790 = .ok (.aload_n 0, 1) := by decide +kernel
theorem dL_law_791 : decode code 791 = .ok (.iload 5, 2) := by decide +kernel
theorem dL_law_793 : decode code 793 = .ok (.iconst 3, 1) := by decide +kernel
theorem dL_law_794 : decode code 794 = .ok (.iadd, 1) := by decide +kernel
theorem dL_law_795 : decode code 795 = .ok (.iaload, 1) := by decide +kernel
theorem dL_law_796 : decode code 796 = .ok (.invokevirtual 164, 3) := by decide +kernel
theorem dL_law_799 : decode code 799 = .ok (.istore 7, 2) := by decide +kernel
theorem dL_law_801 : decode code 801 = .ok (.aload_n 2, 1) := by decide +kernel
theorem dL_law_802 : decode code 802 = .ok (.invokevirtual 136, 3) := by decide +kernel
theorem dL_law_805 : decode code 805 = .ok (.iload 6, 2) := by decide +kernel
theorem dL_law_807 : decode code 807 = .ok (.if_icmp .eq 5, 3) := by decide +kernel
theorem dL_law_812 : decode code 812 = .ok (.iload 6, 2) := by decide +kernel
theorem dL_law_814 : decode code 814 = .ok (.ifCond .ne 15, 3) := by decide +kernel
theorem dL_law_829 : decode code 829 = .ok (.goto 1449, 3) := by decide +kernel
theorem dL_law_832 : decode code 832 = .ok (.aload_n 1, 1) := by decide +kernel
theorem dL_law_833 : decode code 833 = .ok (.aload_n 3, 1) := by decide +kernel
theorem dL_law_834 : decode code 834 = .ok (.invokestatic 165, 3) := by decide +kernel
theorem dL_law_837 : decode code 837 = .ok (.istore 6, 2) := by decide +kernel
theorem dL_law_839 : decode code 839 = .ok (.aload_n 2, 1) := by decide +kernel
theorem dL_law_840 : decode code 840 = .ok (.invokevirtual 168, 3) := by decide +kernel
theorem dL_law_843 : decode code 843 = .ok (.istore 7, 2) := by decide +kernel
theorem dL_law_845 : decode code 845 = .ok (.aload_n 2, 1) := by decide +kernel
theorem dL_law_846 : decode code 846 = .ok (.invokevirtual 136, 3) := by decide +kernel
theorem dL_law_849 : decode code 849 = .ok (.iload 6, 2) := by decide +kernel
theorem dL_law_851 : decode code 851 = .ok (.if_icmp .eq 5, 3) := by decide +kernel
theorem dL_law_856 : decode code 856 = .ok (.iload 6, 2) := by decide +kernel
theorem dL_law_858 : decode code 858 = .ok (.ifCond .ne 15, 3) := by decide +kernel
theorem dL_law_873 : decode code 873 = .ok (.goto 1405, 3) := by decide +kernel
theorem dL_law_876 : decode code 876 = .ok (.aload_n 1, 1) := by decide +kernel
theorem dL_law_877 : decode code 877 = .ok (.invokevirtual 169, 3) := by decide +kernel
theorem dL_law_880 : decode code 880 = .ok (.aload_n 2, 1) := by decide +kernel
theorem dL_law_881 : decode code 881 = .ok (.invokevirtual 172, 3) := by decide +kernel
theorem dL_law_884 : decode code 884 = .ok (.if_icmp .eq 1394, 3) := by decide +kernel
theorem dL_law_889 : decode code 889 = .ok (.aload_n 1, 1) := by decide +kernel
theorem dL_law_890 : decode code 890 = .ok (.aload_n 0, 1) := by decide +kernel
theorem dL_law_891 : decode code 891 = .ok (.iload 5, 2) := by decide +kernel
theorem dL_law_893 : decode code 893 = .ok (.iconst 1, 1) := by decide +kernel
theorem dL_law_894 : decode code 894 = .ok (.iadd, 1) := by decide +kernel
theorem dL_law_895 : decode code 895 = .ok (.iaload, 1) := by decide +kernel
theorem dL_law_896 : decode code 896 = .ok (.aload_n 3, 1) := by decide +kernel
theorem dL_law_897 : decode code 897 = .ok (.invokestatic 173, 3) := by decide +kernel
theorem dL_law_900 : decode code 900 = .ok (.istore 6, 2) := by decide +kernel
theorem dL_law_902 : decode code 902 = .ok (.aload_n 2, 1) := by decide +kernel
theorem dL_law_903 : decode code 903 = .ok (.aload_n 0, 1) := by decide +kernel
theorem dL_law_904 : decode code 904 = .ok (.iload 5, 2) := by decide +kernel
theorem dL_law_906 : decode code 906 = .ok (.iconst 1, 1) := by decide +kernel
theorem dL_law_907 : decode code 907 = .ok (.iadd, 1) := by decide +kernel
theorem dL_law_908 : decode code 908 = .ok (.iaload, 1) := by decide +kernel
theorem dL_law_909 : decode code 909 = .ok (.invokevirtual 175, 3) := by decide +kernel
theorem dL_law_912 : decode code 912 = .ok (.istore 7, 2) := by decide +kernel
theorem dL_law_914 : decode code 914 = .ok (.aload_n 2, 1) := by decide +kernel
theorem dL_law_915 : decode code 915 = .ok (.invokevirtual 136, 3) := by decide +kernel
theorem dL_law_918 : decode code 918 = .ok (.iload 6, 2) := by decide +kernel
theorem dL_law_920 : decode code 920 = .ok (.if_icmp .eq 5, 3) := by decide +kernel
theorem dL_law_925 : decode code 925 = .ok (.iload 6, 2) := by decide +kernel
theorem dL_law_927 : decode code 927 = .ok (.ifCond .ne 15, 3) := by decide +kernel
theorem dL_law_942 : decode code 942 = .ok (.goto 1336, 3) := by decide +kernel
theorem dL_law_945 : decode code 945 = .ok (.aload_n 1, 1) := by decide +kernel
theorem dL_law_946 : decode code 946 = .ok (.aload_n 0, 1) := by decide +kernel
theorem dL_law_947 : decode code 947 = .ok (.iload 5, 2) := by decide +kernel
theorem dL_law_949 : decode code 949 = .ok (.iconst 1, 1) := by decide +kernel
theorem dL_law_950 : decode code 950 = .ok (.iadd, 1) := by decide +kernel
theorem dL_law_951 : decode code 951 = .ok (.iaload, 1) := by decide +kernel
theorem dL_law_952 : decode code 952 = .ok (.aload_n 3, 1) := by decide +kernel
theorem dL_law_953 : decode code 953 = .ok (.invokestatic 176, 3) := by decide +kernel
theorem dL_law_956 : decode code 956 = .ok (.istore 6, 2) := by decide +kernel
theorem dL_law_958 : decode code 958 = .ok (.aload_n 2, 1) := by decide +kernel
theorem dL_law_959 : decode code 959 = .ok (.aload_n 0, 1) := by decide +kernel
theorem dL_law_960 : decode code 960 = .ok (.iload 5, 2) := by decide +kernel
theorem dL_law_962 : decode code 962 = .ok (.iconst 1, 1) := by decide +kernel
theorem dL_law_963 : decode code 963 = .ok (.iadd, 1) := by decide +kernel
theorem dL_law_964 : decode code 964 = .ok (.iaload, 1) := by decide +kernel
theorem dL_law_965 : decode code 965 = .ok (.invokevirtual 178, 3) := by decide +kernel
theorem dL_law_968 : decode code 968 = .ok (.istore 7, 2) := by decide +kernel
theorem dL_law_970 : decode code 970 = .ok (.aload_n 2, 1) := by decide +kernel
theorem dL_law_971 : decode code 971 = .ok (.invokevirtual 136, 3) := by decide +kernel
theorem dL_law_974 : decode code 974 = .ok (.iload 6, 2) := by decide +kernel
theorem dL_law_976 : decode code 976 = .ok (.if_icmp .eq 5, 3) := by decide +kernel
theorem dL_law_981 : decode code 981 = .ok (.iload 6, 2) := by decide +kernel
theorem dL_law_983 : decode code 983 = .ok (.ifCond .ne 15, 3) := by decide +kernel
theorem dL_law_998 : decode code 998 = .ok (.goto 1280, 3) := by decide +kernel
theorem dL_law_1001 : decode code 1001 = .ok (.aload_n 1, 1) := by decide +kernel
theorem dL_law_1002 : decode code 1002 = .ok (.aload_n 0, 1) := by decide +kernel
theorem dL_law_1003 : decode code 1003 = .ok (.iload 5, 2) := by decide +kernel
theorem dL_law_1005 : decode code 1005 = .ok (.iconst 1, 1) := by decide +kernel
theorem dL_law_1006 : decode code 1006 = .ok (.iadd, 1) := by decide +kernel
theorem dL_law_1007 : decode code 1007 = .ok (.iaload, 1) := by decide +kernel
theorem dL_law_1008 : decode code 1008 = .ok (.aload_n 3, 1) := by decide +kernel
theorem dL_law_1009 : decode code 1009 = .ok (.invokestatic 179, 3) := by decide +kernel
theorem dL_law_1012 : decode code 1012 = .ok (.istore 6, 2) := by decide +kernel
theorem dL_law_1014 : decode code 1014 = .ok (.aload_n 2, 1) := by decide +kernel
theorem dL_law_1015 : decode code 1015 = .ok (.aload_n 0, 1) := by decide +kernel
theorem dL_law_1016 : decode code 1016 = .ok (.iload 5, 2) := by decide +kernel
theorem dL_law_1018 : decode code 1018 = .ok (.iconst 1, 1) := by decide +kernel
theorem dL_law_1019 : decode code 1019 = .ok (.iadd, 1) := by decide +kernel
theorem dL_law_1020 : decode code 1020 = .ok (.iaload, 1) := by decide +kernel
theorem dL_law_1021 : decode code 1021 = .ok (.invokevirtual 181, 3) := by decide +kernel
theorem dL_law_1024 : decode code 1024 = .ok (.istore 7, 2) := by decide +kernel
theorem dL_law_1026 : decode code 1026 = .ok (.aload_n 2, 1) := by decide +kernel
theorem dL_law_1027 : decode code 1027 = .ok (.invokevirtual 136, 3) := by decide +kernel
theorem dL_law_1030 : decode code 1030 = .ok (.iload 6, 2) := by decide +kernel
theorem dL_law_1032 : decode code 1032 = .ok (.if_icmp .eq 5, 3) := by decide +kernel
theorem dL_law_1037 : decode code 1037 = .ok (.iload 6, 2) := by decide +kernel
theorem dL_law_1039 : decode code 1039 = .ok (.ifCond .ne 15, 3) := by decide +kernel
theorem dL_law_1054 : decode code 1054 = .ok (.goto 1224, 3) := by decide +kernel
theorem dL_law_1057 : decode code 1057 = .ok (.aload_n 1, 1) := by decide +kernel
theorem dL_law_1058 : decode code 1058 = .ok (.aload_n 0, 1) := by decide +kernel
theorem dL_law_1059 : decode code 1059 = .ok (.iload 5, 2) := by decide +kernel
theorem dL_law_1061 : decode code 1061 = .ok (.iconst 1, 1) := by decide +kernel
theorem dL_law_1062 : decode code 1062 = .ok (.iadd, 1) := by decide +kernel
theorem dL_law_1063 : decode code 1063 = .ok (.iaload, 1) := by decide +kernel
theorem dL_law_1064 : decode code 1064 = .ok (.aload_n 3, 1) := by decide +kernel
theorem dL_law_1065 : decode code 1065 = .ok (.invokestatic 182, 3) := by decide +kernel
theorem dL_law_1068 : decode code 1068 = .ok (.istore 6, 2) := by decide +kernel
theorem dL_law_1070 : decode code 1070 = .ok (.aload_n 2, 1) := by decide +kernel
theorem dL_law_1071 : decode code 1071 = .ok (.aload_n 0, 1) := by decide +kernel
theorem dL_law_1072 : decode code 1072 = .ok (.iload 5, 2) := by decide +kernel
theorem dL_law_1074 : decode code 1074 = .ok (.iconst 1, 1) := by decide +kernel
theorem dL_law_1075 : decode code 1075 = .ok (.iadd, 1) := by decide +kernel
theorem dL_law_1076 : decode code 1076 = .ok (.iaload, 1) := by decide +kernel
theorem dL_law_1077 : decode code 1077 = .ok (.invokevirtual 184, 3) := by decide +kernel
theorem dL_law_1080 : decode code 1080 = .ok (.istore 7, 2) := by decide +kernel
theorem dL_law_1082 : decode code 1082 = .ok (.aload_n 2, 1) := by decide +kernel
theorem dL_law_1083 : decode code 1083 = .ok (.invokevirtual 136, 3) := by decide +kernel
theorem dL_law_1086 : decode code 1086 = .ok (.iload 6, 2) := by decide +kernel
theorem dL_law_1088 : decode code 1088 = .ok (.if_icmp .eq 5, 3) := by decide +kernel
theorem dL_law_1093 : decode code 1093 = .ok (.iload 6, 2) := by decide +kernel
theorem dL_law_1095 : decode code 1095 = .ok (.ifCond .ne 22, 3) := by decide +kernel
theorem dL_law_1117 : decode code 1117 = .ok (.goto 1161, 3) := by decide +kernel
theorem dL_law_1120 : decode code 1120 = .ok (.aload_n 1, 1) := by decide +kernel
theorem dL_law_1121 : decode code 1121 = .ok (.aload_n 0, 1) := by decide +kernel
theorem dL_law_1122 : decode code 1122 = .ok (.iload 5, 2) := by decide +kernel
theorem dL_law_1124 : decode code 1124 = .ok (.iconst 1, 1) := by decide +kernel
theorem dL_law_1125 : decode code 1125 = .ok (.iadd, 1) := by decide +kernel
theorem dL_law_1126 : decode code 1126 = .ok (.iaload, 1) := by decide +kernel
theorem dL_law_1127 : decode code 1127 = .ok (.aload_n 3, 1) := by decide +kernel
theorem dL_law_1128 : decode code 1128 = .ok (.invokestatic 185, 3) := by decide +kernel
theorem dL_law_1131 : decode code 1131 = .ok (.istore 6, 2) := by decide +kernel
theorem dL_law_1133 : decode code 1133 = .ok (.aload_n 2, 1) := by decide +kernel
theorem dL_law_1134 : decode code 1134 = .ok (.aload_n 0, 1) := by decide +kernel
theorem dL_law_1135 : decode code 1135 = .ok (.iload 5, 2) := by decide +kernel
theorem dL_law_1137 : decode code 1137 = .ok (.iconst 1, 1) := by decide +kernel
theorem dL_law_1138 : decode code 1138 = .ok (.iadd, 1) := by decide +kernel
theorem dL_law_1139 : decode code 1139 = .ok (.iaload, 1) := by decide +kernel
theorem dL_law_1140 : decode code 1140 = .ok (.invokevirtual 187, 3) := by decide +kernel
theorem dL_law_1143 : decode code 1143 = .ok (.istore 7, 2) := by decide +kernel
theorem dL_law_1145 : decode code 1145 = .ok (.aload_n 2, 1) := by decide +kernel
theorem dL_law_1146 : decode code 1146 = .ok (.invokevirtual 136, 3) := by decide +kernel
theorem dL_law_1149 : decode code 1149 = .ok (.iload 6, 2) := by decide +kernel
theorem dL_law_1151 : decode code 1151 = .ok (.if_icmp .eq 5, 3) := by decide +kernel
theorem dL_law_1156 : decode code 1156 = .ok (.iload 6, 2) := by decide +kernel
theorem dL_law_1158 : decode code 1158 = .ok (.ifCond .ne 22, 3) := by decide +kernel
theorem dL_law_1180 : decode code 1180 = .ok (.goto 1098, 3) := by decide +kernel
theorem dL_law_1183 : decode code 1183 = .ok (.aload_n 1, 1) := by decide +kernel
theorem dL_law_1184 : decode code 1184 = .ok (.aload_n 0, 1) := by decide +kernel
theorem dL_law_1185 : decode code 1185 = .ok (.iload 5, 2) := by decide +kernel
theorem dL_law_1187 : decode code 1187 = .ok (.iconst 1, 1) := by decide +kernel
theorem dL_law_1188 : decode code 1188 = .ok (.iadd, 1) := by decide +kernel
theorem dL_law_1189 : decode code 1189 = .ok (.iaload, 1) := by decide +kernel
theorem dL_law_1190 : decode code 1190 = .ok (.aload_n 3, 1) := by decide +kernel
theorem dL_law_1191 : decode code 1191 = .ok (.invokestatic 188, 3) := by decide +kernel
theorem dL_law_1194 : decode code 1194 = .ok (.istore 6, 2) := by decide +kernel
theorem dL_law_1196 : decode code 1196 = .ok (.aload_n 2, 1) := by decide +kernel
theorem dL_law_1197 : decode code 1197 = .ok (.aload_n 0, 1) := by decide +kernel
theorem dL_law_1198 : decode code 1198 = .ok (.iload 5, 2) := by decide +kernel
theorem dL_law_1200 : decode code 1200 = .ok (.iconst 1, 1) := by decide +kernel
theorem dL_law_1201 : decode code 1201 = .ok (.iadd, 1) := by decide +kernel
theorem dL_law_1202 : decode code 1202 = .ok (.iaload, 1) := by decide +kernel
theorem dL_law_1203 : decode code 1203 = .ok (.invokevirtual 190, 3) := by decide +kernel
theorem dL_law_1206 : decode code 1206 = .ok (.istore 7, 2) := by decide +kernel
theorem dL_law_1208 : decode code 1208 = .ok (.aload_n 2, 1) := by decide +kernel
theorem dL_law_1209 : decode code 1209 = .ok (.invokevirtual 136, 3) := by decide +kernel
theorem dL_law_1212 : decode code 1212 = .ok (.iload 6, 2) := by decide +kernel
theorem dL_law_1214 : decode code 1214 = .ok (.if_icmp .eq 5, 3) := by decide +kernel
theorem dL_law_1219 : decode code 1219 = .ok (.iload 6, 2) := by decide +kernel
theorem dL_law_1221 : decode code 1221 = .ok (.ifCond .ne 15, 3) := by decide +kernel
theorem dL_law_1236 : decode code 1236 = .ok (.goto 1042, 3) := by decide +kernel
theorem dL_law_1239 : decode code 1239 = .ok (.aload_n 1, 1) := by decide +kernel
theorem dL_law_1240 : decode code 1240 = .ok (.aload_n 0, 1) := by decide +kernel
theorem dL_law_1241 : decode code 1241 = .ok (.iload 5, 2) := by decide +kernel
theorem dL_law_1243 : decode code 1243 = .ok (.iconst 1, 1) := by decide +kernel
theorem dL_law_1244 : decode code 1244 = .ok (.iadd, 1) := by decide +kernel
theorem dL_law_1245 : decode code 1245 = .ok (.iaload, 1) := by decide +kernel
theorem dL_law_1246 : decode code 1246 = .ok (.aload_n 3, 1) := by decide +kernel
theorem dL_law_1247 : decode code 1247 = .ok (.invokestatic 191, 3) := by decide +kernel
theorem dL_law_1250 : decode code 1250 = .ok (.istore 6, 2) := by decide +kernel
theorem dL_law_1252 : decode code 1252 = .ok (.aload_n 2, 1) := by decide +kernel
theorem dL_law_1253 : decode code 1253 = .ok (.aload_n 0, 1) := by decide +kernel
theorem dL_law_1254 : decode code 1254 = .ok (.iload 5, 2) := by decide +kernel
theorem dL_law_1256 : decode code 1256 = .ok (.iconst 1, 1) := by decide +kernel
theorem dL_law_1257 : decode code 1257 = .ok (.iadd, 1) := by decide +kernel
theorem dL_law_1258 : decode code 1258 = .ok (.iaload, 1) := by decide +kernel
theorem dL_law_1259 : decode code 1259 = .ok (.invokevirtual 193, 3) := by decide +kernel
theorem dL_law_1262 : decode code 1262 = .ok (.istore 7, 2) := by decide +kernel
theorem dL_law_1264 : decode code 1264 = .ok (.aload_n 2, 1) := by decide +kernel
theorem dL_law_1265 : decode code 1265 = .ok (.invokevirtual 136, 3) := by decide +kernel
theorem dL_law_1268 : decode code 1268 = .ok (.iload 6, 2) := by decide +kernel
theorem dL_law_1270 : decode code 1270 = .ok (.if_icmp .eq 5, 3) := by decide +kernel
theorem dL_law_1275 : decode code 1275 = .ok (.iload 6, 2) := by decide +kernel
theorem dL_law_1277 : decode code 1277 = .ok (.ifCond .ne 22, 3) := by decide +kernel
theorem dL_law_1299 : decode code 1299 = .ok (.goto 979, 3) := by decide +kernel
theorem dL_law_1302 : decode code 1302 = .ok (.aload_n 1, 1) := by decide +kernel
theorem dL_law_1303 : decode code 1303 = .ok (.aload_n 0, 1) := by decide +kernel
theorem dL_law_1304 : decode code 1304 = .ok (.iload 5, 2) := by decide +kernel
theorem dL_law_1306 : decode code 1306 = .ok (.iconst 1, 1) := by decide +kernel
theorem dL_law_1307 : decode code 1307 = .ok (.iadd, 1) := by decide +kernel
theorem dL_law_1308 : decode code 1308 = .ok (.iaload, 1) := by decide +kernel
theorem dL_law_1309 : decode code 1309 = .ok (.aload_n 3, 1) := by decide +kernel
theorem dL_law_1310 : decode code 1310 = .ok (.invokestatic 194, 3) := by decide +kernel
theorem dL_law_1313 : decode code 1313 = .ok (.istore 6, 2) := by decide +kernel
theorem dL_law_1315 : decode code 1315 = .ok (.aload_n 2, 1) := by decide +kernel
theorem dL_law_1316 : decode code 1316 = .ok (.aload_n 0, 1) := by decide +kernel
theorem dL_law_1317 : decode code 1317 = .ok (.iload 5, 2) := by decide +kernel
theorem dL_law_1319 : decode code 1319 = .ok (.iconst 1, 1) := by decide +kernel
theorem dL_law_1320 : decode code 1320 = .ok (.iadd, 1) := by decide +kernel
theorem dL_law_1321 : decode code 1321 = .ok (.iaload, 1) := by decide +kernel
theorem dL_law_1322 : decode code 1322 = .ok (.invokevirtual 196, 3) := by decide +kernel
theorem dL_law_1325 : decode code 1325 = .ok (.istore 7, 2) := by decide +kernel
theorem dL_law_1327 : decode code 1327 = .ok (.aload_n 2, 1) := by decide +kernel
theorem dL_law_1328 : decode code 1328 = .ok (.invokevirtual 136, 3) := by decide +kernel
theorem dL_law_1331 : decode code 1331 = .ok (.iload 6, 2) := by decide +kernel
theorem dL_law_1333 : decode code 1333 = .ok (.if_icmp .eq 5, 3) := by decide +kernel
theorem dL_law_1338 : decode code 1338 = .ok (.iload 6, 2) := by decide +kernel
theorem dL_law_1340 : decode code 1340 = .ok (.ifCond .ne 15, 3) := by decide +kernel
theorem dL_law_1355 : decode code 1355 = .ok (.goto 923, 3) := by decide +kernel
theorem dL_law_1358 : decode code 1358 = .ok (.aload_n 1, 1) := by decide +kernel
theorem dL_law_1359 : decode code 1359 = .ok (.aload_n 0, 1) := by decide +kernel
theorem dL_law_1360 : decode code 1360 = .ok (.iload 5, 2) := by decide +kernel
theorem dL_law_1362 : decode code 1362 = .ok (.iconst 1, 1) := by decide +kernel
theorem dL_law_1363 : decode code 1363 = .ok (.iadd, 1) := by decide +kernel
theorem dL_law_1364 : decode code 1364 = .ok (.iaload, 1) := by decide +kernel
theorem dL_law_1365 : decode code 1365 = .ok (.aload_n 0, 1) := by decide +kernel
theorem dL_law_1366 : decode code 1366 = .ok (.iload 5, 2) := by decide +kernel
theorem dL_law_1368 : decode code 1368 = .ok (.iconst 2, 1) := by decide +kernel
theorem dL_law_1369 : decode code 1369 = .ok (.iadd, 1) := by decide +kernel
theorem dL_law_1370 : decode code 1370 = .ok (.iaload, 1) := by decide +kernel
theorem dL_law_1371 : decode code 1371 = .ok (.aload_n 3, 1) := by decide +kernel
theorem dL_law_1372 : decode code 1372 = .ok (.invokestatic 197, 3) := by decide +kernel
theorem dL_law_1375 : decode code 1375 = .ok (.istore 6, 2) := by decide +kernel
theorem dL_law_1377 : decode code 1377 = .ok (.aload_n 2, 1) := by decide +kernel
theorem dL_law_1378 : decode code 1378 = .ok (.aload_n 0, 1) := by decide +kernel
theorem dL_law_1379 : decode code 1379 = .ok (.iload 5, 2) := by decide +kernel
theorem dL_law_1381 : decode code 1381 = .ok (.iconst 1, 1) := by decide +kernel
theorem dL_law_1382 : decode code 1382 = .ok (.iadd, 1) := by decide +kernel
theorem dL_law_1383 : decode code 1383 = .ok (.iaload, 1) := by decide +kernel
theorem dL_law_1384 : decode code 1384 = .ok (.aload_n 0, 1) := by decide +kernel
theorem dL_law_1385 : decode code 1385 = .ok (.iload 5, 2) := by decide +kernel
theorem dL_law_1387 : decode code 1387 = .ok (.iconst 2, 1) := by decide +kernel
theorem dL_law_1388 : decode code 1388 = .ok (.iadd, 1) := by decide +kernel
theorem dL_law_1389 : decode code 1389 = .ok (.iaload, 1) := by decide +kernel
theorem dL_law_1390 : decode code 1390 = .ok (.invokevirtual 199, 3) := by decide +kernel
theorem dL_law_1393 : decode code 1393 = .ok (.istore 7, 2) := by decide +kernel
theorem dL_law_1395 : decode code 1395 = .ok (.aload_n 2, 1) := by decide +kernel
theorem dL_law_1396 : decode code 1396 = .ok (.invokevirtual 136, 3) := by decide +kernel
theorem dL_law_1399 : decode code 1399 = .ok (.iload 6, 2) := by decide +kernel
theorem dL_law_1401 : decode code 1401 = .ok (.if_icmp .eq 5, 3) := by decide +kernel
theorem dL_law_1406 : decode code 1406 = .ok (.iload 6, 2) := by decide +kernel
theorem dL_law_1408 : decode code 1408 = .ok (.ifCond .ne 22, 3) := by decide +kernel
theorem dL_law_1430 : decode code 1430 = .ok (.goto 848, 3) := by decide +kernel
theorem dL_law_1433 : decode code 1433 = .ok (.aload_n 1, 1) := by decide +kernel
theorem dL_law_1434 : decode code 1434 = .ok (.aload_n 0, 1) := by decide +kernel
theorem dL_law_1435 : decode code 1435 = .ok (.iload 5, 2) := by decide +kernel
theorem dL_law_1437 : decode code 1437 = .ok (.iconst 1, 1) := by decide +kernel
theorem dL_law_1438 : decode code 1438 = .ok (.iadd, 1) := by decide +kernel
theorem dL_law_1439 : decode code 1439 = .ok (.iaload, 1) := by decide +kernel
theorem dL_law_1440 : decode code 1440 = .ok (.aload_n 3, 1) := by decide +kernel
theorem dL_law_1441 : decode code 1441 = .ok (.invokestatic 200, 3) := by decide +kernel
theorem dL_law_1444 : decode code 1444 = .ok (.istore 6, 2) := by decide +kernel
theorem dL_law_1446 : decode code 1446 = .ok (.aload_n 2, 1) := by decide +kernel
theorem dL_law_1447 : decode code 1447 = .ok (.aload_n 0, 1) := by decide +kernel
theorem dL_law_1448 : decode code 1448 = .ok (.iload 5, 2) := by decide +kernel
theorem dL_law_1450 : decode code 1450 = .ok (.iconst 1, 1) := by decide +kernel
theorem dL_law_1451 : decode code 1451 = .ok (.iadd, 1) := by decide +kernel
theorem dL_law_1452 : decode code 1452 = .ok (.iaload, 1) := by decide +kernel
theorem dL_law_1453 : decode code 1453 = .ok (.invokevirtual 202, 3) := by decide +kernel
theorem dL_law_1456 : decode code 1456 = .ok (.istore 7, 2) := by decide +kernel
theorem dL_law_1458 : decode code 1458 = .ok (.aload_n 2, 1) := by decide +kernel
theorem dL_law_1459 : decode code 1459 = .ok (.invokevirtual 136, 3) := by decide +kernel
theorem dL_law_1462 : decode code 1462 = .ok (.iload 6, 2) := by decide +kernel
theorem dL_law_1464 : decode code 1464 = .ok (.if_icmp .eq 5, 3) := by decide +kernel
theorem dL_law_1469 : decode code 1469 = .ok (.iload 6, 2) := by decide +kernel
theorem dL_law_1471 : decode code 1471 = .ok (.ifCond .ne 15, 3) := by decide +kernel
theorem dL_law_1486 : decode code 1486 = .ok (.goto 792, 3) := by decide +kernel
theorem dL_law_1489 : decode code 1489 = .ok (.aload_n 1, 1) := by decide +kernel
theorem dL_law_1490 : decode code 1490 = .ok (.aload_n 0, 1) := by decide +kernel
theorem dL_law_1491 : decode code 1491 = .ok (.iload 5, 2) := by decide +kernel
theorem dL_law_1493 : decode code 1493 = .ok (.iconst 1, 1) := by decide +kernel
theorem dL_law_1494 : decode code 1494 = .ok (.iadd, 1) := by decide +kernel
theorem dL_law_1495 : decode code 1495 = .ok (.iaload, 1) := by decide +kernel
theorem dL_law_1496 : decode code 1496 = .ok (.aload_n 3, 1) := by decide +kernel
theorem dL_law_1497 : decode code 1497 = .ok (.invokestatic 203, 3) := by decide +kernel
theorem dL_law_1500 : decode code 1500 = .ok (.istore 6, 2) := by decide +kernel
theorem dL_law_1502 : decode code 1502 = .ok (.aload_n 2, 1) := by decide +kernel
theorem dL_law_1503 : decode code 1503 = .ok (.aload_n 0, 1) := by decide +kernel
theorem dL_law_1504 : decode code 1504 = .ok (.iload 5, 2) := by decide +kernel
theorem dL_law_1506 : decode code 1506 = .ok (.iconst 1, 1) := by decide +kernel
theorem dL_law_1507 : decode code 1507 = .ok (.iadd, 1) := by decide +kernel
theorem dL_law_1508 : decode code 1508 = .ok (.iaload, 1) := by decide +kernel
theorem dL_law_1509 : decode code 1509 = .ok (.invokevirtual 205, 3) := by decide +kernel
theorem dL_law_1512 : decode code 1512 = .ok (.istore 7, 2) := by decide +kernel
theorem dL_law_1514 : decode code 1514 = .ok (.aload_n 2, 1) := by decide +kernel
theorem dL_law_1515 : decode code 1515 = .ok (.invokevirtual 136, 3) := by decide +kernel
theorem dL_law_1518 : decode code 1518 = .ok (.iload 6, 2) := by decide +kernel
theorem dL_law_1520 : decode code 1520 = .ok (.if_icmp .eq 5, 3) := by decide +kernel
theorem dL_law_1525 : decode code 1525 = .ok (.iload 6, 2) := by decide +kernel
theorem dL_law_1527 : decode code 1527 = .ok (.ifCond .ne 22, 3) := by decide +kernel
theorem dL_law_1549 : decode code 1549 = .ok (.goto 729, 3) := by decide +kernel
theorem dL_law_1552 : decode code 1552 = .ok (.aload_n 1, 1) := by decide +kernel
theorem dL_law_1553 : decode code 1553 = .ok (.aload_n 0, 1) := by decide +kernel
theorem dL_law_1554 : decode code 1554 = .ok (.iload 5, 2) := by decide +kernel
theorem dL_law_1556 : decode code 1556 = .ok (.iconst 1, 1) := by decide +kernel
theorem dL_law_1557 : decode code 1557 = .ok (.iadd, 1) := by decide +kernel
theorem dL_law_1558 : decode code 1558 = .ok (.iaload, 1) := by decide +kernel
theorem dL_law_1559 : decode code 1559 = .ok (.aload_n 3, 1) := by decide +kernel
theorem dL_law_1560 : decode code 1560 = .ok (.invokestatic 206, 3) := by decide +kernel
theorem dL_law_1563 : decode code 1563 = .ok (.istore 6, 2) := by decide +kernel
theorem dL_law_1565 : decode code 1565 = .ok (.aload_n 2, 1) := by decide +kernel
theorem dL_law_1566 : decode code 1566 = .ok (.aload_n 0, 1) := by decide +kernel
theorem dL_law_1567 : decode code 1567 = .ok (.iload 5, 2) := by decide +kernel
theorem dL_law_1569 : decode code 1569 = .ok (.iconst 1, 1) := by decide +kernel
theorem dL_law_1570 : decode code 1570 = .ok (.iadd, 1) := by decide +kernel
theorem dL_law_1571 : decode code 1571 = .ok (.iaload, 1) := by decide +kernel
theorem dL_law_1572 : decode code 1572 = .ok (.invokevirtual 208, 3) := by decide +kernel
theorem dL_law_1575 : decode code 1575 = .ok (.istore 7, 2) := by decide +kernel
theorem dL_law_1577 : decode code 1577 = .ok (.aload_n 2, 1) := by decide +kernel
theorem dL_law_1578 : decode code 1578 = .ok (.invokevirtual 136, 3) := by decide +kernel
theorem dL_law_1581 : decode code 1581 = .ok (.iload 6, 2) := by decide +kernel
theorem dL_law_1583 : decode code 1583 = .ok (.if_icmp .eq 5, 3) := by decide +kernel
theorem dL_law_1588 : decode code 1588 = .ok (.iload 6, 2) := by decide +kernel
theorem dL_law_1590 : decode code 1590 = .ok (.ifCond .ne 22, 3) := by decide +kernel
theorem dL_law_1612 : decode code 1612 = .ok (.goto 666, 3) := by decide +kernel
theorem dL_law_1615 : decode code 1615 = .ok (.aload_n 1, 1) := by decide +kernel
theorem dL_law_1616 : decode code 1616 = .ok (.aload_n 0, 1) := by decide +kernel
theorem dL_law_1617 : decode code 1617 = .ok (.iload 5, 2) := by decide +kernel
theorem dL_law_1619 : decode code 1619 = .ok (.iconst 1, 1) := by decide +kernel
theorem dL_law_1620 : decode code 1620 = .ok (.iadd, 1) := by decide +kernel
theorem dL_law_1621 : decode code 1621 = .ok (.iaload, 1) := by decide +kernel
theorem dL_law_1622 : decode code 1622 = .ok (.aload_n 3, 1) := by decide +kernel
theorem dL_law_1623 : decode code 1623 = .ok (.invokestatic 209, 3) := by decide +kernel
theorem dL_law_1626 : decode code 1626 = .ok (.istore 6, 2) := by decide +kernel
theorem dL_law_1628 : decode code 1628 = .ok (.aload_n 2, 1) := by decide +kernel
theorem dL_law_1629 : decode code 1629 = .ok (.aload_n 0, 1) := by decide +kernel
theorem dL_law_1630 : decode code 1630 = .ok (.iload 5, 2) := by decide +kernel
theorem dL_law_1632 : decode code 1632 = .ok (.iconst 1, 1) := by decide +kernel
theorem dL_law_1633 : decode code 1633 = .ok (.iadd, 1) := by decide +kernel
theorem dL_law_1634 : decode code 1634 = .ok (.iaload, 1) := by decide +kernel
theorem dL_law_1635 : decode code 1635 = .ok (.invokevirtual 211, 3) := by decide +kernel
theorem dL_law_1638 : decode code 1638 = .ok (.istore 7, 2) := by decide +kernel
theorem dL_law_1640 : decode code 1640 = .ok (.aload_n 2, 1) := by decide +kernel
theorem dL_law_1641 : decode code 1641 = .ok (.invokevirtual 136, 3) := by decide +kernel
theorem dL_law_1644 : decode code 1644 = .ok (.iload 6, 2) := by decide +kernel
theorem dL_law_1646 : decode code 1646 = .ok (.if_icmp .eq 5, 3) := by decide +kernel
theorem dL_law_1651 : decode code 1651 = .ok (.iload 6, 2) := by decide +kernel
theorem dL_law_1653 : decode code 1653 = .ok (.ifCond .ne 15, 3) := by decide +kernel
theorem dL_law_1668 : decode code 1668 = .ok (.goto 610, 3) := by decide +kernel
theorem dL_law_1671 : decode code 1671 = .ok (.aload_n 1, 1) := by decide +kernel
theorem dL_law_1672 : decode code 1672 = .ok (.aload_n 0, 1) := by decide +kernel
theorem dL_law_1673 : decode code 1673 = .ok (.iload 5, 2) := by decide +kernel
theorem dL_law_1675 : decode code 1675 = .ok (.iconst 1, 1) := by decide +kernel
theorem dL_law_1676 : decode code 1676 = .ok (.iadd, 1) := by decide +kernel
theorem dL_law_1677 : decode code 1677 = .ok (.iaload, 1) := by decide +kernel
theorem dL_law_1678 : decode code 1678 = .ok (.aload_n 3, 1) := by decide +kernel
theorem dL_law_1679 : decode code 1679 = .ok (.invokestatic 212, 3) := by decide +kernel
theorem dL_law_1682 : decode code 1682 = .ok (.istore 6, 2) := by decide +kernel
theorem dL_law_1684 : decode code 1684 = .ok (.aload_n 2, 1) := by decide +kernel
theorem dL_law_1685 : decode code 1685 = .ok (.aload_n 0, 1) := by decide +kernel
theorem dL_law_1686 : decode code 1686 = .ok (.iload 5, 2) := by decide +kernel
theorem dL_law_1688 : decode code 1688 = .ok (.iconst 1, 1) := by decide +kernel
theorem dL_law_1689 : decode code 1689 = .ok (.iadd, 1) := by decide +kernel
theorem dL_law_1690 : decode code 1690 = .ok (.iaload, 1) := by decide +kernel
theorem dL_law_1691 : decode code 1691 = .ok (.invokevirtual 214, 3) := by decide +kernel
theorem dL_law_1694 : decode code 1694 = .ok (.istore 7, 2) := by decide +kernel
theorem dL_law_1696 : decode code 1696 = .ok (.aload_n 2, 1) := by decide +kernel
theorem dL_law_1697 : decode code 1697 = .ok (.invokevirtual 136, 3) := by decide +kernel
theorem dL_law_1700 : decode code 1700 = .ok (.iload 6, 2) := by decide +kernel
theorem dL_law_1702 : decode code 1702 = .ok (.if_icmp .eq 5, 3) := by decide +kernel
theorem dL_law_1707 : decode code 1707 = .ok (.iload 6, 2) := by decide +kernel
theorem dL_law_1709 : decode code 1709 = .ok (.ifCond .ne 15, 3) := by decide +kernel
theorem dL_law_1724 : decode code 1724 = .ok (.goto 554, 3) := by decide +kernel
theorem dL_law_1727 : decode code 1727 = .ok (.aload_n 1, 1) := by decide +kernel
theorem dL_law_1728 : decode code 1728 = .ok (.aload_n 0, 1) := by decide +kernel
theorem dL_law_1729 : decode code 1729 = .ok (.iload 5, 2) := by decide +kernel
theorem dL_law_1731 : decode code 1731 = .ok (.iconst 1, 1) := by decide +kernel
theorem dL_law_1732 : decode code 1732 = .ok (.iadd, 1) := by decide +kernel
theorem dL_law_1733 : decode code 1733 = .ok (.iaload, 1) := by decide +kernel
theorem dL_law_1734 : decode code 1734 = .ok (.aload_n 3, 1) := by decide +kernel
theorem dL_law_1735 : decode code 1735 = .ok (.invokestatic 215, 3) := by decide +kernel
theorem dL_law_1738 : decode code 1738 = .ok (.istore 6, 2) := by decide +kernel
theorem dL_law_1740 : decode code 1740 = .ok (.aload_n 2, 1) := by decide +kernel
theorem dL_law_1741 : decode code 1741 = .ok (.aload_n 0, 1) := by decide +kernel
theorem dL_law_1742 : decode code 1742 = .ok (.iload 5, 2) := by decide +kernel
theorem dL_law_1744 : decode code 1744 = .ok (.iconst 1, 1) := by decide +kernel
theorem dL_law_1745 : decode code 1745 = .ok (.iadd, 1) := by decide +kernel
theorem dL_law_1746 : decode code 1746 = .ok (.iaload, 1) := by decide +kernel
theorem dL_law_1747 : decode code 1747 = .ok (.invokevirtual 217, 3) := by decide +kernel
theorem dL_law_1750 : decode code 1750 = .ok (.istore 7, 2) := by decide +kernel
theorem dL_law_1752 : decode code 1752 = .ok (.aload_n 2, 1) := by decide +kernel
theorem dL_law_1753 : decode code 1753 = .ok (.invokevirtual 136, 3) := by decide +kernel
theorem dL_law_1756 : decode code 1756 = .ok (.iload 6, 2) := by decide +kernel
theorem dL_law_1758 : decode code 1758 = .ok (.if_icmp .eq 5, 3) := by decide +kernel
theorem dL_law_1763 : decode code 1763 = .ok (.iload 6, 2) := by decide +kernel
theorem dL_law_1765 : decode code 1765 = .ok (.ifCond .ne 15, 3) := by decide +kernel
theorem dL_law_1780 : decode code 1780 = .ok (.goto 498, 3) := by decide +kernel
theorem dL_law_1783 : decode code 1783 = .ok (.aload_n 1, 1) := by decide +kernel
theorem dL_law_1784 : decode code 1784 = .ok (.aload_n 0, 1) := by decide +kernel
theorem dL_law_1785 : decode code 1785 = .ok (.iload 5, 2) := by decide +kernel
theorem dL_law_1787 : decode code 1787 = .ok (.iconst 1, 1) := by decide +kernel
theorem dL_law_1788 : decode code 1788 = .ok (.iadd, 1) := by decide +kernel
theorem dL_law_1789 : decode code 1789 = .ok (.iaload, 1) := by decide +kernel
theorem dL_law_1790 : decode code 1790 = .ok (.aload_n 3, 1) := by decide +kernel
theorem dL_law_1791 : decode code 1791 = .ok (.invokestatic 218, 3) := by decide +kernel
theorem dL_law_1794 : decode code 1794 = .ok (.istore 6, 2) := by decide +kernel
theorem dL_law_1796 : decode code 1796 = .ok (.aload_n 2, 1) := by decide +kernel
theorem dL_law_1797 : decode code 1797 = .ok (.aload_n 0, 1) := by decide +kernel
theorem dL_law_1798 : decode code 1798 = .ok (.iload 5, 2) := by decide +kernel
theorem dL_law_1800 : decode code 1800 = .ok (.iconst 1, 1) := by decide +kernel
theorem dL_law_1801 : decode code 1801 = .ok (.iadd, 1) := by decide +kernel
theorem dL_law_1802 : decode code 1802 = .ok (.iaload, 1) := by decide +kernel
theorem dL_law_1803 : decode code 1803 = .ok (.invokevirtual 220, 3) := by decide +kernel
theorem dL_law_1806 : decode code 1806 = .ok (.istore 7, 2) := by decide +kernel
theorem dL_law_1808 : decode code 1808 = .ok (.aload_n 2, 1) := by decide +kernel
theorem dL_law_1809 : decode code 1809 = .ok (.invokevirtual 136, 3) := by decide +kernel
theorem dL_law_1812 : decode code 1812 = .ok (.iload 6, 2) := by decide +kernel
theorem dL_law_1814 : decode code 1814 = .ok (.if_icmp .eq 5, 3) := by decide +kernel
theorem dL_law_1819 : decode code 1819 = .ok (.iload 6, 2) := by decide +kernel
theorem dL_law_1821 : decode code 1821 = .ok (.ifCond .ne 15, 3) := by decide +kernel
theorem dL_law_1836 : decode code 1836 = .ok (.goto 442, 3) := by decide +kernel
theorem dL_law_1839 : decode code 1839 = .ok (.aload_n 1, 1) := by decide +kernel
theorem dL_law_1840 : decode code 1840 = .ok (.aload_n 0, 1) := by decide +kernel
theorem dL_law_1841 : decode code 1841 = .ok (.iload 5, 2) := by decide +kernel
theorem dL_law_1843 : decode code 1843 = .ok (.iconst 1, 1) := by decide +kernel
theorem dL_law_1844 : decode code 1844 = .ok (.iadd, 1) := by decide +kernel
theorem dL_law_1845 : decode code 1845 = .ok (.iaload, 1) := by decide +kernel
theorem dL_law_1846 : decode code 1846 = .ok (.aload_n 3, 1) := by decide +kernel
theorem dL_law_1847 : decode code 1847 = .ok (.invokestatic 221, 3) := by decide +kernel
theorem dL_law_1850 : decode code 1850 = .ok (.istore 6, 2) := by decide +kernel
theorem dL_law_1852 : decode code 1852 = .ok (.aload_n 2, 1) := by decide +kernel
theorem dL_law_1853 : decode code 1853 = .ok (.aload_n 0, 1) := by decide +kernel
theorem dL_law_1854 : decode code 1854 = .ok (.iload 5, 2) := by decide +kernel
theorem dL_law_1856 : decode code 1856 = .ok (.iconst 1, 1) := by decide +kernel
theorem dL_law_1857 : decode code 1857 = .ok (.iadd, 1) := by decide +kernel
theorem dL_law_1858 : decode code 1858 = .ok (.iaload, 1) := by decide +kernel
theorem dL_law_1859 : decode code 1859 = .ok (.invokevirtual 223, 3) := by decide +kernel
theorem dL_law_1862 : decode code 1862 = .ok (.istore 7, 2) := by decide +kernel
theorem dL_law_1864 : decode code 1864 = .ok (.aload_n 2, 1) := by decide +kernel
theorem dL_law_1865 : decode code 1865 = .ok (.invokevirtual 136, 3) := by decide +kernel
theorem dL_law_1868 : decode code 1868 = .ok (.iload 6, 2) := by decide +kernel
theorem dL_law_1870 : decode code 1870 = .ok (.if_icmp .eq 5, 3) := by decide +kernel
theorem dL_law_1875 : decode code 1875 = .ok (.iload 6, 2) := by decide +kernel
theorem dL_law_1877 : decode code 1877 = .ok (.ifCond .ne 15, 3) := by decide +kernel
theorem dL_law_1892 : decode code 1892 = .ok (.goto 386, 3) := by decide +kernel
theorem dL_law_1895 : decode code 1895 = .ok (.aload_n 1, 1) := by decide +kernel
theorem dL_law_1896 : decode code 1896 = .ok (.aload_n 0, 1) := by decide +kernel
theorem dL_law_1897 : decode code 1897 = .ok (.iload 5, 2) := by decide +kernel
theorem dL_law_1899 : decode code 1899 = .ok (.iconst 1, 1) := by decide +kernel
theorem dL_law_1900 : decode code 1900 = .ok (.iadd, 1) := by decide +kernel
theorem dL_law_1901 : decode code 1901 = .ok (.iaload, 1) := by decide +kernel
theorem dL_law_1902 : decode code 1902 = .ok (.aload_n 0, 1) := by decide +kernel
theorem dL_law_1903 : decode code 1903 = .ok (.iload 5, 2) := by decide +kernel
theorem dL_law_1905 : decode code 1905 = .ok (.iconst 2, 1) := by decide +kernel
theorem dL_law_1906 : decode code 1906 = .ok (.iadd, 1) := by decide +kernel
theorem dL_law_1907 : decode code 1907 = .ok (.iaload, 1) := by decide +kernel
theorem dL_law_1908 : decode code 1908 = .ok (.aload_n 0, 1) := by decide +kernel
theorem dL_law_1909 : decode code 1909 = .ok (.iload 5, 2) := by decide +kernel
theorem dL_law_1911 : decode code 1911 = .ok (.iconst 3, 1) := by decide +kernel
theorem dL_law_1912 : decode code 1912 = .ok (.iadd, 1) := by decide +kernel
theorem dL_law_1913 : decode code 1913 = .ok (.iaload, 1) := by decide +kernel
theorem dL_law_1914 : decode code 1914 = .ok (.aload_n 3, 1) := by decide +kernel
theorem dL_law_1915 : decode code 1915 = .ok (.invokestatic 224, 3) := by decide +kernel
theorem dL_law_1918 : decode code 1918 = .ok (.istore 6, 2) := by decide +kernel
theorem dL_law_1920 : decode code 1920 = .ok (.aload_n 2, 1) := by decide +kernel
theorem dL_law_1921 : decode code 1921 = .ok (.aload_n 0, 1) := by decide +kernel
theorem dL_law_1922 : decode code 1922 = .ok (.iload 5, 2) := by decide +kernel
theorem dL_law_1924 : decode code 1924 = .ok (.iconst 1, 1) := by decide +kernel
theorem dL_law_1925 : decode code 1925 = .ok (.iadd, 1) := by decide +kernel
theorem dL_law_1926 : decode code 1926 = .ok (.iaload, 1) := by decide +kernel
theorem dL_law_1927 : decode code 1927 = .ok (.aload_n 0, 1) := by decide +kernel
theorem dL_law_1928 : decode code 1928 = .ok (.iload 5, 2) := by decide +kernel
theorem dL_law_1930 : decode code 1930 = .ok (.iconst 2, 1) := by decide +kernel
theorem dL_law_1931 : decode code 1931 = .ok (.iadd, 1) := by decide +kernel
theorem dL_law_1932 : decode code 1932 = .ok (.iaload, 1) := by decide +kernel
theorem dL_law_1933 : decode code 1933 = .ok (.aload_n 0, 1) := by decide +kernel
theorem dL_law_1934 : decode code 1934 = .ok (.iload 5, 2) := by decide +kernel
theorem dL_law_1936 : decode code 1936 = .ok (.iconst 3, 1) := by decide +kernel
theorem dL_law_1937 : decode code 1937 = .ok (.iadd, 1) := by decide +kernel
theorem dL_law_1938 : decode code 1938 = .ok (.iaload, 1) := by decide +kernel
theorem dL_law_1939 : decode code 1939 = .ok (.invokevirtual 227, 3) := by decide +kernel
theorem dL_law_1942 : decode code 1942 = .ok (.istore 7, 2) := by decide +kernel
theorem dL_law_1944 : decode code 1944 = .ok (.aload_n 2, 1) := by decide +kernel
theorem dL_law_1945 : decode code 1945 = .ok (.invokevirtual 136, 3) := by decide +kernel
theorem dL_law_1948 : decode code 1948 = .ok (.iload 6, 2) := by decide +kernel
theorem dL_law_1950 : decode code 1950 = .ok (.if_icmp .eq 5, 3) := by decide +kernel
theorem dL_law_1955 : decode code 1955 = .ok (.iload 6, 2) := by decide +kernel
theorem dL_law_1957 : decode code 1957 = .ok (.ifCond .ne 15, 3) := by decide +kernel
theorem dL_law_1972 : decode code 1972 = .ok (.goto 306, 3) := by decide +kernel
theorem dL_law_1975 : decode code 1975 = .ok (.aload_n 1, 1) := by decide +kernel
theorem dL_law_1976 : decode code 1976 = .ok (.aload_n 0, 1) := by decide +kernel
theorem dL_law_1977 : decode code 1977 = .ok (.iload 5, 2) := by decide +kernel
theorem dL_law_1979 : decode code 1979 = .ok (.iconst 1, 1) := by decide +kernel
theorem dL_law_1980 : decode code 1980 = .ok (.iadd, 1) := by decide +kernel
theorem dL_law_1981 : decode code 1981 = .ok (.iaload, 1) := by decide +kernel
theorem dL_law_1982 : decode code 1982 = .ok (.aload_n 3, 1) := by decide +kernel
theorem dL_law_1983 : decode code 1983 = .ok (.invokestatic 228, 3) := by decide +kernel
theorem dL_law_1986 : decode code 1986 = .ok (.istore 6, 2) := by decide +kernel
theorem dL_law_1988 : decode code 1988 = .ok (.aload_n 2, 1) := by decide +kernel
theorem dL_law_1989 : decode code 1989 = .ok (.aload_n 0, 1) := by decide +kernel
theorem dL_law_1990 : decode code 1990 = .ok (.iload 5, 2) := by decide +kernel
theorem dL_law_1992 : decode code 1992 = .ok (.iconst 1, 1) := by decide +kernel
theorem dL_law_1993 : decode code 1993 = .ok (.iadd, 1) := by decide +kernel
theorem dL_law_1994 : decode code 1994 = .ok (.iaload, 1) := by decide +kernel
theorem dL_law_1995 : decode code 1995 = .ok (.invokevirtual 230, 3) := by decide +kernel
theorem dL_law_1998 : decode code 1998 = .ok (.istore 7, 2) := by decide +kernel
theorem dL_law_2000 : decode code 2000 = .ok (.aload_n 2, 1) := by decide +kernel
theorem dL_law_2001 : decode code 2001 = .ok (.invokevirtual 136, 3) := by decide +kernel
theorem dL_law_2004 : decode code 2004 = .ok (.iload 6, 2) := by decide +kernel
theorem dL_law_2006 : decode code 2006 = .ok (.if_icmp .eq 5, 3) := by decide +kernel
theorem dL_law_2011 : decode code 2011 = .ok (.iload 6, 2) := by decide +kernel
theorem dL_law_2013 : decode code 2013 = .ok (.ifCond .ne 15, 3) := by decide +kernel
theorem dL_law_2028 : decode code 2028 = .ok (.goto 250, 3) := by decide +kernel
theorem dL_law_2031 : decode code 2031 = .ok (.aload_n 1, 1) := by decide +kernel
theorem dL_law_2032 : decode code 2032 = .ok (.aload_n 0, 1) := by decide +kernel
theorem dL_law_2033 : decode code 2033 = .ok (.iload 5, 2) := by decide +kernel
theorem dL_law_2035 : decode code 2035 = .ok (.iconst 1, 1) := by decide +kernel
theorem dL_law_2036 : decode code 2036 = .ok (.iadd, 1) := by decide +kernel
theorem dL_law_2037 : decode code 2037 = .ok (.iaload, 1) := by decide +kernel
theorem dL_law_2038 : decode code 2038 = .ok (.aload_n 3, 1) := by decide +kernel
theorem dL_law_2039 : decode code 2039 = .ok (.invokestatic 231, 3) := by decide +kernel
theorem dL_law_2042 : decode code 2042 = .ok (.istore 6, 2) := by decide +kernel
theorem dL_law_2044 : decode code 2044 = .ok (.aload_n 2, 1) := by decide +kernel
theorem dL_law_2045 : decode code 2045 = .ok (.aload_n 0, 1) := by decide +kernel
theorem dL_law_2046 : decode code 2046 = .ok (.iload 5, 2) := by decide +kernel
theorem dL_law_2048 : decode code 2048 = .ok (.iconst 1, 1) := by decide +kernel
theorem dL_law_2049 : decode code 2049 = .ok (.iadd, 1) := by decide +kernel
theorem dL_law_2050 : decode code 2050 = .ok (.iaload, 1) := by decide +kernel
theorem dL_law_2051 : decode code 2051 = .ok (.invokevirtual 233, 3) := by decide +kernel
theorem dL_law_2054 : decode code 2054 = .ok (.istore 7, 2) := by decide +kernel
theorem dL_law_2056 : decode code 2056 = .ok (.aload_n 2, 1) := by decide +kernel
theorem dL_law_2057 : decode code 2057 = .ok (.invokevirtual 136, 3) := by decide +kernel
theorem dL_law_2060 : decode code 2060 = .ok (.iload 6, 2) := by decide +kernel
theorem dL_law_2062 : decode code 2062 = .ok (.if_icmp .eq 5, 3) := by decide +kernel
theorem dL_law_2067 : decode code 2067 = .ok (.iload 6, 2) := by decide +kernel
theorem dL_law_2069 : decode code 2069 = .ok (.ifCond .ne 22, 3) := by decide +kernel
theorem dL_law_2091 : decode code 2091 = .ok (.goto 187, 3) := by decide +kernel
theorem dL_law_2094 : decode code 2094 = .ok (.aload_n 1, 1) := by decide +kernel
theorem dL_law_2095 : decode code 2095 = .ok (.invokevirtual 234, 3) := by decide +kernel
theorem dL_law_2098 : decode code 2098 = .ok (.aload_n 2, 1) := by decide +kernel
theorem dL_law_2099 : decode code 2099 = .ok (.invokevirtual 237, 3) := by decide +kernel
theorem dL_law_2102 : decode code 2102 = .ok (.if_icmp .eq 176, 3) := by decide +kernel
theorem dL_law_2107 : decode code 2107 = .ok (.aload_n 1, 1) := by decide +kernel
theorem dL_law_2108 : decode code 2108 = .ok (.invokevirtual 238, 3) := by decide +kernel
theorem dL_law_2111 : decode code 2111 = .ok (.aload_n 2, 1) := by decide +kernel
theorem dL_law_2112 : decode code 2112 = .ok (.invokevirtual 241, 3) := by decide +kernel
theorem dL_law_2115 : decode code 2115 = .ok (.if_icmp .eq 163, 3) := by decide +kernel
theorem dL_law_2120 : decode code 2120 = .ok (.aload_n 1, 1) := by decide +kernel
theorem dL_law_2121 : decode code 2121 = .ok (.invokevirtual 242, 3) := by decide +kernel
theorem dL_law_2124 : decode code 2124 = .ok (.aload_n 2, 1) := by decide +kernel
theorem dL_law_2125 : decode code 2125 = .ok (.invokevirtual 246, 3) := by decide +kernel
theorem dL_law_2128 : decode code 2128 = .ok (.lcmp, 1) := by decide +kernel
theorem dL_law_2129 : decode code 2129 = .ok (.ifCond .eq 149, 3) := by decide +kernel
theorem dL_law_2134 : decode code 2134 = .ok (.aload_n 1, 1) := by decide +kernel
theorem dL_law_2135 : decode code 2135 = .ok (.aload 4, 2) := by decide +kernel
theorem dL_law_2137 : decode code 2137 = .ok (.invokestatic 247, 3) := by decide +kernel
theorem dL_law_2140 : decode code 2140 = .ok (.istore 6, 2) := by decide +kernel
theorem dL_law_2142 : decode code 2142 = .ok (.aload_n 2, 1) := by decide +kernel
theorem dL_law_2143 : decode code 2143 = .ok (.invokevirtual 250, 3) := by decide +kernel
theorem dL_law_2146 : decode code 2146 = .ok (.fstore 7, 2) := by decide +kernel
theorem dL_law_2148 : decode code 2148 = .ok (.aload_n 2, 1) := by decide +kernel
theorem dL_law_2149 : decode code 2149 = .ok (.invokevirtual 136, 3) := by decide +kernel
theorem dL_law_2152 : decode code 2152 = .ok (.iload 6, 2) := by decide +kernel
theorem dL_law_2154 : decode code 2154 = .ok (.if_icmp .eq 5, 3) := by decide +kernel
theorem dL_law_2159 : decode code 2159 = .ok (.iload 6, 2) := by decide +kernel
theorem dL_law_2161 : decode code 2161 = .ok (.ifCond .ne 36, 3) := by decide +kernel
theorem dL_law_2197 : decode code 2197 = .ok (.goto 81, 3) := by decide +kernel
theorem dL_law_2200 : decode code 2200 = .ok (.aload_n 1, 1) := by decide +kernel
theorem dL_law_2201 : decode code 2201 = .ok (.aload 4, 2) := by decide +kernel
theorem dL_law_2203 : decode code 2203 = .ok (.invokestatic 251, 3) := by decide +kernel
theorem dL_law_2206 : decode code 2206 = .ok (.istore 6, 2) := by decide +kernel
theorem dL_law_2208 : decode code 2208 = .ok (.aload_n 2, 1) := by decide +kernel
theorem dL_law_2209 : decode code 2209 = .ok (.invokevirtual 253, 3) := by decide +kernel
theorem dL_law_2212 : decode code 2212 = .ok (.dstore 7, 2) := by decide +kernel
theorem dL_law_2214 : decode code 2214 = .ok (.aload_n 2, 1) := by decide +kernel
theorem dL_law_2215 : decode code 2215 = .ok (.invokevirtual 136, 3) := by decide +kernel
theorem dL_law_2218 : decode code 2218 = .ok (.iload 6, 2) := by decide +kernel
theorem dL_law_2220 : decode code 2220 = .ok (.if_icmp .eq 5, 3) := by decide +kernel
theorem dL_law_2225 : decode code 2225 = .ok (.iload 6, 2) := by decide +kernel
theorem dL_law_2227 : decode code 2227 = .ok (.ifCond .ne 35, 3) := by decide +kernel
theorem dL_law_2262 : decode code 2262 = .ok (.goto 16, 3) := by decide +kernel
theorem dL_law_2265 : decode code 2265 = .ok (.aload_n 1, 1) := by decide +kernel
theorem dL_law_2266 : decode code 2266 = .ok (.invokevirtual 254, 3) := by decide +kernel
theorem dL_law_2269 : decode code 2269 = .ok (.aload_n 2, 1) := by decide +kernel
theorem dL_law_2270 : decode code 2270 = .ok (.invokevirtual 258, 3) := by decide +kernel
theorem dL_law_2273 : decode code 2273 = .ok (.if_icmp .eq 5, 3) := by decide +kernel
theorem dL_law_2278 : decode code 2278 = .ok (.iinc 5 5, 3) := by decide +kernel
theorem dL_law_2281 : decode code 2281 = .ok (.goto (-2253), 3) := by decide +kernel
theorem dL_law_2284 : decode code 2284 = .ok (.iconst 1, 1) := by decide +kernel
theorem dL_law_2285 : decode code 2285 = .ok (.ireturn, 1) := by decide +kernel
theorem dL_load_0 : decode method_26_code 0 = .ok (.aload_n 2, 1) := by decide +kernel
theorem dL_load_1 : decode method_26_code 1 = .ok (.iconst 0, 1) := by decide +kernel
theorem dL_load_2 : decode method_26_code 2 = .ok (.aload_n 0, 1) := by decide +kernel
theorem dL_load_3 : decode method_26_code 3 = .ok (.iload_n 1, 1) := by decide +kernel
theorem dL_load_4 : decode method_26_code 4 = .ok (.invokevirtual 96, 3) := by decide +kernel
theorem dL_load_12 : decode method_26_code 12 = .ok (.astore_n 3, 1) := by decide +kernel
theorem dL_load_13 : decode method_26_code 13 = .ok (.iconst 1, 1) := by decide +kernel
theorem dL_load_14 : decode method_26_code 14 = .ok (.ireturn, 1) := by decide +kernel
theorem dL_meanLoad_0 : decode method_33_code 0 = .ok (.aload_n 1, 1) := by decide +kernel
theorem dL_meanLoad_1 : decode method_33_code 1 = .ok (.iconst 0, 1) := by decide +kernel
theorem dL_meanLoad_2 : decode method_33_code 2 = .ok (.aload_n 0, 1) := by decide +kernel
theorem dL_meanLoad_3 : decode method_33_code 3 = .ok (.invokevirtual 122, 3) := by decide +kernel
theorem dL_meanLoad_10 : decode method_33_code 10 = .ok (.astore_n 2, 1) := by decide +kernel
theorem dL_meanLoad_11 : decode method_33_code 11 = .ok (.iconst 1, 1) := by decide +kernel
theorem dL_meanLoad_12 : decode method_33_code 12 = .ok (.ireturn, 1) := by decide +kernel
theorem dL_pile_0 : decode method_28_code 0 = .ok (.aload_n 2, 1) := by decide +kernel
theorem dL_pile_1 : decode method_28_code 1 = .ok (.iconst 0, 1) := by decide +kernel
theorem dL_pile_2 : decode method_28_code 2 = .ok (.aload_n 0, 1) := by decide +kernel
theorem dL_pile_3 : decode method_28_code 3 = .ok (.iload_n 1, 1) := by decide +kernel
theorem dL_pile_4 : decode method_28_code 4 = .ok (.invokevirtual 103, 3) := by decide +kernel
theorem dL_pile_12 : decode method_28_code 12 = .ok (.astore_n 3, 1) := by decide +kernel
theorem dL_pile_13 : decode method_28_code 13 = .ok (.iconst 1, 1) := by decide +kernel
theorem dL_pile_14 : decode method_28_code 14 = .ok (.ireturn, 1) := by decide +kernel
theorem dL_pressure_0 : decode method_13_code 0 = .ok (.aload_n 2, 1) := by decide +kernel
theorem dL_pressure_1 : decode method_13_code 1 = .ok (.iconst 0, 1) := by decide +kernel
theorem dL_pressure_2 : decode method_13_code 2 = .ok (.aload_n 0, 1) := by decide +kernel
theorem dL_pressure_3 : decode method_13_code 3 = .ok (.iload_n 1, 1) := by decide +kernel
theorem dL_pressure_4 : decode method_13_code 4 = .ok (.invokevirtual 56, 3) := by decide +kernel
theorem dL_pressure_12 : decode method_13_code 12 = .ok (.astore_n 3, 1) := by decide +kernel
theorem dL_pressure_13 : decode method_13_code 13 = .ok (.iconst 1, 1) := by decide +kernel
theorem dL_pressure_14 : decode method_13_code 14 = .ok (.ireturn, 1) := by decide +kernel
theorem dL_reading_0 : decode method_17_code 0 = .ok (.aload_n 2, 1) := by decide +kernel
theorem dL_reading_1 : decode method_17_code 1 = .ok (.iconst 0, 1) := by decide +kernel
theorem dL_reading_2 : decode method_17_code 2 = .ok (.aload_n 0, 1) := by decide +kernel
theorem dL_reading_3 : decode method_17_code 3 = .ok (.iload_n 1, 1) := by decide +kernel
theorem dL_reading_4 : decode method_17_code 4 = .ok (.invokevirtual 69, 3) := by decide +kernel
theorem dL_reading_12 : decode method_17_code 12 = .ok (.astore_n 3, 1) := by decide +kernel
theorem dL_reading_13 : decode method_17_code 13 = .ok (.iconst 1, 1) := by decide +kernel
theorem dL_reading_14 : decode method_17_code 14 = .ok (.ireturn, 1) := by decide +kernel
theorem dL_refusedBy_0 : decode method_11_code 0 = .ok (.aload_n 1, 1) := by decide +kernel
theorem dL_refusedBy_1 : decode method_11_code 1 = .ok (.iconst 0, 1) := by decide +kernel
theorem dL_refusedBy_2 : decode method_11_code 2 = .ok (.aload_n 0, 1) := by decide +kernel
theorem dL_refusedBy_3 : decode method_11_code 3 = .ok (.invokevirtual 49, 3) := by decide +kernel
theorem dL_refusedBy_11 : decode method_11_code 11 = .ok (.astore_n 2, 1) := by decide +kernel
theorem dL_refusedBy_12 : decode method_11_code 12 = .ok (.iconst 1, 1) := by decide +kernel
theorem dL_refusedBy_13 : decode method_11_code 13 = .ok (.ireturn, 1) := by decide +kernel
theorem dL_setLimit_0 : decode method_7_code 0 = .ok (.aload_n 2, 1) := by decide +kernel
theorem dL_setLimit_1 : decode method_7_code 1 = .ok (.iconst 0, 1) := by decide +kernel
theorem dL_setLimit_2 : decode method_7_code 2 = .ok (.aload_n 0, 1) := by decide +kernel
theorem dL_setLimit_3 : decode method_7_code 3 = .ok (.iload_n 1, 1) := by decide +kernel
theorem dL_setLimit_4 : decode method_7_code 4 = .ok (.invokevirtual 31, 3) := by decide +kernel
theorem dL_setLimit_7 : decode method_7_code 7 = .ok (.i2l, 1) := by decide +kernel
theorem dL_setLimit_8 : decode method_7_code 8 = .ok (.lastore, 1) := by decide +kernel
theorem dL_setLimit_9 : decode method_7_code 9 = .ok (.goto 6, 3) := by decide +kernel
theorem dL_setLimit_12 : decode method_7_code 12 = .ok (.astore_n 3, 1) := by decide +kernel
theorem dL_setLimit_13 : decode method_7_code 13 = .ok (.iconst 1, 1) := by decide +kernel
theorem dL_setLimit_14 : decode method_7_code 14 = .ok (.ireturn, 1) := by decide +kernel
theorem dL_setLimit_15 : decode method_7_code 15 = .ok (.iconst 0, 1) := by decide +kernel
theorem dL_setLimit_16 : decode method_7_code 16 = .ok (.ireturn, 1) := by decide +kernel
theorem dL_setRight_0 : decode method_9_code 0 = .ok (.aload_n 2, 1) := by decide +kernel
theorem dL_setRight_1 : decode method_9_code 1 = .ok (.iconst 0, 1) := by decide +kernel
theorem dL_setRight_2 : decode method_9_code 2 = .ok (.aload_n 0, 1) := by decide +kernel
theorem dL_setRight_3 : decode method_9_code 3 = .ok (.iload_n 1, 1) := by decide +kernel
theorem dL_setRight_4 : decode method_9_code 4 = .ok (.invokevirtual 38, 3) := by decide +kernel
theorem dL_setRight_12 : decode method_9_code 12 = .ok (.astore_n 3, 1) := by decide +kernel
theorem dL_setRight_13 : decode method_9_code 13 = .ok (.iconst 1, 1) := by decide +kernel
theorem dL_setRight_14 : decode method_9_code 14 = .ok (.ireturn, 1) := by decide +kernel
theorem dL_setSensor_0 : decode method_8_code 0 = .ok (.aload_n 3, 1) := by decide +kernel
theorem dL_setSensor_1 : decode method_8_code 1 = .ok (.iconst 0, 1) := by decide +kernel
theorem dL_setSensor_2 : decode method_8_code 2 = .ok (.aload_n 0, 1) := by decide +kernel
theorem dL_setSensor_3 : decode method_8_code 3 = .ok (.iload_n 1, 1) := by decide +kernel
theorem dL_setSensor_4 : decode method_8_code 4 = .ok (.iload_n 2, 1) := by decide +kernel
theorem dL_setSensor_5 : decode method_8_code 5 = .ok (.invokevirtual 35, 3) := by decide +kernel
theorem dL_setSensor_20 : decode method_8_code 20 = .ok (.astore 4, 2) := by decide +kernel
theorem dL_setSensor_22 : decode method_8_code 22 = .ok (.iconst 1, 1) := by decide +kernel
theorem dL_setSensor_23 : decode method_8_code 23 = .ok (.ireturn, 1) := by decide +kernel
theorem dL_stateOf_0 : decode method_27_code 0 = .ok (.aload_n 2, 1) := by decide +kernel
theorem dL_stateOf_1 : decode method_27_code 1 = .ok (.iconst 0, 1) := by decide +kernel
theorem dL_stateOf_2 : decode method_27_code 2 = .ok (.aload_n 0, 1) := by decide +kernel
theorem dL_stateOf_3 : decode method_27_code 3 = .ok (.iload_n 1, 1) := by decide +kernel
theorem dL_stateOf_4 : decode method_27_code 4 = .ok (.invokevirtual 99, 3) := by decide +kernel
theorem dL_stateOf_12 : decode method_27_code 12 = .ok (.astore_n 3, 1) := by decide +kernel
theorem dL_stateOf_13 : decode method_27_code 13 = .ok (.iconst 1, 1) := by decide +kernel
theorem dL_stateOf_14 : decode method_27_code 14 = .ok (.ireturn, 1) := by decide +kernel
theorem dL_step_0 : decode method_10_code 0 = .ok (.aload 4, 2) := by decide +kernel
theorem dL_step_2 : decode method_10_code 2 = .ok (.iconst 0, 1) := by decide +kernel
theorem dL_step_3 : decode method_10_code 3 = .ok (.aload_n 0, 1) := by decide +kernel
theorem dL_step_4 : decode method_10_code 4 = .ok (.iload_n 1, 1) := by decide +kernel
theorem dL_step_5 : decode method_10_code 5 = .ok (.iload_n 2, 1) := by decide +kernel
theorem dL_step_6 : decode method_10_code 6 = .ok (.iload_n 3, 1) := by decide +kernel
theorem dL_step_7 : decode method_10_code 7 = .ok (.invokevirtual 43, 3) := by decide +kernel
theorem dL_step_15 : decode method_10_code 15 = .ok (.astore 5, 2) := by decide +kernel
theorem dL_step_17 : decode method_10_code 17 = .ok (.iconst 1, 1) := by decide +kernel
theorem dL_step_18 : decode method_10_code 18 = .ok (.ireturn, 1) := by decide +kernel
theorem dL_step_19 : decode method_10_code 19 = .ok (.astore 5, 2) := by decide +kernel
theorem dL_step_21 : decode method_10_code 21 = .ok (.iconst 2, 1) := by decide +kernel
theorem dL_step_22 : decode method_10_code 22 = .ok (.ireturn, 1) := by decide +kernel
theorem dL_tons_0 : decode method_25_code 0 = .ok (.aload_n 2, 1) := by decide +kernel
theorem dL_tons_1 : decode method_25_code 1 = .ok (.iconst 0, 1) := by decide +kernel
theorem dL_tons_2 : decode method_25_code 2 = .ok (.aload_n 0, 1) := by decide +kernel
theorem dL_tons_3 : decode method_25_code 3 = .ok (.iload_n 1, 1) := by decide +kernel
theorem dL_tons_4 : decode method_25_code 4 = .ok (.invokevirtual 93, 3) := by decide +kernel
theorem dL_tons_12 : decode method_25_code 12 = .ok (.astore_n 3, 1) := by decide +kernel
theorem dL_tons_13 : decode method_25_code 13 = .ok (.iconst 1, 1) := by decide +kernel
theorem dL_tons_14 : decode method_25_code 14 = .ok (.ireturn, 1) := by decide +kernel
theorem dL_walk_0 : decode method_20_code 0 = .ok (.aload_n 3, 1) := by decide +kernel
theorem dL_walk_1 : decode method_20_code 1 = .ok (.iconst 0, 1) := by decide +kernel
theorem dL_walk_2 : decode method_20_code 2 = .ok (.aload_n 0, 1) := by decide +kernel
theorem dL_walk_3 : decode method_20_code 3 = .ok (.iload_n 1, 1) := by decide +kernel
theorem dL_walk_4 : decode method_20_code 4 = .ok (.iload_n 2, 1) := by decide +kernel
theorem dL_walk_5 : decode method_20_code 5 = .ok (.invokevirtual 78, 3) := by decide +kernel
theorem dL_walk_20 : decode method_20_code 20 = .ok (.astore 4, 2) := by decide +kernel
theorem dL_walk_22 : decode method_20_code 22 = .ok (.iconst 1, 1) := by decide +kernel
theorem dL_walk_23 : decode method_20_code 23 = .ok (.ireturn, 1) := by decide +kernel
theorem dL_ways_0 : decode method_24_code 0 = .ok (.aload_n 2, 1) := by decide +kernel
theorem dL_ways_1 : decode method_24_code 1 = .ok (.iconst 0, 1) := by decide +kernel
theorem dL_ways_2 : decode method_24_code 2 = .ok (.aload_n 0, 1) := by decide +kernel
theorem dL_ways_3 : decode method_24_code 3 = .ok (.iload_n 1, 1) := by decide +kernel
theorem dL_ways_4 : decode method_24_code 4 = .ok (.invokevirtual 90, 3) := by decide +kernel
theorem dL_ways_12 : decode method_24_code 12 = .ok (.astore_n 3, 1) := by decide +kernel
theorem dL_ways_13 : decode method_24_code 13 = .ok (.iconst 1, 1) := by decide +kernel
theorem dL_ways_14 : decode method_24_code 14 = .ok (.ireturn, 1) := by decide +kernel
theorem dL_whereIs_0 : decode method_21_code 0 = .ok (.aload_n 2, 1) := by decide +kernel
theorem dL_whereIs_1 : decode method_21_code 1 = .ok (.iconst 0, 1) := by decide +kernel
theorem dL_whereIs_2 : decode method_21_code 2 = .ok (.aload_n 0, 1) := by decide +kernel
theorem dL_whereIs_3 : decode method_21_code 3 = .ok (.iload_n 1, 1) := by decide +kernel
theorem dL_whereIs_4 : decode method_21_code 4 = .ok (.invokevirtual 81, 3) := by decide +kernel
theorem dL_whereIs_12 : decode method_21_code 12 = .ok (.astore_n 3, 1) := by decide +kernel
theorem dL_whereIs_13 : decode method_21_code 13 = .ok (.iconst 1, 1) := by decide +kernel
theorem dL_whereIs_14 : decode method_21_code 14 = .ok (.ireturn, 1) := by decide +kernel
theorem dX0_find_0 : decode prog_2_method_2_code 0 = .ok (.aload_n 0, 1) := by decide +kernel
theorem dX0_find_1 : decode prog_2_method_2_code 1 = .ok (.aload_n 1, 1) := by decide +kernel
theorem dX0_find_2 : decode prog_2_method_2_code 2 = .ok (.invokevirtual 70, 3) := by decide +kernel
theorem dX0_find_5 : decode prog_2_method_2_code 5 = .ok (.aload_n 0, 1) := by decide +kernel
theorem dX0_find_6 : decode prog_2_method_2_code 6 = .ok (.getfield 12, 3) := by decide +kernel
theorem dX0_find_9 : decode prog_2_method_2_code 9 = .ok (.iconst 0, 1) := by decide +kernel
theorem dX0_find_10 : decode prog_2_method_2_code 10 = .ok (.putfield 74, 3) := by decide +kernel
theorem dX0_find_13 : decode prog_2_method_2_code 13 = .ok (.aload_n 0, 1) := by decide +kernel
theorem dX0_find_14 : decode prog_2_method_2_code 14 = .ok (.iconst 0, 1) := by decide +kernel
theorem dX0_find_15 : decode prog_2_method_2_code 15 = .ok (.putfield 78, 3) := by decide +kernel
theorem dX0_find_18 : decode prog_2_method_2_code 18 = .ok (.aload_n 0, 1) := by decide +kernel
theorem dX0_find_19 : decode prog_2_method_2_code 19 = .ok (.aload_n 1, 1) := by decide +kernel
theorem dX0_find_20 : decode prog_2_method_2_code 20 = .ok (.iconst 3, 1) := by decide +kernel
theorem dX0_find_21 : decode prog_2_method_2_code 21 = .ok (.invokevirtual 81, 3) := by decide +kernel
theorem dX0_find_24 : decode prog_2_method_2_code 24 = .ok (.ifCond .eq 8, 3) := by decide +kernel
theorem dX0_find_27 : decode prog_2_method_2_code 27 = .ok (.aload_n 0, 1) := by decide +kernel
theorem dX0_find_28 : decode prog_2_method_2_code 28 = .ok (.aload_n 1, 1) := by decide +kernel
theorem dX0_find_29 : decode prog_2_method_2_code 29 = .ok (.invokevirtual 85, 3) := by decide +kernel
theorem dX0_find_32 : decode prog_2_method_2_code 32 = .ok (.return_, 1) := by decide +kernel
theorem dX0_findUnknowns_0 : decode prog_2_method_5_code 0 = .ok (.iconst 0, 1) := by decide +kernel
theorem dX0_findUnknowns_1 : decode prog_2_method_5_code 1 = .ok (.istore_n 2, 1) := by decide +kernel
theorem dX0_findUnknowns_2 : decode prog_2_method_5_code 2 = .ok (.iload_n 2, 1) := by decide +kernel
theorem dX0_findUnknowns_3 : decode prog_2_method_5_code 3 = .ok (.aload_n 1, 1) := by decide +kernel
theorem dX0_findUnknowns_4 : decode prog_2_method_5_code 4 = .ok (.getfield 108, 3) := by decide +kernel
theorem dX0_findUnknowns_7 : decode prog_2_method_5_code 7 = .ok (.if_icmp .ge 23, 3) := by decide +kernel
theorem dX0_findUnknowns_30 : decode prog_2_method_5_code 30 = .ok (.aload_n 0, 1) := by decide +kernel
theorem dX0_findUnknowns_31 : decode prog_2_method_5_code 31 = .ok (.getfield 43, 3) := by decide +kernel
theorem dX0_findUnknowns_34 : decode prog_2_method_5_code 34 = .ok (.aload_n 1, 1) := by decide +kernel
theorem dX0_findUnknowns_35 : decode prog_2_method_5_code 35 = .ok (.invokevirtual 131, 3) := by decide +kernel
theorem dX0_findUnknowns_38 : decode prog_2_method_5_code 38 = .ok (.aload_n 0, 1) := by decide +kernel
theorem dX0_findUnknowns_39 : decode prog_2_method_5_code 39 = .ok (.iconst 0, 1) := by decide +kernel
theorem dX0_findUnknowns_40 : decode prog_2_method_5_code 40 = .ok (.putfield 134, 3) := by decide +kernel
theorem dX0_findUnknowns_43 : decode prog_2_method_5_code 43 = .ok (.iconst 0, 1) := by decide +kernel
theorem dX0_findUnknowns_44 : decode prog_2_method_5_code 44 = .ok (.istore_n 2, 1) := by decide +kernel
theorem dX0_findUnknowns_45 : decode prog_2_method_5_code 45 = .ok (.iload_n 2, 1) := by decide +kernel
theorem dX0_findUnknowns_46 : decode prog_2_method_5_code 46 = .ok (.aload_n 1, 1) := by decide +kernel
theorem dX0_findUnknowns_47 : decode prog_2_method_5_code 47 = .ok (.getfield 103, 3) := by decide +kernel
theorem dX0_findUnknowns_50 : decode prog_2_method_5_code 50 = .ok (.if_icmp .ge 104, 3) := by decide +kernel
theorem dX0_findUnknowns_154 : decode prog_2_method_5_code 154 = .ok (.return_, 1) := by decide +kernel
theorem dX0_init_0 : decode prog_2_method_1_code 0 = .ok (.aload_n 0, 1) := by decide +kernel
theorem dX0_init_1 : decode prog_2_method_1_code 1 = .ok (.invokespecial 3, 3) := by decide +kernel
theorem dX0_init_4 : decode prog_2_method_1_code 4 = .ok (.aload_n 0, 1) := by decide +kernel
theorem dX0_init_5 : decode prog_2_method_1_code 5 = .ok (.new 9, 3) := by decide +kernel
theorem dX0_init_8 : decode prog_2_method_1_code 8 = .ok (.dup, 1) := by decide +kernel
theorem dX0_init_9 : decode prog_2_method_1_code 9 = .ok (.invokespecial 11, 3) := by decide +kernel
theorem dX0_init_12 : decode prog_2_method_1_code 12 = .ok (.putfield 12, 3) := by decide +kernel
theorem dX0_init_15 : decode prog_2_method_1_code 15 = .ok (.aload_n 0, 1) := by decide +kernel
theorem dX0_init_16 : decode prog_2_method_1_code 16 = .ok (.bipush 32, 2) := by decide +kernel
theorem dX0_init_18 : decode prog_2_method_1_code 18 = .ok (.newarray .long, 2) := by decide +kernel
theorem dX0_init_20 : decode prog_2_method_1_code 20 = .ok (.putfield 18, 3) := by decide +kernel
theorem dX0_init_23 : decode prog_2_method_1_code 23 = .ok (.aload_n 0, 1) := by decide +kernel
theorem dX0_init_24 : decode prog_2_method_1_code 24 = .ok (.bipush 32, 2) := by decide +kernel
theorem dX0_init_26 : decode prog_2_method_1_code 26 = .ok (.bipush 14, 2) := by decide +kernel
theorem dX0_init_28 : decode prog_2_method_1_code 28 = .ok (.multianewarray 22 2, 4) := by decide +kernel
theorem dX0_init_32 : decode prog_2_method_1_code 32 = .ok (.putfield 24, 3) := by decide +kernel
theorem dX0_init_35 : decode prog_2_method_1_code 35 = .ok (.aload_n 0, 1) := by decide +kernel
theorem dX0_init_36 : decode prog_2_method_1_code 36 = .ok (.bipush 14, 2) := by decide +kernel
theorem dX0_init_38 : decode prog_2_method_1_code 38 = .ok (.newarray .int, 2) := by decide +kernel
theorem dX0_init_40 : decode prog_2_method_1_code 40 = .ok (.putfield 27, 3) := by decide +kernel
theorem dX0_init_43 : decode prog_2_method_1_code 43 = .ok (.aload_n 0, 1) := by decide +kernel
theorem dX0_init_44 : decode prog_2_method_1_code 44 = .ok (.bipush 14, 2) := by decide +kernel
theorem dX0_init_46 : decode prog_2_method_1_code 46 = .ok (.newarray .int, 2) := by decide +kernel
theorem dX0_init_48 : decode prog_2_method_1_code 48 = .ok (.putfield 31, 3) := by decide +kernel
theorem dX0_init_51 : decode prog_2_method_1_code 51 = .ok (.aload_n 0, 1) := by decide +kernel
theorem dX0_init_52 : decode prog_2_method_1_code 52 = .ok (.bipush 9, 2) := by decide +kernel
theorem dX0_init_54 : decode prog_2_method_1_code 54 = .ok (.newarray .int, 2) := by decide +kernel
theorem dX0_init_56 : decode prog_2_method_1_code 56 = .ok (.putfield 34, 3) := by decide +kernel
theorem dX0_init_59 : decode prog_2_method_1_code 59 = .ok (.aload_n 0, 1) := by decide +kernel
theorem dX0_init_60 : decode prog_2_method_1_code 60 = .ok (.bipush 32, 2) := by decide +kernel
theorem dX0_init_62 : decode prog_2_method_1_code 62 = .ok (.bipush 9, 2) := by decide +kernel
theorem dX0_init_64 : decode prog_2_method_1_code 64 = .ok (.multianewarray 22 2, 4) := by decide +kernel
theorem dX0_init_68 : decode prog_2_method_1_code 68 = .ok (.putfield 37, 3) := by decide +kernel
theorem dX0_init_71 : decode prog_2_method_1_code 71 = .ok (.aload_n 0, 1) := by decide +kernel
theorem dX0_init_72 : decode prog_2_method_1_code 72 = .ok (.new 40, 3) := by decide +kernel
theorem dX0_init_75 : decode prog_2_method_1_code 75 = .ok (.dup, 1) := by decide +kernel
theorem dX0_init_76 : decode prog_2_method_1_code 76 = .ok (.invokespecial 42, 3) := by decide +kernel
theorem dX0_init_79 : decode prog_2_method_1_code 79 = .ok (.putfield 43, 3) := by decide +kernel
theorem dX0_init_82 : decode prog_2_method_1_code 82 = .ok (.aload_n 0, 1) := by decide +kernel
theorem dX0_init_83 : decode prog_2_method_1_code 83 = .ok (.new 47, 3) := by decide +kernel
theorem dX0_init_86 : decode prog_2_method_1_code 86 = .ok (.dup, 1) := by decide +kernel
theorem dX0_init_87 : decode prog_2_method_1_code 87 = .ok (.invokespecial 49, 3) := by decide +kernel
theorem dX0_init_90 : decode prog_2_method_1_code 90 = .ok (.putfield 50, 3) := by decide +kernel
theorem dX0_init_93 : decode prog_2_method_1_code 93 = .ok (.aload_n 0, 1) := by decide +kernel
theorem dX0_init_94 : decode prog_2_method_1_code 94 = .ok (.new 54, 3) := by decide +kernel
theorem dX0_init_97 : decode prog_2_method_1_code 97 = .ok (.dup, 1) := by decide +kernel
theorem dX0_init_98 : decode prog_2_method_1_code 98 = .ok (.invokespecial 56, 3) := by decide +kernel
theorem dX0_init_101 : decode prog_2_method_1_code 101 = .ok (.putfield 57, 3) := by decide +kernel
theorem dX0_init_104 : decode prog_2_method_1_code 104 = .ok (.aload_n 0, 1) := by decide +kernel
theorem dX0_init_105 : decode prog_2_method_1_code 105 = .ok (.bipush 9, 2) := by decide +kernel
theorem dX0_init_107 : decode prog_2_method_1_code 107 = .ok (.newarray .int, 2) := by decide +kernel
theorem dX0_init_109 : decode prog_2_method_1_code 109 = .ok (.putfield 61, 3) := by decide +kernel
theorem dX0_init_112 : decode prog_2_method_1_code 112 = .ok (.aload_n 0, 1) := by decide +kernel
theorem dX0_init_113 : decode prog_2_method_1_code 113 = .ok (.bipush 9, 2) := by decide +kernel
theorem dX0_init_115 : decode prog_2_method_1_code 115 = .ok (.newarray .int, 2) := by decide +kernel
theorem dX0_init_117 : decode prog_2_method_1_code 117 = .ok (.putfield 64, 3) := by decide +kernel
theorem dX0_init_120 : decode prog_2_method_1_code 120 = .ok (.aload_n 0, 1) := by decide +kernel
theorem dX0_init_121 : decode prog_2_method_1_code 121 = .ok (.bipush 14, 2) := by decide +kernel
theorem dX0_init_123 : decode prog_2_method_1_code 123 = .ok (.newarray .long, 2) := by decide +kernel
theorem dX0_init_125 : decode prog_2_method_1_code 125 = .ok (.putfield 67, 3) := by decide +kernel
theorem dX0_init_128 : decode prog_2_method_1_code 128 = .ok (.return_, 1) := by decide +kernel
theorem dX0_isBalanced_0 : decode prog_2_method_4_code 0 = .ok (.iconst 0, 1) := by decide +kernel
theorem dX0_isBalanced_1 : decode prog_2_method_4_code 1 = .ok (.istore_n 2, 1) := by decide +kernel
theorem dX0_isBalanced_2 : decode prog_2_method_4_code 2 = .ok (.iload_n 2, 1) := by decide +kernel
theorem dX0_isBalanced_3 : decode prog_2_method_4_code 3 = .ok (.aload_n 1, 1) := by decide +kernel
theorem dX0_isBalanced_4 : decode prog_2_method_4_code 4 = .ok (.getfield 103, 3) := by decide +kernel
theorem dX0_isBalanced_7 : decode prog_2_method_4_code 7 = .ok (.if_icmp .ge 135, 3) := by decide +kernel
theorem dX0_isBalanced_142 : decode prog_2_method_4_code 142 = .ok (.iconst 1, 1) := by decide +kernel
theorem dX0_isBalanced_143 : decode prog_2_method_4_code 143 = .ok (.ireturn, 1) := by decide +kernel
theorem dX0_keep_0 : decode prog_2_method_8_code 0 = .ok (.aload_n 0, 1) := by decide +kernel
theorem dX0_keep_1 : decode prog_2_method_8_code 1 = .ok (.getfield 12, 3) := by decide +kernel
theorem dX0_keep_4 : decode prog_2_method_8_code 4 = .ok (.getfield 74, 3) := by decide +kernel
theorem dX0_keep_7 : decode prog_2_method_8_code 7 = .ok (.istore 6, 2) := by decide +kernel
theorem dX0_keep_9 : decode prog_2_method_8_code 9 = .ok (.aload_n 0, 1) := by decide +kernel
theorem dX0_keep_10 : decode prog_2_method_8_code 10 = .ok (.getfield 37, 3) := by decide +kernel
theorem dX0_keep_13 : decode prog_2_method_8_code 13 = .ok (.iload 6, 2) := by decide +kernel
theorem dX0_keep_15 : decode prog_2_method_8_code 15 = .ok (.aaload, 1) := by decide +kernel
theorem dX0_keep_16 : decode prog_2_method_8_code 16 = .ok (.astore 7, 2) := by decide +kernel
theorem dX0_keep_18 : decode prog_2_method_8_code 18 = .ok (.iconst 0, 1) := by decide +kernel
theorem dX0_keep_19 : decode prog_2_method_8_code 19 = .ok (.istore 8, 2) := by decide +kernel
theorem dX0_keep_21 : decode prog_2_method_8_code 21 = .ok (.iload 8, 2) := by decide +kernel
theorem dX0_keep_23 : decode prog_2_method_8_code 23 = .ok (.aload_n 1, 1) := by decide +kernel
theorem dX0_keep_24 : decode prog_2_method_8_code 24 = .ok (.getfield 103, 3) := by decide +kernel
theorem dX0_keep_27 : decode prog_2_method_8_code 27 = .ok (.if_icmp .ge 67, 3) := by decide +kernel
theorem dX0_keep_94 : decode prog_2_method_8_code 94 = .ok (.iconst 0, 1) := by decide +kernel
theorem dX0_keep_95 : decode prog_2_method_8_code 95 = .ok (.istore 8, 2) := by decide +kernel
theorem dX0_keep_97 : decode prog_2_method_8_code 97 = .ok (.iload 8, 2) := by decide +kernel
theorem dX0_keep_99 : decode prog_2_method_8_code 99 = .ok (.aload_n 1, 1) := by decide +kernel
theorem dX0_keep_100 : decode prog_2_method_8_code 100 = .ok (.getfield 108, 3) := by decide +kernel
theorem dX0_keep_103 : decode prog_2_method_8_code 103 = .ok (.if_icmp .ge 69, 3) := by decide +kernel
theorem dX0_keep_172 : decode prog_2_method_8_code 172 = .ok (.aload_n 0, 1) := by decide +kernel
theorem dX0_keep_173 : decode prog_2_method_8_code 173 = .ok (.getfield 18, 3) := by decide +kernel
theorem dX0_keep_176 : decode prog_2_method_8_code 176 = .ok (.iload 6, 2) := by decide +kernel
theorem dX0_keep_178 : decode prog_2_method_8_code 178 = .ok (.lload 4, 2) := by decide +kernel
theorem dX0_keep_180 : decode prog_2_method_8_code 180 = .ok (.lastore, 1) := by decide +kernel
theorem dX0_keep_181 : decode prog_2_method_8_code 181 = .ok (.return_, 1) := by decide +kernel
theorem dX0_reach_0 : decode prog_2_method_3_code 0 = .ok (.aload_n 0, 1) := by decide +kernel
theorem dX0_reach_1 : decode prog_2_method_3_code 1 = .ok (.getfield 78, 3) := by decide +kernel
theorem dX0_reach_4 : decode prog_2_method_3_code 4 = .ok (.istore_n 3, 1) := by decide +kernel
theorem dX0_reach_5 : decode prog_2_method_3_code 5 = .ok (.iload_n 3, 1) := by decide +kernel
theorem dX0_reach_6 : decode prog_2_method_3_code 6 = .ok (.getstatic 88, 3) := by decide +kernel
theorem dX0_reach_9 : decode prog_2_method_3_code 9 = .ok (.arraylength, 1) := by decide +kernel
theorem dX0_reach_10 : decode prog_2_method_3_code 10 = .ok (.if_icmp .ge 73, 3) := by decide +kernel
theorem dX0_reach_13 : decode prog_2_method_3_code 13 = .ok (.aload_n 0, 1) := by decide +kernel
theorem dX0_reach_14 : decode prog_2_method_3_code 14 = .ok (.getfield 12, 3) := by decide +kernel
theorem dX0_reach_17 : decode prog_2_method_3_code 17 = .ok (.getfield 74, 3) := by decide +kernel
theorem dX0_reach_20 : decode prog_2_method_3_code 20 = .ok (.iload_n 2, 1) := by decide +kernel
theorem dX0_reach_21 : decode prog_2_method_3_code 21 = .ok (.if_icmp .ge 62, 3) := by decide +kernel
theorem dX0_reach_24 : decode prog_2_method_3_code 24 = .ok (.aload_n 0, 1) := by decide +kernel
theorem dX0_reach_25 : decode prog_2_method_3_code 25 = .ok (.aload_n 1, 1) := by decide +kernel
theorem dX0_reach_26 : decode prog_2_method_3_code 26 = .ok (.getstatic 88, 3) := by decide +kernel
theorem dX0_reach_29 : decode prog_2_method_3_code 29 = .ok (.iload_n 3, 1) := by decide +kernel
theorem dX0_reach_30 : decode prog_2_method_3_code 30 = .ok (.iaload, 1) := by decide +kernel
theorem dX0_reach_31 : decode prog_2_method_3_code 31 = .ok (.i2l, 1) := by decide +kernel
theorem dX0_reach_32 : decode prog_2_method_3_code 32 = .ok (.invokevirtual 91, 3) := by decide +kernel
theorem dX0_reach_35 : decode prog_2_method_3_code 35 = .ok (.lstore 4, 2) := by decide +kernel
theorem dX0_reach_37 : decode prog_2_method_3_code 37 = .ok (.lload 4, 2) := by decide +kernel
theorem dX0_reach_39 : decode prog_2_method_3_code 39 = .ok (.lconst 0, 1) := by decide +kernel
theorem dX0_reach_40 : decode prog_2_method_3_code 40 = .ok (.lcmp, 1) := by decide +kernel
theorem dX0_reach_41 : decode prog_2_method_3_code 41 = .ok (.ifCond .eq 29, 3) := by decide +kernel
theorem dX0_reach_44 : decode prog_2_method_3_code 44 = .ok (.aload_n 0, 1) := by decide +kernel
theorem dX0_reach_45 : decode prog_2_method_3_code 45 = .ok (.aload_n 1, 1) := by decide +kernel
theorem dX0_reach_46 : decode prog_2_method_3_code 46 = .ok (.getstatic 88, 3) := by decide +kernel
theorem dX0_reach_49 : decode prog_2_method_3_code 49 = .ok (.iload_n 3, 1) := by decide +kernel
theorem dX0_reach_50 : decode prog_2_method_3_code 50 = .ok (.iaload, 1) := by decide +kernel
theorem dX0_reach_51 : decode prog_2_method_3_code 51 = .ok (.i2l, 1) := by decide +kernel
theorem dX0_reach_52 : decode prog_2_method_3_code 52 = .ok (.lload 4, 2) := by decide +kernel
theorem dX0_reach_54 : decode prog_2_method_3_code 54 = .ok (.invokevirtual 95, 3) := by decide +kernel
theorem dX0_reach_57 : decode prog_2_method_3_code 57 = .ok (.aload_n 0, 1) := by decide +kernel
theorem dX0_reach_58 : decode prog_2_method_3_code 58 = .ok (.getfield 12, 3) := by decide +kernel
theorem dX0_reach_61 : decode prog_2_method_3_code 61 = .ok (.getstatic 88, 3) := by decide +kernel
theorem dX0_reach_64 : decode prog_2_method_3_code 64 = .ok (.iload_n 3, 1) := by decide +kernel
theorem dX0_reach_65 : decode prog_2_method_3_code 65 = .ok (.iaload, 1) := by decide +kernel
theorem dX0_reach_66 : decode prog_2_method_3_code 66 = .ok (.i2l, 1) := by decide +kernel
theorem dX0_reach_67 : decode prog_2_method_3_code 67 = .ok (.invokevirtual 99, 3) := by decide +kernel
theorem dX0_reach_70 : decode prog_2_method_3_code 70 = .ok (.aload_n 0, 1) := by decide +kernel
theorem dX0_reach_71 : decode prog_2_method_3_code 71 = .ok (.iload_n 3, 1) := by decide +kernel
theorem dX0_reach_72 : decode prog_2_method_3_code 72 = .ok (.iconst 1, 1) := by decide +kernel
theorem dX0_reach_73 : decode prog_2_method_3_code 73 = .ok (.iadd, 1) := by decide +kernel
theorem dX0_reach_74 : decode prog_2_method_3_code 74 = .ok (.putfield 78, 3) := by decide +kernel
theorem dX0_reach_77 : decode prog_2_method_3_code 77 = .ok (.iinc 3 1, 3) := by decide +kernel
theorem dX0_reach_80 : decode prog_2_method_3_code 80 = .ok (.goto (-75), 3) := by decide +kernel
theorem dX0_reach_83 : decode prog_2_method_3_code 83 = .ok (.aload_n 0, 1) := by decide +kernel
theorem dX0_reach_84 : decode prog_2_method_3_code 84 = .ok (.getfield 12, 3) := by decide +kernel
theorem dX0_reach_87 : decode prog_2_method_3_code 87 = .ok (.getfield 74, 3) := by decide +kernel
theorem dX0_reach_90 : decode prog_2_method_3_code 90 = .ok (.iload_n 2, 1) := by decide +kernel
theorem dX0_reach_91 : decode prog_2_method_3_code 91 = .ok (.if_icmp .lt 7, 3) := by decide +kernel
theorem dX0_reach_94 : decode prog_2_method_3_code 94 = .ok (.iconst 1, 1) := by decide +kernel
theorem dX0_reach_95 : decode prog_2_method_3_code 95 = .ok (.goto 4, 3) := by decide +kernel
theorem dX0_reach_99 : decode prog_2_method_3_code 99 = .ok (.ireturn, 1) := by decide +kernel
theorem dX0_solveModulo_0 : decode prog_2_method_6_code 0 = .ok (.lload_n 2, 1) := by decide +kernel
theorem dX0_solveModulo_1 : decode prog_2_method_6_code 1 = .ok (.ldc2_w 146, 3) := by decide +kernel
theorem dX0_solveModulo_4 : decode prog_2_method_6_code 4 = .ok (.lcmp, 1) := by decide +kernel
theorem dX0_solveModulo_5 : decode prog_2_method_6_code 5 = .ok (.ifCond .lt 15, 3) := by decide +kernel
theorem dX0_solveModulo_8 : decode prog_2_method_6_code 8 = .ok (.aload_n 0, 1) := by decide +kernel
theorem dX0_solveModulo_9 : decode prog_2_method_6_code 9 = .ok (.getfield 12, 3) := by decide +kernel
theorem dX0_solveModulo_12 : decode prog_2_method_6_code 12 = .ok (.getfield 74, 3) := by decide +kernel
theorem dX0_solveModulo_15 : decode prog_2_method_6_code 15 = .ok (.bipush 32, 2) := by decide +kernel
theorem dX0_solveModulo_17 : decode prog_2_method_6_code 17 = .ok (.if_icmp .lt 5, 3) := by decide +kernel
theorem dX0_solveModulo_22 : decode prog_2_method_6_code 22 = .ok (.aload_n 0, 1) := by decide +kernel
theorem dX0_solveModulo_23 : decode prog_2_method_6_code 23 = .ok (.getfield 50, 3) := by decide +kernel
theorem dX0_solveModulo_26 : decode prog_2_method_6_code 26 = .ok (.aload_n 0, 1) := by decide +kernel
theorem dX0_solveModulo_27 : decode prog_2_method_6_code 27 = .ok (.getfield 134, 3) := by decide +kernel
theorem dX0_solveModulo_30 : decode prog_2_method_6_code 30 = .ok (.lload_n 2, 1) := by decide +kernel
theorem dX0_solveModulo_31 : decode prog_2_method_6_code 31 = .ok (.invokevirtual 148, 3) := by decide +kernel
theorem dX0_solveModulo_34 : decode prog_2_method_6_code 34 = .ok (.lconst 1, 1) := by decide +kernel
theorem dX0_solveModulo_35 : decode prog_2_method_6_code 35 = .ok (.lstore 4, 2) := by decide +kernel
theorem dX0_solveModulo_37 : decode prog_2_method_6_code 37 = .ok (.iconst 0, 1) := by decide +kernel
theorem dX0_solveModulo_38 : decode prog_2_method_6_code 38 = .ok (.istore 6, 2) := by decide +kernel
theorem dX0_solveModulo_40 : decode prog_2_method_6_code 40 = .ok (.iload 6, 2) := by decide +kernel
theorem dX0_solveModulo_42 : decode prog_2_method_6_code 42 = .ok (.aload_n 1, 1) := by decide +kernel
theorem dX0_solveModulo_43 : decode prog_2_method_6_code 43 = .ok (.getfield 108, 3) := by decide +kernel
theorem dX0_solveModulo_46 : decode prog_2_method_6_code 46 = .ok (.if_icmp .ge 113, 3) := by decide +kernel
theorem dX0_solveModulo_159 : decode prog_2_method_6_code 159 = .ok (.aload_n 0, 1) := by decide +kernel
theorem dX0_solveModulo_160 : decode prog_2_method_6_code 160 = .ok (.getfield 50, 3) := by decide +kernel
theorem dX0_solveModulo_163 : decode prog_2_method_6_code 163 = .ok (.aload_n 0, 1) := by decide +kernel
theorem dX0_solveModulo_164 : decode prog_2_method_6_code 164 = .ok (.getfield 134, 3) := by decide +kernel
theorem dX0_solveModulo_167 : decode prog_2_method_6_code 167 = .ok (.invokevirtual 167, 3) := by decide +kernel
theorem dX0_solveModulo_170 : decode prog_2_method_6_code 170 = .ok (.lload 4, 2) := by decide +kernel
theorem dX0_solveModulo_172 : decode prog_2_method_6_code 172 = .ok (.lmul, 1) := by decide +kernel
theorem dX0_solveModulo_173 : decode prog_2_method_6_code 173 = .ok (.lload_n 2, 1) := by decide +kernel
theorem dX0_solveModulo_174 : decode prog_2_method_6_code 174 = .ok (.lrem, 1) := by decide +kernel
theorem dX0_solveModulo_175 : decode prog_2_method_6_code 175 = .ok (.lreturn, 1) := by decide +kernel
theorem dX0_tell_0 : decode prog_2_method_9_code 0 = .ok (.iconst 0, 1) := by decide +kernel
theorem dX0_tell_1 : decode prog_2_method_9_code 1 = .ok (.istore_n 2, 1) := by decide +kernel
theorem dX0_tell_2 : decode prog_2_method_9_code 2 = .ok (.iload_n 2, 1) := by decide +kernel
theorem dX0_tell_3 : decode prog_2_method_9_code 3 = .ok (.aload_n 0, 1) := by decide +kernel
theorem dX0_tell_4 : decode prog_2_method_9_code 4 = .ok (.getfield 12, 3) := by decide +kernel
theorem dX0_tell_7 : decode prog_2_method_9_code 7 = .ok (.getfield 74, 3) := by decide +kernel
theorem dX0_tell_10 : decode prog_2_method_9_code 10 = .ok (.if_icmp .ge 24, 3) := by decide +kernel
theorem dX0_tell_13 : decode prog_2_method_9_code 13 = .ok (.aload_n 0, 1) := by decide +kernel
theorem dX0_tell_14 : decode prog_2_method_9_code 14 = .ok (.getfield 57, 3) := by decide +kernel
theorem dX0_tell_17 : decode prog_2_method_9_code 17 = .ok (.getfield 182, 3) := by decide +kernel
theorem dX0_tell_20 : decode prog_2_method_9_code 20 = .ok (.iload_n 2, 1) := by decide +kernel
theorem dX0_tell_21 : decode prog_2_method_9_code 21 = .ok (.aload_n 0, 1) := by decide +kernel
theorem dX0_tell_22 : decode prog_2_method_9_code 22 = .ok (.getfield 18, 3) := by decide +kernel
theorem dX0_tell_25 : decode prog_2_method_9_code 25 = .ok (.iload_n 2, 1) := by decide +kernel
theorem dX0_tell_26 : decode prog_2_method_9_code 26 = .ok (.laload, 1) := by decide +kernel
theorem dX0_tell_27 : decode prog_2_method_9_code 27 = .ok (.lastore, 1) := by decide +kernel
theorem dX0_tell_28 : decode prog_2_method_9_code 28 = .ok (.iinc 2 1, 3) := by decide +kernel
theorem dX0_tell_31 : decode prog_2_method_9_code 31 = .ok (.goto (-29), 3) := by decide +kernel
theorem dX0_tell_34 : decode prog_2_method_9_code 34 = .ok (.aload_n 0, 1) := by decide +kernel
theorem dX0_tell_35 : decode prog_2_method_9_code 35 = .ok (.getfield 57, 3) := by decide +kernel
theorem dX0_tell_38 : decode prog_2_method_9_code 38 = .ok (.aload_n 0, 1) := by decide +kernel
theorem dX0_tell_39 : decode prog_2_method_9_code 39 = .ok (.getfield 12, 3) := by decide +kernel
theorem dX0_tell_42 : decode prog_2_method_9_code 42 = .ok (.invokevirtual 185, 3) := by decide +kernel
theorem dX0_tell_45 : decode prog_2_method_9_code 45 = .ok (.aload_n 0, 1) := by decide +kernel
theorem dX0_tell_46 : decode prog_2_method_9_code 46 = .ok (.aload_n 0, 1) := by decide +kernel
theorem dX0_tell_47 : decode prog_2_method_9_code 47 = .ok (.getfield 57, 3) := by decide +kernel
theorem dX0_tell_50 : decode prog_2_method_9_code 50 = .ok (.aload_n 0, 1) := by decide +kernel
theorem dX0_tell_51 : decode prog_2_method_9_code 51 = .ok (.getfield 12, 3) := by decide +kernel
theorem dX0_tell_54 : decode prog_2_method_9_code 54 = .ok (.invokevirtual 189, 3) := by decide +kernel
theorem dX0_tell_57 : decode prog_2_method_9_code 57 = .ok (.putfield 193, 3) := by decide +kernel
theorem dX0_tell_60 : decode prog_2_method_9_code 60 = .ok (.iconst 0, 1) := by decide +kernel
theorem dX0_tell_61 : decode prog_2_method_9_code 61 = .ok (.istore_n 2, 1) := by decide +kernel
theorem dX0_tell_62 : decode prog_2_method_9_code 62 = .ok (.iload_n 2, 1) := by decide +kernel
theorem dX0_tell_63 : decode prog_2_method_9_code 63 = .ok (.aload_n 1, 1) := by decide +kernel
theorem dX0_tell_64 : decode prog_2_method_9_code 64 = .ok (.getfield 103, 3) := by decide +kernel
theorem dX0_tell_67 : decode prog_2_method_9_code 67 = .ok (.if_icmp .ge 64, 3) := by decide +kernel
theorem dX0_tell_131 : decode prog_2_method_9_code 131 = .ok (.iconst 0, 1) := by decide +kernel
theorem dX0_tell_132 : decode prog_2_method_9_code 132 = .ok (.istore_n 2, 1) := by decide +kernel
theorem dX0_tell_133 : decode prog_2_method_9_code 133 = .ok (.iload_n 2, 1) := by decide +kernel
theorem dX0_tell_134 : decode prog_2_method_9_code 134 = .ok (.aload_n 1, 1) := by decide +kernel
theorem dX0_tell_135 : decode prog_2_method_9_code 135 = .ok (.getfield 108, 3) := by decide +kernel
theorem dX0_tell_138 : decode prog_2_method_9_code 138 = .ok (.if_icmp .ge 118, 3) := by decide +kernel
theorem dX0_tell_256 : decode prog_2_method_9_code 256 = .ok (.return_, 1) := by decide +kernel
theorem dX10_firstOverloaded_0 : decode prog_12_method_11_code 0 = .ok (.iconst 0, 1) := by decide +kernel
theorem dX10_firstOverloaded_1 : decode prog_12_method_11_code 1 = .ok (.istore_n 1, 1) := by decide +kernel
theorem dX10_firstOverloaded_2 : decode prog_12_method_11_code 2 = .ok (.iload_n 1, 1) := by decide +kernel
theorem dX10_firstOverloaded_3 : decode prog_12_method_11_code 3 = .ok (.aload_n 0, 1) := by decide +kernel
theorem dX10_firstOverloaded_4 : decode prog_12_method_11_code 4 = .ok (.getfield 40, 3) := by decide +kernel
theorem dX10_firstOverloaded_7 : decode prog_12_method_11_code 7 = .ok (.if_icmp .ge 34, 3) := by decide +kernel
theorem dX10_firstOverloaded_41 : decode prog_12_method_11_code 41 = .ok (.iconst (-1), 1) := by decide +kernel
theorem dX10_firstOverloaded_42 : decode prog_12_method_11_code 42 = .ok (.ireturn, 1) := by decide +kernel
theorem dX10_has_0 : decode prog_12_method_2_code 0 = .ok (.iload_n 1, 1) := by decide +kernel
theorem dX10_has_1 : decode prog_12_method_2_code 1 = .ok (.ifCond .lt 15, 3) := by decide +kernel
theorem dX10_has_4 : decode prog_12_method_2_code 4 = .ok (.iload_n 1, 1) := by decide +kernel
theorem dX10_has_5 : decode prog_12_method_2_code 5 = .ok (.aload_n 0, 1) := by decide +kernel
theorem dX10_has_6 : decode prog_12_method_2_code 6 = .ok (.getfield 40, 3) := by decide +kernel
theorem dX10_has_9 : decode prog_12_method_2_code 9 = .ok (.if_icmp .ge 7, 3) := by decide +kernel
theorem dX10_has_16 : decode prog_12_method_2_code 16 = .ok (.iconst 0, 1) := by decide +kernel
theorem dX10_has_17 : decode prog_12_method_2_code 17 = .ok (.ireturn, 1) := by decide +kernel
theorem dX10_init_0 : decode prog_12_method_1_code 0 = .ok (.aload_n 0, 1) := by decide +kernel
theorem dX10_init_1 : decode prog_12_method_1_code 1 = .ok (.invokespecial 3, 3) := by decide +kernel
theorem dX10_init_4 : decode prog_12_method_1_code 4 = .ok (.aload_n 0, 1) := by decide +kernel
theorem dX10_init_5 : decode prog_12_method_1_code 5 = .ok (.bipush 8, 2) := by decide +kernel
theorem dX10_init_7 : decode prog_12_method_1_code 7 = .ok (.newarray .int, 2) := by decide +kernel
theorem dX10_init_9 : decode prog_12_method_1_code 9 = .ok (.putfield 9, 3) := by decide +kernel
theorem dX10_init_12 : decode prog_12_method_1_code 12 = .ok (.aload_n 0, 1) := by decide +kernel
theorem dX10_init_13 : decode prog_12_method_1_code 13 = .ok (.bipush 8, 2) := by decide +kernel
theorem dX10_init_15 : decode prog_12_method_1_code 15 = .ok (.newarray .int, 2) := by decide +kernel
theorem dX10_init_17 : decode prog_12_method_1_code 17 = .ok (.putfield 15, 3) := by decide +kernel
theorem dX10_init_20 : decode prog_12_method_1_code 20 = .ok (.aload_n 0, 1) := by decide +kernel
theorem dX10_init_21 : decode prog_12_method_1_code 21 = .ok (.bipush 8, 2) := by decide +kernel
theorem dX10_init_23 : decode prog_12_method_1_code 23 = .ok (.newarray .int, 2) := by decide +kernel
theorem dX10_init_25 : decode prog_12_method_1_code 25 = .ok (.putfield 18, 3) := by decide +kernel
theorem dX10_init_28 : decode prog_12_method_1_code 28 = .ok (.aload_n 0, 1) := by decide +kernel
theorem dX10_init_29 : decode prog_12_method_1_code 29 = .ok (.bipush 8, 2) := by decide +kernel
theorem dX10_init_31 : decode prog_12_method_1_code 31 = .ok (.newarray .int, 2) := by decide +kernel
theorem dX10_init_33 : decode prog_12_method_1_code 33 = .ok (.putfield 21, 3) := by decide +kernel
theorem dX10_init_36 : decode prog_12_method_1_code 36 = .ok (.aload_n 0, 1) := by decide +kernel
theorem dX10_init_37 : decode prog_12_method_1_code 37 = .ok (.bipush 8, 2) := by decide +kernel
theorem dX10_init_39 : decode prog_12_method_1_code 39 = .ok (.newarray .char, 2) := by decide +kernel
theorem dX10_init_41 : decode prog_12_method_1_code 41 = .ok (.putfield 24, 3) := by decide +kernel
theorem dX10_init_44 : decode prog_12_method_1_code 44 = .ok (.aload_n 0, 1) := by decide +kernel
theorem dX10_init_45 : decode prog_12_method_1_code 45 = .ok (.bipush 8, 2) := by decide +kernel
theorem dX10_init_47 : decode prog_12_method_1_code 47 = .ok (.newarray .int, 2) := by decide +kernel
theorem dX10_init_49 : decode prog_12_method_1_code 49 = .ok (.putfield 28, 3) := by decide +kernel
theorem dX10_init_52 : decode prog_12_method_1_code 52 = .ok (.aload_n 0, 1) := by decide +kernel
theorem dX10_init_53 : decode prog_12_method_1_code 53 = .ok (.bipush 8, 2) := by decide +kernel
theorem dX10_init_55 : decode prog_12_method_1_code 55 = .ok (.newarray .int, 2) := by decide +kernel
theorem dX10_init_57 : decode prog_12_method_1_code 57 = .ok (.putfield 31, 3) := by decide +kernel
theorem dX10_init_60 : decode prog_12_method_1_code 60 = .ok (.aload_n 0, 1) := by decide +kernel
theorem dX10_init_61 : decode prog_12_method_1_code 61 = .ok (.bipush 8, 2) := by decide +kernel
theorem dX10_init_63 : decode prog_12_method_1_code 63 = .ok (.newarray .int, 2) := by decide +kernel
theorem dX10_init_65 : decode prog_12_method_1_code 65 = .ok (.putfield 34, 3) := by decide +kernel
theorem dX10_init_68 : decode prog_12_method_1_code 68 = .ok (.aload_n 0, 1) := by decide +kernel
theorem dX10_init_69 : decode prog_12_method_1_code 69 = .ok (.bipush 8, 2) := by decide +kernel
theorem dX10_init_71 : decode prog_12_method_1_code 71 = .ok (.newarray .int, 2) := by decide +kernel
theorem dX10_init_73 : decode prog_12_method_1_code 73 = .ok (.putfield 37, 3) := by decide +kernel
theorem dX10_init_76 : decode prog_12_method_1_code 76 = .ok (.return_, 1) := by decide +kernel
theorem dX10_setFillings_0 : decode prog_12_method_10_code 0 = .ok (.iconst 0, 1) := by decide +kernel
theorem dX10_setFillings_1 : decode prog_12_method_10_code 1 = .ok (.istore_n 1, 1) := by decide +kernel
theorem dX10_setFillings_2 : decode prog_12_method_10_code 2 = .ok (.iload_n 1, 1) := by decide +kernel
theorem dX10_setFillings_3 : decode prog_12_method_10_code 3 = .ok (.aload_n 0, 1) := by decide +kernel
theorem dX10_setFillings_4 : decode prog_12_method_10_code 4 = .ok (.getfield 40, 3) := by decide +kernel
theorem dX10_setFillings_7 : decode prog_12_method_10_code 7 = .ok (.if_icmp .ge 28, 3) := by decide +kernel
theorem dX10_setFillings_35 : decode prog_12_method_10_code 35 = .ok (.return_, 1) := by decide +kernel
theorem dX10_tonsOnPiles_0 : decode prog_12_method_7_code 0 = .ok (.iconst 0, 1) := by decide +kernel
theorem dX10_tonsOnPiles_1 : decode prog_12_method_7_code 1 = .ok (.istore_n 1, 1) := by decide +kernel
theorem dX10_tonsOnPiles_2 : decode prog_12_method_7_code 2 = .ok (.iconst 0, 1) := by decide +kernel
theorem dX10_tonsOnPiles_3 : decode prog_12_method_7_code 3 = .ok (.istore_n 2, 1) := by decide +kernel
theorem dX10_tonsOnPiles_4 : decode prog_12_method_7_code 4 = .ok (.iload_n 2, 1) := by decide +kernel
theorem dX10_tonsOnPiles_5 : decode prog_12_method_7_code 5 = .ok (.aload_n 0, 1) := by decide +kernel
theorem dX10_tonsOnPiles_6 : decode prog_12_method_7_code 6 = .ok (.getfield 40, 3) := by decide +kernel
theorem dX10_tonsOnPiles_9 : decode prog_12_method_7_code 9 = .ok (.if_icmp .ge 18, 3) := by decide +kernel
theorem dX10_tonsOnPiles_27 : decode prog_12_method_7_code 27 = .ok (.iload_n 1, 1) := by decide +kernel
theorem dX10_tonsOnPiles_28 : decode prog_12_method_7_code 28 = .ok (.ireturn, 1) := by decide +kernel
theorem dX11_addJunction_0 : decode prog_1_method_2_code 0 = .ok (.iload_n 1, 1) := by decide +kernel
theorem dX11_addJunction_1 : decode prog_1_method_2_code 1 = .ok (.ifCond .eq 22, 3) := by decide +kernel
theorem dX11_addJunction_4 : decode prog_1_method_2_code 4 = .ok (.iload_n 2, 1) := by decide +kernel
theorem dX11_addJunction_5 : decode prog_1_method_2_code 5 = .ok (.bipush (-50), 2) := by decide +kernel
theorem dX11_addJunction_7 : decode prog_1_method_2_code 7 = .ok (.bipush 50, 2) := by decide +kernel
theorem dX11_addJunction_9 : decode prog_1_method_2_code 9 = .ok (.invokestatic 80, 3) := by decide +kernel
theorem dX11_addJunction_12 : decode prog_1_method_2_code 12 = .ok (.ifCond .ne 11, 3) := by decide +kernel
theorem dX11_addJunction_15 : decode prog_1_method_2_code 15 = .ok (.new 84, 3) := by decide +kernel
theorem dX11_addJunction_18 : decode prog_1_method_2_code 18 = .ok (.dup, 1) := by decide +kernel
theorem dX11_addJunction_19 : decode prog_1_method_2_code 19 = .ok (.invokespecial 86, 3) := by decide +kernel
theorem dX11_addJunction_22 : decode prog_1_method_2_code 22 = .ok (.athrow, 1) := by decide +kernel
theorem dX11_addJunction_23 : decode prog_1_method_2_code 23 = .ok (.aload_n 0, 1) := by decide +kernel
theorem dX11_addJunction_24 : decode prog_1_method_2_code 24 = .ok (.getfield 10, 3) := by decide +kernel
theorem dX11_addJunction_27 : decode prog_1_method_2_code 27 = .ok (.getfield 87, 3) := by decide +kernel
theorem dX11_addJunction_30 : decode prog_1_method_2_code 30 = .ok (.bipush 9, 2) := by decide +kernel
theorem dX11_addJunction_32 : decode prog_1_method_2_code 32 = .ok (.if_icmp .lt 11, 3) := by decide +kernel
theorem dX11_addJunction_43 : decode prog_1_method_2_code 43 = .ok (.aload_n 0, 1) := by decide +kernel
theorem dX11_addJunction_44 : decode prog_1_method_2_code 44 = .ok (.iconst 1, 1) := by decide +kernel
theorem dX11_addJunction_45 : decode prog_1_method_2_code 45 = .ok (.putfield 76, 3) := by decide +kernel
theorem dX11_addJunction_48 : decode prog_1_method_2_code 48 = .ok (.aload_n 0, 1) := by decide +kernel
theorem dX11_addJunction_49 : decode prog_1_method_2_code 49 = .ok (.getfield 10, 3) := by decide +kernel
theorem dX11_addJunction_52 : decode prog_1_method_2_code 52 = .ok (.iload_n 1, 1) := by decide +kernel
theorem dX11_addJunction_53 : decode prog_1_method_2_code 53 = .ok (.iload_n 2, 1) := by decide +kernel
theorem dX11_addJunction_54 : decode prog_1_method_2_code 54 = .ok (.invokevirtual 93, 3) := by decide +kernel
theorem dX11_addJunction_57 : decode prog_1_method_2_code 57 = .ok (.ireturn, 1) := by decide +kernel
theorem dX11_addRoad_0 : decode prog_1_method_3_code 0 = .ok (.aload_n 0, 1) := by decide +kernel
theorem dX11_addRoad_1 : decode prog_1_method_3_code 1 = .ok (.getfield 10, 3) := by decide +kernel
theorem dX11_addRoad_4 : decode prog_1_method_3_code 4 = .ok (.iload_n 1, 1) := by decide +kernel
theorem dX11_addRoad_5 : decode prog_1_method_3_code 5 = .ok (.invokevirtual 97, 3) := by decide +kernel
theorem dX11_addRoad_8 : decode prog_1_method_3_code 8 = .ok (.ifCond .eq 14, 3) := by decide +kernel
theorem dX11_addRoad_22 : decode prog_1_method_3_code 22 = .ok (.new 101, 3) := by decide +kernel
theorem dX11_addRoad_25 : decode prog_1_method_3_code 25 = .ok (.dup, 1) := by decide +kernel
theorem dX11_addRoad_26 : decode prog_1_method_3_code 26 = .ok (.invokespecial 103, 3) := by decide +kernel
theorem dX11_addRoad_29 : decode prog_1_method_3_code 29 = .ok (.athrow, 1) := by decide +kernel
theorem dX11_addStope_0 : decode prog_1_method_4_code 0 = .ok (.aload_n 0, 1) := by decide +kernel
theorem dX11_addStope_1 : decode prog_1_method_4_code 1 = .ok (.getfield 10, 3) := by decide +kernel
theorem dX11_addStope_4 : decode prog_1_method_4_code 4 = .ok (.iload_n 1, 1) := by decide +kernel
theorem dX11_addStope_5 : decode prog_1_method_4_code 5 = .ok (.invokevirtual 97, 3) := by decide +kernel
theorem dX11_addStope_8 : decode prog_1_method_4_code 8 = .ok (.ifCond .ne 11, 3) := by decide +kernel
theorem dX11_addStope_11 : decode prog_1_method_4_code 11 = .ok (.new 101, 3) := by decide +kernel
theorem dX11_addStope_14 : decode prog_1_method_4_code 14 = .ok (.dup, 1) := by decide +kernel
theorem dX11_addStope_15 : decode prog_1_method_4_code 15 = .ok (.invokespecial 103, 3) := by decide +kernel
theorem dX11_addStope_18 : decode prog_1_method_4_code 18 = .ok (.athrow, 1) := by decide +kernel
theorem dX11_come_0 : decode prog_1_method_19_code 0 = .ok (.aload_n 0, 1) := by decide +kernel
theorem dX11_come_1 : decode prog_1_method_19_code 1 = .ok (.getfield 10, 3) := by decide +kernel
theorem dX11_come_4 : decode prog_1_method_19_code 4 = .ok (.iload_n 1, 1) := by decide +kernel
theorem dX11_come_5 : decode prog_1_method_19_code 5 = .ok (.invokevirtual 97, 3) := by decide +kernel
theorem dX11_come_8 : decode prog_1_method_19_code 8 = .ok (.ifCond .ne 11, 3) := by decide +kernel
theorem dX11_come_11 : decode prog_1_method_19_code 11 = .ok (.new 101, 3) := by decide +kernel
theorem dX11_come_14 : decode prog_1_method_19_code 14 = .ok (.dup, 1) := by decide +kernel
theorem dX11_come_15 : decode prog_1_method_19_code 15 = .ok (.invokespecial 103, 3) := by decide +kernel
theorem dX11_come_18 : decode prog_1_method_19_code 18 = .ok (.athrow, 1) := by decide +kernel
theorem dX11_deliver_0 : decode prog_1_method_29_code 0 = .ok (.iload_n 1, 1) := by decide +kernel
theorem dX11_deliver_1 : decode prog_1_method_29_code 1 = .ok (.iconst 1, 1) := by decide +kernel
theorem dX11_deliver_2 : decode prog_1_method_29_code 2 = .ok (.bipush 20, 2) := by decide +kernel
theorem dX11_deliver_4 : decode prog_1_method_29_code 4 = .ok (.invokestatic 80, 3) := by decide +kernel
theorem dX11_deliver_7 : decode prog_1_method_29_code 7 = .ok (.ifCond .eq 19, 3) := by decide +kernel
theorem dX11_deliver_10 : decode prog_1_method_29_code 10 = .ok (.iload_n 2, 1) := by decide +kernel
theorem dX11_deliver_11 : decode prog_1_method_29_code 11 = .ok (.ifCond .lt 15, 3) := by decide +kernel
theorem dX11_deliver_14 : decode prog_1_method_29_code 14 = .ok (.iload_n 2, 1) := by decide +kernel
theorem dX11_deliver_15 : decode prog_1_method_29_code 15 = .ok (.iload_n 3, 1) := by decide +kernel
theorem dX11_deliver_16 : decode prog_1_method_29_code 16 = .ok (.if_icmp .gt 10, 3) := by decide +kernel
theorem dX11_deliver_19 : decode prog_1_method_29_code 19 = .ok (.iload_n 3, 1) := by decide +kernel
theorem dX11_deliver_20 : decode prog_1_method_29_code 20 = .ok (.sipush 999, 3) := by decide +kernel
theorem dX11_deliver_23 : decode prog_1_method_29_code 23 = .ok (.if_icmp .le 11, 3) := by decide +kernel
theorem dX11_deliver_26 : decode prog_1_method_29_code 26 = .ok (.new 84, 3) := by decide +kernel
theorem dX11_deliver_29 : decode prog_1_method_29_code 29 = .ok (.dup, 1) := by decide +kernel
theorem dX11_deliver_30 : decode prog_1_method_29_code 30 = .ok (.invokespecial 86, 3) := by decide +kernel
theorem dX11_deliver_33 : decode prog_1_method_29_code 33 = .ok (.athrow, 1) := by decide +kernel
theorem dX11_deliver_34 : decode prog_1_method_29_code 34 = .ok (.aload_n 0, 1) := by decide +kernel
theorem dX11_deliver_35 : decode prog_1_method_29_code 35 = .ok (.getfield 22, 3) := by decide +kernel
theorem dX11_deliver_38 : decode prog_1_method_29_code 38 = .ok (.invokevirtual 245, 3) := by decide +kernel
theorem dX11_deliver_41 : decode prog_1_method_29_code 41 = .ok (.iload_n 1, 1) := by decide +kernel
theorem dX11_deliver_42 : decode prog_1_method_29_code 42 = .ok (.if_icmp .ge 11, 3) := by decide +kernel
theorem dX11_deliver_45 : decode prog_1_method_29_code 45 = .ok (.new 163, 3) := by decide +kernel
theorem dX11_deliver_48 : decode prog_1_method_29_code 48 = .ok (.dup, 1) := by decide +kernel
theorem dX11_deliver_49 : decode prog_1_method_29_code 49 = .ok (.invokespecial 165, 3) := by decide +kernel
theorem dX11_deliver_52 : decode prog_1_method_29_code 52 = .ok (.athrow, 1) := by decide +kernel
theorem dX11_delivered_0 : decode prog_1_method_30_code 0 = .ok (.aload_n 0, 1) := by decide +kernel
theorem dX11_delivered_1 : decode prog_1_method_30_code 1 = .ok (.getfield 22, 3) := by decide +kernel
theorem dX11_delivered_4 : decode prog_1_method_30_code 4 = .ok (.iload_n 1, 1) := by decide +kernel
theorem dX11_delivered_5 : decode prog_1_method_30_code 5 = .ok (.invokevirtual 121, 3) := by decide +kernel
theorem dX11_delivered_8 : decode prog_1_method_30_code 8 = .ok (.ifCond .ne 11, 3) := by decide +kernel
theorem dX11_delivered_11 : decode prog_1_method_30_code 11 = .ok (.new 101, 3) := by decide +kernel
theorem dX11_delivered_14 : decode prog_1_method_30_code 14 = .ok (.dup, 1) := by decide +kernel
theorem dX11_delivered_15 : decode prog_1_method_30_code 15 = .ok (.invokespecial 103, 3) := by decide +kernel
theorem dX11_delivered_18 : decode prog_1_method_30_code 18 = .ok (.athrow, 1) := by decide +kernel
theorem dX11_flow_0 : decode prog_1_method_12_code 0 = .ok (.aload_n 0, 1) := by decide +kernel
theorem dX11_flow_1 : decode prog_1_method_12_code 1 = .ok (.getfield 10, 3) := by decide +kernel
theorem dX11_flow_4 : decode prog_1_method_12_code 4 = .ok (.iload_n 1, 1) := by decide +kernel
theorem dX11_flow_5 : decode prog_1_method_12_code 5 = .ok (.invokevirtual 194, 3) := by decide +kernel
theorem dX11_flow_8 : decode prog_1_method_12_code 8 = .ok (.ifCond .ne 11, 3) := by decide +kernel
theorem dX11_flow_11 : decode prog_1_method_12_code 11 = .ok (.new 101, 3) := by decide +kernel
theorem dX11_flow_14 : decode prog_1_method_12_code 14 = .ok (.dup, 1) := by decide +kernel
theorem dX11_flow_15 : decode prog_1_method_12_code 15 = .ok (.invokespecial 103, 3) := by decide +kernel
theorem dX11_flow_18 : decode prog_1_method_12_code 18 = .ok (.athrow, 1) := by decide +kernel
theorem dX11_gas_0 : decode prog_1_method_14_code 0 = .ok (.aload_n 0, 1) := by decide +kernel
theorem dX11_gas_1 : decode prog_1_method_14_code 1 = .ok (.getfield 10, 3) := by decide +kernel
theorem dX11_gas_4 : decode prog_1_method_14_code 4 = .ok (.iload_n 1, 1) := by decide +kernel
theorem dX11_gas_5 : decode prog_1_method_14_code 5 = .ok (.invokevirtual 97, 3) := by decide +kernel
theorem dX11_gas_8 : decode prog_1_method_14_code 8 = .ok (.ifCond .ne 11, 3) := by decide +kernel
theorem dX11_gas_11 : decode prog_1_method_14_code 11 = .ok (.new 101, 3) := by decide +kernel
theorem dX11_gas_14 : decode prog_1_method_14_code 14 = .ok (.dup, 1) := by decide +kernel
theorem dX11_gas_15 : decode prog_1_method_14_code 15 = .ok (.invokespecial 103, 3) := by decide +kernel
theorem dX11_gas_18 : decode prog_1_method_14_code 18 = .ok (.athrow, 1) := by decide +kernel
theorem dX11_goodShare_0 : decode prog_1_method_35_code 0 = .ok (.aload_n 0, 1) := by decide +kernel
theorem dX11_goodShare_1 : decode prog_1_method_35_code 1 = .ok (.getfield 10, 3) := by decide +kernel
theorem dX11_goodShare_4 : decode prog_1_method_35_code 4 = .ok (.getfield 87, 3) := by decide +kernel
theorem dX11_goodShare_7 : decode prog_1_method_35_code 7 = .ok (.ifCond .gt 11, 3) := by decide +kernel
theorem dX11_goodShare_10 : decode prog_1_method_35_code 10 = .ok (.new 263, 3) := by decide +kernel
theorem dX11_goodShare_13 : decode prog_1_method_35_code 13 = .ok (.dup, 1) := by decide +kernel
theorem dX11_goodShare_14 : decode prog_1_method_35_code 14 = .ok (.invokespecial 265, 3) := by decide +kernel
theorem dX11_goodShare_17 : decode prog_1_method_35_code 17 = .ok (.athrow, 1) := by decide +kernel
theorem dX11_hasPerson_0 : decode prog_1_method_39_code 0 = .ok (.iload_n 1, 1) := by decide +kernel
theorem dX11_hasPerson_1 : decode prog_1_method_39_code 1 = .ok (.ifCond .lt 15, 3) := by decide +kernel
theorem dX11_hasPerson_4 : decode prog_1_method_39_code 4 = .ok (.iload_n 1, 1) := by decide +kernel
theorem dX11_hasPerson_5 : decode prog_1_method_39_code 5 = .ok (.aload_n 0, 1) := by decide +kernel
theorem dX11_hasPerson_6 : decode prog_1_method_39_code 6 = .ok (.getfield 209, 3) := by decide +kernel
theorem dX11_hasPerson_9 : decode prog_1_method_39_code 9 = .ok (.if_icmp .ge 7, 3) := by decide +kernel
theorem dX11_hasPerson_16 : decode prog_1_method_39_code 16 = .ok (.iconst 0, 1) := by decide +kernel
theorem dX11_hasPerson_17 : decode prog_1_method_39_code 17 = .ok (.ireturn, 1) := by decide +kernel
theorem dX11_hasPower_0 : decode prog_1_method_18_code 0 = .ok (.aload_n 0, 1) := by decide +kernel
theorem dX11_hasPower_1 : decode prog_1_method_18_code 1 = .ok (.getfield 10, 3) := by decide +kernel
theorem dX11_hasPower_4 : decode prog_1_method_18_code 4 = .ok (.iload_n 1, 1) := by decide +kernel
theorem dX11_hasPower_5 : decode prog_1_method_18_code 5 = .ok (.invokevirtual 97, 3) := by decide +kernel
theorem dX11_hasPower_8 : decode prog_1_method_18_code 8 = .ok (.ifCond .ne 11, 3) := by decide +kernel
theorem dX11_hasPower_11 : decode prog_1_method_18_code 11 = .ok (.new 101, 3) := by decide +kernel
theorem dX11_hasPower_14 : decode prog_1_method_18_code 14 = .ok (.dup, 1) := by decide +kernel
theorem dX11_hasPower_15 : decode prog_1_method_18_code 15 = .ok (.invokespecial 103, 3) := by decide +kernel
theorem dX11_hasPower_18 : decode prog_1_method_18_code 18 = .ok (.athrow, 1) := by decide +kernel
theorem dX11_hasStepTarget_0 : decode prog_1_method_45_code 0 = .ok (.iload_n 1, 1) := by decide +kernel
theorem dX11_hasStepTarget_1 : decode prog_1_method_45_code 1 = .ok (.bipush 100, 2) := by decide +kernel
theorem dX11_hasStepTarget_3 : decode prog_1_method_45_code 3 = .ok (.if_icmp .eq 15, 3) := by decide +kernel
theorem dX11_hasStepTarget_6 : decode prog_1_method_45_code 6 = .ok (.iload_n 1, 1) := by decide +kernel
theorem dX11_hasStepTarget_7 : decode prog_1_method_45_code 7 = .ok (.bipush 98, 2) := by decide +kernel
theorem dX11_hasStepTarget_9 : decode prog_1_method_45_code 9 = .ok (.if_icmp .eq 9, 3) := by decide +kernel
theorem dX11_hasStepTarget_12 : decode prog_1_method_45_code 12 = .ok (.iload_n 1, 1) := by decide +kernel
theorem dX11_hasStepTarget_13 : decode prog_1_method_45_code 13 = .ok (.bipush 102, 2) := by decide +kernel
theorem dX11_hasStepTarget_15 : decode prog_1_method_45_code 15 = .ok (.if_icmp .ne 12, 3) := by decide +kernel
theorem dX11_hasStepTarget_18 : decode prog_1_method_45_code 18 = .ok (.aload_n 0, 1) := by decide +kernel
theorem dX11_hasStepTarget_19 : decode prog_1_method_45_code 19 = .ok (.getfield 10, 3) := by decide +kernel
theorem dX11_hasStepTarget_22 : decode prog_1_method_45_code 22 = .ok (.iload_n 2, 1) := by decide +kernel
theorem dX11_hasStepTarget_23 : decode prog_1_method_45_code 23 = .ok (.invokevirtual 194, 3) := by decide +kernel
theorem dX11_hasStepTarget_26 : decode prog_1_method_45_code 26 = .ok (.ireturn, 1) := by decide +kernel
theorem dX11_hasStepTarget_27 : decode prog_1_method_45_code 27 = .ok (.iload_n 1, 1) := by decide +kernel
theorem dX11_hasStepTarget_28 : decode prog_1_method_45_code 28 = .ok (.bipush 110, 2) := by decide +kernel
theorem dX11_hasStepTarget_30 : decode prog_1_method_45_code 30 = .ok (.if_icmp .eq 9, 3) := by decide +kernel
theorem dX11_hasStepTarget_33 : decode prog_1_method_45_code 33 = .ok (.iload_n 1, 1) := by decide +kernel
theorem dX11_hasStepTarget_34 : decode prog_1_method_45_code 34 = .ok (.bipush 115, 2) := by decide +kernel
theorem dX11_hasStepTarget_36 : decode prog_1_method_45_code 36 = .ok (.if_icmp .ne 12, 3) := by decide +kernel
theorem dX11_hasStepTarget_39 : decode prog_1_method_45_code 39 = .ok (.aload_n 0, 1) := by decide +kernel
theorem dX11_hasStepTarget_40 : decode prog_1_method_45_code 40 = .ok (.getfield 10, 3) := by decide +kernel
theorem dX11_hasStepTarget_43 : decode prog_1_method_45_code 43 = .ok (.iload_n 2, 1) := by decide +kernel
theorem dX11_hasStepTarget_44 : decode prog_1_method_45_code 44 = .ok (.invokevirtual 97, 3) := by decide +kernel
theorem dX11_hasStepTarget_47 : decode prog_1_method_45_code 47 = .ok (.ireturn, 1) := by decide +kernel
theorem dX11_hasStepTarget_48 : decode prog_1_method_45_code 48 = .ok (.aload_n 0, 1) := by decide +kernel
theorem dX11_hasStepTarget_49 : decode prog_1_method_45_code 49 = .ok (.getfield 22, 3) := by decide +kernel
theorem dX11_hasStepTarget_52 : decode prog_1_method_45_code 52 = .ok (.iload_n 2, 1) := by decide +kernel
theorem dX11_hasStepTarget_53 : decode prog_1_method_45_code 53 = .ok (.invokevirtual 121, 3) := by decide +kernel
theorem dX11_hasStepTarget_56 : decode prog_1_method_45_code 56 = .ok (.ireturn, 1) := by decide +kernel
theorem dX11_init_0 : decode prog_1_method_1_code 0 = .ok (.aload_n 0, 1) := by decide +kernel
theorem dX11_init_1 : decode prog_1_method_1_code 1 = .ok (.invokespecial 1, 3) := by decide +kernel
theorem dX11_init_4 : decode prog_1_method_1_code 4 = .ok (.aload_n 0, 1) := by decide +kernel
theorem dX11_init_5 : decode prog_1_method_1_code 5 = .ok (.new 7, 3) := by decide +kernel
theorem dX11_init_8 : decode prog_1_method_1_code 8 = .ok (.dup, 1) := by decide +kernel
theorem dX11_init_9 : decode prog_1_method_1_code 9 = .ok (.invokespecial 9, 3) := by decide +kernel
theorem dX11_init_12 : decode prog_1_method_1_code 12 = .ok (.putfield 10, 3) := by decide +kernel
theorem dX11_init_15 : decode prog_1_method_1_code 15 = .ok (.aload_n 0, 1) := by decide +kernel
theorem dX11_init_16 : decode prog_1_method_1_code 16 = .ok (.new 7, 3) := by decide +kernel
theorem dX11_init_19 : decode prog_1_method_1_code 19 = .ok (.dup, 1) := by decide +kernel
theorem dX11_init_20 : decode prog_1_method_1_code 20 = .ok (.invokespecial 9, 3) := by decide +kernel
theorem dX11_init_23 : decode prog_1_method_1_code 23 = .ok (.putfield 16, 3) := by decide +kernel
theorem dX11_init_26 : decode prog_1_method_1_code 26 = .ok (.aload_n 0, 1) := by decide +kernel
theorem dX11_init_27 : decode prog_1_method_1_code 27 = .ok (.new 19, 3) := by decide +kernel
theorem dX11_init_30 : decode prog_1_method_1_code 30 = .ok (.dup, 1) := by decide +kernel
theorem dX11_init_31 : decode prog_1_method_1_code 31 = .ok (.invokespecial 21, 3) := by decide +kernel
theorem dX11_init_34 : decode prog_1_method_1_code 34 = .ok (.putfield 22, 3) := by decide +kernel
theorem dX11_init_37 : decode prog_1_method_1_code 37 = .ok (.aload_n 0, 1) := by decide +kernel
theorem dX11_init_38 : decode prog_1_method_1_code 38 = .ok (.new 19, 3) := by decide +kernel
theorem dX11_init_41 : decode prog_1_method_1_code 41 = .ok (.dup, 1) := by decide +kernel
theorem dX11_init_42 : decode prog_1_method_1_code 42 = .ok (.invokespecial 21, 3) := by decide +kernel
theorem dX11_init_45 : decode prog_1_method_1_code 45 = .ok (.putfield 26, 3) := by decide +kernel
theorem dX11_init_48 : decode prog_1_method_1_code 48 = .ok (.aload_n 0, 1) := by decide +kernel
theorem dX11_init_49 : decode prog_1_method_1_code 49 = .ok (.new 29, 3) := by decide +kernel
theorem dX11_init_52 : decode prog_1_method_1_code 52 = .ok (.dup, 1) := by decide +kernel
theorem dX11_init_53 : decode prog_1_method_1_code 53 = .ok (.invokespecial 31, 3) := by decide +kernel
theorem dX11_init_56 : decode prog_1_method_1_code 56 = .ok (.putfield 32, 3) := by decide +kernel
theorem dX11_init_59 : decode prog_1_method_1_code 59 = .ok (.aload_n 0, 1) := by decide +kernel
theorem dX11_init_60 : decode prog_1_method_1_code 60 = .ok (.new 36, 3) := by decide +kernel
theorem dX11_init_63 : decode prog_1_method_1_code 63 = .ok (.dup, 1) := by decide +kernel
theorem dX11_init_64 : decode prog_1_method_1_code 64 = .ok (.invokespecial 38, 3) := by decide +kernel
theorem dX11_init_67 : decode prog_1_method_1_code 67 = .ok (.putfield 39, 3) := by decide +kernel
theorem dX11_init_70 : decode prog_1_method_1_code 70 = .ok (.aload_n 0, 1) := by decide +kernel
theorem dX11_init_71 : decode prog_1_method_1_code 71 = .ok (.new 43, 3) := by decide +kernel
theorem dX11_init_74 : decode prog_1_method_1_code 74 = .ok (.dup, 1) := by decide +kernel
theorem dX11_init_75 : decode prog_1_method_1_code 75 = .ok (.invokespecial 45, 3) := by decide +kernel
theorem dX11_init_78 : decode prog_1_method_1_code 78 = .ok (.putfield 46, 3) := by decide +kernel
theorem dX11_init_81 : decode prog_1_method_1_code 81 = .ok (.aload_n 0, 1) := by decide +kernel
theorem dX11_init_82 : decode prog_1_method_1_code 82 = .ok (.new 50, 3) := by decide +kernel
theorem dX11_init_85 : decode prog_1_method_1_code 85 = .ok (.dup, 1) := by decide +kernel
theorem dX11_init_86 : decode prog_1_method_1_code 86 = .ok (.invokespecial 52, 3) := by decide +kernel
theorem dX11_init_89 : decode prog_1_method_1_code 89 = .ok (.putfield 53, 3) := by decide +kernel
theorem dX11_init_92 : decode prog_1_method_1_code 92 = .ok (.aload_n 0, 1) := by decide +kernel
theorem dX11_init_93 : decode prog_1_method_1_code 93 = .ok (.aconst_null, 1) := by decide +kernel
theorem dX11_init_94 : decode prog_1_method_1_code 94 = .ok (.putfield 57, 3) := by decide +kernel
theorem dX11_init_97 : decode prog_1_method_1_code 97 = .ok (.aload_n 0, 1) := by decide +kernel
theorem dX11_init_98 : decode prog_1_method_1_code 98 = .ok (.bipush 9, 2) := by decide +kernel
theorem dX11_init_100 : decode prog_1_method_1_code 100 = .ok (.newarray .boolean, 2) := by decide +kernel
theorem dX11_init_102 : decode prog_1_method_1_code 102 = .ok (.putfield 61, 3) := by decide +kernel
theorem dX11_init_105 : decode prog_1_method_1_code 105 = .ok (.aload_n 0, 1) := by decide +kernel
theorem dX11_init_106 : decode prog_1_method_1_code 106 = .ok (.bipush 12, 2) := by decide +kernel
theorem dX11_init_108 : decode prog_1_method_1_code 108 = .ok (.newarray .int, 2) := by decide +kernel
theorem dX11_init_110 : decode prog_1_method_1_code 110 = .ok (.putfield 65, 3) := by decide +kernel
theorem dX11_init_113 : decode prog_1_method_1_code 113 = .ok (.aload_n 0, 1) := by decide +kernel
theorem dX11_init_114 : decode prog_1_method_1_code 114 = .ok (.bipush 100, 2) := by decide +kernel
theorem dX11_init_116 : decode prog_1_method_1_code 116 = .ok (.putfield 69, 3) := by decide +kernel
theorem dX11_init_119 : decode prog_1_method_1_code 119 = .ok (.aload_n 0, 1) := by decide +kernel
theorem dX11_init_120 : decode prog_1_method_1_code 120 = .ok (.iconst (-1), 1) := by decide +kernel
theorem dX11_init_121 : decode prog_1_method_1_code 121 = .ok (.putfield 73, 3) := by decide +kernel
theorem dX11_init_124 : decode prog_1_method_1_code 124 = .ok (.aload_n 0, 1) := by decide +kernel
theorem dX11_init_125 : decode prog_1_method_1_code 125 = .ok (.iconst 1, 1) := by decide +kernel
theorem dX11_init_126 : decode prog_1_method_1_code 126 = .ok (.putfield 76, 3) := by decide +kernel
theorem dX11_init_129 : decode prog_1_method_1_code 129 = .ok (.return_, 1) := by decide +kernel
theorem dX11_isBlocked_0 : decode prog_1_method_31_code 0 = .ok (.aload_n 0, 1) := by decide +kernel
theorem dX11_isBlocked_1 : decode prog_1_method_31_code 1 = .ok (.getfield 10, 3) := by decide +kernel
theorem dX11_isBlocked_4 : decode prog_1_method_31_code 4 = .ok (.iload_n 1, 1) := by decide +kernel
theorem dX11_isBlocked_5 : decode prog_1_method_31_code 5 = .ok (.invokevirtual 194, 3) := by decide +kernel
theorem dX11_isBlocked_8 : decode prog_1_method_31_code 8 = .ok (.ifCond .ne 11, 3) := by decide +kernel
theorem dX11_isBlocked_11 : decode prog_1_method_31_code 11 = .ok (.new 101, 3) := by decide +kernel
theorem dX11_isBlocked_14 : decode prog_1_method_31_code 14 = .ok (.dup, 1) := by decide +kernel
theorem dX11_isBlocked_15 : decode prog_1_method_31_code 15 = .ok (.invokespecial 103, 3) := by decide +kernel
theorem dX11_isBlocked_18 : decode prog_1_method_31_code 18 = .ok (.athrow, 1) := by decide +kernel
theorem dX11_isFull_0 : decode prog_1_method_15_code 0 = .ok (.aload_n 0, 1) := by decide +kernel
theorem dX11_isFull_1 : decode prog_1_method_15_code 1 = .ok (.getfield 10, 3) := by decide +kernel
theorem dX11_isFull_4 : decode prog_1_method_15_code 4 = .ok (.iload_n 1, 1) := by decide +kernel
theorem dX11_isFull_5 : decode prog_1_method_15_code 5 = .ok (.invokevirtual 97, 3) := by decide +kernel
theorem dX11_isFull_8 : decode prog_1_method_15_code 8 = .ok (.ifCond .ne 11, 3) := by decide +kernel
theorem dX11_isFull_11 : decode prog_1_method_15_code 11 = .ok (.new 101, 3) := by decide +kernel
theorem dX11_isFull_14 : decode prog_1_method_15_code 14 = .ok (.dup, 1) := by decide +kernel
theorem dX11_isFull_15 : decode prog_1_method_15_code 15 = .ok (.invokespecial 103, 3) := by decide +kernel
theorem dX11_isFull_18 : decode prog_1_method_15_code 18 = .ok (.athrow, 1) := by decide +kernel
theorem dX11_isGood_0 : decode prog_1_method_16_code 0 = .ok (.aload_n 0, 1) := by decide +kernel
theorem dX11_isGood_1 : decode prog_1_method_16_code 1 = .ok (.getfield 10, 3) := by decide +kernel
theorem dX11_isGood_4 : decode prog_1_method_16_code 4 = .ok (.iload_n 1, 1) := by decide +kernel
theorem dX11_isGood_5 : decode prog_1_method_16_code 5 = .ok (.invokevirtual 97, 3) := by decide +kernel
theorem dX11_isGood_8 : decode prog_1_method_16_code 8 = .ok (.ifCond .ne 11, 3) := by decide +kernel
theorem dX11_isGood_11 : decode prog_1_method_16_code 11 = .ok (.new 101, 3) := by decide +kernel
theorem dX11_isGood_14 : decode prog_1_method_16_code 14 = .ok (.dup, 1) := by decide +kernel
theorem dX11_isGood_15 : decode prog_1_method_16_code 15 = .ok (.invokespecial 103, 3) := by decide +kernel
theorem dX11_isGood_18 : decode prog_1_method_16_code 18 = .ok (.athrow, 1) := by decide +kernel
theorem dX11_isSafe_0 : decode prog_1_method_22_code 0 = .ok (.aload_n 0, 1) := by decide +kernel
theorem dX11_isSafe_1 : decode prog_1_method_22_code 1 = .ok (.iload_n 1, 1) := by decide +kernel
theorem dX11_isSafe_2 : decode prog_1_method_22_code 2 = .ok (.invokevirtual 212, 3) := by decide +kernel
theorem dX11_isSafe_5 : decode prog_1_method_22_code 5 = .ok (.ifCond .ne 11, 3) := by decide +kernel
theorem dX11_isSafe_8 : decode prog_1_method_22_code 8 = .ok (.new 101, 3) := by decide +kernel
theorem dX11_isSafe_11 : decode prog_1_method_22_code 11 = .ok (.dup, 1) := by decide +kernel
theorem dX11_isSafe_12 : decode prog_1_method_22_code 12 = .ok (.invokespecial 103, 3) := by decide +kernel
theorem dX11_isSafe_15 : decode prog_1_method_22_code 15 = .ok (.athrow, 1) := by decide +kernel
theorem dX11_isSafeAnew_0 : decode prog_1_method_23_code 0 = .ok (.aload_n 0, 1) := by decide +kernel
theorem dX11_isSafeAnew_1 : decode prog_1_method_23_code 1 = .ok (.iload_n 1, 1) := by decide +kernel
theorem dX11_isSafeAnew_2 : decode prog_1_method_23_code 2 = .ok (.invokevirtual 212, 3) := by decide +kernel
theorem dX11_isSafeAnew_5 : decode prog_1_method_23_code 5 = .ok (.ifCond .ne 11, 3) := by decide +kernel
theorem dX11_isSafeAnew_8 : decode prog_1_method_23_code 8 = .ok (.new 101, 3) := by decide +kernel
theorem dX11_isSafeAnew_11 : decode prog_1_method_23_code 11 = .ok (.dup, 1) := by decide +kernel
theorem dX11_isSafeAnew_12 : decode prog_1_method_23_code 12 = .ok (.invokespecial 103, 3) := by decide +kernel
theorem dX11_isSafeAnew_15 : decode prog_1_method_23_code 15 = .ok (.athrow, 1) := by decide +kernel
theorem dX11_isSound_0 : decode prog_1_method_37_code 0 = .ok (.aload_n 0, 1) := by decide +kernel
theorem dX11_isSound_1 : decode prog_1_method_37_code 1 = .ok (.invokevirtual 139, 3) := by decide +kernel
theorem dX11_isSound_4 : decode prog_1_method_37_code 4 = .ok (.iconst 0, 1) := by decide +kernel
theorem dX11_isSound_5 : decode prog_1_method_37_code 5 = .ok (.istore_n 1, 1) := by decide +kernel
theorem dX11_isSound_6 : decode prog_1_method_37_code 6 = .ok (.iload_n 1, 1) := by decide +kernel
theorem dX11_isSound_7 : decode prog_1_method_37_code 7 = .ok (.aload_n 0, 1) := by decide +kernel
theorem dX11_isSound_8 : decode prog_1_method_37_code 8 = .ok (.getfield 209, 3) := by decide +kernel
theorem dX11_isSound_11 : decode prog_1_method_37_code 11 = .ok (.if_icmp .ge 45, 3) := by decide +kernel
theorem dX11_isSound_56 : decode prog_1_method_37_code 56 = .ok (.aload_n 0, 1) := by decide +kernel
theorem dX11_isSound_57 : decode prog_1_method_37_code 57 = .ok (.getfield 32, 3) := by decide +kernel
theorem dX11_isSound_60 : decode prog_1_method_37_code 60 = .ok (.aload_n 0, 1) := by decide +kernel
theorem dX11_isSound_61 : decode prog_1_method_37_code 61 = .ok (.getfield 10, 3) := by decide +kernel
theorem dX11_isSound_64 : decode prog_1_method_37_code 64 = .ok (.invokevirtual 269, 3) := by decide +kernel
theorem dX11_isSound_67 : decode prog_1_method_37_code 67 = .ok (.ifCond .eq 17, 3) := by decide +kernel
theorem dX11_isSound_70 : decode prog_1_method_37_code 70 = .ok (.aload_n 0, 1) := by decide +kernel
theorem dX11_isSound_71 : decode prog_1_method_37_code 71 = .ok (.getfield 22, 3) := by decide +kernel
theorem dX11_isSound_74 : decode prog_1_method_37_code 74 = .ok (.invokevirtual 273, 3) := by decide +kernel
theorem dX11_isSound_77 : decode prog_1_method_37_code 77 = .ok (.ifCond .ge 7, 3) := by decide +kernel
theorem dX11_isSound_80 : decode prog_1_method_37_code 80 = .ok (.iconst 1, 1) := by decide +kernel
theorem dX11_isSound_81 : decode prog_1_method_37_code 81 = .ok (.goto 4, 3) := by decide +kernel
theorem dX11_isSound_85 : decode prog_1_method_37_code 85 = .ok (.ireturn, 1) := by decide +kernel
theorem dX11_isStepValue_0 : decode prog_1_method_44_code 0 = .ok (.iload_n 0, 1) := by decide +kernel
theorem dX11_isStepValue_1 : decode prog_1_method_44_code 1 = .ok (.bipush 100, 2) := by decide +kernel
theorem dX11_isStepValue_3 : decode prog_1_method_44_code 3 = .ok (.if_icmp .eq 9, 3) := by decide +kernel
theorem dX11_isStepValue_6 : decode prog_1_method_44_code 6 = .ok (.iload_n 0, 1) := by decide +kernel
theorem dX11_isStepValue_7 : decode prog_1_method_44_code 7 = .ok (.bipush 98, 2) := by decide +kernel
theorem dX11_isStepValue_9 : decode prog_1_method_44_code 9 = .ok (.if_icmp .ne 10, 3) := by decide +kernel
theorem dX11_isStepValue_12 : decode prog_1_method_44_code 12 = .ok (.iload_n 1, 1) := by decide +kernel
theorem dX11_isStepValue_13 : decode prog_1_method_44_code 13 = .ok (.iconst 0, 1) := by decide +kernel
theorem dX11_isStepValue_14 : decode prog_1_method_44_code 14 = .ok (.iconst 1, 1) := by decide +kernel
theorem dX11_isStepValue_15 : decode prog_1_method_44_code 15 = .ok (.invokestatic 80, 3) := by decide +kernel
theorem dX11_isStepValue_18 : decode prog_1_method_44_code 18 = .ok (.ireturn, 1) := by decide +kernel
theorem dX11_isStepValue_19 : decode prog_1_method_44_code 19 = .ok (.iload_n 0, 1) := by decide +kernel
theorem dX11_isStepValue_20 : decode prog_1_method_44_code 20 = .ok (.bipush 102, 2) := by decide +kernel
theorem dX11_isStepValue_22 : decode prog_1_method_44_code 22 = .ok (.if_icmp .eq 9, 3) := by decide +kernel
theorem dX11_isStepValue_25 : decode prog_1_method_44_code 25 = .ok (.iload_n 0, 1) := by decide +kernel
theorem dX11_isStepValue_26 : decode prog_1_method_44_code 26 = .ok (.bipush 110, 2) := by decide +kernel
theorem dX11_isStepValue_28 : decode prog_1_method_44_code 28 = .ok (.if_icmp .ne 12, 3) := by decide +kernel
theorem dX11_isStepValue_31 : decode prog_1_method_44_code 31 = .ok (.iload_n 1, 1) := by decide +kernel
theorem dX11_isStepValue_32 : decode prog_1_method_44_code 32 = .ok (.bipush (-50), 2) := by decide +kernel
theorem dX11_isStepValue_34 : decode prog_1_method_44_code 34 = .ok (.bipush 50, 2) := by decide +kernel
theorem dX11_isStepValue_36 : decode prog_1_method_44_code 36 = .ok (.invokestatic 80, 3) := by decide +kernel
theorem dX11_isStepValue_39 : decode prog_1_method_44_code 39 = .ok (.ireturn, 1) := by decide +kernel
theorem dX11_isStepValue_40 : decode prog_1_method_44_code 40 = .ok (.iload_n 0, 1) := by decide +kernel
theorem dX11_isStepValue_41 : decode prog_1_method_44_code 41 = .ok (.bipush 115, 2) := by decide +kernel
theorem dX11_isStepValue_43 : decode prog_1_method_44_code 43 = .ok (.if_icmp .ne 11, 3) := by decide +kernel
theorem dX11_isStepValue_46 : decode prog_1_method_44_code 46 = .ok (.iload_n 1, 1) := by decide +kernel
theorem dX11_isStepValue_47 : decode prog_1_method_44_code 47 = .ok (.iconst 0, 1) := by decide +kernel
theorem dX11_isStepValue_48 : decode prog_1_method_44_code 48 = .ok (.bipush 20, 2) := by decide +kernel
theorem dX11_isStepValue_50 : decode prog_1_method_44_code 50 = .ok (.invokestatic 80, 3) := by decide +kernel
theorem dX11_isStepValue_53 : decode prog_1_method_44_code 53 = .ok (.ireturn, 1) := by decide +kernel
theorem dX11_isStepValue_54 : decode prog_1_method_44_code 54 = .ok (.iload_n 0, 1) := by decide +kernel
theorem dX11_isStepValue_55 : decode prog_1_method_44_code 55 = .ok (.bipush 99, 2) := by decide +kernel
theorem dX11_isStepValue_57 : decode prog_1_method_44_code 57 = .ok (.if_icmp .eq 19, 3) := by decide +kernel
theorem dX11_isStepValue_60 : decode prog_1_method_44_code 60 = .ok (.iload_n 0, 1) := by decide +kernel
theorem dX11_isStepValue_61 : decode prog_1_method_44_code 61 = .ok (.bipush 111, 2) := by decide +kernel
theorem dX11_isStepValue_63 : decode prog_1_method_44_code 63 = .ok (.if_icmp .ne 17, 3) := by decide +kernel
theorem dX11_isStepValue_66 : decode prog_1_method_44_code 66 = .ok (.iload_n 1, 1) := by decide +kernel
theorem dX11_isStepValue_67 : decode prog_1_method_44_code 67 = .ok (.iconst 1, 1) := by decide +kernel
theorem dX11_isStepValue_68 : decode prog_1_method_44_code 68 = .ok (.bipush 60, 2) := by decide +kernel
theorem dX11_isStepValue_70 : decode prog_1_method_44_code 70 = .ok (.invokestatic 80, 3) := by decide +kernel
theorem dX11_isStepValue_73 : decode prog_1_method_44_code 73 = .ok (.ifCond .eq 7, 3) := by decide +kernel
theorem dX11_isStepValue_76 : decode prog_1_method_44_code 76 = .ok (.iconst 1, 1) := by decide +kernel
theorem dX11_isStepValue_77 : decode prog_1_method_44_code 77 = .ok (.goto 4, 3) := by decide +kernel
theorem dX11_isStepValue_80 : decode prog_1_method_44_code 80 = .ok (.iconst 0, 1) := by decide +kernel
theorem dX11_isStepValue_81 : decode prog_1_method_44_code 81 = .ok (.ireturn, 1) := by decide +kernel
theorem dX11_isWithin_0 : decode prog_1_method_38_code 0 = .ok (.iload_n 0, 1) := by decide +kernel
theorem dX11_isWithin_1 : decode prog_1_method_38_code 1 = .ok (.iload_n 1, 1) := by decide +kernel
theorem dX11_isWithin_2 : decode prog_1_method_38_code 2 = .ok (.if_icmp .lt 12, 3) := by decide +kernel
theorem dX11_isWithin_5 : decode prog_1_method_38_code 5 = .ok (.iload_n 0, 1) := by decide +kernel
theorem dX11_isWithin_6 : decode prog_1_method_38_code 6 = .ok (.iload_n 2, 1) := by decide +kernel
theorem dX11_isWithin_7 : decode prog_1_method_38_code 7 = .ok (.if_icmp .gt 7, 3) := by decide +kernel
theorem dX11_isWithin_10 : decode prog_1_method_38_code 10 = .ok (.iconst 1, 1) := by decide +kernel
theorem dX11_isWithin_11 : decode prog_1_method_38_code 11 = .ok (.goto 4, 3) := by decide +kernel
theorem dX11_isWithin_14 : decode prog_1_method_38_code 14 = .ok (.iconst 0, 1) := by decide +kernel
theorem dX11_isWithin_15 : decode prog_1_method_38_code 15 = .ok (.ireturn, 1) := by decide +kernel
theorem dX11_join_0 : decode prog_1_method_5_code 0 = .ok (.aload_n 0, 1) := by decide +kernel
theorem dX11_join_1 : decode prog_1_method_5_code 1 = .ok (.getfield 22, 3) := by decide +kernel
theorem dX11_join_4 : decode prog_1_method_5_code 4 = .ok (.iload_n 1, 1) := by decide +kernel
theorem dX11_join_5 : decode prog_1_method_5_code 5 = .ok (.invokevirtual 121, 3) := by decide +kernel
theorem dX11_join_8 : decode prog_1_method_5_code 8 = .ok (.ifCond .eq 14, 3) := by decide +kernel
theorem dX11_join_22 : decode prog_1_method_5_code 22 = .ok (.new 101, 3) := by decide +kernel
theorem dX11_join_25 : decode prog_1_method_5_code 25 = .ok (.dup, 1) := by decide +kernel
theorem dX11_join_26 : decode prog_1_method_5_code 26 = .ok (.invokespecial 103, 3) := by decide +kernel
theorem dX11_join_29 : decode prog_1_method_5_code 29 = .ok (.athrow, 1) := by decide +kernel
theorem dX11_load_0 : decode prog_1_method_26_code 0 = .ok (.aload_n 0, 1) := by decide +kernel
theorem dX11_load_1 : decode prog_1_method_26_code 1 = .ok (.getfield 22, 3) := by decide +kernel
theorem dX11_load_4 : decode prog_1_method_26_code 4 = .ok (.iload_n 1, 1) := by decide +kernel
theorem dX11_load_5 : decode prog_1_method_26_code 5 = .ok (.invokevirtual 121, 3) := by decide +kernel
theorem dX11_load_8 : decode prog_1_method_26_code 8 = .ok (.ifCond .ne 11, 3) := by decide +kernel
theorem dX11_load_11 : decode prog_1_method_26_code 11 = .ok (.new 101, 3) := by decide +kernel
theorem dX11_load_14 : decode prog_1_method_26_code 14 = .ok (.dup, 1) := by decide +kernel
theorem dX11_load_15 : decode prog_1_method_26_code 15 = .ok (.invokespecial 103, 3) := by decide +kernel
theorem dX11_load_18 : decode prog_1_method_26_code 18 = .ok (.athrow, 1) := by decide +kernel
theorem dX11_meanLoad_0 : decode prog_1_method_36_code 0 = .ok (.iconst 0, 1) := by decide +kernel
theorem dX11_meanLoad_1 : decode prog_1_method_36_code 1 = .ok (.istore_n 1, 1) := by decide +kernel
theorem dX11_meanLoad_2 : decode prog_1_method_36_code 2 = .ok (.iconst 0, 1) := by decide +kernel
theorem dX11_meanLoad_3 : decode prog_1_method_36_code 3 = .ok (.istore_n 2, 1) := by decide +kernel
theorem dX11_meanLoad_4 : decode prog_1_method_36_code 4 = .ok (.iconst 0, 1) := by decide +kernel
theorem dX11_meanLoad_5 : decode prog_1_method_36_code 5 = .ok (.istore_n 3, 1) := by decide +kernel
theorem dX11_meanLoad_6 : decode prog_1_method_36_code 6 = .ok (.iload_n 3, 1) := by decide +kernel
theorem dX11_meanLoad_7 : decode prog_1_method_36_code 7 = .ok (.aload_n 0, 1) := by decide +kernel
theorem dX11_meanLoad_8 : decode prog_1_method_36_code 8 = .ok (.getfield 22, 3) := by decide +kernel
theorem dX11_meanLoad_11 : decode prog_1_method_36_code 11 = .ok (.getfield 114, 3) := by decide +kernel
theorem dX11_meanLoad_14 : decode prog_1_method_36_code 14 = .ok (.if_icmp .ge 35, 3) := by decide +kernel
theorem dX11_meanLoad_49 : decode prog_1_method_36_code 49 = .ok (.iload_n 2, 1) := by decide +kernel
theorem dX11_meanLoad_50 : decode prog_1_method_36_code 50 = .ok (.ifCond .ne 11, 3) := by decide +kernel
theorem dX11_meanLoad_53 : decode prog_1_method_36_code 53 = .ok (.new 263, 3) := by decide +kernel
theorem dX11_meanLoad_56 : decode prog_1_method_36_code 56 = .ok (.dup, 1) := by decide +kernel
theorem dX11_meanLoad_57 : decode prog_1_method_36_code 57 = .ok (.invokespecial 265, 3) := by decide +kernel
theorem dX11_meanLoad_60 : decode prog_1_method_36_code 60 = .ok (.athrow, 1) := by decide +kernel
theorem dX11_penalties_0 : decode prog_1_method_34_code 0 = .ok (.aload_n 0, 1) := by decide +kernel
theorem dX11_penalties_1 : decode prog_1_method_34_code 1 = .ok (.getfield 259, 3) := by decide +kernel
theorem dX11_penalties_4 : decode prog_1_method_34_code 4 = .ok (.lreturn, 1) := by decide +kernel
theorem dX11_people_0 : decode prog_1_method_33_code 0 = .ok (.aload_n 0, 1) := by decide +kernel
theorem dX11_people_1 : decode prog_1_method_33_code 1 = .ok (.getfield 209, 3) := by decide +kernel
theorem dX11_people_4 : decode prog_1_method_33_code 4 = .ok (.ireturn, 1) := by decide +kernel
theorem dX11_pile_0 : decode prog_1_method_28_code 0 = .ok (.aload_n 0, 1) := by decide +kernel
theorem dX11_pile_1 : decode prog_1_method_28_code 1 = .ok (.getfield 22, 3) := by decide +kernel
theorem dX11_pile_4 : decode prog_1_method_28_code 4 = .ok (.iload_n 1, 1) := by decide +kernel
theorem dX11_pile_5 : decode prog_1_method_28_code 5 = .ok (.invokevirtual 121, 3) := by decide +kernel
theorem dX11_pile_8 : decode prog_1_method_28_code 8 = .ok (.ifCond .ne 11, 3) := by decide +kernel
theorem dX11_pile_11 : decode prog_1_method_28_code 11 = .ok (.new 101, 3) := by decide +kernel
theorem dX11_pile_14 : decode prog_1_method_28_code 14 = .ok (.dup, 1) := by decide +kernel
theorem dX11_pile_15 : decode prog_1_method_28_code 15 = .ok (.invokespecial 103, 3) := by decide +kernel
theorem dX11_pile_18 : decode prog_1_method_28_code 18 = .ok (.athrow, 1) := by decide +kernel
theorem dX11_pressure_0 : decode prog_1_method_13_code 0 = .ok (.aload_n 0, 1) := by decide +kernel
theorem dX11_pressure_1 : decode prog_1_method_13_code 1 = .ok (.getfield 10, 3) := by decide +kernel
theorem dX11_pressure_4 : decode prog_1_method_13_code 4 = .ok (.iload_n 1, 1) := by decide +kernel
theorem dX11_pressure_5 : decode prog_1_method_13_code 5 = .ok (.invokevirtual 97, 3) := by decide +kernel
theorem dX11_pressure_8 : decode prog_1_method_13_code 8 = .ok (.ifCond .ne 11, 3) := by decide +kernel
theorem dX11_pressure_11 : decode prog_1_method_13_code 11 = .ok (.new 101, 3) := by decide +kernel
theorem dX11_pressure_14 : decode prog_1_method_13_code 14 = .ok (.dup, 1) := by decide +kernel
theorem dX11_pressure_15 : decode prog_1_method_13_code 15 = .ok (.invokespecial 103, 3) := by decide +kernel
theorem dX11_pressure_18 : decode prog_1_method_13_code 18 = .ok (.athrow, 1) := by decide +kernel
theorem dX11_reading_0 : decode prog_1_method_17_code 0 = .ok (.aload_n 0, 1) := by decide +kernel
theorem dX11_reading_1 : decode prog_1_method_17_code 1 = .ok (.getfield 10, 3) := by decide +kernel
theorem dX11_reading_4 : decode prog_1_method_17_code 4 = .ok (.iload_n 1, 1) := by decide +kernel
theorem dX11_reading_5 : decode prog_1_method_17_code 5 = .ok (.invokevirtual 97, 3) := by decide +kernel
theorem dX11_reading_8 : decode prog_1_method_17_code 8 = .ok (.ifCond .ne 11, 3) := by decide +kernel
theorem dX11_reading_11 : decode prog_1_method_17_code 11 = .ok (.new 101, 3) := by decide +kernel
theorem dX11_reading_14 : decode prog_1_method_17_code 14 = .ok (.dup, 1) := by decide +kernel
theorem dX11_reading_15 : decode prog_1_method_17_code 15 = .ok (.invokespecial 103, 3) := by decide +kernel
theorem dX11_reading_18 : decode prog_1_method_17_code 18 = .ok (.athrow, 1) := by decide +kernel
theorem dX11_refresh_0 : decode prog_1_method_40_code 0 = .ok (.aload_n 0, 1) := by decide +kernel
theorem dX11_refresh_1 : decode prog_1_method_40_code 1 = .ok (.getfield 76, 3) := by decide +kernel
theorem dX11_refresh_4 : decode prog_1_method_40_code 4 = .ok (.ifCond .eq 34, 3) := by decide +kernel
theorem dX11_refresh_7 : decode prog_1_method_40_code 7 = .ok (.aload_n 0, 1) := by decide +kernel
theorem dX11_refresh_8 : decode prog_1_method_40_code 8 = .ok (.getfield 32, 3) := by decide +kernel
theorem dX11_refresh_11 : decode prog_1_method_40_code 11 = .ok (.aload_n 0, 1) := by decide +kernel
theorem dX11_refresh_12 : decode prog_1_method_40_code 12 = .ok (.getfield 10, 3) := by decide +kernel
theorem dX11_refresh_15 : decode prog_1_method_40_code 15 = .ok (.invokevirtual 276, 3) := by decide +kernel
theorem dX11_refresh_18 : decode prog_1_method_40_code 18 = .ok (.aload_n 0, 1) := by decide +kernel
theorem dX11_refresh_19 : decode prog_1_method_40_code 19 = .ok (.getfield 39, 3) := by decide +kernel
theorem dX11_refresh_22 : decode prog_1_method_40_code 22 = .ok (.aload_n 0, 1) := by decide +kernel
theorem dX11_refresh_23 : decode prog_1_method_40_code 23 = .ok (.getfield 10, 3) := by decide +kernel
theorem dX11_refresh_26 : decode prog_1_method_40_code 26 = .ok (.aload_n 0, 1) := by decide +kernel
theorem dX11_refresh_27 : decode prog_1_method_40_code 27 = .ok (.getfield 32, 3) := by decide +kernel
theorem dX11_refresh_30 : decode prog_1_method_40_code 30 = .ok (.invokevirtual 279, 3) := by decide +kernel
theorem dX11_refresh_33 : decode prog_1_method_40_code 33 = .ok (.aload_n 0, 1) := by decide +kernel
theorem dX11_refresh_34 : decode prog_1_method_40_code 34 = .ok (.iconst 0, 1) := by decide +kernel
theorem dX11_refresh_35 : decode prog_1_method_40_code 35 = .ok (.putfield 76, 3) := by decide +kernel
theorem dX11_refresh_38 : decode prog_1_method_40_code 38 = .ok (.iconst 0, 1) := by decide +kernel
theorem dX11_refresh_39 : decode prog_1_method_40_code 39 = .ok (.istore_n 1, 1) := by decide +kernel
theorem dX11_refresh_40 : decode prog_1_method_40_code 40 = .ok (.iload_n 1, 1) := by decide +kernel
theorem dX11_refresh_41 : decode prog_1_method_40_code 41 = .ok (.aload_n 0, 1) := by decide +kernel
theorem dX11_refresh_42 : decode prog_1_method_40_code 42 = .ok (.getfield 10, 3) := by decide +kernel
theorem dX11_refresh_45 : decode prog_1_method_40_code 45 = .ok (.getfield 87, 3) := by decide +kernel
theorem dX11_refresh_48 : decode prog_1_method_40_code 48 = .ok (.if_icmp .ge 47, 3) := by decide +kernel
theorem dX11_refresh_95 : decode prog_1_method_40_code 95 = .ok (.return_, 1) := by decide +kernel
theorem dX11_refused_0 : decode prog_1_method_32_code 0 = .ok (.aload_n 0, 1) := by decide +kernel
theorem dX11_refused_1 : decode prog_1_method_32_code 1 = .ok (.getfield 185, 3) := by decide +kernel
theorem dX11_refused_4 : decode prog_1_method_32_code 4 = .ok (.ireturn, 1) := by decide +kernel
theorem dX11_refusedBy_0 : decode prog_1_method_10_code 0 = .ok (.aload_n 0, 1) := by decide +kernel
theorem dX11_refusedBy_1 : decode prog_1_method_10_code 1 = .ok (.getfield 73, 3) := by decide +kernel
theorem dX11_refusedBy_4 : decode prog_1_method_10_code 4 = .ok (.ifCond .ge 11, 3) := by decide +kernel
theorem dX11_refusedBy_7 : decode prog_1_method_10_code 7 = .ok (.new 136, 3) := by decide +kernel
theorem dX11_refusedBy_10 : decode prog_1_method_10_code 10 = .ok (.dup, 1) := by decide +kernel
theorem dX11_refusedBy_11 : decode prog_1_method_10_code 11 = .ok (.invokespecial 138, 3) := by decide +kernel
theorem dX11_refusedBy_14 : decode prog_1_method_10_code 14 = .ok (.athrow, 1) := by decide +kernel
theorem dX11_setLimit_0 : decode prog_1_method_6_code 0 = .ok (.iload_n 1, 1) := by decide +kernel
theorem dX11_setLimit_1 : decode prog_1_method_6_code 1 = .ok (.iconst 0, 1) := by decide +kernel
theorem dX11_setLimit_2 : decode prog_1_method_6_code 2 = .ok (.sipush 9998, 3) := by decide +kernel
theorem dX11_setLimit_5 : decode prog_1_method_6_code 5 = .ok (.invokestatic 80, 3) := by decide +kernel
theorem dX11_setLimit_8 : decode prog_1_method_6_code 8 = .ok (.ifCond .ne 11, 3) := by decide +kernel
theorem dX11_setLimit_11 : decode prog_1_method_6_code 11 = .ok (.new 84, 3) := by decide +kernel
theorem dX11_setLimit_14 : decode prog_1_method_6_code 14 = .ok (.dup, 1) := by decide +kernel
theorem dX11_setLimit_15 : decode prog_1_method_6_code 15 = .ok (.invokespecial 86, 3) := by decide +kernel
theorem dX11_setLimit_18 : decode prog_1_method_6_code 18 = .ok (.athrow, 1) := by decide +kernel
theorem dX11_setLimit_19 : decode prog_1_method_6_code 19 = .ok (.aload_n 0, 1) := by decide +kernel
theorem dX11_setLimit_20 : decode prog_1_method_6_code 20 = .ok (.getfield 69, 3) := by decide +kernel
theorem dX11_setLimit_23 : decode prog_1_method_6_code 23 = .ok (.istore_n 2, 1) := by decide +kernel
theorem dX11_setLimit_24 : decode prog_1_method_6_code 24 = .ok (.aload_n 0, 1) := by decide +kernel
theorem dX11_setLimit_25 : decode prog_1_method_6_code 25 = .ok (.iload_n 1, 1) := by decide +kernel
theorem dX11_setLimit_26 : decode prog_1_method_6_code 26 = .ok (.putfield 69, 3) := by decide +kernel
theorem dX11_setLimit_29 : decode prog_1_method_6_code 29 = .ok (.iload_n 2, 1) := by decide +kernel
theorem dX11_setLimit_30 : decode prog_1_method_6_code 30 = .ok (.ireturn, 1) := by decide +kernel
theorem dX11_setRight_0 : decode prog_1_method_8_code 0 = .ok (.aload_n 0, 1) := by decide +kernel
theorem dX11_setRight_1 : decode prog_1_method_8_code 1 = .ok (.getfield 10, 3) := by decide +kernel
theorem dX11_setRight_4 : decode prog_1_method_8_code 4 = .ok (.iload_n 1, 1) := by decide +kernel
theorem dX11_setRight_5 : decode prog_1_method_8_code 5 = .ok (.invokevirtual 97, 3) := by decide +kernel
theorem dX11_setRight_8 : decode prog_1_method_8_code 8 = .ok (.ifCond .ne 11, 3) := by decide +kernel
theorem dX11_setRight_11 : decode prog_1_method_8_code 11 = .ok (.new 101, 3) := by decide +kernel
theorem dX11_setRight_14 : decode prog_1_method_8_code 14 = .ok (.dup, 1) := by decide +kernel
theorem dX11_setRight_15 : decode prog_1_method_8_code 15 = .ok (.invokespecial 103, 3) := by decide +kernel
theorem dX11_setRight_18 : decode prog_1_method_8_code 18 = .ok (.athrow, 1) := by decide +kernel
theorem dX11_setSensor_0 : decode prog_1_method_7_code 0 = .ok (.aload_n 0, 1) := by decide +kernel
theorem dX11_setSensor_1 : decode prog_1_method_7_code 1 = .ok (.getfield 10, 3) := by decide +kernel
theorem dX11_setSensor_4 : decode prog_1_method_7_code 4 = .ok (.iload_n 1, 1) := by decide +kernel
theorem dX11_setSensor_5 : decode prog_1_method_7_code 5 = .ok (.invokevirtual 97, 3) := by decide +kernel
theorem dX11_setSensor_8 : decode prog_1_method_7_code 8 = .ok (.ifCond .ne 11, 3) := by decide +kernel
theorem dX11_setSensor_11 : decode prog_1_method_7_code 11 = .ok (.new 101, 3) := by decide +kernel
theorem dX11_setSensor_14 : decode prog_1_method_7_code 14 = .ok (.dup, 1) := by decide +kernel
theorem dX11_setSensor_15 : decode prog_1_method_7_code 15 = .ok (.invokespecial 103, 3) := by decide +kernel
theorem dX11_setSensor_18 : decode prog_1_method_7_code 18 = .ok (.athrow, 1) := by decide +kernel
theorem dX11_shift_0 : decode prog_1_method_11_code 0 = .ok (.aload_n 0, 1) := by decide +kernel
theorem dX11_shift_1 : decode prog_1_method_11_code 1 = .ok (.invokevirtual 139, 3) := by decide +kernel
theorem dX11_shift_4 : decode prog_1_method_11_code 4 = .ok (.aload_n 0, 1) := by decide +kernel
theorem dX11_shift_5 : decode prog_1_method_11_code 5 = .ok (.dup, 1) := by decide +kernel
theorem dX11_shift_6 : decode prog_1_method_11_code 6 = .ok (.getfield 128, 3) := by decide +kernel
theorem dX11_shift_9 : decode prog_1_method_11_code 9 = .ok (.iconst 1, 1) := by decide +kernel
theorem dX11_shift_10 : decode prog_1_method_11_code 10 = .ok (.iadd, 1) := by decide +kernel
theorem dX11_shift_11 : decode prog_1_method_11_code 11 = .ok (.putfield 128, 3) := by decide +kernel
theorem dX11_shift_14 : decode prog_1_method_11_code 14 = .ok (.iconst 0, 1) := by decide +kernel
theorem dX11_shift_15 : decode prog_1_method_11_code 15 = .ok (.istore_n 1, 1) := by decide +kernel
theorem dX11_shift_16 : decode prog_1_method_11_code 16 = .ok (.iload_n 1, 1) := by decide +kernel
theorem dX11_shift_17 : decode prog_1_method_11_code 17 = .ok (.aload_n 0, 1) := by decide +kernel
theorem dX11_shift_18 : decode prog_1_method_11_code 18 = .ok (.getfield 10, 3) := by decide +kernel
theorem dX11_shift_21 : decode prog_1_method_11_code 21 = .ok (.getfield 87, 3) := by decide +kernel
theorem dX11_shift_24 : decode prog_1_method_11_code 24 = .ok (.if_icmp .ge 83, 3) := by decide +kernel
theorem dX11_shift_107 : decode prog_1_method_11_code 107 = .ok (.aload_n 0, 1) := by decide +kernel
theorem dX11_shift_108 : decode prog_1_method_11_code 108 = .ok (.getfield 22, 3) := by decide +kernel
theorem dX11_shift_111 : decode prog_1_method_11_code 111 = .ok (.invokevirtual 191, 3) := by decide +kernel
theorem dX11_shift_114 : decode prog_1_method_11_code 114 = .ok (.aload_n 0, 1) := by decide +kernel
theorem dX11_shift_115 : decode prog_1_method_11_code 115 = .ok (.getfield 128, 3) := by decide +kernel
theorem dX11_shift_118 : decode prog_1_method_11_code 118 = .ok (.ireturn, 1) := by decide +kernel
theorem dX11_stateOf_0 : decode prog_1_method_27_code 0 = .ok (.aload_n 0, 1) := by decide +kernel
theorem dX11_stateOf_1 : decode prog_1_method_27_code 1 = .ok (.getfield 22, 3) := by decide +kernel
theorem dX11_stateOf_4 : decode prog_1_method_27_code 4 = .ok (.iload_n 1, 1) := by decide +kernel
theorem dX11_stateOf_5 : decode prog_1_method_27_code 5 = .ok (.invokevirtual 121, 3) := by decide +kernel
theorem dX11_stateOf_8 : decode prog_1_method_27_code 8 = .ok (.ifCond .ne 11, 3) := by decide +kernel
theorem dX11_stateOf_11 : decode prog_1_method_27_code 11 = .ok (.new 101, 3) := by decide +kernel
theorem dX11_stateOf_14 : decode prog_1_method_27_code 14 = .ok (.dup, 1) := by decide +kernel
theorem dX11_stateOf_15 : decode prog_1_method_27_code 15 = .ok (.invokespecial 103, 3) := by decide +kernel
theorem dX11_stateOf_18 : decode prog_1_method_27_code 18 = .ok (.athrow, 1) := by decide +kernel
theorem dX11_step_0 : decode prog_1_method_9_code 0 = .ok (.iload_n 1, 1) := by decide +kernel
theorem dX11_step_1 : decode prog_1_method_9_code 1 = .ok (.iload_n 3, 1) := by decide +kernel
theorem dX11_step_2 : decode prog_1_method_9_code 2 = .ok (.invokestatic 152, 3) := by decide +kernel
theorem dX11_step_5 : decode prog_1_method_9_code 5 = .ok (.ifCond .ne 11, 3) := by decide +kernel
theorem dX11_step_8 : decode prog_1_method_9_code 8 = .ok (.new 84, 3) := by decide +kernel
theorem dX11_step_11 : decode prog_1_method_9_code 11 = .ok (.dup, 1) := by decide +kernel
theorem dX11_step_12 : decode prog_1_method_9_code 12 = .ok (.invokespecial 86, 3) := by decide +kernel
theorem dX11_step_15 : decode prog_1_method_9_code 15 = .ok (.athrow, 1) := by decide +kernel
theorem dX11_step_16 : decode prog_1_method_9_code 16 = .ok (.aload_n 0, 1) := by decide +kernel
theorem dX11_step_17 : decode prog_1_method_9_code 17 = .ok (.iload_n 1, 1) := by decide +kernel
theorem dX11_step_18 : decode prog_1_method_9_code 18 = .ok (.iload_n 2, 1) := by decide +kernel
theorem dX11_step_19 : decode prog_1_method_9_code 19 = .ok (.invokevirtual 156, 3) := by decide +kernel
theorem dX11_step_22 : decode prog_1_method_9_code 22 = .ok (.ifCond .ne 11, 3) := by decide +kernel
theorem dX11_step_25 : decode prog_1_method_9_code 25 = .ok (.new 101, 3) := by decide +kernel
theorem dX11_step_28 : decode prog_1_method_9_code 28 = .ok (.dup, 1) := by decide +kernel
theorem dX11_step_29 : decode prog_1_method_9_code 29 = .ok (.invokespecial 103, 3) := by decide +kernel
theorem dX11_step_32 : decode prog_1_method_9_code 32 = .ok (.athrow, 1) := by decide +kernel
theorem dX11_tons_0 : decode prog_1_method_25_code 0 = .ok (.aload_n 0, 1) := by decide +kernel
theorem dX11_tons_1 : decode prog_1_method_25_code 1 = .ok (.getfield 22, 3) := by decide +kernel
theorem dX11_tons_4 : decode prog_1_method_25_code 4 = .ok (.iload_n 1, 1) := by decide +kernel
theorem dX11_tons_5 : decode prog_1_method_25_code 5 = .ok (.invokevirtual 121, 3) := by decide +kernel
theorem dX11_tons_8 : decode prog_1_method_25_code 8 = .ok (.ifCond .ne 11, 3) := by decide +kernel
theorem dX11_tons_11 : decode prog_1_method_25_code 11 = .ok (.new 101, 3) := by decide +kernel
theorem dX11_tons_14 : decode prog_1_method_25_code 14 = .ok (.dup, 1) := by decide +kernel
theorem dX11_tons_15 : decode prog_1_method_25_code 15 = .ok (.invokespecial 103, 3) := by decide +kernel
theorem dX11_tons_18 : decode prog_1_method_25_code 18 = .ok (.athrow, 1) := by decide +kernel
theorem dX11_walk_0 : decode prog_1_method_20_code 0 = .ok (.aload_n 0, 1) := by decide +kernel
theorem dX11_walk_1 : decode prog_1_method_20_code 1 = .ok (.iload_n 1, 1) := by decide +kernel
theorem dX11_walk_2 : decode prog_1_method_20_code 2 = .ok (.invokevirtual 212, 3) := by decide +kernel
theorem dX11_walk_5 : decode prog_1_method_20_code 5 = .ok (.ifCond .eq 14, 3) := by decide +kernel
theorem dX11_walk_19 : decode prog_1_method_20_code 19 = .ok (.new 101, 3) := by decide +kernel
theorem dX11_walk_22 : decode prog_1_method_20_code 22 = .ok (.dup, 1) := by decide +kernel
theorem dX11_walk_23 : decode prog_1_method_20_code 23 = .ok (.invokespecial 103, 3) := by decide +kernel
theorem dX11_walk_26 : decode prog_1_method_20_code 26 = .ok (.athrow, 1) := by decide +kernel
theorem dX11_ways_0 : decode prog_1_method_24_code 0 = .ok (.aload_n 0, 1) := by decide +kernel
theorem dX11_ways_1 : decode prog_1_method_24_code 1 = .ok (.getfield 10, 3) := by decide +kernel
theorem dX11_ways_4 : decode prog_1_method_24_code 4 = .ok (.iload_n 1, 1) := by decide +kernel
theorem dX11_ways_5 : decode prog_1_method_24_code 5 = .ok (.invokevirtual 97, 3) := by decide +kernel
theorem dX11_ways_8 : decode prog_1_method_24_code 8 = .ok (.ifCond .ne 11, 3) := by decide +kernel
theorem dX11_ways_11 : decode prog_1_method_24_code 11 = .ok (.new 101, 3) := by decide +kernel
theorem dX11_ways_14 : decode prog_1_method_24_code 14 = .ok (.dup, 1) := by decide +kernel
theorem dX11_ways_15 : decode prog_1_method_24_code 15 = .ok (.invokespecial 103, 3) := by decide +kernel
theorem dX11_ways_18 : decode prog_1_method_24_code 18 = .ok (.athrow, 1) := by decide +kernel
theorem dX11_whereIs_0 : decode prog_1_method_21_code 0 = .ok (.aload_n 0, 1) := by decide +kernel
theorem dX11_whereIs_1 : decode prog_1_method_21_code 1 = .ok (.iload_n 1, 1) := by decide +kernel
theorem dX11_whereIs_2 : decode prog_1_method_21_code 2 = .ok (.invokevirtual 212, 3) := by decide +kernel
theorem dX11_whereIs_5 : decode prog_1_method_21_code 5 = .ok (.ifCond .ne 11, 3) := by decide +kernel
theorem dX11_whereIs_8 : decode prog_1_method_21_code 8 = .ok (.new 101, 3) := by decide +kernel
theorem dX11_whereIs_11 : decode prog_1_method_21_code 11 = .ok (.dup, 1) := by decide +kernel
theorem dX11_whereIs_12 : decode prog_1_method_21_code 12 = .ok (.invokespecial 103, 3) := by decide +kernel
theorem dX11_whereIs_15 : decode prog_1_method_21_code 15 = .ok (.athrow, 1) := by decide +kernel
theorem dX12_empty_0 : decode prog_15_method_7_code 0 = .ok (.iload_n 1, 1) := by decide +kernel
theorem dX12_empty_1 : decode prog_15_method_7_code 1 = .ok (.iload_n 1, 1) := by decide +kernel
theorem dX12_empty_2 : decode prog_15_method_7_code 2 = .ok (.iconst 1, 1) := by decide +kernel
theorem dX12_empty_3 : decode prog_15_method_7_code 3 = .ok (.iadd, 1) := by decide +kernel
theorem dX12_empty_4 : decode prog_15_method_7_code 4 = .ok (.multianewarray 158 2, 4) := by decide +kernel
theorem dX12_empty_8 : decode prog_15_method_7_code 8 = .ok (.astore_n 2, 1) := by decide +kernel
theorem dX12_empty_9 : decode prog_15_method_7_code 9 = .ok (.aload_n 2, 1) := by decide +kernel
theorem dX12_empty_10 : decode prog_15_method_7_code 10 = .ok (.astore_n 3, 1) := by decide +kernel
theorem dX12_empty_11 : decode prog_15_method_7_code 11 = .ok (.aload_n 3, 1) := by decide +kernel
theorem dX12_empty_12 : decode prog_15_method_7_code 12 = .ok (.arraylength, 1) := by decide +kernel
theorem dX12_empty_13 : decode prog_15_method_7_code 13 = .ok (.istore 4, 2) := by decide +kernel
theorem dX12_empty_15 : decode prog_15_method_7_code 15 = .ok (.iconst 0, 1) := by decide +kernel
theorem dX12_empty_16 : decode prog_15_method_7_code 16 = .ok (.istore 5, 2) := by decide +kernel
theorem dX12_empty_18 : decode prog_15_method_7_code 18 = .ok (.iload 5, 2) := by decide +kernel
theorem dX12_empty_20 : decode prog_15_method_7_code 20 = .ok (.iload 4, 2) := by decide +kernel
theorem dX12_empty_22 : decode prog_15_method_7_code 22 = .ok (.if_icmp .ge 24, 3) := by decide +kernel
theorem dX12_empty_46 : decode prog_15_method_7_code 46 = .ok (.aload_n 2, 1) := by decide +kernel
theorem dX12_empty_47 : decode prog_15_method_7_code 47 = .ok (.areturn, 1) := by decide +kernel
theorem dX12_flows_0 : decode prog_15_method_9_code 0 = .ok (.iconst 0, 1) := by decide +kernel
theorem dX12_flows_1 : decode prog_15_method_9_code 1 = .ok (.istore_n 1, 1) := by decide +kernel
theorem dX12_flows_2 : decode prog_15_method_9_code 2 = .ok (.iload_n 1, 1) := by decide +kernel
theorem dX12_flows_3 : decode prog_15_method_9_code 3 = .ok (.aload_n 0, 1) := by decide +kernel
theorem dX12_flows_4 : decode prog_15_method_9_code 4 = .ok (.getfield 3, 3) := by decide +kernel
theorem dX12_flows_7 : decode prog_15_method_9_code 7 = .ok (.getfield 68, 3) := by decide +kernel
theorem dX12_flows_10 : decode prog_15_method_9_code 10 = .ok (.invokevirtual 72, 3) := by decide +kernel
theorem dX12_flows_13 : decode prog_15_method_9_code 13 = .ok (.if_icmp .ge 93, 3) := by decide +kernel
theorem dX12_flows_106 : decode prog_15_method_9_code 106 = .ok (.return_, 1) := by decide +kernel
theorem dX12_gases_0 : decode prog_15_method_10_code 0 = .ok (.aload_n 0, 1) := by decide +kernel
theorem dX12_gases_1 : decode prog_15_method_10_code 1 = .ok (.iconst 1, 1) := by decide +kernel
theorem dX12_gases_2 : decode prog_15_method_10_code 2 = .ok (.invokevirtual 102, 3) := by decide +kernel
theorem dX12_gases_5 : decode prog_15_method_10_code 5 = .ok (.astore_n 1, 1) := by decide +kernel
theorem dX12_gases_6 : decode prog_15_method_10_code 6 = .ok (.aload_n 0, 1) := by decide +kernel
theorem dX12_gases_7 : decode prog_15_method_10_code 7 = .ok (.aload_n 1, 1) := by decide +kernel
theorem dX12_gases_8 : decode prog_15_method_10_code 8 = .ok (.invokevirtual 106, 3) := by decide +kernel
theorem dX12_gases_11 : decode prog_15_method_10_code 11 = .ok (.astore_n 2, 1) := by decide +kernel
theorem dX12_gases_12 : decode prog_15_method_10_code 12 = .ok (.aload_n 0, 1) := by decide +kernel
theorem dX12_gases_13 : decode prog_15_method_10_code 13 = .ok (.getfield 3, 3) := by decide +kernel
theorem dX12_gases_16 : decode prog_15_method_10_code 16 = .ok (.getfield 65, 3) := by decide +kernel
theorem dX12_gases_19 : decode prog_15_method_10_code 19 = .ok (.newarray .boolean, 2) := by decide +kernel
theorem dX12_gases_21 : decode prog_15_method_10_code 21 = .ok (.astore_n 3, 1) := by decide +kernel
theorem dX12_gases_22 : decode prog_15_method_10_code 22 = .ok (.iconst 0, 1) := by decide +kernel
theorem dX12_gases_23 : decode prog_15_method_10_code 23 = .ok (.istore 4, 2) := by decide +kernel
theorem dX12_gases_25 : decode prog_15_method_10_code 25 = .ok (.iload 4, 2) := by decide +kernel
theorem dX12_gases_27 : decode prog_15_method_10_code 27 = .ok (.aload_n 0, 1) := by decide +kernel
theorem dX12_gases_28 : decode prog_15_method_10_code 28 = .ok (.getfield 3, 3) := by decide +kernel
theorem dX12_gases_31 : decode prog_15_method_10_code 31 = .ok (.getfield 65, 3) := by decide +kernel
theorem dX12_gases_34 : decode prog_15_method_10_code 34 = .ok (.if_icmp .ge 42, 3) := by decide +kernel
theorem dX12_gases_76 : decode prog_15_method_10_code 76 = .ok (.aload_n 0, 1) := by decide +kernel
theorem dX12_gases_77 : decode prog_15_method_10_code 77 = .ok (.getfield 3, 3) := by decide +kernel
theorem dX12_gases_80 : decode prog_15_method_10_code 80 = .ok (.getfield 65, 3) := by decide +kernel
theorem dX12_gases_83 : decode prog_15_method_10_code 83 = .ok (.newarray .int, 2) := by decide +kernel
theorem dX12_gases_85 : decode prog_15_method_10_code 85 = .ok (.astore 4, 2) := by decide +kernel
theorem dX12_gases_87 : decode prog_15_method_10_code 87 = .ok (.iconst 0, 1) := by decide +kernel
theorem dX12_gases_88 : decode prog_15_method_10_code 88 = .ok (.istore 5, 2) := by decide +kernel
theorem dX12_gases_90 : decode prog_15_method_10_code 90 = .ok (.iconst 0, 1) := by decide +kernel
theorem dX12_gases_91 : decode prog_15_method_10_code 91 = .ok (.istore 6, 2) := by decide +kernel
theorem dX12_gases_93 : decode prog_15_method_10_code 93 = .ok (.iload 6, 2) := by decide +kernel
theorem dX12_gases_95 : decode prog_15_method_10_code 95 = .ok (.aload_n 0, 1) := by decide +kernel
theorem dX12_gases_96 : decode prog_15_method_10_code 96 = .ok (.getfield 3, 3) := by decide +kernel
theorem dX12_gases_99 : decode prog_15_method_10_code 99 = .ok (.getfield 65, 3) := by decide +kernel
theorem dX12_gases_102 : decode prog_15_method_10_code 102 = .ok (.if_icmp .ge 110, 3) := by decide +kernel
theorem dX12_gases_212 : decode prog_15_method_10_code 212 = .ok (.aload_n 0, 1) := by decide +kernel
theorem dX12_gases_213 : decode prog_15_method_10_code 213 = .ok (.iload 5, 2) := by decide +kernel
theorem dX12_gases_215 : decode prog_15_method_10_code 215 = .ok (.invokevirtual 110, 3) := by decide +kernel
theorem dX12_gases_218 : decode prog_15_method_10_code 218 = .ok (.astore 6, 2) := by decide +kernel
theorem dX12_gases_220 : decode prog_15_method_10_code 220 = .ok (.iconst 0, 1) := by decide +kernel
theorem dX12_gases_221 : decode prog_15_method_10_code 221 = .ok (.istore 7, 2) := by decide +kernel
theorem dX12_gases_223 : decode prog_15_method_10_code 223 = .ok (.iload 7, 2) := by decide +kernel
theorem dX12_gases_225 : decode prog_15_method_10_code 225 = .ok (.aload_n 0, 1) := by decide +kernel
theorem dX12_gases_226 : decode prog_15_method_10_code 226 = .ok (.getfield 3, 3) := by decide +kernel
theorem dX12_gases_229 : decode prog_15_method_10_code 229 = .ok (.getfield 65, 3) := by decide +kernel
theorem dX12_gases_232 : decode prog_15_method_10_code 232 = .ok (.if_icmp .ge 53, 3) := by decide +kernel
theorem dX12_gases_285 : decode prog_15_method_10_code 285 = .ok (.iconst 0, 1) := by decide +kernel
theorem dX12_gases_286 : decode prog_15_method_10_code 286 = .ok (.istore 7, 2) := by decide +kernel
theorem dX12_gases_288 : decode prog_15_method_10_code 288 = .ok (.iload 7, 2) := by decide +kernel
theorem dX12_gases_290 : decode prog_15_method_10_code 290 = .ok (.aload_n 0, 1) := by decide +kernel
theorem dX12_gases_291 : decode prog_15_method_10_code 291 = .ok (.getfield 3, 3) := by decide +kernel
theorem dX12_gases_294 : decode prog_15_method_10_code 294 = .ok (.getfield 68, 3) := by decide +kernel
theorem dX12_gases_297 : decode prog_15_method_10_code 297 = .ok (.invokevirtual 72, 3) := by decide +kernel
theorem dX12_gases_300 : decode prog_15_method_10_code 300 = .ok (.if_icmp .ge 184, 3) := by decide +kernel
theorem dX12_gases_484 : decode prog_15_method_10_code 484 = .ok (.aload 6, 2) := by decide +kernel
theorem dX12_gases_486 : decode prog_15_method_10_code 486 = .ok (.invokestatic 134, 3) := by decide +kernel
theorem dX12_gases_489 : decode prog_15_method_10_code 489 = .ok (.iload 5, 2) := by decide +kernel
theorem dX12_gases_491 : decode prog_15_method_10_code 491 = .ok (.ifCond .ne 4, 3) := by decide +kernel
theorem dX12_gases_494 : decode prog_15_method_10_code 494 = .ok (.return_, 1) := by decide +kernel
theorem dX12_groups_0 : decode prog_15_method_4_code 0 = .ok (.aload_n 0, 1) := by decide +kernel
theorem dX12_groups_1 : decode prog_15_method_4_code 1 = .ok (.getfield 3, 3) := by decide +kernel
theorem dX12_groups_4 : decode prog_15_method_4_code 4 = .ok (.getfield 65, 3) := by decide +kernel
theorem dX12_groups_7 : decode prog_15_method_4_code 7 = .ok (.newarray .int, 2) := by decide +kernel
theorem dX12_groups_9 : decode prog_15_method_4_code 9 = .ok (.astore_n 2, 1) := by decide +kernel
theorem dX12_groups_10 : decode prog_15_method_4_code 10 = .ok (.iconst 0, 1) := by decide +kernel
theorem dX12_groups_11 : decode prog_15_method_4_code 11 = .ok (.istore_n 3, 1) := by decide +kernel
theorem dX12_groups_12 : decode prog_15_method_4_code 12 = .ok (.iload_n 3, 1) := by decide +kernel
theorem dX12_groups_13 : decode prog_15_method_4_code 13 = .ok (.aload_n 0, 1) := by decide +kernel
theorem dX12_groups_14 : decode prog_15_method_4_code 14 = .ok (.getfield 3, 3) := by decide +kernel
theorem dX12_groups_17 : decode prog_15_method_4_code 17 = .ok (.getfield 65, 3) := by decide +kernel
theorem dX12_groups_20 : decode prog_15_method_4_code 20 = .ok (.if_icmp .ge 13, 3) := by decide +kernel
theorem dX12_groups_33 : decode prog_15_method_4_code 33 = .ok (.iconst 0, 1) := by decide +kernel
theorem dX12_groups_34 : decode prog_15_method_4_code 34 = .ok (.istore_n 3, 1) := by decide +kernel
theorem dX12_groups_35 : decode prog_15_method_4_code 35 = .ok (.iload_n 3, 1) := by decide +kernel
theorem dX12_groups_36 : decode prog_15_method_4_code 36 = .ok (.aload_n 0, 1) := by decide +kernel
theorem dX12_groups_37 : decode prog_15_method_4_code 37 = .ok (.getfield 3, 3) := by decide +kernel
theorem dX12_groups_40 : decode prog_15_method_4_code 40 = .ok (.getfield 65, 3) := by decide +kernel
theorem dX12_groups_43 : decode prog_15_method_4_code 43 = .ok (.if_icmp .ge 119, 3) := by decide +kernel
theorem dX12_groups_162 : decode prog_15_method_4_code 162 = .ok (.aload_n 2, 1) := by decide +kernel
theorem dX12_groups_163 : decode prog_15_method_4_code 163 = .ok (.areturn, 1) := by decide +kernel
theorem dX12_haveSurface_0 : decode prog_15_method_5_code 0 = .ok (.aload_n 0, 1) := by decide +kernel
theorem dX12_haveSurface_1 : decode prog_15_method_5_code 1 = .ok (.getfield 3, 3) := by decide +kernel
theorem dX12_haveSurface_4 : decode prog_15_method_5_code 4 = .ok (.getfield 65, 3) := by decide +kernel
theorem dX12_haveSurface_7 : decode prog_15_method_5_code 7 = .ok (.newarray .boolean, 2) := by decide +kernel
theorem dX12_haveSurface_9 : decode prog_15_method_5_code 9 = .ok (.astore_n 2, 1) := by decide +kernel
theorem dX12_haveSurface_10 : decode prog_15_method_5_code 10 = .ok (.iconst 0, 1) := by decide +kernel
theorem dX12_haveSurface_11 : decode prog_15_method_5_code 11 = .ok (.istore_n 3, 1) := by decide +kernel
theorem dX12_haveSurface_12 : decode prog_15_method_5_code 12 = .ok (.iload_n 3, 1) := by decide +kernel
theorem dX12_haveSurface_13 : decode prog_15_method_5_code 13 = .ok (.aload_n 0, 1) := by decide +kernel
theorem dX12_haveSurface_14 : decode prog_15_method_5_code 14 = .ok (.getfield 3, 3) := by decide +kernel
theorem dX12_haveSurface_17 : decode prog_15_method_5_code 17 = .ok (.getfield 65, 3) := by decide +kernel
theorem dX12_haveSurface_20 : decode prog_15_method_5_code 20 = .ok (.if_icmp .ge 39, 3) := by decide +kernel
theorem dX12_haveSurface_59 : decode prog_15_method_5_code 59 = .ok (.aload_n 2, 1) := by decide +kernel
theorem dX12_haveSurface_60 : decode prog_15_method_5_code 60 = .ok (.areturn, 1) := by decide +kernel
theorem dX12_init_0 : decode prog_15_method_1_code 0 = .ok (.aload_n 0, 1) := by decide +kernel
theorem dX12_init_1 : decode prog_15_method_1_code 1 = .ok (.aload_n 1, 1) := by decide +kernel
theorem dX12_init_2 : decode prog_15_method_1_code 2 = .ok (.putfield 3, 3) := by decide +kernel
theorem dX12_init_5 : decode prog_15_method_1_code 5 = .ok (.aload_n 0, 1) := by decide +kernel
theorem dX12_init_6 : decode prog_15_method_1_code 6 = .ok (.invokespecial 9, 3) := by decide +kernel
theorem dX12_init_9 : decode prog_15_method_1_code 9 = .ok (.aload_n 0, 1) := by decide +kernel
theorem dX12_init_10 : decode prog_15_method_1_code 10 = .ok (.bipush 9, 2) := by decide +kernel
theorem dX12_init_12 : decode prog_15_method_1_code 12 = .ok (.anewarray 15, 3) := by decide +kernel
theorem dX12_init_15 : decode prog_15_method_1_code 15 = .ok (.putfield 17, 3) := by decide +kernel
theorem dX12_init_18 : decode prog_15_method_1_code 18 = .ok (.aload_n 0, 1) := by decide +kernel
theorem dX12_init_19 : decode prog_15_method_1_code 19 = .ok (.bipush 14, 2) := by decide +kernel
theorem dX12_init_21 : decode prog_15_method_1_code 21 = .ok (.anewarray 15, 3) := by decide +kernel
theorem dX12_init_24 : decode prog_15_method_1_code 24 = .ok (.putfield 21, 3) := by decide +kernel
theorem dX12_init_27 : decode prog_15_method_1_code 27 = .ok (.aload_n 0, 1) := by decide +kernel
theorem dX12_init_28 : decode prog_15_method_1_code 28 = .ok (.bipush 9, 2) := by decide +kernel
theorem dX12_init_30 : decode prog_15_method_1_code 30 = .ok (.anewarray 15, 3) := by decide +kernel
theorem dX12_init_33 : decode prog_15_method_1_code 33 = .ok (.putfield 24, 3) := by decide +kernel
theorem dX12_init_36 : decode prog_15_method_1_code 36 = .ok (.aload_n 0, 1) := by decide +kernel
theorem dX12_init_37 : decode prog_15_method_1_code 37 = .ok (.lconst 1, 1) := by decide +kernel
theorem dX12_init_38 : decode prog_15_method_1_code 38 = .ok (.invokestatic 27, 3) := by decide +kernel
theorem dX12_init_41 : decode prog_15_method_1_code 41 = .ok (.putfield 31, 3) := by decide +kernel
theorem dX12_init_44 : decode prog_15_method_1_code 44 = .ok (.aload_n 0, 1) := by decide +kernel
theorem dX12_init_45 : decode prog_15_method_1_code 45 = .ok (.bipush 9, 2) := by decide +kernel
theorem dX12_init_47 : decode prog_15_method_1_code 47 = .ok (.newarray .boolean, 2) := by decide +kernel
theorem dX12_init_49 : decode prog_15_method_1_code 49 = .ok (.putfield 35, 3) := by decide +kernel
theorem dX12_init_52 : decode prog_15_method_1_code 52 = .ok (.aload_n 0, 1) := by decide +kernel
theorem dX12_init_53 : decode prog_15_method_1_code 53 = .ok (.invokevirtual 39, 3) := by decide +kernel
theorem dX12_init_56 : decode prog_15_method_1_code 56 = .ok (.aload_n 0, 1) := by decide +kernel
theorem dX12_init_57 : decode prog_15_method_1_code 57 = .ok (.invokevirtual 41, 3) := by decide +kernel
theorem dX12_init_60 : decode prog_15_method_1_code 60 = .ok (.aload_n 0, 1) := by decide +kernel
theorem dX12_init_61 : decode prog_15_method_1_code 61 = .ok (.invokevirtual 43, 3) := by decide +kernel
theorem dX12_init_64 : decode prog_15_method_1_code 64 = .ok (.return_, 1) := by decide +kernel
theorem dX12_pressures_0 : decode prog_15_method_6_code 0 = .ok (.aload_n 0, 1) := by decide +kernel
theorem dX12_pressures_1 : decode prog_15_method_6_code 1 = .ok (.iconst 0, 1) := by decide +kernel
theorem dX12_pressures_2 : decode prog_15_method_6_code 2 = .ok (.invokevirtual 102, 3) := by decide +kernel
theorem dX12_pressures_5 : decode prog_15_method_6_code 5 = .ok (.astore_n 1, 1) := by decide +kernel
theorem dX12_pressures_6 : decode prog_15_method_6_code 6 = .ok (.aload_n 0, 1) := by decide +kernel
theorem dX12_pressures_7 : decode prog_15_method_6_code 7 = .ok (.aload_n 1, 1) := by decide +kernel
theorem dX12_pressures_8 : decode prog_15_method_6_code 8 = .ok (.invokevirtual 106, 3) := by decide +kernel
theorem dX12_pressures_11 : decode prog_15_method_6_code 11 = .ok (.astore_n 2, 1) := by decide +kernel
theorem dX12_pressures_12 : decode prog_15_method_6_code 12 = .ok (.aload_n 0, 1) := by decide +kernel
theorem dX12_pressures_13 : decode prog_15_method_6_code 13 = .ok (.getfield 3, 3) := by decide +kernel
theorem dX12_pressures_16 : decode prog_15_method_6_code 16 = .ok (.getfield 65, 3) := by decide +kernel
theorem dX12_pressures_19 : decode prog_15_method_6_code 19 = .ok (.newarray .int, 2) := by decide +kernel
theorem dX12_pressures_21 : decode prog_15_method_6_code 21 = .ok (.astore_n 3, 1) := by decide +kernel
theorem dX12_pressures_22 : decode prog_15_method_6_code 22 = .ok (.iconst 0, 1) := by decide +kernel
theorem dX12_pressures_23 : decode prog_15_method_6_code 23 = .ok (.istore 4, 2) := by decide +kernel
theorem dX12_pressures_25 : decode prog_15_method_6_code 25 = .ok (.iconst 0, 1) := by decide +kernel
theorem dX12_pressures_26 : decode prog_15_method_6_code 26 = .ok (.istore 5, 2) := by decide +kernel
theorem dX12_pressures_28 : decode prog_15_method_6_code 28 = .ok (.iload 5, 2) := by decide +kernel
theorem dX12_pressures_30 : decode prog_15_method_6_code 30 = .ok (.aload_n 0, 1) := by decide +kernel
theorem dX12_pressures_31 : decode prog_15_method_6_code 31 = .ok (.getfield 3, 3) := by decide +kernel
theorem dX12_pressures_34 : decode prog_15_method_6_code 34 = .ok (.getfield 65, 3) := by decide +kernel
theorem dX12_pressures_37 : decode prog_15_method_6_code 37 = .ok (.if_icmp .ge 77, 3) := by decide +kernel
theorem dX12_pressures_114 : decode prog_15_method_6_code 114 = .ok (.aload_n 0, 1) := by decide +kernel
theorem dX12_pressures_115 : decode prog_15_method_6_code 115 = .ok (.iload 4, 2) := by decide +kernel
theorem dX12_pressures_117 : decode prog_15_method_6_code 117 = .ok (.invokevirtual 110, 3) := by decide +kernel
theorem dX12_pressures_120 : decode prog_15_method_6_code 120 = .ok (.astore 5, 2) := by decide +kernel
theorem dX12_pressures_122 : decode prog_15_method_6_code 122 = .ok (.aload_n 0, 1) := by decide +kernel
theorem dX12_pressures_123 : decode prog_15_method_6_code 123 = .ok (.getfield 3, 3) := by decide +kernel
theorem dX12_pressures_126 : decode prog_15_method_6_code 126 = .ok (.getfield 68, 3) := by decide +kernel
theorem dX12_pressures_129 : decode prog_15_method_6_code 129 = .ok (.invokevirtual 114, 3) := by decide +kernel
theorem dX12_pressures_132 : decode prog_15_method_6_code 132 = .ok (.astore 6, 2) := by decide +kernel
theorem dX12_pressures_134 : decode prog_15_method_6_code 134 = .ok (.aload 6, 2) := by decide +kernel
theorem dX12_pressures_136 : decode prog_15_method_6_code 136 = .ok (.invokeinterface 118 1, 5) := by decide +kernel
theorem dX12_pressures_141 : decode prog_15_method_6_code 141 = .ok (.ifCond .eq 81, 3) := by decide +kernel
theorem dX12_pressures_222 : decode prog_15_method_6_code 222 = .ok (.aload 5, 2) := by decide +kernel
theorem dX12_pressures_224 : decode prog_15_method_6_code 224 = .ok (.invokestatic 134, 3) := by decide +kernel
theorem dX12_pressures_227 : decode prog_15_method_6_code 227 = .ok (.aload_n 0, 1) := by decide +kernel
theorem dX12_pressures_228 : decode prog_15_method_6_code 228 = .ok (.iload 4, 2) := by decide +kernel
theorem dX12_pressures_230 : decode prog_15_method_6_code 230 = .ok (.ifCond .ne 10, 3) := by decide +kernel
theorem dX12_pressures_233 : decode prog_15_method_6_code 233 = .ok (.lconst 1, 1) := by decide +kernel
theorem dX12_pressures_234 : decode prog_15_method_6_code 234 = .ok (.invokestatic 27, 3) := by decide +kernel
theorem dX12_pressures_237 : decode prog_15_method_6_code 237 = .ok (.goto 12, 3) := by decide +kernel
theorem dX12_pressures_249 : decode prog_15_method_6_code 249 = .ok (.putfield 142, 3) := by decide +kernel
theorem dX12_pressures_252 : decode prog_15_method_6_code 252 = .ok (.iconst 0, 1) := by decide +kernel
theorem dX12_pressures_253 : decode prog_15_method_6_code 253 = .ok (.istore 6, 2) := by decide +kernel
theorem dX12_pressures_255 : decode prog_15_method_6_code 255 = .ok (.iload 6, 2) := by decide +kernel
theorem dX12_pressures_257 : decode prog_15_method_6_code 257 = .ok (.aload_n 0, 1) := by decide +kernel
theorem dX12_pressures_258 : decode prog_15_method_6_code 258 = .ok (.getfield 3, 3) := by decide +kernel
theorem dX12_pressures_261 : decode prog_15_method_6_code 261 = .ok (.getfield 65, 3) := by decide +kernel
theorem dX12_pressures_264 : decode prog_15_method_6_code 264 = .ok (.if_icmp .ge 90, 3) := by decide +kernel
theorem dX12_pressures_354 : decode prog_15_method_6_code 354 = .ok (.return_, 1) := by decide +kernel
theorem dX13_init_0 : decode prog_16_method_1_code 0 = .ok (.aload_n 0, 1) := by decide +kernel
theorem dX13_init_1 : decode prog_16_method_1_code 1 = .ok (.invokespecial 1, 3) := by decide +kernel
theorem dX13_init_4 : decode prog_16_method_1_code 4 = .ok (.aload_n 1, 1) := by decide +kernel
theorem dX13_init_5 : decode prog_16_method_1_code 5 = .ok (.arraylength, 1) := by decide +kernel
theorem dX13_init_6 : decode prog_16_method_1_code 6 = .ok (.istore_n 3, 1) := by decide +kernel
theorem dX13_init_7 : decode prog_16_method_1_code 7 = .ok (.iload_n 3, 1) := by decide +kernel
theorem dX13_init_8 : decode prog_16_method_1_code 8 = .ok (.ifCond .le 17, 3) := by decide +kernel
theorem dX13_init_11 : decode prog_16_method_1_code 11 = .ok (.aload_n 1, 1) := by decide +kernel
theorem dX13_init_12 : decode prog_16_method_1_code 12 = .ok (.iload_n 3, 1) := by decide +kernel
theorem dX13_init_13 : decode prog_16_method_1_code 13 = .ok (.iconst 1, 1) := by decide +kernel
theorem dX13_init_14 : decode prog_16_method_1_code 14 = .ok (.isub, 1) := by decide +kernel
theorem dX13_init_15 : decode prog_16_method_1_code 15 = .ok (.iaload, 1) := by decide +kernel
theorem dX13_init_16 : decode prog_16_method_1_code 16 = .ok (.ifCond .ne 9, 3) := by decide +kernel
theorem dX13_init_19 : decode prog_16_method_1_code 19 = .ok (.iinc 3 (-1), 3) := by decide +kernel
theorem dX13_init_22 : decode prog_16_method_1_code 22 = .ok (.goto (-15), 3) := by decide +kernel
theorem dX13_init_25 : decode prog_16_method_1_code 25 = .ok (.aload_n 0, 1) := by decide +kernel
theorem dX13_init_26 : decode prog_16_method_1_code 26 = .ok (.iload_n 3, 1) := by decide +kernel
theorem dX13_init_27 : decode prog_16_method_1_code 27 = .ok (.aload_n 1, 1) := by decide +kernel
theorem dX13_init_28 : decode prog_16_method_1_code 28 = .ok (.arraylength, 1) := by decide +kernel
theorem dX13_init_29 : decode prog_16_method_1_code 29 = .ok (.if_icmp .ne 7, 3) := by decide +kernel
theorem dX13_init_36 : decode prog_16_method_1_code 36 = .ok (.aload_n 1, 1) := by decide +kernel
theorem dX13_init_37 : decode prog_16_method_1_code 37 = .ok (.iload_n 3, 1) := by decide +kernel
theorem dX13_init_38 : decode prog_16_method_1_code 38 = .ok (.invokestatic 7, 3) := by decide +kernel
theorem dX13_init_41 : decode prog_16_method_1_code 41 = .ok (.putfield 13, 3) := by decide +kernel
theorem dX13_init_44 : decode prog_16_method_1_code 44 = .ok (.aload_n 0, 1) := by decide +kernel
theorem dX13_init_45 : decode prog_16_method_1_code 45 = .ok (.iload_n 2, 1) := by decide +kernel
theorem dX13_init_46 : decode prog_16_method_1_code 46 = .ok (.ifCond .eq 11, 3) := by decide +kernel
theorem dX13_init_57 : decode prog_16_method_1_code 57 = .ok (.iconst 0, 1) := by decide +kernel
theorem dX13_init_58 : decode prog_16_method_1_code 58 = .ok (.putfield 19, 3) := by decide +kernel
theorem dX13_init_61 : decode prog_16_method_1_code 61 = .ok (.return_, 1) := by decide +kernel
theorem dX13_of_0 : decode prog_16_method_2_code 0 = .ok (.iconst 5, 1) := by decide +kernel
theorem dX13_of_1 : decode prog_16_method_2_code 1 = .ok (.newarray .int, 2) := by decide +kernel
theorem dX13_of_3 : decode prog_16_method_2_code 3 = .ok (.astore_n 2, 1) := by decide +kernel
theorem dX13_of_4 : decode prog_16_method_2_code 4 = .ok (.lload_n 0, 1) := by decide +kernel
theorem dX13_of_5 : decode prog_16_method_2_code 5 = .ok (.invokestatic 23, 3) := by decide +kernel
theorem dX13_of_8 : decode prog_16_method_2_code 8 = .ok (.lstore_n 3, 1) := by decide +kernel
theorem dX13_of_9 : decode prog_16_method_2_code 9 = .ok (.iconst 0, 1) := by decide +kernel
theorem dX13_of_10 : decode prog_16_method_2_code 10 = .ok (.istore 5, 2) := by decide +kernel
theorem dX13_of_12 : decode prog_16_method_2_code 12 = .ok (.iload 5, 2) := by decide +kernel
theorem dX13_of_14 : decode prog_16_method_2_code 14 = .ok (.iconst 5, 1) := by decide +kernel
theorem dX13_of_15 : decode prog_16_method_2_code 15 = .ok (.if_icmp .ge 25, 3) := by decide +kernel
theorem dX13_of_18 : decode prog_16_method_2_code 18 = .ok (.aload_n 2, 1) := by decide +kernel
theorem dX13_of_19 : decode prog_16_method_2_code 19 = .ok (.iload 5, 2) := by decide +kernel
theorem dX13_of_21 : decode prog_16_method_2_code 21 = .ok (.lload_n 3, 1) := by decide +kernel
theorem dX13_of_22 : decode prog_16_method_2_code 22 = .ok (.ldc2_w 29, 3) := by decide +kernel
theorem dX13_of_25 : decode prog_16_method_2_code 25 = .ok (.lrem, 1) := by decide +kernel
theorem dX13_of_26 : decode prog_16_method_2_code 26 = .ok (.l2i, 1) := by decide +kernel
theorem dX13_of_27 : decode prog_16_method_2_code 27 = .ok (.iastore, 1) := by decide +kernel
theorem dX13_of_28 : decode prog_16_method_2_code 28 = .ok (.lload_n 3, 1) := by decide +kernel
theorem dX13_of_29 : decode prog_16_method_2_code 29 = .ok (.ldc2_w 29, 3) := by decide +kernel
theorem dX13_of_32 : decode prog_16_method_2_code 32 = .ok (.ldiv, 1) := by decide +kernel
theorem dX13_of_33 : decode prog_16_method_2_code 33 = .ok (.lstore_n 3, 1) := by decide +kernel
theorem dX13_of_34 : decode prog_16_method_2_code 34 = .ok (.iinc 5 1, 3) := by decide +kernel
theorem dX13_of_37 : decode prog_16_method_2_code 37 = .ok (.goto (-25), 3) := by decide +kernel
theorem dX13_of_40 : decode prog_16_method_2_code 40 = .ok (.new 14, 3) := by decide +kernel
theorem dX13_of_43 : decode prog_16_method_2_code 43 = .ok (.dup, 1) := by decide +kernel
theorem dX13_of_44 : decode prog_16_method_2_code 44 = .ok (.aload_n 2, 1) := by decide +kernel
theorem dX13_of_45 : decode prog_16_method_2_code 45 = .ok (.lload_n 0, 1) := by decide +kernel
theorem dX13_of_46 : decode prog_16_method_2_code 46 = .ok (.lconst 0, 1) := by decide +kernel
theorem dX13_of_47 : decode prog_16_method_2_code 47 = .ok (.lcmp, 1) := by decide +kernel
theorem dX13_of_48 : decode prog_16_method_2_code 48 = .ok (.ifCond .ge 7, 3) := by decide +kernel
theorem dX13_of_55 : decode prog_16_method_2_code 55 = .ok (.iconst 0, 1) := by decide +kernel
theorem dX13_of_56 : decode prog_16_method_2_code 56 = .ok (.invokespecial 31, 3) := by decide +kernel
theorem dX13_of_59 : decode prog_16_method_2_code 59 = .ok (.areturn, 1) := by decide +kernel
theorem dX16_addJunction_0 : decode prog_14_method_8_code 0 = .ok (.iload_n 1, 1) := by decide +kernel
theorem dX16_addJunction_1 : decode prog_14_method_8_code 1 = .ok (.ifCond .eq 20, 3) := by decide +kernel
theorem dX16_addJunction_4 : decode prog_14_method_8_code 4 = .ok (.iload_n 2, 1) := by decide +kernel
theorem dX16_addJunction_5 : decode prog_14_method_8_code 5 = .ok (.bipush (-50), 2) := by decide +kernel
theorem dX16_addJunction_7 : decode prog_14_method_8_code 7 = .ok (.bipush 50, 2) := by decide +kernel
theorem dX16_addJunction_9 : decode prog_14_method_8_code 9 = .ok (.invokestatic 86, 3) := by decide +kernel
theorem dX16_addJunction_12 : decode prog_14_method_8_code 12 = .ok (.ifCond .ne 9, 3) := by decide +kernel
theorem dX16_addJunction_15 : decode prog_14_method_8_code 15 = .ok (.aload_n 0, 1) := by decide +kernel
theorem dX16_addJunction_16 : decode prog_14_method_8_code 16 = .ok (.iconst 1, 1) := by decide +kernel
theorem dX16_addJunction_17 : decode prog_14_method_8_code 17 = .ok (.invokevirtual 90, 3) := by decide +kernel
theorem dX16_addJunction_20 : decode prog_14_method_8_code 20 = .ok (.ireturn, 1) := by decide +kernel
theorem dX16_addJunction_21 : decode prog_14_method_8_code 21 = .ok (.aload_n 0, 1) := by decide +kernel
theorem dX16_addJunction_22 : decode prog_14_method_8_code 22 = .ok (.getfield 83, 3) := by decide +kernel
theorem dX16_addJunction_25 : decode prog_14_method_8_code 25 = .ok (.bipush 9, 2) := by decide +kernel
theorem dX16_addJunction_27 : decode prog_14_method_8_code 27 = .ok (.if_icmp .ne 9, 3) := by decide +kernel
theorem dX16_addJunction_36 : decode prog_14_method_8_code 36 = .ok (.aload_n 0, 1) := by decide +kernel
theorem dX16_addJunction_37 : decode prog_14_method_8_code 37 = .ok (.getfield 13, 3) := by decide +kernel
theorem dX16_addJunction_40 : decode prog_14_method_8_code 40 = .ok (.aload_n 0, 1) := by decide +kernel
theorem dX16_addJunction_41 : decode prog_14_method_8_code 41 = .ok (.getfield 83, 3) := by decide +kernel
theorem dX16_addJunction_44 : decode prog_14_method_8_code 44 = .ok (.iload_n 1, 1) := by decide +kernel
theorem dX16_addJunction_45 : decode prog_14_method_8_code 45 = .ok (.bastore, 1) := by decide +kernel
theorem dX16_addJunction_46 : decode prog_14_method_8_code 46 = .ok (.aload_n 0, 1) := by decide +kernel
theorem dX16_addJunction_47 : decode prog_14_method_8_code 47 = .ok (.getfield 23, 3) := by decide +kernel
theorem dX16_addJunction_50 : decode prog_14_method_8_code 50 = .ok (.aload_n 0, 1) := by decide +kernel
theorem dX16_addJunction_51 : decode prog_14_method_8_code 51 = .ok (.getfield 83, 3) := by decide +kernel
theorem dX16_addJunction_54 : decode prog_14_method_8_code 54 = .ok (.iload_n 1, 1) := by decide +kernel
theorem dX16_addJunction_55 : decode prog_14_method_8_code 55 = .ok (.ifCond .eq 7, 3) := by decide +kernel
theorem dX16_addJunction_58 : decode prog_14_method_8_code 58 = .ok (.iload_n 2, 1) := by decide +kernel
theorem dX16_addJunction_59 : decode prog_14_method_8_code 59 = .ok (.goto 4, 3) := by decide +kernel
theorem dX16_addJunction_62 : decode prog_14_method_8_code 62 = .ok (.iconst 0, 1) := by decide +kernel
theorem dX16_addJunction_63 : decode prog_14_method_8_code 63 = .ok (.iastore, 1) := by decide +kernel
theorem dX16_addJunction_64 : decode prog_14_method_8_code 64 = .ok (.aload_n 0, 1) := by decide +kernel
theorem dX16_addJunction_65 : decode prog_14_method_8_code 65 = .ok (.dup, 1) := by decide +kernel
theorem dX16_addJunction_66 : decode prog_14_method_8_code 66 = .ok (.getfield 83, 3) := by decide +kernel
theorem dX16_addJunction_69 : decode prog_14_method_8_code 69 = .ok (.iconst 1, 1) := by decide +kernel
theorem dX16_addJunction_70 : decode prog_14_method_8_code 70 = .ok (.iadd, 1) := by decide +kernel
theorem dX16_addJunction_71 : decode prog_14_method_8_code 71 = .ok (.putfield 83, 3) := by decide +kernel
theorem dX16_addJunction_74 : decode prog_14_method_8_code 74 = .ok (.aload_n 0, 1) := by decide +kernel
theorem dX16_addJunction_75 : decode prog_14_method_8_code 75 = .ok (.aconst_null, 1) := by decide +kernel
theorem dX16_addJunction_76 : decode prog_14_method_8_code 76 = .ok (.putfield 94, 3) := by decide +kernel
theorem dX16_addJunction_79 : decode prog_14_method_8_code 79 = .ok (.aload_n 0, 1) := by decide +kernel
theorem dX16_addJunction_80 : decode prog_14_method_8_code 80 = .ok (.aload_n 0, 1) := by decide +kernel
theorem dX16_addJunction_81 : decode prog_14_method_8_code 81 = .ok (.getfield 83, 3) := by decide +kernel
theorem dX16_addJunction_84 : decode prog_14_method_8_code 84 = .ok (.iconst 1, 1) := by decide +kernel
theorem dX16_addJunction_85 : decode prog_14_method_8_code 85 = .ok (.isub, 1) := by decide +kernel
theorem dX16_addJunction_86 : decode prog_14_method_8_code 86 = .ok (.invokevirtual 98, 3) := by decide +kernel
theorem dX16_addJunction_89 : decode prog_14_method_8_code 89 = .ok (.ireturn, 1) := by decide +kernel
theorem dX16_addRoad_0 : decode prog_14_method_9_code 0 = .ok (.aload_n 0, 1) := by decide +kernel
theorem dX16_addRoad_1 : decode prog_14_method_9_code 1 = .ok (.iload_n 1, 1) := by decide +kernel
theorem dX16_addRoad_2 : decode prog_14_method_9_code 2 = .ok (.invokevirtual 101, 3) := by decide +kernel
theorem dX16_addRoad_5 : decode prog_14_method_9_code 5 = .ok (.ifCond .eq 11, 3) := by decide +kernel
theorem dX16_addRoad_16 : decode prog_14_method_9_code 16 = .ok (.aload_n 0, 1) := by decide +kernel
theorem dX16_addRoad_17 : decode prog_14_method_9_code 17 = .ok (.iconst 1, 1) := by decide +kernel
theorem dX16_addRoad_18 : decode prog_14_method_9_code 18 = .ok (.invokevirtual 90, 3) := by decide +kernel
theorem dX16_addRoad_21 : decode prog_14_method_9_code 21 = .ok (.ireturn, 1) := by decide +kernel
theorem dX16_addStope_0 : decode prog_14_method_11_code 0 = .ok (.aload_n 0, 1) := by decide +kernel
theorem dX16_addStope_1 : decode prog_14_method_11_code 1 = .ok (.iload_n 1, 1) := by decide +kernel
theorem dX16_addStope_2 : decode prog_14_method_11_code 2 = .ok (.invokevirtual 101, 3) := by decide +kernel
theorem dX16_addStope_5 : decode prog_14_method_11_code 5 = .ok (.ifCond .ne 9, 3) := by decide +kernel
theorem dX16_addStope_8 : decode prog_14_method_11_code 8 = .ok (.aload_n 0, 1) := by decide +kernel
theorem dX16_addStope_9 : decode prog_14_method_11_code 9 = .ok (.iconst 1, 1) := by decide +kernel
theorem dX16_addStope_10 : decode prog_14_method_11_code 10 = .ok (.invokevirtual 90, 3) := by decide +kernel
theorem dX16_addStope_13 : decode prog_14_method_11_code 13 = .ok (.ireturn, 1) := by decide +kernel
theorem dX16_come_0 : decode prog_14_method_30_code 0 = .ok (.aload_n 0, 1) := by decide +kernel
theorem dX16_come_1 : decode prog_14_method_30_code 1 = .ok (.iload_n 1, 1) := by decide +kernel
theorem dX16_come_2 : decode prog_14_method_30_code 2 = .ok (.invokevirtual 101, 3) := by decide +kernel
theorem dX16_come_5 : decode prog_14_method_30_code 5 = .ok (.ifCond .ne 9, 3) := by decide +kernel
theorem dX16_come_8 : decode prog_14_method_30_code 8 = .ok (.aload_n 0, 1) := by decide +kernel
theorem dX16_come_9 : decode prog_14_method_30_code 9 = .ok (.iconst 1, 1) := by decide +kernel
theorem dX16_come_10 : decode prog_14_method_30_code 10 = .ok (.invokevirtual 90, 3) := by decide +kernel
theorem dX16_come_13 : decode prog_14_method_30_code 13 = .ok (.ireturn, 1) := by decide +kernel
theorem dX16_deliver_0 : decode prog_14_method_53_code 0 = .ok (.iload_n 1, 1) := by decide +kernel
theorem dX16_deliver_1 : decode prog_14_method_53_code 1 = .ok (.iconst 1, 1) := by decide +kernel
theorem dX16_deliver_2 : decode prog_14_method_53_code 2 = .ok (.bipush 20, 2) := by decide +kernel
theorem dX16_deliver_4 : decode prog_14_method_53_code 4 = .ok (.invokestatic 86, 3) := by decide +kernel
theorem dX16_deliver_7 : decode prog_14_method_53_code 7 = .ok (.ifCond .eq 25, 3) := by decide +kernel
theorem dX16_deliver_10 : decode prog_14_method_53_code 10 = .ok (.iload_n 2, 1) := by decide +kernel
theorem dX16_deliver_11 : decode prog_14_method_53_code 11 = .ok (.iconst 0, 1) := by decide +kernel
theorem dX16_deliver_12 : decode prog_14_method_53_code 12 = .ok (.sipush 999, 3) := by decide +kernel
theorem dX16_deliver_15 : decode prog_14_method_53_code 15 = .ok (.invokestatic 86, 3) := by decide +kernel
theorem dX16_deliver_18 : decode prog_14_method_53_code 18 = .ok (.ifCond .eq 14, 3) := by decide +kernel
theorem dX16_deliver_21 : decode prog_14_method_53_code 21 = .ok (.iload_n 3, 1) := by decide +kernel
theorem dX16_deliver_22 : decode prog_14_method_53_code 22 = .ok (.iload_n 2, 1) := by decide +kernel
theorem dX16_deliver_23 : decode prog_14_method_53_code 23 = .ok (.sipush 999, 3) := by decide +kernel
theorem dX16_deliver_26 : decode prog_14_method_53_code 26 = .ok (.invokestatic 86, 3) := by decide +kernel
theorem dX16_deliver_29 : decode prog_14_method_53_code 29 = .ok (.ifCond .ne 9, 3) := by decide +kernel
theorem dX16_deliver_32 : decode prog_14_method_53_code 32 = .ok (.aload_n 0, 1) := by decide +kernel
theorem dX16_deliver_33 : decode prog_14_method_53_code 33 = .ok (.iconst 1, 1) := by decide +kernel
theorem dX16_deliver_34 : decode prog_14_method_53_code 34 = .ok (.invokevirtual 90, 3) := by decide +kernel
theorem dX16_deliver_37 : decode prog_14_method_53_code 37 = .ok (.ireturn, 1) := by decide +kernel
theorem dX16_deliver_38 : decode prog_14_method_53_code 38 = .ok (.iconst 0, 1) := by decide +kernel
theorem dX16_deliver_39 : decode prog_14_method_53_code 39 = .ok (.istore 4, 2) := by decide +kernel
theorem dX16_deliver_41 : decode prog_14_method_53_code 41 = .ok (.aload_n 0, 1) := by decide +kernel
theorem dX16_deliver_42 : decode prog_14_method_53_code 42 = .ok (.getfield 43, 3) := by decide +kernel
theorem dX16_deliver_45 : decode prog_14_method_53_code 45 = .ok (.invokevirtual 179, 3) := by decide +kernel
theorem dX16_deliver_48 : decode prog_14_method_53_code 48 = .ok (.astore 5, 2) := by decide +kernel
theorem dX16_deliver_50 : decode prog_14_method_53_code 50 = .ok (.aload 5, 2) := by decide +kernel
theorem dX16_deliver_52 : decode prog_14_method_53_code 52 = .ok (.invokeinterface 183 1, 5) := by decide +kernel
theorem dX16_deliver_57 : decode prog_14_method_53_code 57 = .ok (.ifCond .eq 28, 3) := by decide +kernel
theorem dX16_deliver_85 : decode prog_14_method_53_code 85 = .ok (.iload 4, 2) := by decide +kernel
theorem dX16_deliver_87 : decode prog_14_method_53_code 87 = .ok (.iload_n 1, 1) := by decide +kernel
theorem dX16_deliver_88 : decode prog_14_method_53_code 88 = .ok (.if_icmp .ge 9, 3) := by decide +kernel
theorem dX16_deliver_91 : decode prog_14_method_53_code 91 = .ok (.aload_n 0, 1) := by decide +kernel
theorem dX16_deliver_92 : decode prog_14_method_53_code 92 = .ok (.iconst 2, 1) := by decide +kernel
theorem dX16_deliver_93 : decode prog_14_method_53_code 93 = .ok (.invokevirtual 90, 3) := by decide +kernel
theorem dX16_deliver_96 : decode prog_14_method_53_code 96 = .ok (.ireturn, 1) := by decide +kernel
theorem dX16_delivered_0 : decode prog_14_method_55_code 0 = .ok (.aload_n 0, 1) := by decide +kernel
theorem dX16_delivered_1 : decode prog_14_method_55_code 1 = .ok (.iload_n 1, 1) := by decide +kernel
theorem dX16_delivered_2 : decode prog_14_method_55_code 2 = .ok (.invokevirtual 123, 3) := by decide +kernel
theorem dX16_delivered_5 : decode prog_14_method_55_code 5 = .ok (.ifCond .eq 16, 3) := by decide +kernel
theorem dX16_delivered_21 : decode prog_14_method_55_code 21 = .ok (.aload_n 0, 1) := by decide +kernel
theorem dX16_delivered_22 : decode prog_14_method_55_code 22 = .ok (.iconst 1, 1) := by decide +kernel
theorem dX16_delivered_23 : decode prog_14_method_55_code 23 = .ok (.invokevirtual 90, 3) := by decide +kernel
theorem dX16_delivered_26 : decode prog_14_method_55_code 26 = .ok (.ireturn, 1) := by decide +kernel
theorem dX16_fails_0 : decode prog_14_method_4_code 0 = .ok (.aload_n 0, 1) := by decide +kernel
theorem dX16_fails_1 : decode prog_14_method_4_code 1 = .ok (.iload_n 1, 1) := by decide +kernel
theorem dX16_fails_2 : decode prog_14_method_4_code 2 = .ok (.putfield 60, 3) := by decide +kernel
theorem dX16_fails_5 : decode prog_14_method_4_code 5 = .ok (.iconst 0, 1) := by decide +kernel
theorem dX16_fails_6 : decode prog_14_method_4_code 6 = .ok (.ireturn, 1) := by decide +kernel
theorem dX16_flow_0 : decode prog_14_method_15_code 0 = .ok (.iload_n 1, 1) := by decide +kernel
theorem dX16_flow_1 : decode prog_14_method_15_code 1 = .ok (.iconst 0, 1) := by decide +kernel
theorem dX16_flow_2 : decode prog_14_method_15_code 2 = .ok (.aload_n 0, 1) := by decide +kernel
theorem dX16_flow_3 : decode prog_14_method_15_code 3 = .ok (.getfield 39, 3) := by decide +kernel
theorem dX16_flow_6 : decode prog_14_method_15_code 6 = .ok (.invokevirtual 105, 3) := by decide +kernel
theorem dX16_flow_9 : decode prog_14_method_15_code 9 = .ok (.iconst 1, 1) := by decide +kernel
theorem dX16_flow_10 : decode prog_14_method_15_code 10 = .ok (.isub, 1) := by decide +kernel
theorem dX16_flow_11 : decode prog_14_method_15_code 11 = .ok (.invokestatic 86, 3) := by decide +kernel
theorem dX16_flow_14 : decode prog_14_method_15_code 14 = .ok (.ifCond .eq 44, 3) := by decide +kernel
theorem dX16_flow_58 : decode prog_14_method_15_code 58 = .ok (.aload_n 0, 1) := by decide +kernel
theorem dX16_flow_59 : decode prog_14_method_15_code 59 = .ok (.iconst 1, 1) := by decide +kernel
theorem dX16_flow_60 : decode prog_14_method_15_code 60 = .ok (.invokevirtual 90, 3) := by decide +kernel
theorem dX16_flow_63 : decode prog_14_method_15_code 63 = .ok (.ireturn, 1) := by decide +kernel
theorem dX16_gas_0 : decode prog_14_method_17_code 0 = .ok (.aload_n 0, 1) := by decide +kernel
theorem dX16_gas_1 : decode prog_14_method_17_code 1 = .ok (.iload_n 1, 1) := by decide +kernel
theorem dX16_gas_2 : decode prog_14_method_17_code 2 = .ok (.invokevirtual 101, 3) := by decide +kernel
theorem dX16_gas_5 : decode prog_14_method_17_code 5 = .ok (.ifCond .eq 18, 3) := by decide +kernel
theorem dX16_gas_23 : decode prog_14_method_17_code 23 = .ok (.aload_n 0, 1) := by decide +kernel
theorem dX16_gas_24 : decode prog_14_method_17_code 24 = .ok (.iconst 1, 1) := by decide +kernel
theorem dX16_gas_25 : decode prog_14_method_17_code 25 = .ok (.invokevirtual 90, 3) := by decide +kernel
theorem dX16_gas_28 : decode prog_14_method_17_code 28 = .ok (.ireturn, 1) := by decide +kernel
theorem dX16_goodShare_0 : decode prog_14_method_60_code 0 = .ok (.aload_n 0, 1) := by decide +kernel
theorem dX16_goodShare_1 : decode prog_14_method_60_code 1 = .ok (.aload_n 0, 1) := by decide +kernel
theorem dX16_goodShare_2 : decode prog_14_method_60_code 2 = .ok (.getfield 83, 3) := by decide +kernel
theorem dX16_goodShare_5 : decode prog_14_method_60_code 5 = .ok (.ifCond .ne 7, 3) := by decide +kernel
theorem dX16_goodShare_8 : decode prog_14_method_60_code 8 = .ok (.iconst 1, 1) := by decide +kernel
theorem dX16_goodShare_9 : decode prog_14_method_60_code 9 = .ok (.goto 4, 3) := by decide +kernel
theorem dX16_goodShare_13 : decode prog_14_method_60_code 13 = .ok (.putfield 60, 3) := by decide +kernel
theorem dX16_goodShare_16 : decode prog_14_method_60_code 16 = .ok (.iconst 0, 1) := by decide +kernel
theorem dX16_goodShare_17 : decode prog_14_method_60_code 17 = .ok (.istore_n 1, 1) := by decide +kernel
theorem dX16_goodShare_18 : decode prog_14_method_60_code 18 = .ok (.iconst 0, 1) := by decide +kernel
theorem dX16_goodShare_19 : decode prog_14_method_60_code 19 = .ok (.istore_n 2, 1) := by decide +kernel
theorem dX16_goodShare_20 : decode prog_14_method_60_code 20 = .ok (.iload_n 2, 1) := by decide +kernel
theorem dX16_goodShare_21 : decode prog_14_method_60_code 21 = .ok (.aload_n 0, 1) := by decide +kernel
theorem dX16_goodShare_22 : decode prog_14_method_60_code 22 = .ok (.getfield 83, 3) := by decide +kernel
theorem dX16_goodShare_25 : decode prog_14_method_60_code 25 = .ok (.if_icmp .ge 28, 3) := by decide +kernel
theorem dX16_goodShare_53 : decode prog_14_method_60_code 53 = .ok (.aload_n 0, 1) := by decide +kernel
theorem dX16_goodShare_54 : decode prog_14_method_60_code 54 = .ok (.getfield 60, 3) := by decide +kernel
theorem dX16_goodShare_57 : decode prog_14_method_60_code 57 = .ok (.iconst 1, 1) := by decide +kernel
theorem dX16_goodShare_58 : decode prog_14_method_60_code 58 = .ok (.if_icmp .ne 7, 3) := by decide +kernel
theorem dX16_goodShare_61 : decode prog_14_method_60_code 61 = .ok (.fconst 0, 1) := by decide +kernel
theorem dX16_goodShare_62 : decode prog_14_method_60_code 62 = .ok (.goto 11, 3) := by decide +kernel
theorem dX16_goodShare_73 : decode prog_14_method_60_code 73 = .ok (.freturn, 1) := by decide +kernel
theorem dX16_hasPower_0 : decode prog_14_method_24_code 0 = .ok (.aload_n 0, 1) := by decide +kernel
theorem dX16_hasPower_1 : decode prog_14_method_24_code 1 = .ok (.aload_n 0, 1) := by decide +kernel
theorem dX16_hasPower_2 : decode prog_14_method_24_code 2 = .ok (.iload_n 1, 1) := by decide +kernel
theorem dX16_hasPower_3 : decode prog_14_method_24_code 3 = .ok (.invokevirtual 101, 3) := by decide +kernel
theorem dX16_hasPower_6 : decode prog_14_method_24_code 6 = .ok (.ifCond .eq 7, 3) := by decide +kernel
theorem dX16_hasPower_13 : decode prog_14_method_24_code 13 = .ok (.iconst 1, 1) := by decide +kernel
theorem dX16_hasPower_14 : decode prog_14_method_24_code 14 = .ok (.putfield 60, 3) := by decide +kernel
theorem dX16_hasPower_17 : decode prog_14_method_24_code 17 = .ok (.aload_n 0, 1) := by decide +kernel
theorem dX16_hasPower_18 : decode prog_14_method_24_code 18 = .ok (.getfield 60, 3) := by decide +kernel
theorem dX16_hasPower_21 : decode prog_14_method_24_code 21 = .ok (.ifCond .ne 16, 3) := by decide +kernel
theorem dX16_hasPower_37 : decode prog_14_method_24_code 37 = .ok (.iconst 0, 1) := by decide +kernel
theorem dX16_hasPower_38 : decode prog_14_method_24_code 38 = .ok (.ireturn, 1) := by decide +kernel
theorem dX16_in_0 : decode prog_14_method_3_code 0 = .ok (.iload_n 0, 1) := by decide +kernel
theorem dX16_in_1 : decode prog_14_method_3_code 1 = .ok (.iload_n 1, 1) := by decide +kernel
theorem dX16_in_2 : decode prog_14_method_3_code 2 = .ok (.if_icmp .lt 12, 3) := by decide +kernel
theorem dX16_in_5 : decode prog_14_method_3_code 5 = .ok (.iload_n 0, 1) := by decide +kernel
theorem dX16_in_6 : decode prog_14_method_3_code 6 = .ok (.iload_n 2, 1) := by decide +kernel
theorem dX16_in_7 : decode prog_14_method_3_code 7 = .ok (.if_icmp .gt 7, 3) := by decide +kernel
theorem dX16_in_10 : decode prog_14_method_3_code 10 = .ok (.iconst 1, 1) := by decide +kernel
theorem dX16_in_11 : decode prog_14_method_3_code 11 = .ok (.goto 4, 3) := by decide +kernel
theorem dX16_in_14 : decode prog_14_method_3_code 14 = .ok (.iconst 0, 1) := by decide +kernel
theorem dX16_in_15 : decode prog_14_method_3_code 15 = .ok (.ireturn, 1) := by decide +kernel
theorem dX16_init_0 : decode prog_14_method_1_code 0 = .ok (.aload_n 0, 1) := by decide +kernel
theorem dX16_init_1 : decode prog_14_method_1_code 1 = .ok (.invokespecial 1, 3) := by decide +kernel
theorem dX16_init_4 : decode prog_14_method_1_code 4 = .ok (.aload_n 0, 1) := by decide +kernel
theorem dX16_init_5 : decode prog_14_method_1_code 5 = .ok (.bipush 100, 2) := by decide +kernel
theorem dX16_init_7 : decode prog_14_method_1_code 7 = .ok (.putfield 7, 3) := by decide +kernel
theorem dX16_init_10 : decode prog_14_method_1_code 10 = .ok (.aload_n 0, 1) := by decide +kernel
theorem dX16_init_11 : decode prog_14_method_1_code 11 = .ok (.bipush 9, 2) := by decide +kernel
theorem dX16_init_13 : decode prog_14_method_1_code 13 = .ok (.newarray .boolean, 2) := by decide +kernel
theorem dX16_init_15 : decode prog_14_method_1_code 15 = .ok (.putfield 13, 3) := by decide +kernel
theorem dX16_init_18 : decode prog_14_method_1_code 18 = .ok (.aload_n 0, 1) := by decide +kernel
theorem dX16_init_19 : decode prog_14_method_1_code 19 = .ok (.bipush 9, 2) := by decide +kernel
theorem dX16_init_21 : decode prog_14_method_1_code 21 = .ok (.newarray .boolean, 2) := by decide +kernel
theorem dX16_init_23 : decode prog_14_method_1_code 23 = .ok (.putfield 17, 3) := by decide +kernel
theorem dX16_init_26 : decode prog_14_method_1_code 26 = .ok (.aload_n 0, 1) := by decide +kernel
theorem dX16_init_27 : decode prog_14_method_1_code 27 = .ok (.bipush 9, 2) := by decide +kernel
theorem dX16_init_29 : decode prog_14_method_1_code 29 = .ok (.newarray .boolean, 2) := by decide +kernel
theorem dX16_init_31 : decode prog_14_method_1_code 31 = .ok (.putfield 20, 3) := by decide +kernel
theorem dX16_init_34 : decode prog_14_method_1_code 34 = .ok (.aload_n 0, 1) := by decide +kernel
theorem dX16_init_35 : decode prog_14_method_1_code 35 = .ok (.bipush 9, 2) := by decide +kernel
theorem dX16_init_37 : decode prog_14_method_1_code 37 = .ok (.newarray .int, 2) := by decide +kernel
theorem dX16_init_39 : decode prog_14_method_1_code 39 = .ok (.putfield 23, 3) := by decide +kernel
theorem dX16_init_42 : decode prog_14_method_1_code 42 = .ok (.aload_n 0, 1) := by decide +kernel
theorem dX16_init_43 : decode prog_14_method_1_code 43 = .ok (.bipush 9, 2) := by decide +kernel
theorem dX16_init_45 : decode prog_14_method_1_code 45 = .ok (.newarray .int, 2) := by decide +kernel
theorem dX16_init_47 : decode prog_14_method_1_code 47 = .ok (.putfield 27, 3) := by decide +kernel
theorem dX16_init_50 : decode prog_14_method_1_code 50 = .ok (.aload_n 0, 1) := by decide +kernel
theorem dX16_init_51 : decode prog_14_method_1_code 51 = .ok (.bipush 9, 2) := by decide +kernel
theorem dX16_init_53 : decode prog_14_method_1_code 53 = .ok (.newarray .int, 2) := by decide +kernel
theorem dX16_init_55 : decode prog_14_method_1_code 55 = .ok (.putfield 30, 3) := by decide +kernel
theorem dX16_init_58 : decode prog_14_method_1_code 58 = .ok (.aload_n 0, 1) := by decide +kernel
theorem dX16_init_59 : decode prog_14_method_1_code 59 = .ok (.bipush 9, 2) := by decide +kernel
theorem dX16_init_61 : decode prog_14_method_1_code 61 = .ok (.newarray .int, 2) := by decide +kernel
theorem dX16_init_63 : decode prog_14_method_1_code 63 = .ok (.putfield 33, 3) := by decide +kernel
theorem dX16_init_66 : decode prog_14_method_1_code 66 = .ok (.aload_n 0, 1) := by decide +kernel
theorem dX16_init_67 : decode prog_14_method_1_code 67 = .ok (.new 36, 3) := by decide +kernel
theorem dX16_init_70 : decode prog_14_method_1_code 70 = .ok (.dup, 1) := by decide +kernel
theorem dX16_init_71 : decode prog_14_method_1_code 71 = .ok (.invokespecial 38, 3) := by decide +kernel
theorem dX16_init_74 : decode prog_14_method_1_code 74 = .ok (.putfield 39, 3) := by decide +kernel
theorem dX16_init_77 : decode prog_14_method_1_code 77 = .ok (.aload_n 0, 1) := by decide +kernel
theorem dX16_init_78 : decode prog_14_method_1_code 78 = .ok (.new 36, 3) := by decide +kernel
theorem dX16_init_81 : decode prog_14_method_1_code 81 = .ok (.dup, 1) := by decide +kernel
theorem dX16_init_82 : decode prog_14_method_1_code 82 = .ok (.invokespecial 38, 3) := by decide +kernel
theorem dX16_init_85 : decode prog_14_method_1_code 85 = .ok (.putfield 43, 3) := by decide +kernel
theorem dX16_init_88 : decode prog_14_method_1_code 88 = .ok (.aload_n 0, 1) := by decide +kernel
theorem dX16_init_89 : decode prog_14_method_1_code 89 = .ok (.bipush 8, 2) := by decide +kernel
theorem dX16_init_91 : decode prog_14_method_1_code 91 = .ok (.bipush 8, 2) := by decide +kernel
theorem dX16_init_93 : decode prog_14_method_1_code 93 = .ok (.multianewarray 46 2, 4) := by decide +kernel
theorem dX16_init_97 : decode prog_14_method_1_code 97 = .ok (.putfield 48, 3) := by decide +kernel
theorem dX16_init_100 : decode prog_14_method_1_code 100 = .ok (.aload_n 0, 1) := by decide +kernel
theorem dX16_init_101 : decode prog_14_method_1_code 101 = .ok (.new 36, 3) := by decide +kernel
theorem dX16_init_104 : decode prog_14_method_1_code 104 = .ok (.dup, 1) := by decide +kernel
theorem dX16_init_105 : decode prog_14_method_1_code 105 = .ok (.invokespecial 38, 3) := by decide +kernel
theorem dX16_init_108 : decode prog_14_method_1_code 108 = .ok (.putfield 51, 3) := by decide +kernel
theorem dX16_init_111 : decode prog_14_method_1_code 111 = .ok (.aload_n 0, 1) := by decide +kernel
theorem dX16_init_112 : decode prog_14_method_1_code 112 = .ok (.iconst (-1), 1) := by decide +kernel
theorem dX16_init_113 : decode prog_14_method_1_code 113 = .ok (.putfield 54, 3) := by decide +kernel
theorem dX16_init_116 : decode prog_14_method_1_code 116 = .ok (.aload_n 0, 1) := by decide +kernel
theorem dX16_init_117 : decode prog_14_method_1_code 117 = .ok (.bipush 8, 2) := by decide +kernel
theorem dX16_init_119 : decode prog_14_method_1_code 119 = .ok (.newarray .int, 2) := by decide +kernel
theorem dX16_init_121 : decode prog_14_method_1_code 121 = .ok (.putfield 57, 3) := by decide +kernel
theorem dX16_init_124 : decode prog_14_method_1_code 124 = .ok (.return_, 1) := by decide +kernel
theorem dX16_isBlocked_0 : decode prog_14_method_56_code 0 = .ok (.aload_n 0, 1) := by decide +kernel
theorem dX16_isBlocked_1 : decode prog_14_method_56_code 1 = .ok (.iload_n 1, 1) := by decide +kernel
theorem dX16_isBlocked_2 : decode prog_14_method_56_code 2 = .ok (.iconst 0, 1) := by decide +kernel
theorem dX16_isBlocked_3 : decode prog_14_method_56_code 3 = .ok (.aload_n 0, 1) := by decide +kernel
theorem dX16_isBlocked_4 : decode prog_14_method_56_code 4 = .ok (.getfield 39, 3) := by decide +kernel
theorem dX16_isBlocked_7 : decode prog_14_method_56_code 7 = .ok (.invokevirtual 105, 3) := by decide +kernel
theorem dX16_isBlocked_10 : decode prog_14_method_56_code 10 = .ok (.iconst 1, 1) := by decide +kernel
theorem dX16_isBlocked_11 : decode prog_14_method_56_code 11 = .ok (.isub, 1) := by decide +kernel
theorem dX16_isBlocked_12 : decode prog_14_method_56_code 12 = .ok (.invokestatic 86, 3) := by decide +kernel
theorem dX16_isBlocked_15 : decode prog_14_method_56_code 15 = .ok (.ifCond .eq 7, 3) := by decide +kernel
theorem dX16_isBlocked_22 : decode prog_14_method_56_code 22 = .ok (.iconst 1, 1) := by decide +kernel
theorem dX16_isBlocked_23 : decode prog_14_method_56_code 23 = .ok (.putfield 60, 3) := by decide +kernel
theorem dX16_isBlocked_26 : decode prog_14_method_56_code 26 = .ok (.aload_n 0, 1) := by decide +kernel
theorem dX16_isBlocked_27 : decode prog_14_method_56_code 27 = .ok (.getfield 60, 3) := by decide +kernel
theorem dX16_isBlocked_30 : decode prog_14_method_56_code 30 = .ok (.ifCond .ne 24, 3) := by decide +kernel
theorem dX16_isBlocked_54 : decode prog_14_method_56_code 54 = .ok (.iconst 0, 1) := by decide +kernel
theorem dX16_isBlocked_55 : decode prog_14_method_56_code 55 = .ok (.ireturn, 1) := by decide +kernel
theorem dX16_isFull_0 : decode prog_14_method_18_code 0 = .ok (.aload_n 0, 1) := by decide +kernel
theorem dX16_isFull_1 : decode prog_14_method_18_code 1 = .ok (.aload_n 0, 1) := by decide +kernel
theorem dX16_isFull_2 : decode prog_14_method_18_code 2 = .ok (.iload_n 1, 1) := by decide +kernel
theorem dX16_isFull_3 : decode prog_14_method_18_code 3 = .ok (.invokevirtual 101, 3) := by decide +kernel
theorem dX16_isFull_6 : decode prog_14_method_18_code 6 = .ok (.ifCond .eq 7, 3) := by decide +kernel
theorem dX16_isFull_13 : decode prog_14_method_18_code 13 = .ok (.iconst 1, 1) := by decide +kernel
theorem dX16_isFull_14 : decode prog_14_method_18_code 14 = .ok (.putfield 60, 3) := by decide +kernel
theorem dX16_isFull_17 : decode prog_14_method_18_code 17 = .ok (.aload_n 0, 1) := by decide +kernel
theorem dX16_isFull_18 : decode prog_14_method_18_code 18 = .ok (.getfield 60, 3) := by decide +kernel
theorem dX16_isFull_21 : decode prog_14_method_18_code 21 = .ok (.ifCond .ne 19, 3) := by decide +kernel
theorem dX16_isFull_40 : decode prog_14_method_18_code 40 = .ok (.iconst 0, 1) := by decide +kernel
theorem dX16_isFull_41 : decode prog_14_method_18_code 41 = .ok (.ireturn, 1) := by decide +kernel
theorem dX16_isGood_0 : decode prog_14_method_19_code 0 = .ok (.aload_n 0, 1) := by decide +kernel
theorem dX16_isGood_1 : decode prog_14_method_19_code 1 = .ok (.aload_n 0, 1) := by decide +kernel
theorem dX16_isGood_2 : decode prog_14_method_19_code 2 = .ok (.iload_n 1, 1) := by decide +kernel
theorem dX16_isGood_3 : decode prog_14_method_19_code 3 = .ok (.invokevirtual 101, 3) := by decide +kernel
theorem dX16_isGood_6 : decode prog_14_method_19_code 6 = .ok (.ifCond .eq 7, 3) := by decide +kernel
theorem dX16_isGood_13 : decode prog_14_method_19_code 13 = .ok (.iconst 1, 1) := by decide +kernel
theorem dX16_isGood_14 : decode prog_14_method_19_code 14 = .ok (.putfield 60, 3) := by decide +kernel
theorem dX16_isGood_17 : decode prog_14_method_19_code 17 = .ok (.aload_n 0, 1) := by decide +kernel
theorem dX16_isGood_18 : decode prog_14_method_19_code 18 = .ok (.getfield 60, 3) := by decide +kernel
theorem dX16_isGood_21 : decode prog_14_method_19_code 21 = .ok (.ifCond .ne 18, 3) := by decide +kernel
theorem dX16_isGood_39 : decode prog_14_method_19_code 39 = .ok (.iconst 0, 1) := by decide +kernel
theorem dX16_isGood_40 : decode prog_14_method_19_code 40 = .ok (.ireturn, 1) := by decide +kernel
theorem dX16_isJunction_0 : decode prog_14_method_7_code 0 = .ok (.iload_n 1, 1) := by decide +kernel
theorem dX16_isJunction_1 : decode prog_14_method_7_code 1 = .ok (.iconst 0, 1) := by decide +kernel
theorem dX16_isJunction_2 : decode prog_14_method_7_code 2 = .ok (.aload_n 0, 1) := by decide +kernel
theorem dX16_isJunction_3 : decode prog_14_method_7_code 3 = .ok (.getfield 83, 3) := by decide +kernel
theorem dX16_isJunction_6 : decode prog_14_method_7_code 6 = .ok (.iconst 1, 1) := by decide +kernel
theorem dX16_isJunction_7 : decode prog_14_method_7_code 7 = .ok (.isub, 1) := by decide +kernel
theorem dX16_isJunction_8 : decode prog_14_method_7_code 8 = .ok (.invokestatic 86, 3) := by decide +kernel
theorem dX16_isJunction_11 : decode prog_14_method_7_code 11 = .ok (.ireturn, 1) := by decide +kernel
theorem dX16_isPerson_0 : decode prog_14_method_31_code 0 = .ok (.iload_n 1, 1) := by decide +kernel
theorem dX16_isPerson_1 : decode prog_14_method_31_code 1 = .ok (.iconst 0, 1) := by decide +kernel
theorem dX16_isPerson_2 : decode prog_14_method_31_code 2 = .ok (.aload_n 0, 1) := by decide +kernel
theorem dX16_isPerson_3 : decode prog_14_method_31_code 3 = .ok (.getfield 51, 3) := by decide +kernel
theorem dX16_isPerson_6 : decode prog_14_method_31_code 6 = .ok (.invokevirtual 105, 3) := by decide +kernel
theorem dX16_isPerson_9 : decode prog_14_method_31_code 9 = .ok (.iconst 1, 1) := by decide +kernel
theorem dX16_isPerson_10 : decode prog_14_method_31_code 10 = .ok (.isub, 1) := by decide +kernel
theorem dX16_isPerson_11 : decode prog_14_method_31_code 11 = .ok (.invokestatic 86, 3) := by decide +kernel
theorem dX16_isPerson_14 : decode prog_14_method_31_code 14 = .ok (.ireturn, 1) := by decide +kernel
theorem dX16_isSafe_0 : decode prog_14_method_34_code 0 = .ok (.aload_n 0, 1) := by decide +kernel
theorem dX16_isSafe_1 : decode prog_14_method_34_code 1 = .ok (.aload_n 0, 1) := by decide +kernel
theorem dX16_isSafe_2 : decode prog_14_method_34_code 2 = .ok (.iload_n 1, 1) := by decide +kernel
theorem dX16_isSafe_3 : decode prog_14_method_34_code 3 = .ok (.invokevirtual 248, 3) := by decide +kernel
theorem dX16_isSafe_6 : decode prog_14_method_34_code 6 = .ok (.ifCond .eq 7, 3) := by decide +kernel
theorem dX16_isSafe_13 : decode prog_14_method_34_code 13 = .ok (.iconst 1, 1) := by decide +kernel
theorem dX16_isSafe_14 : decode prog_14_method_34_code 14 = .ok (.putfield 60, 3) := by decide +kernel
theorem dX16_isSafe_17 : decode prog_14_method_34_code 17 = .ok (.aload_n 0, 1) := by decide +kernel
theorem dX16_isSafe_18 : decode prog_14_method_34_code 18 = .ok (.getfield 60, 3) := by decide +kernel
theorem dX16_isSafe_21 : decode prog_14_method_34_code 21 = .ok (.ifCond .ne 28, 3) := by decide +kernel
theorem dX16_isSafe_49 : decode prog_14_method_34_code 49 = .ok (.iconst 0, 1) := by decide +kernel
theorem dX16_isSafe_50 : decode prog_14_method_34_code 50 = .ok (.ireturn, 1) := by decide +kernel
theorem dX16_isSafeAnew_0 : decode prog_14_method_35_code 0 = .ok (.aload_n 0, 1) := by decide +kernel
theorem dX16_isSafeAnew_1 : decode prog_14_method_35_code 1 = .ok (.iload_n 1, 1) := by decide +kernel
theorem dX16_isSafeAnew_2 : decode prog_14_method_35_code 2 = .ok (.invokevirtual 255, 3) := by decide +kernel
theorem dX16_isSafeAnew_5 : decode prog_14_method_35_code 5 = .ok (.ireturn, 1) := by decide +kernel
theorem dX16_isSound_0 : decode prog_14_method_62_code 0 = .ok (.aload_n 0, 1) := by decide +kernel
theorem dX16_isSound_1 : decode prog_14_method_62_code 1 = .ok (.iconst 0, 1) := by decide +kernel
theorem dX16_isSound_2 : decode prog_14_method_62_code 2 = .ok (.putfield 60, 3) := by decide +kernel
theorem dX16_isSound_5 : decode prog_14_method_62_code 5 = .ok (.iconst 1, 1) := by decide +kernel
theorem dX16_isSound_6 : decode prog_14_method_62_code 6 = .ok (.ireturn, 1) := by decide +kernel
theorem dX16_isStope_0 : decode prog_14_method_10_code 0 = .ok (.iload_n 1, 1) := by decide +kernel
theorem dX16_isStope_1 : decode prog_14_method_10_code 1 = .ok (.iconst 0, 1) := by decide +kernel
theorem dX16_isStope_2 : decode prog_14_method_10_code 2 = .ok (.aload_n 0, 1) := by decide +kernel
theorem dX16_isStope_3 : decode prog_14_method_10_code 3 = .ok (.getfield 43, 3) := by decide +kernel
theorem dX16_isStope_6 : decode prog_14_method_10_code 6 = .ok (.invokevirtual 105, 3) := by decide +kernel
theorem dX16_isStope_9 : decode prog_14_method_10_code 9 = .ok (.iconst 1, 1) := by decide +kernel
theorem dX16_isStope_10 : decode prog_14_method_10_code 10 = .ok (.isub, 1) := by decide +kernel
theorem dX16_isStope_11 : decode prog_14_method_10_code 11 = .ok (.invokestatic 86, 3) := by decide +kernel
theorem dX16_isStope_14 : decode prog_14_method_10_code 14 = .ok (.ireturn, 1) := by decide +kernel
theorem dX16_isThere_0 : decode prog_14_method_38_code 0 = .ok (.iload_n 1, 1) := by decide +kernel
theorem dX16_isThere_1 : decode prog_14_method_38_code 1 = .ok (.bipush 100, 2) := by decide +kernel
theorem dX16_isThere_3 : decode prog_14_method_38_code 3 = .ok (.if_icmp .eq 15, 3) := by decide +kernel
theorem dX16_isThere_6 : decode prog_14_method_38_code 6 = .ok (.iload_n 1, 1) := by decide +kernel
theorem dX16_isThere_7 : decode prog_14_method_38_code 7 = .ok (.bipush 102, 2) := by decide +kernel
theorem dX16_isThere_9 : decode prog_14_method_38_code 9 = .ok (.if_icmp .eq 9, 3) := by decide +kernel
theorem dX16_isThere_12 : decode prog_14_method_38_code 12 = .ok (.iload_n 1, 1) := by decide +kernel
theorem dX16_isThere_13 : decode prog_14_method_38_code 13 = .ok (.bipush 98, 2) := by decide +kernel
theorem dX16_isThere_15 : decode prog_14_method_38_code 15 = .ok (.if_icmp .ne 20, 3) := by decide +kernel
theorem dX16_isThere_18 : decode prog_14_method_38_code 18 = .ok (.iload_n 2, 1) := by decide +kernel
theorem dX16_isThere_19 : decode prog_14_method_38_code 19 = .ok (.iconst 0, 1) := by decide +kernel
theorem dX16_isThere_20 : decode prog_14_method_38_code 20 = .ok (.aload_n 0, 1) := by decide +kernel
theorem dX16_isThere_21 : decode prog_14_method_38_code 21 = .ok (.getfield 39, 3) := by decide +kernel
theorem dX16_isThere_24 : decode prog_14_method_38_code 24 = .ok (.invokevirtual 105, 3) := by decide +kernel
theorem dX16_isThere_27 : decode prog_14_method_38_code 27 = .ok (.iconst 1, 1) := by decide +kernel
theorem dX16_isThere_28 : decode prog_14_method_38_code 28 = .ok (.isub, 1) := by decide +kernel
theorem dX16_isThere_29 : decode prog_14_method_38_code 29 = .ok (.invokestatic 86, 3) := by decide +kernel
theorem dX16_isThere_32 : decode prog_14_method_38_code 32 = .ok (.goto 28, 3) := by decide +kernel
theorem dX16_isThere_35 : decode prog_14_method_38_code 35 = .ok (.iload_n 1, 1) := by decide +kernel
theorem dX16_isThere_36 : decode prog_14_method_38_code 36 = .ok (.bipush 115, 2) := by decide +kernel
theorem dX16_isThere_38 : decode prog_14_method_38_code 38 = .ok (.if_icmp .eq 9, 3) := by decide +kernel
theorem dX16_isThere_41 : decode prog_14_method_38_code 41 = .ok (.iload_n 1, 1) := by decide +kernel
theorem dX16_isThere_42 : decode prog_14_method_38_code 42 = .ok (.bipush 110, 2) := by decide +kernel
theorem dX16_isThere_44 : decode prog_14_method_38_code 44 = .ok (.if_icmp .ne 11, 3) := by decide +kernel
theorem dX16_isThere_47 : decode prog_14_method_38_code 47 = .ok (.aload_n 0, 1) := by decide +kernel
theorem dX16_isThere_48 : decode prog_14_method_38_code 48 = .ok (.iload_n 2, 1) := by decide +kernel
theorem dX16_isThere_49 : decode prog_14_method_38_code 49 = .ok (.invokevirtual 101, 3) := by decide +kernel
theorem dX16_isThere_52 : decode prog_14_method_38_code 52 = .ok (.goto 8, 3) := by decide +kernel
theorem dX16_isThere_55 : decode prog_14_method_38_code 55 = .ok (.aload_n 0, 1) := by decide +kernel
theorem dX16_isThere_56 : decode prog_14_method_38_code 56 = .ok (.iload_n 2, 1) := by decide +kernel
theorem dX16_isThere_57 : decode prog_14_method_38_code 57 = .ok (.invokevirtual 123, 3) := by decide +kernel
theorem dX16_isThere_60 : decode prog_14_method_38_code 60 = .ok (.ireturn, 1) := by decide +kernel
theorem dX16_isValue_0 : decode prog_14_method_37_code 0 = .ok (.iload_n 0, 1) := by decide +kernel
theorem dX16_isValue_1 : decode prog_14_method_37_code 1 = .ok (.tableswitch 127 98 115 #[87, 127, 87, 127, 102, 127, 127, 127, 127, 127, 127, 127, 102, 119, 127, 127, 127, 111], 87) := by decide +kernel
theorem dX16_isValue_88 : decode prog_14_method_37_code 88 = .ok (.iload_n 1, 1) := by decide +kernel
theorem dX16_isValue_89 : decode prog_14_method_37_code 89 = .ok (.ifCond .eq 8, 3) := by decide +kernel
theorem dX16_isValue_92 : decode prog_14_method_37_code 92 = .ok (.iload_n 1, 1) := by decide +kernel
theorem dX16_isValue_93 : decode prog_14_method_37_code 93 = .ok (.iconst 1, 1) := by decide +kernel
theorem dX16_isValue_94 : decode prog_14_method_37_code 94 = .ok (.if_icmp .ne 7, 3) := by decide +kernel
theorem dX16_isValue_97 : decode prog_14_method_37_code 97 = .ok (.iconst 1, 1) := by decide +kernel
theorem dX16_isValue_98 : decode prog_14_method_37_code 98 = .ok (.goto 4, 3) := by decide +kernel
theorem dX16_isValue_101 : decode prog_14_method_37_code 101 = .ok (.iconst 0, 1) := by decide +kernel
theorem dX16_isValue_102 : decode prog_14_method_37_code 102 = .ok (.ireturn, 1) := by decide +kernel
theorem dX16_isValue_103 : decode prog_14_method_37_code 103 = .ok (.iload_n 1, 1) := by decide +kernel
theorem dX16_isValue_104 : decode prog_14_method_37_code 104 = .ok (.bipush (-50), 2) := by decide +kernel
theorem dX16_isValue_106 : decode prog_14_method_37_code 106 = .ok (.bipush 50, 2) := by decide +kernel
theorem dX16_isValue_108 : decode prog_14_method_37_code 108 = .ok (.invokestatic 86, 3) := by decide +kernel
theorem dX16_isValue_111 : decode prog_14_method_37_code 111 = .ok (.ireturn, 1) := by decide +kernel
theorem dX16_isValue_112 : decode prog_14_method_37_code 112 = .ok (.iload_n 1, 1) := by decide +kernel
theorem dX16_isValue_113 : decode prog_14_method_37_code 113 = .ok (.iconst 0, 1) := by decide +kernel
theorem dX16_isValue_114 : decode prog_14_method_37_code 114 = .ok (.bipush 20, 2) := by decide +kernel
theorem dX16_isValue_116 : decode prog_14_method_37_code 116 = .ok (.invokestatic 86, 3) := by decide +kernel
theorem dX16_isValue_119 : decode prog_14_method_37_code 119 = .ok (.ireturn, 1) := by decide +kernel
theorem dX16_isValue_120 : decode prog_14_method_37_code 120 = .ok (.iload_n 1, 1) := by decide +kernel
theorem dX16_isValue_121 : decode prog_14_method_37_code 121 = .ok (.iconst 1, 1) := by decide +kernel
theorem dX16_isValue_122 : decode prog_14_method_37_code 122 = .ok (.bipush 60, 2) := by decide +kernel
theorem dX16_isValue_124 : decode prog_14_method_37_code 124 = .ok (.invokestatic 86, 3) := by decide +kernel
theorem dX16_isValue_127 : decode prog_14_method_37_code 127 = .ok (.ireturn, 1) := by decide +kernel
theorem dX16_isValue_128 : decode prog_14_method_37_code 128 = .ok (.iload_n 0, 1) := by decide +kernel
theorem dX16_isValue_129 : decode prog_14_method_37_code 129 = .ok (.bipush 99, 2) := by decide +kernel
theorem dX16_isValue_131 : decode prog_14_method_37_code 131 = .ok (.if_icmp .ne 7, 3) := by decide +kernel
theorem dX16_isValue_134 : decode prog_14_method_37_code 134 = .ok (.iconst 1, 1) := by decide +kernel
theorem dX16_isValue_135 : decode prog_14_method_37_code 135 = .ok (.goto 4, 3) := by decide +kernel
theorem dX16_isValue_138 : decode prog_14_method_37_code 138 = .ok (.iconst 0, 1) := by decide +kernel
theorem dX16_isValue_139 : decode prog_14_method_37_code 139 = .ok (.ireturn, 1) := by decide +kernel
theorem dX16_join_0 : decode prog_14_method_12_code 0 = .ok (.aload_n 0, 1) := by decide +kernel
theorem dX16_join_1 : decode prog_14_method_12_code 1 = .ok (.aload_n 0, 1) := by decide +kernel
theorem dX16_join_2 : decode prog_14_method_12_code 2 = .ok (.iload_n 1, 1) := by decide +kernel
theorem dX16_join_3 : decode prog_14_method_12_code 3 = .ok (.invokevirtual 123, 3) := by decide +kernel
theorem dX16_join_6 : decode prog_14_method_12_code 6 = .ok (.ifCond .eq 11, 3) := by decide +kernel
theorem dX16_join_17 : decode prog_14_method_12_code 17 = .ok (.iconst 1, 1) := by decide +kernel
theorem dX16_join_18 : decode prog_14_method_12_code 18 = .ok (.goto 13, 3) := by decide +kernel
theorem dX16_join_31 : decode prog_14_method_12_code 31 = .ok (.putfield 60, 3) := by decide +kernel
theorem dX16_join_34 : decode prog_14_method_12_code 34 = .ok (.aload_n 0, 1) := by decide +kernel
theorem dX16_join_35 : decode prog_14_method_12_code 35 = .ok (.getfield 60, 3) := by decide +kernel
theorem dX16_join_38 : decode prog_14_method_12_code 38 = .ok (.ifCond .le 5, 3) := by decide +kernel
theorem dX16_join_41 : decode prog_14_method_12_code 41 = .ok (.iconst 0, 1) := by decide +kernel
theorem dX16_join_42 : decode prog_14_method_12_code 42 = .ok (.ireturn, 1) := by decide +kernel
theorem dX16_load_0 : decode prog_14_method_47_code 0 = .ok (.aload_n 0, 1) := by decide +kernel
theorem dX16_load_1 : decode prog_14_method_47_code 1 = .ok (.iload_n 1, 1) := by decide +kernel
theorem dX16_load_2 : decode prog_14_method_47_code 2 = .ok (.invokevirtual 123, 3) := by decide +kernel
theorem dX16_load_5 : decode prog_14_method_47_code 5 = .ok (.ifCond .eq 24, 3) := by decide +kernel
theorem dX16_load_29 : decode prog_14_method_47_code 29 = .ok (.aload_n 0, 1) := by decide +kernel
theorem dX16_load_30 : decode prog_14_method_47_code 30 = .ok (.iconst 1, 1) := by decide +kernel
theorem dX16_load_31 : decode prog_14_method_47_code 31 = .ok (.invokevirtual 90, 3) := by decide +kernel
theorem dX16_load_34 : decode prog_14_method_47_code 34 = .ok (.ireturn, 1) := by decide +kernel
theorem dX16_meanLoad_0 : decode prog_14_method_61_code 0 = .ok (.iconst 0, 1) := by decide +kernel
theorem dX16_meanLoad_1 : decode prog_14_method_61_code 1 = .ok (.istore_n 1, 1) := by decide +kernel
theorem dX16_meanLoad_2 : decode prog_14_method_61_code 2 = .ok (.iconst 0, 1) := by decide +kernel
theorem dX16_meanLoad_3 : decode prog_14_method_61_code 3 = .ok (.istore_n 2, 1) := by decide +kernel
theorem dX16_meanLoad_4 : decode prog_14_method_61_code 4 = .ok (.aload_n 0, 1) := by decide +kernel
theorem dX16_meanLoad_5 : decode prog_14_method_61_code 5 = .ok (.getfield 43, 3) := by decide +kernel
theorem dX16_meanLoad_8 : decode prog_14_method_61_code 8 = .ok (.invokevirtual 179, 3) := by decide +kernel
theorem dX16_meanLoad_11 : decode prog_14_method_61_code 11 = .ok (.astore_n 3, 1) := by decide +kernel
theorem dX16_meanLoad_12 : decode prog_14_method_61_code 12 = .ok (.aload_n 3, 1) := by decide +kernel
theorem dX16_meanLoad_13 : decode prog_14_method_61_code 13 = .ok (.invokeinterface 183 1, 5) := by decide +kernel
theorem dX16_meanLoad_18 : decode prog_14_method_61_code 18 = .ok (.ifCond .eq 57, 3) := by decide +kernel
theorem dX16_meanLoad_75 : decode prog_14_method_61_code 75 = .ok (.aload_n 0, 1) := by decide +kernel
theorem dX16_meanLoad_76 : decode prog_14_method_61_code 76 = .ok (.iload_n 1, 1) := by decide +kernel
theorem dX16_meanLoad_77 : decode prog_14_method_61_code 77 = .ok (.ifCond .ne 7, 3) := by decide +kernel
theorem dX16_meanLoad_80 : decode prog_14_method_61_code 80 = .ok (.iconst 1, 1) := by decide +kernel
theorem dX16_meanLoad_81 : decode prog_14_method_61_code 81 = .ok (.goto 4, 3) := by decide +kernel
theorem dX16_meanLoad_85 : decode prog_14_method_61_code 85 = .ok (.putfield 60, 3) := by decide +kernel
theorem dX16_meanLoad_88 : decode prog_14_method_61_code 88 = .ok (.iload_n 1, 1) := by decide +kernel
theorem dX16_meanLoad_89 : decode prog_14_method_61_code 89 = .ok (.ifCond .ne 7, 3) := by decide +kernel
theorem dX16_meanLoad_92 : decode prog_14_method_61_code 92 = .ok (.dconst 0, 1) := by decide +kernel
theorem dX16_meanLoad_93 : decode prog_14_method_61_code 93 = .ok (.goto 8, 3) := by decide +kernel
theorem dX16_meanLoad_101 : decode prog_14_method_61_code 101 = .ok (.dreturn, 1) := by decide +kernel
theorem dX16_now_0 : decode prog_14_method_14_code 0 = .ok (.aload_n 0, 1) := by decide +kernel
theorem dX16_now_1 : decode prog_14_method_14_code 1 = .ok (.getfield 94, 3) := by decide +kernel
theorem dX16_now_4 : decode prog_14_method_14_code 4 = .ok (.ifnonnull 15, 3) := by decide +kernel
theorem dX16_now_7 : decode prog_14_method_14_code 7 = .ok (.aload_n 0, 1) := by decide +kernel
theorem dX16_now_8 : decode prog_14_method_14_code 8 = .ok (.new 126, 3) := by decide +kernel
theorem dX16_now_11 : decode prog_14_method_14_code 11 = .ok (.dup, 1) := by decide +kernel
theorem dX16_now_12 : decode prog_14_method_14_code 12 = .ok (.aload_n 0, 1) := by decide +kernel
theorem dX16_now_13 : decode prog_14_method_14_code 13 = .ok (.invokespecial 128, 3) := by decide +kernel
theorem dX16_now_16 : decode prog_14_method_14_code 16 = .ok (.putfield 94, 3) := by decide +kernel
theorem dX16_now_19 : decode prog_14_method_14_code 19 = .ok (.aload_n 0, 1) := by decide +kernel
theorem dX16_now_20 : decode prog_14_method_14_code 20 = .ok (.getfield 94, 3) := by decide +kernel
theorem dX16_now_23 : decode prog_14_method_14_code 23 = .ok (.areturn, 1) := by decide +kernel
theorem dX16_penalties_0 : decode prog_14_method_59_code 0 = .ok (.aload_n 0, 1) := by decide +kernel
theorem dX16_penalties_1 : decode prog_14_method_59_code 1 = .ok (.iconst 0, 1) := by decide +kernel
theorem dX16_penalties_2 : decode prog_14_method_59_code 2 = .ok (.putfield 60, 3) := by decide +kernel
theorem dX16_penalties_5 : decode prog_14_method_59_code 5 = .ok (.aload_n 0, 1) := by decide +kernel
theorem dX16_penalties_6 : decode prog_14_method_59_code 6 = .ok (.getfield 367, 3) := by decide +kernel
theorem dX16_penalties_9 : decode prog_14_method_59_code 9 = .ok (.lreturn, 1) := by decide +kernel
theorem dX16_people_0 : decode prog_14_method_58_code 0 = .ok (.aload_n 0, 1) := by decide +kernel
theorem dX16_people_1 : decode prog_14_method_58_code 1 = .ok (.aload_n 0, 1) := by decide +kernel
theorem dX16_people_2 : decode prog_14_method_58_code 2 = .ok (.getfield 51, 3) := by decide +kernel
theorem dX16_people_5 : decode prog_14_method_58_code 5 = .ok (.invokevirtual 105, 3) := by decide +kernel
theorem dX16_people_8 : decode prog_14_method_58_code 8 = .ok (.invokevirtual 98, 3) := by decide +kernel
theorem dX16_people_11 : decode prog_14_method_58_code 11 = .ok (.ireturn, 1) := by decide +kernel
theorem dX16_pile_0 : decode prog_14_method_49_code 0 = .ok (.aload_n 0, 1) := by decide +kernel
theorem dX16_pile_1 : decode prog_14_method_49_code 1 = .ok (.iload_n 1, 1) := by decide +kernel
theorem dX16_pile_2 : decode prog_14_method_49_code 2 = .ok (.invokevirtual 123, 3) := by decide +kernel
theorem dX16_pile_5 : decode prog_14_method_49_code 5 = .ok (.ifCond .eq 24, 3) := by decide +kernel
theorem dX16_pile_29 : decode prog_14_method_49_code 29 = .ok (.aload_n 0, 1) := by decide +kernel
theorem dX16_pile_30 : decode prog_14_method_49_code 30 = .ok (.iconst 1, 1) := by decide +kernel
theorem dX16_pile_31 : decode prog_14_method_49_code 31 = .ok (.invokevirtual 90, 3) := by decide +kernel
theorem dX16_pile_34 : decode prog_14_method_49_code 34 = .ok (.ireturn, 1) := by decide +kernel
theorem dX16_pressure_0 : decode prog_14_method_16_code 0 = .ok (.aload_n 0, 1) := by decide +kernel
theorem dX16_pressure_1 : decode prog_14_method_16_code 1 = .ok (.iload_n 1, 1) := by decide +kernel
theorem dX16_pressure_2 : decode prog_14_method_16_code 2 = .ok (.invokevirtual 101, 3) := by decide +kernel
theorem dX16_pressure_5 : decode prog_14_method_16_code 5 = .ok (.ifCond .eq 38, 3) := by decide +kernel
theorem dX16_pressure_43 : decode prog_14_method_16_code 43 = .ok (.aload_n 0, 1) := by decide +kernel
theorem dX16_pressure_44 : decode prog_14_method_16_code 44 = .ok (.iconst 1, 1) := by decide +kernel
theorem dX16_pressure_45 : decode prog_14_method_16_code 45 = .ok (.invokevirtual 90, 3) := by decide +kernel
theorem dX16_pressure_48 : decode prog_14_method_16_code 48 = .ok (.ireturn, 1) := by decide +kernel
theorem dX16_reading_0 : decode prog_14_method_23_code 0 = .ok (.aload_n 0, 1) := by decide +kernel
theorem dX16_reading_1 : decode prog_14_method_23_code 1 = .ok (.iload_n 1, 1) := by decide +kernel
theorem dX16_reading_2 : decode prog_14_method_23_code 2 = .ok (.invokevirtual 101, 3) := by decide +kernel
theorem dX16_reading_5 : decode prog_14_method_23_code 5 = .ok (.ifCond .ne 11, 3) := by decide +kernel
theorem dX16_reading_8 : decode prog_14_method_23_code 8 = .ok (.aload_n 0, 1) := by decide +kernel
theorem dX16_reading_9 : decode prog_14_method_23_code 9 = .ok (.iconst 1, 1) := by decide +kernel
theorem dX16_reading_10 : decode prog_14_method_23_code 10 = .ok (.invokevirtual 90, 3) := by decide +kernel
theorem dX16_reading_13 : decode prog_14_method_23_code 13 = .ok (.goto 29, 3) := by decide +kernel
theorem dX16_reading_42 : decode prog_14_method_23_code 42 = .ok (.ireturn, 1) := by decide +kernel
theorem dX16_refused_0 : decode prog_14_method_57_code 0 = .ok (.aload_n 0, 1) := by decide +kernel
theorem dX16_refused_1 : decode prog_14_method_57_code 1 = .ok (.aload_n 0, 1) := by decide +kernel
theorem dX16_refused_2 : decode prog_14_method_57_code 2 = .ok (.getfield 299, 3) := by decide +kernel
theorem dX16_refused_5 : decode prog_14_method_57_code 5 = .ok (.invokevirtual 98, 3) := by decide +kernel
theorem dX16_refused_8 : decode prog_14_method_57_code 8 = .ok (.ireturn, 1) := by decide +kernel
theorem dX16_refusedBy_0 : decode prog_14_method_45_code 0 = .ok (.aload_n 0, 1) := by decide +kernel
theorem dX16_refusedBy_1 : decode prog_14_method_45_code 1 = .ok (.getfield 54, 3) := by decide +kernel
theorem dX16_refusedBy_4 : decode prog_14_method_45_code 4 = .ok (.iconst (-1), 1) := by decide +kernel
theorem dX16_refusedBy_5 : decode prog_14_method_45_code 5 = .ok (.if_icmp .ne 11, 3) := by decide +kernel
theorem dX16_refusedBy_8 : decode prog_14_method_45_code 8 = .ok (.aload_n 0, 1) := by decide +kernel
theorem dX16_refusedBy_9 : decode prog_14_method_45_code 9 = .ok (.iconst 1, 1) := by decide +kernel
theorem dX16_refusedBy_10 : decode prog_14_method_45_code 10 = .ok (.invokevirtual 90, 3) := by decide +kernel
theorem dX16_refusedBy_13 : decode prog_14_method_45_code 13 = .ok (.goto 11, 3) := by decide +kernel
theorem dX16_refusedBy_24 : decode prog_14_method_45_code 24 = .ok (.ireturn, 1) := by decide +kernel
theorem dX16_setLimit_0 : decode prog_14_method_13_code 0 = .ok (.iload_n 1, 1) := by decide +kernel
theorem dX16_setLimit_1 : decode prog_14_method_13_code 1 = .ok (.iconst 0, 1) := by decide +kernel
theorem dX16_setLimit_2 : decode prog_14_method_13_code 2 = .ok (.sipush 9998, 3) := by decide +kernel
theorem dX16_setLimit_5 : decode prog_14_method_13_code 5 = .ok (.invokestatic 86, 3) := by decide +kernel
theorem dX16_setLimit_8 : decode prog_14_method_13_code 8 = .ok (.ifCond .ne 9, 3) := by decide +kernel
theorem dX16_setLimit_11 : decode prog_14_method_13_code 11 = .ok (.aload_n 0, 1) := by decide +kernel
theorem dX16_setLimit_12 : decode prog_14_method_13_code 12 = .ok (.iconst 1, 1) := by decide +kernel
theorem dX16_setLimit_13 : decode prog_14_method_13_code 13 = .ok (.invokevirtual 90, 3) := by decide +kernel
theorem dX16_setLimit_16 : decode prog_14_method_13_code 16 = .ok (.ireturn, 1) := by decide +kernel
theorem dX16_setLimit_17 : decode prog_14_method_13_code 17 = .ok (.aload_n 0, 1) := by decide +kernel
theorem dX16_setLimit_18 : decode prog_14_method_13_code 18 = .ok (.getfield 7, 3) := by decide +kernel
theorem dX16_setLimit_21 : decode prog_14_method_13_code 21 = .ok (.istore_n 2, 1) := by decide +kernel
theorem dX16_setLimit_22 : decode prog_14_method_13_code 22 = .ok (.aload_n 0, 1) := by decide +kernel
theorem dX16_setLimit_23 : decode prog_14_method_13_code 23 = .ok (.iload_n 1, 1) := by decide +kernel
theorem dX16_setLimit_24 : decode prog_14_method_13_code 24 = .ok (.putfield 7, 3) := by decide +kernel
theorem dX16_setLimit_27 : decode prog_14_method_13_code 27 = .ok (.aload_n 0, 1) := by decide +kernel
theorem dX16_setLimit_28 : decode prog_14_method_13_code 28 = .ok (.iload_n 2, 1) := by decide +kernel
theorem dX16_setLimit_29 : decode prog_14_method_13_code 29 = .ok (.invokevirtual 98, 3) := by decide +kernel
theorem dX16_setLimit_32 : decode prog_14_method_13_code 32 = .ok (.ireturn, 1) := by decide +kernel
theorem dX16_setRight_0 : decode prog_14_method_22_code 0 = .ok (.aload_n 0, 1) := by decide +kernel
theorem dX16_setRight_1 : decode prog_14_method_22_code 1 = .ok (.iload_n 1, 1) := by decide +kernel
theorem dX16_setRight_2 : decode prog_14_method_22_code 2 = .ok (.invokevirtual 101, 3) := by decide +kernel
theorem dX16_setRight_5 : decode prog_14_method_22_code 5 = .ok (.ifCond .ne 9, 3) := by decide +kernel
theorem dX16_setRight_8 : decode prog_14_method_22_code 8 = .ok (.aload_n 0, 1) := by decide +kernel
theorem dX16_setRight_9 : decode prog_14_method_22_code 9 = .ok (.iconst 1, 1) := by decide +kernel
theorem dX16_setRight_10 : decode prog_14_method_22_code 10 = .ok (.invokevirtual 90, 3) := by decide +kernel
theorem dX16_setRight_13 : decode prog_14_method_22_code 13 = .ok (.ireturn, 1) := by decide +kernel
theorem dX16_setSensor_0 : decode prog_14_method_21_code 0 = .ok (.aload_n 0, 1) := by decide +kernel
theorem dX16_setSensor_1 : decode prog_14_method_21_code 1 = .ok (.aload_n 0, 1) := by decide +kernel
theorem dX16_setSensor_2 : decode prog_14_method_21_code 2 = .ok (.iload_n 1, 1) := by decide +kernel
theorem dX16_setSensor_3 : decode prog_14_method_21_code 3 = .ok (.invokevirtual 101, 3) := by decide +kernel
theorem dX16_setSensor_6 : decode prog_14_method_21_code 6 = .ok (.ifCond .ne 7, 3) := by decide +kernel
theorem dX16_setSensor_9 : decode prog_14_method_21_code 9 = .ok (.iconst 1, 1) := by decide +kernel
theorem dX16_setSensor_10 : decode prog_14_method_21_code 10 = .ok (.goto 19, 3) := by decide +kernel
theorem dX16_setSensor_29 : decode prog_14_method_21_code 29 = .ok (.putfield 60, 3) := by decide +kernel
theorem dX16_setSensor_32 : decode prog_14_method_21_code 32 = .ok (.aload_n 0, 1) := by decide +kernel
theorem dX16_setSensor_33 : decode prog_14_method_21_code 33 = .ok (.getfield 60, 3) := by decide +kernel
theorem dX16_setSensor_36 : decode prog_14_method_21_code 36 = .ok (.ifCond .le 5, 3) := by decide +kernel
theorem dX16_setSensor_39 : decode prog_14_method_21_code 39 = .ok (.iconst 0, 1) := by decide +kernel
theorem dX16_setSensor_40 : decode prog_14_method_21_code 40 = .ok (.ireturn, 1) := by decide +kernel
theorem dX16_shift_0 : decode prog_14_method_25_code 0 = .ok (.aload_n 0, 1) := by decide +kernel
theorem dX16_shift_1 : decode prog_14_method_25_code 1 = .ok (.dup, 1) := by decide +kernel
theorem dX16_shift_2 : decode prog_14_method_25_code 2 = .ok (.getfield 167, 3) := by decide +kernel
theorem dX16_shift_5 : decode prog_14_method_25_code 5 = .ok (.iconst 1, 1) := by decide +kernel
theorem dX16_shift_6 : decode prog_14_method_25_code 6 = .ok (.iadd, 1) := by decide +kernel
theorem dX16_shift_7 : decode prog_14_method_25_code 7 = .ok (.putfield 167, 3) := by decide +kernel
theorem dX16_shift_10 : decode prog_14_method_25_code 10 = .ok (.aload_n 0, 1) := by decide +kernel
theorem dX16_shift_11 : decode prog_14_method_25_code 11 = .ok (.invokevirtual 131, 3) := by decide +kernel
theorem dX16_shift_14 : decode prog_14_method_25_code 14 = .ok (.pop, 1) := by decide +kernel
theorem dX16_shift_15 : decode prog_14_method_25_code 15 = .ok (.iconst 0, 1) := by decide +kernel
theorem dX16_shift_16 : decode prog_14_method_25_code 16 = .ok (.istore_n 1, 1) := by decide +kernel
theorem dX16_shift_17 : decode prog_14_method_25_code 17 = .ok (.iload_n 1, 1) := by decide +kernel
theorem dX16_shift_18 : decode prog_14_method_25_code 18 = .ok (.aload_n 0, 1) := by decide +kernel
theorem dX16_shift_19 : decode prog_14_method_25_code 19 = .ok (.getfield 83, 3) := by decide +kernel
theorem dX16_shift_22 : decode prog_14_method_25_code 22 = .ok (.if_icmp .ge 41, 3) := by decide +kernel
theorem dX16_shift_63 : decode prog_14_method_25_code 63 = .ok (.aload_n 0, 1) := by decide +kernel
theorem dX16_shift_64 : decode prog_14_method_25_code 64 = .ok (.aconst_null, 1) := by decide +kernel
theorem dX16_shift_65 : decode prog_14_method_25_code 65 = .ok (.putfield 94, 3) := by decide +kernel
theorem dX16_shift_68 : decode prog_14_method_25_code 68 = .ok (.aload_n 0, 1) := by decide +kernel
theorem dX16_shift_69 : decode prog_14_method_25_code 69 = .ok (.getfield 43, 3) := by decide +kernel
theorem dX16_shift_72 : decode prog_14_method_25_code 72 = .ok (.invokevirtual 179, 3) := by decide +kernel
theorem dX16_shift_75 : decode prog_14_method_25_code 75 = .ok (.astore_n 1, 1) := by decide +kernel
theorem dX16_shift_76 : decode prog_14_method_25_code 76 = .ok (.aload_n 1, 1) := by decide +kernel
theorem dX16_shift_77 : decode prog_14_method_25_code 77 = .ok (.invokeinterface 183 1, 5) := by decide +kernel
theorem dX16_shift_82 : decode prog_14_method_25_code 82 = .ok (.ifCond .eq 31, 3) := by decide +kernel
theorem dX16_shift_113 : decode prog_14_method_25_code 113 = .ok (.aload_n 0, 1) := by decide +kernel
theorem dX16_shift_114 : decode prog_14_method_25_code 114 = .ok (.aload_n 0, 1) := by decide +kernel
theorem dX16_shift_115 : decode prog_14_method_25_code 115 = .ok (.getfield 167, 3) := by decide +kernel
theorem dX16_shift_118 : decode prog_14_method_25_code 118 = .ok (.invokevirtual 98, 3) := by decide +kernel
theorem dX16_shift_121 : decode prog_14_method_25_code 121 = .ok (.ireturn, 1) := by decide +kernel
theorem dX16_solves_0 : decode prog_14_method_6_code 0 = .ok (.aload_n 0, 1) := by decide +kernel
theorem dX16_solves_1 : decode prog_14_method_6_code 1 = .ok (.arraylength, 1) := by decide +kernel
theorem dX16_solves_2 : decode prog_14_method_6_code 2 = .ok (.istore_n 1, 1) := by decide +kernel
theorem dX16_solves_3 : decode prog_14_method_6_code 3 = .ok (.lconst 1, 1) := by decide +kernel
theorem dX16_solves_4 : decode prog_14_method_6_code 4 = .ok (.invokestatic 63, 3) := by decide +kernel
theorem dX16_solves_7 : decode prog_14_method_6_code 7 = .ok (.astore_n 2, 1) := by decide +kernel
theorem dX16_solves_8 : decode prog_14_method_6_code 8 = .ok (.iconst 0, 1) := by decide +kernel
theorem dX16_solves_9 : decode prog_14_method_6_code 9 = .ok (.istore_n 3, 1) := by decide +kernel
theorem dX16_solves_10 : decode prog_14_method_6_code 10 = .ok (.iload_n 3, 1) := by decide +kernel
theorem dX16_solves_11 : decode prog_14_method_6_code 11 = .ok (.iload_n 1, 1) := by decide +kernel
theorem dX16_solves_12 : decode prog_14_method_6_code 12 = .ok (.if_icmp .ge 138, 3) := by decide +kernel
theorem dX16_solves_150 : decode prog_14_method_6_code 150 = .ok (.return_, 1) := by decide +kernel
theorem dX16_stateOf_0 : decode prog_14_method_48_code 0 = .ok (.aload_n 0, 1) := by decide +kernel
theorem dX16_stateOf_1 : decode prog_14_method_48_code 1 = .ok (.aload_n 0, 1) := by decide +kernel
theorem dX16_stateOf_2 : decode prog_14_method_48_code 2 = .ok (.iload_n 1, 1) := by decide +kernel
theorem dX16_stateOf_3 : decode prog_14_method_48_code 3 = .ok (.invokevirtual 123, 3) := by decide +kernel
theorem dX16_stateOf_6 : decode prog_14_method_48_code 6 = .ok (.ifCond .eq 7, 3) := by decide +kernel
theorem dX16_stateOf_13 : decode prog_14_method_48_code 13 = .ok (.iconst 1, 1) := by decide +kernel
theorem dX16_stateOf_14 : decode prog_14_method_48_code 14 = .ok (.putfield 60, 3) := by decide +kernel
theorem dX16_stateOf_17 : decode prog_14_method_48_code 17 = .ok (.aload_n 0, 1) := by decide +kernel
theorem dX16_stateOf_18 : decode prog_14_method_48_code 18 = .ok (.getfield 60, 3) := by decide +kernel
theorem dX16_stateOf_21 : decode prog_14_method_48_code 21 = .ok (.ifCond .ne 20, 3) := by decide +kernel
theorem dX16_stateOf_41 : decode prog_14_method_48_code 41 = .ok (.bipush 32, 2) := by decide +kernel
theorem dX16_stateOf_43 : decode prog_14_method_48_code 43 = .ok (.ireturn, 1) := by decide +kernel
theorem dX16_step_0 : decode prog_14_method_41_code 0 = .ok (.aload_n 0, 1) := by decide +kernel
theorem dX16_step_1 : decode prog_14_method_41_code 1 = .ok (.iload_n 1, 1) := by decide +kernel
theorem dX16_step_2 : decode prog_14_method_41_code 2 = .ok (.iload_n 3, 1) := by decide +kernel
theorem dX16_step_3 : decode prog_14_method_41_code 3 = .ok (.invokestatic 273, 3) := by decide +kernel
theorem dX16_step_6 : decode prog_14_method_41_code 6 = .ok (.ifCond .ne 7, 3) := by decide +kernel
theorem dX16_step_9 : decode prog_14_method_41_code 9 = .ok (.iconst 1, 1) := by decide +kernel
theorem dX16_step_10 : decode prog_14_method_41_code 10 = .ok (.goto 31, 3) := by decide +kernel
theorem dX16_step_13 : decode prog_14_method_41_code 13 = .ok (.aload_n 0, 1) := by decide +kernel
theorem dX16_step_14 : decode prog_14_method_41_code 14 = .ok (.iload_n 1, 1) := by decide +kernel
theorem dX16_step_15 : decode prog_14_method_41_code 15 = .ok (.iload_n 2, 1) := by decide +kernel
theorem dX16_step_16 : decode prog_14_method_41_code 16 = .ok (.invokevirtual 277, 3) := by decide +kernel
theorem dX16_step_19 : decode prog_14_method_41_code 19 = .ok (.ifCond .ne 7, 3) := by decide +kernel
theorem dX16_step_22 : decode prog_14_method_41_code 22 = .ok (.iconst 2, 1) := by decide +kernel
theorem dX16_step_23 : decode prog_14_method_41_code 23 = .ok (.goto 18, 3) := by decide +kernel
theorem dX16_step_41 : decode prog_14_method_41_code 41 = .ok (.putfield 60, 3) := by decide +kernel
theorem dX16_step_44 : decode prog_14_method_41_code 44 = .ok (.aload_n 0, 1) := by decide +kernel
theorem dX16_step_45 : decode prog_14_method_41_code 45 = .ok (.getfield 60, 3) := by decide +kernel
theorem dX16_step_48 : decode prog_14_method_41_code 48 = .ok (.ifCond .le 6, 3) := by decide +kernel
theorem dX16_step_51 : decode prog_14_method_41_code 51 = .ok (.bipush 32, 2) := by decide +kernel
theorem dX16_step_53 : decode prog_14_method_41_code 53 = .ok (.ireturn, 1) := by decide +kernel
theorem dX16_tells_0 : decode prog_14_method_5_code 0 = .ok (.aload_n 0, 1) := by decide +kernel
theorem dX16_tells_1 : decode prog_14_method_5_code 1 = .ok (.iconst 0, 1) := by decide +kernel
theorem dX16_tells_2 : decode prog_14_method_5_code 2 = .ok (.putfield 60, 3) := by decide +kernel
theorem dX16_tells_5 : decode prog_14_method_5_code 5 = .ok (.iload_n 1, 1) := by decide +kernel
theorem dX16_tells_6 : decode prog_14_method_5_code 6 = .ok (.ireturn, 1) := by decide +kernel
theorem dX16_thrown_0 : decode prog_14_method_2_code 0 = .ok (.aload_n 0, 1) := by decide +kernel
theorem dX16_thrown_1 : decode prog_14_method_2_code 1 = .ok (.getfield 60, 3) := by decide +kernel
theorem dX16_thrown_4 : decode prog_14_method_2_code 4 = .ok (.ireturn, 1) := by decide +kernel
theorem dX16_tons_0 : decode prog_14_method_46_code 0 = .ok (.aload_n 0, 1) := by decide +kernel
theorem dX16_tons_1 : decode prog_14_method_46_code 1 = .ok (.iload_n 1, 1) := by decide +kernel
theorem dX16_tons_2 : decode prog_14_method_46_code 2 = .ok (.invokevirtual 123, 3) := by decide +kernel
theorem dX16_tons_5 : decode prog_14_method_46_code 5 = .ok (.ifCond .eq 24, 3) := by decide +kernel
theorem dX16_tons_29 : decode prog_14_method_46_code 29 = .ok (.aload_n 0, 1) := by decide +kernel
theorem dX16_tons_30 : decode prog_14_method_46_code 30 = .ok (.iconst 1, 1) := by decide +kernel
theorem dX16_tons_31 : decode prog_14_method_46_code 31 = .ok (.invokevirtual 90, 3) := by decide +kernel
theorem dX16_tons_34 : decode prog_14_method_46_code 34 = .ok (.ireturn, 1) := by decide +kernel
theorem dX16_walk_0 : decode prog_14_method_32_code 0 = .ok (.aload_n 0, 1) := by decide +kernel
theorem dX16_walk_1 : decode prog_14_method_32_code 1 = .ok (.aload_n 0, 1) := by decide +kernel
theorem dX16_walk_2 : decode prog_14_method_32_code 2 = .ok (.iload_n 1, 1) := by decide +kernel
theorem dX16_walk_3 : decode prog_14_method_32_code 3 = .ok (.invokevirtual 248, 3) := by decide +kernel
theorem dX16_walk_6 : decode prog_14_method_32_code 6 = .ok (.ifCond .eq 24, 3) := by decide +kernel
theorem dX16_walk_30 : decode prog_14_method_32_code 30 = .ok (.iconst 1, 1) := by decide +kernel
theorem dX16_walk_31 : decode prog_14_method_32_code 31 = .ok (.putfield 60, 3) := by decide +kernel
theorem dX16_walk_34 : decode prog_14_method_32_code 34 = .ok (.aload_n 0, 1) := by decide +kernel
theorem dX16_walk_35 : decode prog_14_method_32_code 35 = .ok (.getfield 60, 3) := by decide +kernel
theorem dX16_walk_38 : decode prog_14_method_32_code 38 = .ok (.ifCond .le 5, 3) := by decide +kernel
theorem dX16_walk_41 : decode prog_14_method_32_code 41 = .ok (.iconst 0, 1) := by decide +kernel
theorem dX16_walk_42 : decode prog_14_method_32_code 42 = .ok (.ireturn, 1) := by decide +kernel
theorem dX16_ways_0 : decode prog_14_method_36_code 0 = .ok (.aload_n 0, 1) := by decide +kernel
theorem dX16_ways_1 : decode prog_14_method_36_code 1 = .ok (.iload_n 1, 1) := by decide +kernel
theorem dX16_ways_2 : decode prog_14_method_36_code 2 = .ok (.invokevirtual 101, 3) := by decide +kernel
theorem dX16_ways_5 : decode prog_14_method_36_code 5 = .ok (.ifCond .eq 15, 3) := by decide +kernel
theorem dX16_ways_20 : decode prog_14_method_36_code 20 = .ok (.aload_n 0, 1) := by decide +kernel
theorem dX16_ways_21 : decode prog_14_method_36_code 21 = .ok (.iconst 1, 1) := by decide +kernel
theorem dX16_ways_22 : decode prog_14_method_36_code 22 = .ok (.invokevirtual 90, 3) := by decide +kernel
theorem dX16_ways_25 : decode prog_14_method_36_code 25 = .ok (.ireturn, 1) := by decide +kernel
theorem dX16_whereIs_0 : decode prog_14_method_33_code 0 = .ok (.aload_n 0, 1) := by decide +kernel
theorem dX16_whereIs_1 : decode prog_14_method_33_code 1 = .ok (.iload_n 1, 1) := by decide +kernel
theorem dX16_whereIs_2 : decode prog_14_method_33_code 2 = .ok (.invokevirtual 248, 3) := by decide +kernel
theorem dX16_whereIs_5 : decode prog_14_method_33_code 5 = .ok (.ifCond .eq 24, 3) := by decide +kernel
theorem dX16_whereIs_29 : decode prog_14_method_33_code 29 = .ok (.aload_n 0, 1) := by decide +kernel
theorem dX16_whereIs_30 : decode prog_14_method_33_code 30 = .ok (.iconst 1, 1) := by decide +kernel
theorem dX16_whereIs_31 : decode prog_14_method_33_code 31 = .ok (.invokevirtual 90, 3) := by decide +kernel
theorem dX16_whereIs_34 : decode prog_14_method_33_code 34 = .ok (.ireturn, 1) := by decide +kernel
theorem dX2_begin_0 : decode prog_4_method_2_code 0 = .ok (.aload_n 0, 1) := by decide +kernel
theorem dX2_begin_1 : decode prog_4_method_2_code 1 = .ok (.lload_n 2, 1) := by decide +kernel
theorem dX2_begin_2 : decode prog_4_method_2_code 2 = .ok (.ldc2_w 16, 3) := by decide +kernel
theorem dX2_begin_5 : decode prog_4_method_2_code 5 = .ok (.invokestatic 22, 3) := by decide +kernel
theorem dX2_begin_8 : decode prog_4_method_2_code 8 = .ok (.putfield 18, 3) := by decide +kernel
theorem dX2_begin_11 : decode prog_4_method_2_code 11 = .ok (.iconst 0, 1) := by decide +kernel
theorem dX2_begin_12 : decode prog_4_method_2_code 12 = .ok (.istore 4, 2) := by decide +kernel
theorem dX2_begin_14 : decode prog_4_method_2_code 14 = .ok (.iload 4, 2) := by decide +kernel
theorem dX2_begin_16 : decode prog_4_method_2_code 16 = .ok (.iload_n 1, 1) := by decide +kernel
theorem dX2_begin_17 : decode prog_4_method_2_code 17 = .ok (.if_icmp .ge 35, 3) := by decide +kernel
theorem dX2_begin_52 : decode prog_4_method_2_code 52 = .ok (.return_, 1) := by decide +kernel
theorem dX2_init_0 : decode prog_4_method_1_code 0 = .ok (.aload_n 0, 1) := by decide +kernel
theorem dX2_init_1 : decode prog_4_method_1_code 1 = .ok (.invokespecial 3, 3) := by decide +kernel
theorem dX2_init_4 : decode prog_4_method_1_code 4 = .ok (.aload_n 0, 1) := by decide +kernel
theorem dX2_init_5 : decode prog_4_method_1_code 5 = .ok (.bipush 9, 2) := by decide +kernel
theorem dX2_init_7 : decode prog_4_method_1_code 7 = .ok (.bipush 10, 2) := by decide +kernel
theorem dX2_init_9 : decode prog_4_method_1_code 9 = .ok (.multianewarray 9 2, 4) := by decide +kernel
theorem dX2_init_13 : decode prog_4_method_1_code 13 = .ok (.putfield 11, 3) := by decide +kernel
theorem dX2_init_16 : decode prog_4_method_1_code 16 = .ok (.aload_n 0, 1) := by decide +kernel
theorem dX2_init_17 : decode prog_4_method_1_code 17 = .ok (.ldc2_w 16, 3) := by decide +kernel
theorem dX2_init_20 : decode prog_4_method_1_code 20 = .ok (.putfield 18, 3) := by decide +kernel
theorem dX2_init_23 : decode prog_4_method_1_code 23 = .ok (.return_, 1) := by decide +kernel
theorem dX2_solve_0 : decode prog_4_method_4_code 0 = .ok (.lconst 1, 1) := by decide +kernel
theorem dX2_solve_1 : decode prog_4_method_4_code 1 = .ok (.lstore_n 2, 1) := by decide +kernel
theorem dX2_solve_2 : decode prog_4_method_4_code 2 = .ok (.iconst 0, 1) := by decide +kernel
theorem dX2_solve_3 : decode prog_4_method_4_code 3 = .ok (.istore 4, 2) := by decide +kernel
theorem dX2_solve_5 : decode prog_4_method_4_code 5 = .ok (.iload 4, 2) := by decide +kernel
theorem dX2_solve_7 : decode prog_4_method_4_code 7 = .ok (.iload_n 1, 1) := by decide +kernel
theorem dX2_solve_8 : decode prog_4_method_4_code 8 = .ok (.if_icmp .ge 159, 3) := by decide +kernel
theorem dX2_solve_167 : decode prog_4_method_4_code 167 = .ok (.lload_n 2, 1) := by decide +kernel
theorem dX2_solve_168 : decode prog_4_method_4_code 168 = .ok (.lreturn, 1) := by decide +kernel
theorem dX3_init_0 : decode prog_5_method_1_code 0 = .ok (.aload_n 0, 1) := by decide +kernel
theorem dX3_init_1 : decode prog_5_method_1_code 1 = .ok (.invokespecial 3, 3) := by decide +kernel
theorem dX3_init_4 : decode prog_5_method_1_code 4 = .ok (.aload_n 0, 1) := by decide +kernel
theorem dX3_init_5 : decode prog_5_method_1_code 5 = .ok (.new 9, 3) := by decide +kernel
theorem dX3_init_8 : decode prog_5_method_1_code 8 = .ok (.dup, 1) := by decide +kernel
theorem dX3_init_9 : decode prog_5_method_1_code 9 = .ok (.invokespecial 11, 3) := by decide +kernel
theorem dX3_init_12 : decode prog_5_method_1_code 12 = .ok (.putfield 12, 3) := by decide +kernel
theorem dX3_init_15 : decode prog_5_method_1_code 15 = .ok (.aload_n 0, 1) := by decide +kernel
theorem dX3_init_16 : decode prog_5_method_1_code 16 = .ok (.bipush 14, 2) := by decide +kernel
theorem dX3_init_18 : decode prog_5_method_1_code 18 = .ok (.newarray .int, 2) := by decide +kernel
theorem dX3_init_20 : decode prog_5_method_1_code 20 = .ok (.putfield 18, 3) := by decide +kernel
theorem dX3_init_23 : decode prog_5_method_1_code 23 = .ok (.aload_n 0, 1) := by decide +kernel
theorem dX3_init_24 : decode prog_5_method_1_code 24 = .ok (.bipush 9, 2) := by decide +kernel
theorem dX3_init_26 : decode prog_5_method_1_code 26 = .ok (.newarray .int, 2) := by decide +kernel
theorem dX3_init_28 : decode prog_5_method_1_code 28 = .ok (.putfield 22, 3) := by decide +kernel
theorem dX3_init_31 : decode prog_5_method_1_code 31 = .ok (.aload_n 0, 1) := by decide +kernel
theorem dX3_init_32 : decode prog_5_method_1_code 32 = .ok (.bipush 9, 2) := by decide +kernel
theorem dX3_init_34 : decode prog_5_method_1_code 34 = .ok (.newarray .int, 2) := by decide +kernel
theorem dX3_init_36 : decode prog_5_method_1_code 36 = .ok (.putfield 25, 3) := by decide +kernel
theorem dX3_init_39 : decode prog_5_method_1_code 39 = .ok (.return_, 1) := by decide +kernel
theorem dX4_bitsBelow_0 : decode prog_6_method_3_code 0 = .ok (.iconst 0, 1) := by decide +kernel
theorem dX4_bitsBelow_1 : decode prog_6_method_3_code 1 = .ok (.istore_n 2, 1) := by decide +kernel
theorem dX4_bitsBelow_2 : decode prog_6_method_3_code 2 = .ok (.iconst 0, 1) := by decide +kernel
theorem dX4_bitsBelow_3 : decode prog_6_method_3_code 3 = .ok (.istore_n 3, 1) := by decide +kernel
theorem dX4_bitsBelow_4 : decode prog_6_method_3_code 4 = .ok (.iload_n 3, 1) := by decide +kernel
theorem dX4_bitsBelow_5 : decode prog_6_method_3_code 5 = .ok (.aload_n 1, 1) := by decide +kernel
theorem dX4_bitsBelow_6 : decode prog_6_method_3_code 6 = .ok (.getfield 28, 3) := by decide +kernel
theorem dX4_bitsBelow_9 : decode prog_6_method_3_code 9 = .ok (.if_icmp .ge 35, 3) := by decide +kernel
theorem dX4_bitsBelow_12 : decode prog_6_method_3_code 12 = .ok (.aload_n 0, 1) := by decide +kernel
theorem dX4_bitsBelow_13 : decode prog_6_method_3_code 13 = .ok (.getfield 21, 3) := by decide +kernel
theorem dX4_bitsBelow_16 : decode prog_6_method_3_code 16 = .ok (.iload_n 3, 1) := by decide +kernel
theorem dX4_bitsBelow_17 : decode prog_6_method_3_code 17 = .ok (.laload, 1) := by decide +kernel
theorem dX4_bitsBelow_18 : decode prog_6_method_3_code 18 = .ok (.lconst 0, 1) := by decide +kernel
theorem dX4_bitsBelow_19 : decode prog_6_method_3_code 19 = .ok (.lcmp, 1) := by decide +kernel
theorem dX4_bitsBelow_20 : decode prog_6_method_3_code 20 = .ok (.ifCond .eq 18, 3) := by decide +kernel
theorem dX4_bitsBelow_23 : decode prog_6_method_3_code 23 = .ok (.bipush 31, 2) := by decide +kernel
theorem dX4_bitsBelow_25 : decode prog_6_method_3_code 25 = .ok (.iload_n 3, 1) := by decide +kernel
theorem dX4_bitsBelow_26 : decode prog_6_method_3_code 26 = .ok (.imul, 1) := by decide +kernel
theorem dX4_bitsBelow_27 : decode prog_6_method_3_code 27 = .ok (.aload_n 0, 1) := by decide +kernel
theorem dX4_bitsBelow_28 : decode prog_6_method_3_code 28 = .ok (.getfield 21, 3) := by decide +kernel
theorem dX4_bitsBelow_31 : decode prog_6_method_3_code 31 = .ok (.iload_n 3, 1) := by decide +kernel
theorem dX4_bitsBelow_32 : decode prog_6_method_3_code 32 = .ok (.laload, 1) := by decide +kernel
theorem dX4_bitsBelow_33 : decode prog_6_method_3_code 33 = .ok (.invokestatic 32, 3) := by decide +kernel
theorem dX4_bitsBelow_36 : decode prog_6_method_3_code 36 = .ok (.iadd, 1) := by decide +kernel
theorem dX4_bitsBelow_37 : decode prog_6_method_3_code 37 = .ok (.istore_n 2, 1) := by decide +kernel
theorem dX4_bitsBelow_38 : decode prog_6_method_3_code 38 = .ok (.iinc 3 1, 3) := by decide +kernel
theorem dX4_bitsBelow_41 : decode prog_6_method_3_code 41 = .ok (.goto (-37), 3) := by decide +kernel
theorem dX4_bitsBelow_44 : decode prog_6_method_3_code 44 = .ok (.iload_n 2, 1) := by decide +kernel
theorem dX4_bitsBelow_45 : decode prog_6_method_3_code 45 = .ok (.ireturn, 1) := by decide +kernel
theorem dX4_init_0 : decode prog_6_method_1_code 0 = .ok (.aload_n 0, 1) := by decide +kernel
theorem dX4_init_1 : decode prog_6_method_1_code 1 = .ok (.invokespecial 1, 3) := by decide +kernel
theorem dX4_init_4 : decode prog_6_method_1_code 4 = .ok (.aload_n 0, 1) := by decide +kernel
theorem dX4_init_5 : decode prog_6_method_1_code 5 = .ok (.bipush 32, 2) := by decide +kernel
theorem dX4_init_7 : decode prog_6_method_1_code 7 = .ok (.newarray .long, 2) := by decide +kernel
theorem dX4_init_9 : decode prog_6_method_1_code 9 = .ok (.putfield 9, 3) := by decide +kernel
theorem dX4_init_12 : decode prog_6_method_1_code 12 = .ok (.aload_n 0, 1) := by decide +kernel
theorem dX4_init_13 : decode prog_6_method_1_code 13 = .ok (.bipush 32, 2) := by decide +kernel
theorem dX4_init_15 : decode prog_6_method_1_code 15 = .ok (.newarray .long, 2) := by decide +kernel
theorem dX4_init_17 : decode prog_6_method_1_code 17 = .ok (.putfield 15, 3) := by decide +kernel
theorem dX4_init_20 : decode prog_6_method_1_code 20 = .ok (.aload_n 0, 1) := by decide +kernel
theorem dX4_init_21 : decode prog_6_method_1_code 21 = .ok (.bipush 33, 2) := by decide +kernel
theorem dX4_init_23 : decode prog_6_method_1_code 23 = .ok (.newarray .long, 2) := by decide +kernel
theorem dX4_init_25 : decode prog_6_method_1_code 25 = .ok (.putfield 18, 3) := by decide +kernel
theorem dX4_init_28 : decode prog_6_method_1_code 28 = .ok (.aload_n 0, 1) := by decide +kernel
theorem dX4_init_29 : decode prog_6_method_1_code 29 = .ok (.bipush 32, 2) := by decide +kernel
theorem dX4_init_31 : decode prog_6_method_1_code 31 = .ok (.newarray .long, 2) := by decide +kernel
theorem dX4_init_33 : decode prog_6_method_1_code 33 = .ok (.putfield 21, 3) := by decide +kernel
theorem dX4_init_36 : decode prog_6_method_1_code 36 = .ok (.return_, 1) := by decide +kernel
theorem dX4_readBelow_0 : decode prog_6_method_2_code 0 = .ok (.aload_n 1, 1) := by decide +kernel
theorem dX4_readBelow_1 : decode prog_6_method_2_code 1 = .ok (.aload_n 0, 1) := by decide +kernel
theorem dX4_readBelow_2 : decode prog_6_method_2_code 2 = .ok (.getfield 15, 3) := by decide +kernel
theorem dX4_readBelow_5 : decode prog_6_method_2_code 5 = .ok (.aload_n 0, 1) := by decide +kernel
theorem dX4_readBelow_6 : decode prog_6_method_2_code 6 = .ok (.getfield 21, 3) := by decide +kernel
theorem dX4_readBelow_9 : decode prog_6_method_2_code 9 = .ok (.invokevirtual 24, 3) := by decide +kernel
theorem dX4_readBelow_12 : decode prog_6_method_2_code 12 = .ok (.return_, 1) := by decide +kernel
theorem dX5_find_0 : decode prog_7_method_2_code 0 = .ok (.aload_n 0, 1) := by decide +kernel
theorem dX5_find_1 : decode prog_7_method_2_code 1 = .ok (.aload_n 1, 1) := by decide +kernel
theorem dX5_find_2 : decode prog_7_method_2_code 2 = .ok (.aload_n 2, 1) := by decide +kernel
theorem dX5_find_3 : decode prog_7_method_2_code 3 = .ok (.invokevirtual 67, 3) := by decide +kernel
theorem dX5_find_6 : decode prog_7_method_2_code 6 = .ok (.aload_n 0, 1) := by decide +kernel
theorem dX5_find_7 : decode prog_7_method_2_code 7 = .ok (.aload_n 1, 1) := by decide +kernel
theorem dX5_find_8 : decode prog_7_method_2_code 8 = .ok (.invokevirtual 71, 3) := by decide +kernel
theorem dX5_find_11 : decode prog_7_method_2_code 11 = .ok (.aload_n 0, 1) := by decide +kernel
theorem dX5_find_12 : decode prog_7_method_2_code 12 = .ok (.aload_n 1, 1) := by decide +kernel
theorem dX5_find_13 : decode prog_7_method_2_code 13 = .ok (.invokevirtual 75, 3) := by decide +kernel
theorem dX5_find_16 : decode prog_7_method_2_code 16 = .ok (.aload_n 0, 1) := by decide +kernel
theorem dX5_find_17 : decode prog_7_method_2_code 17 = .ok (.getfield 78, 3) := by decide +kernel
theorem dX5_find_20 : decode prog_7_method_2_code 20 = .ok (.ifCond .ne 4, 3) := by decide +kernel
theorem dX5_find_23 : decode prog_7_method_2_code 23 = .ok (.return_, 1) := by decide +kernel
theorem dX5_findCarriers_0 : decode prog_7_method_6_code 0 = .ok (.iconst 0, 1) := by decide +kernel
theorem dX5_findCarriers_1 : decode prog_7_method_6_code 1 = .ok (.istore_n 2, 1) := by decide +kernel
theorem dX5_findCarriers_2 : decode prog_7_method_6_code 2 = .ok (.iload_n 2, 1) := by decide +kernel
theorem dX5_findCarriers_3 : decode prog_7_method_6_code 3 = .ok (.aload_n 1, 1) := by decide +kernel
theorem dX5_findCarriers_4 : decode prog_7_method_6_code 4 = .ok (.getfield 122, 3) := by decide +kernel
theorem dX5_findCarriers_7 : decode prog_7_method_6_code 7 = .ok (.if_icmp .ge 47, 3) := by decide +kernel
theorem dX5_findCarriers_54 : decode prog_7_method_6_code 54 = .ok (.iconst 0, 1) := by decide +kernel
theorem dX5_findCarriers_55 : decode prog_7_method_6_code 55 = .ok (.istore_n 2, 1) := by decide +kernel
theorem dX5_findCarriers_56 : decode prog_7_method_6_code 56 = .ok (.iload_n 2, 1) := by decide +kernel
theorem dX5_findCarriers_57 : decode prog_7_method_6_code 57 = .ok (.aload_n 1, 1) := by decide +kernel
theorem dX5_findCarriers_58 : decode prog_7_method_6_code 58 = .ok (.getfield 122, 3) := by decide +kernel
theorem dX5_findCarriers_61 : decode prog_7_method_6_code 61 = .ok (.if_icmp .ge 83, 3) := by decide +kernel
theorem dX5_findCarriers_144 : decode prog_7_method_6_code 144 = .ok (.aload_n 0, 1) := by decide +kernel
theorem dX5_findCarriers_145 : decode prog_7_method_6_code 145 = .ok (.iconst 0, 1) := by decide +kernel
theorem dX5_findCarriers_146 : decode prog_7_method_6_code 146 = .ok (.putfield 78, 3) := by decide +kernel
theorem dX5_findCarriers_149 : decode prog_7_method_6_code 149 = .ok (.iconst 0, 1) := by decide +kernel
theorem dX5_findCarriers_150 : decode prog_7_method_6_code 150 = .ok (.istore_n 2, 1) := by decide +kernel
theorem dX5_findCarriers_151 : decode prog_7_method_6_code 151 = .ok (.iload_n 2, 1) := by decide +kernel
theorem dX5_findCarriers_152 : decode prog_7_method_6_code 152 = .ok (.aload_n 1, 1) := by decide +kernel
theorem dX5_findCarriers_153 : decode prog_7_method_6_code 153 = .ok (.getfield 122, 3) := by decide +kernel
theorem dX5_findCarriers_156 : decode prog_7_method_6_code 156 = .ok (.if_icmp .ge 45, 3) := by decide +kernel
theorem dX5_findCarriers_201 : decode prog_7_method_6_code 201 = .ok (.return_, 1) := by decide +kernel
theorem dX5_findFull_0 : decode prog_7_method_5_code 0 = .ok (.iconst 0, 1) := by decide +kernel
theorem dX5_findFull_1 : decode prog_7_method_5_code 1 = .ok (.istore_n 2, 1) := by decide +kernel
theorem dX5_findFull_2 : decode prog_7_method_5_code 2 = .ok (.iload_n 2, 1) := by decide +kernel
theorem dX5_findFull_3 : decode prog_7_method_5_code 3 = .ok (.aload_n 1, 1) := by decide +kernel
theorem dX5_findFull_4 : decode prog_7_method_5_code 4 = .ok (.getfield 122, 3) := by decide +kernel
theorem dX5_findFull_7 : decode prog_7_method_5_code 7 = .ok (.if_icmp .ge 113, 3) := by decide +kernel
theorem dX5_findFull_120 : decode prog_7_method_5_code 120 = .ok (.return_, 1) := by decide +kernel
theorem dX5_findWays_0 : decode prog_7_method_4_code 0 = .ok (.iconst 0, 1) := by decide +kernel
theorem dX5_findWays_1 : decode prog_7_method_4_code 1 = .ok (.istore_n 3, 1) := by decide +kernel
theorem dX5_findWays_2 : decode prog_7_method_4_code 2 = .ok (.iload_n 3, 1) := by decide +kernel
theorem dX5_findWays_3 : decode prog_7_method_4_code 3 = .ok (.aload_n 1, 1) := by decide +kernel
theorem dX5_findWays_4 : decode prog_7_method_4_code 4 = .ok (.getfield 102, 3) := by decide +kernel
theorem dX5_findWays_7 : decode prog_7_method_4_code 7 = .ok (.if_icmp .ge 106, 3) := by decide +kernel
theorem dX5_findWays_113 : decode prog_7_method_4_code 113 = .ok (.aload_n 0, 1) := by decide +kernel
theorem dX5_findWays_114 : decode prog_7_method_4_code 114 = .ok (.getfield 37, 3) := by decide +kernel
theorem dX5_findWays_117 : decode prog_7_method_4_code 117 = .ok (.aload_n 1, 1) := by decide +kernel
theorem dX5_findWays_118 : decode prog_7_method_4_code 118 = .ok (.invokevirtual 119, 3) := by decide +kernel
theorem dX5_findWays_121 : decode prog_7_method_4_code 121 = .ok (.return_, 1) := by decide +kernel
theorem dX5_init_0 : decode prog_7_method_1_code 0 = .ok (.aload_n 0, 1) := by decide +kernel
theorem dX5_init_1 : decode prog_7_method_1_code 1 = .ok (.invokespecial 3, 3) := by decide +kernel
theorem dX5_init_4 : decode prog_7_method_1_code 4 = .ok (.aload_n 0, 1) := by decide +kernel
theorem dX5_init_5 : decode prog_7_method_1_code 5 = .ok (.bipush 9, 2) := by decide +kernel
theorem dX5_init_7 : decode prog_7_method_1_code 7 = .ok (.newarray .int, 2) := by decide +kernel
theorem dX5_init_9 : decode prog_7_method_1_code 9 = .ok (.putfield 9, 3) := by decide +kernel
theorem dX5_init_12 : decode prog_7_method_1_code 12 = .ok (.aload_n 0, 1) := by decide +kernel
theorem dX5_init_13 : decode prog_7_method_1_code 13 = .ok (.bipush 9, 2) := by decide +kernel
theorem dX5_init_15 : decode prog_7_method_1_code 15 = .ok (.newarray .boolean, 2) := by decide +kernel
theorem dX5_init_17 : decode prog_7_method_1_code 17 = .ok (.putfield 15, 3) := by decide +kernel
theorem dX5_init_20 : decode prog_7_method_1_code 20 = .ok (.aload_n 0, 1) := by decide +kernel
theorem dX5_init_21 : decode prog_7_method_1_code 21 = .ok (.bipush 9, 2) := by decide +kernel
theorem dX5_init_23 : decode prog_7_method_1_code 23 = .ok (.newarray .boolean, 2) := by decide +kernel
theorem dX5_init_25 : decode prog_7_method_1_code 25 = .ok (.putfield 19, 3) := by decide +kernel
theorem dX5_init_28 : decode prog_7_method_1_code 28 = .ok (.aload_n 0, 1) := by decide +kernel
theorem dX5_init_29 : decode prog_7_method_1_code 29 = .ok (.bipush 9, 2) := by decide +kernel
theorem dX5_init_31 : decode prog_7_method_1_code 31 = .ok (.newarray .boolean, 2) := by decide +kernel
theorem dX5_init_33 : decode prog_7_method_1_code 33 = .ok (.putfield 22, 3) := by decide +kernel
theorem dX5_init_36 : decode prog_7_method_1_code 36 = .ok (.aload_n 0, 1) := by decide +kernel
theorem dX5_init_37 : decode prog_7_method_1_code 37 = .ok (.bipush 9, 2) := by decide +kernel
theorem dX5_init_39 : decode prog_7_method_1_code 39 = .ok (.newarray .int, 2) := by decide +kernel
theorem dX5_init_41 : decode prog_7_method_1_code 41 = .ok (.putfield 25, 3) := by decide +kernel
theorem dX5_init_44 : decode prog_7_method_1_code 44 = .ok (.aload_n 0, 1) := by decide +kernel
theorem dX5_init_45 : decode prog_7_method_1_code 45 = .ok (.bipush 14, 2) := by decide +kernel
theorem dX5_init_47 : decode prog_7_method_1_code 47 = .ok (.newarray .int, 2) := by decide +kernel
theorem dX5_init_49 : decode prog_7_method_1_code 49 = .ok (.putfield 28, 3) := by decide +kernel
theorem dX5_init_52 : decode prog_7_method_1_code 52 = .ok (.aload_n 0, 1) := by decide +kernel
theorem dX5_init_53 : decode prog_7_method_1_code 53 = .ok (.bipush 14, 2) := by decide +kernel
theorem dX5_init_55 : decode prog_7_method_1_code 55 = .ok (.newarray .int, 2) := by decide +kernel
theorem dX5_init_57 : decode prog_7_method_1_code 57 = .ok (.putfield 31, 3) := by decide +kernel
theorem dX5_init_60 : decode prog_7_method_1_code 60 = .ok (.aload_n 0, 1) := by decide +kernel
theorem dX5_init_61 : decode prog_7_method_1_code 61 = .ok (.new 34, 3) := by decide +kernel
theorem dX5_init_64 : decode prog_7_method_1_code 64 = .ok (.dup, 1) := by decide +kernel
theorem dX5_init_65 : decode prog_7_method_1_code 65 = .ok (.invokespecial 36, 3) := by decide +kernel
theorem dX5_init_68 : decode prog_7_method_1_code 68 = .ok (.putfield 37, 3) := by decide +kernel
theorem dX5_init_71 : decode prog_7_method_1_code 71 = .ok (.aload_n 0, 1) := by decide +kernel
theorem dX5_init_72 : decode prog_7_method_1_code 72 = .ok (.new 41, 3) := by decide +kernel
theorem dX5_init_75 : decode prog_7_method_1_code 75 = .ok (.dup, 1) := by decide +kernel
theorem dX5_init_76 : decode prog_7_method_1_code 76 = .ok (.invokespecial 43, 3) := by decide +kernel
theorem dX5_init_79 : decode prog_7_method_1_code 79 = .ok (.putfield 44, 3) := by decide +kernel
theorem dX5_init_82 : decode prog_7_method_1_code 82 = .ok (.aload_n 0, 1) := by decide +kernel
theorem dX5_init_83 : decode prog_7_method_1_code 83 = .ok (.new 48, 3) := by decide +kernel
theorem dX5_init_86 : decode prog_7_method_1_code 86 = .ok (.dup, 1) := by decide +kernel
theorem dX5_init_87 : decode prog_7_method_1_code 87 = .ok (.invokespecial 50, 3) := by decide +kernel
theorem dX5_init_90 : decode prog_7_method_1_code 90 = .ok (.putfield 51, 3) := by decide +kernel
theorem dX5_init_93 : decode prog_7_method_1_code 93 = .ok (.aload_n 0, 1) := by decide +kernel
theorem dX5_init_94 : decode prog_7_method_1_code 94 = .ok (.new 55, 3) := by decide +kernel
theorem dX5_init_97 : decode prog_7_method_1_code 97 = .ok (.dup, 1) := by decide +kernel
theorem dX5_init_98 : decode prog_7_method_1_code 98 = .ok (.invokespecial 57, 3) := by decide +kernel
theorem dX5_init_101 : decode prog_7_method_1_code 101 = .ok (.putfield 58, 3) := by decide +kernel
theorem dX5_init_104 : decode prog_7_method_1_code 104 = .ok (.aload_n 0, 1) := by decide +kernel
theorem dX5_init_105 : decode prog_7_method_1_code 105 = .ok (.bipush 32, 2) := by decide +kernel
theorem dX5_init_107 : decode prog_7_method_1_code 107 = .ok (.bipush 9, 2) := by decide +kernel
theorem dX5_init_109 : decode prog_7_method_1_code 109 = .ok (.multianewarray 62 2, 4) := by decide +kernel
theorem dX5_init_113 : decode prog_7_method_1_code 113 = .ok (.putfield 64, 3) := by decide +kernel
theorem dX5_init_116 : decode prog_7_method_1_code 116 = .ok (.return_, 1) := by decide +kernel
theorem dX6_gather_0 : decode prog_8_method_2_code 0 = .ok (.iconst 0, 1) := by decide +kernel
theorem dX6_gather_1 : decode prog_8_method_2_code 1 = .ok (.istore_n 2, 1) := by decide +kernel
theorem dX6_gather_2 : decode prog_8_method_2_code 2 = .ok (.iload_n 2, 1) := by decide +kernel
theorem dX6_gather_3 : decode prog_8_method_2_code 3 = .ok (.aload_n 1, 1) := by decide +kernel
theorem dX6_gather_4 : decode prog_8_method_2_code 4 = .ok (.getfield 22, 3) := by decide +kernel
theorem dX6_gather_7 : decode prog_8_method_2_code 7 = .ok (.if_icmp .ge 23, 3) := by decide +kernel
theorem dX6_gather_30 : decode prog_8_method_2_code 30 = .ok (.iconst 0, 1) := by decide +kernel
theorem dX6_gather_31 : decode prog_8_method_2_code 31 = .ok (.istore_n 2, 1) := by decide +kernel
theorem dX6_gather_32 : decode prog_8_method_2_code 32 = .ok (.iload_n 2, 1) := by decide +kernel
theorem dX6_gather_33 : decode prog_8_method_2_code 33 = .ok (.aload_n 1, 1) := by decide +kernel
theorem dX6_gather_34 : decode prog_8_method_2_code 34 = .ok (.getfield 22, 3) := by decide +kernel
theorem dX6_gather_37 : decode prog_8_method_2_code 37 = .ok (.if_icmp .ge 87, 3) := by decide +kernel
theorem dX6_gather_124 : decode prog_8_method_2_code 124 = .ok (.iconst 0, 1) := by decide +kernel
theorem dX6_gather_125 : decode prog_8_method_2_code 125 = .ok (.istore_n 2, 1) := by decide +kernel
theorem dX6_gather_126 : decode prog_8_method_2_code 126 = .ok (.iload_n 2, 1) := by decide +kernel
theorem dX6_gather_127 : decode prog_8_method_2_code 127 = .ok (.aload_n 1, 1) := by decide +kernel
theorem dX6_gather_128 : decode prog_8_method_2_code 128 = .ok (.getfield 22, 3) := by decide +kernel
theorem dX6_gather_131 : decode prog_8_method_2_code 131 = .ok (.if_icmp .ge 30, 3) := by decide +kernel
theorem dX6_gather_161 : decode prog_8_method_2_code 161 = .ok (.return_, 1) := by decide +kernel
theorem dX6_init_0 : decode prog_8_method_1_code 0 = .ok (.aload_n 0, 1) := by decide +kernel
theorem dX6_init_1 : decode prog_8_method_1_code 1 = .ok (.invokespecial 3, 3) := by decide +kernel
theorem dX6_init_4 : decode prog_8_method_1_code 4 = .ok (.aload_n 0, 1) := by decide +kernel
theorem dX6_init_5 : decode prog_8_method_1_code 5 = .ok (.bipush 14, 2) := by decide +kernel
theorem dX6_init_7 : decode prog_8_method_1_code 7 = .ok (.newarray .boolean, 2) := by decide +kernel
theorem dX6_init_9 : decode prog_8_method_1_code 9 = .ok (.putfield 9, 3) := by decide +kernel
theorem dX6_init_12 : decode prog_8_method_1_code 12 = .ok (.aload_n 0, 1) := by decide +kernel
theorem dX6_init_13 : decode prog_8_method_1_code 13 = .ok (.bipush 9, 2) := by decide +kernel
theorem dX6_init_15 : decode prog_8_method_1_code 15 = .ok (.newarray .int, 2) := by decide +kernel
theorem dX6_init_17 : decode prog_8_method_1_code 17 = .ok (.putfield 15, 3) := by decide +kernel
theorem dX6_init_20 : decode prog_8_method_1_code 20 = .ok (.aload_n 0, 1) := by decide +kernel
theorem dX6_init_21 : decode prog_8_method_1_code 21 = .ok (.bipush 9, 2) := by decide +kernel
theorem dX6_init_23 : decode prog_8_method_1_code 23 = .ok (.newarray .boolean, 2) := by decide +kernel
theorem dX6_init_25 : decode prog_8_method_1_code 25 = .ok (.putfield 19, 3) := by decide +kernel
theorem dX6_init_28 : decode prog_8_method_1_code 28 = .ok (.return_, 1) := by decide +kernel
theorem dX7_hasJunction_0 : decode prog_9_method_2_code 0 = .ok (.iload_n 1, 1) := by decide +kernel
theorem dX7_hasJunction_1 : decode prog_9_method_2_code 1 = .ok (.ifCond .lt 15, 3) := by decide +kernel
theorem dX7_hasJunction_4 : decode prog_9_method_2_code 4 = .ok (.iload_n 1, 1) := by decide +kernel
theorem dX7_hasJunction_5 : decode prog_9_method_2_code 5 = .ok (.aload_n 0, 1) := by decide +kernel
theorem dX7_hasJunction_6 : decode prog_9_method_2_code 6 = .ok (.getfield 46, 3) := by decide +kernel
theorem dX7_hasJunction_9 : decode prog_9_method_2_code 9 = .ok (.if_icmp .ge 7, 3) := by decide +kernel
theorem dX7_hasJunction_16 : decode prog_9_method_2_code 16 = .ok (.iconst 0, 1) := by decide +kernel
theorem dX7_hasJunction_17 : decode prog_9_method_2_code 17 = .ok (.ireturn, 1) := by decide +kernel
theorem dX7_hasRoad_0 : decode prog_9_method_3_code 0 = .ok (.iload_n 1, 1) := by decide +kernel
theorem dX7_hasRoad_1 : decode prog_9_method_3_code 1 = .ok (.ifCond .lt 15, 3) := by decide +kernel
theorem dX7_hasRoad_4 : decode prog_9_method_3_code 4 = .ok (.iload_n 1, 1) := by decide +kernel
theorem dX7_hasRoad_5 : decode prog_9_method_3_code 5 = .ok (.aload_n 0, 1) := by decide +kernel
theorem dX7_hasRoad_6 : decode prog_9_method_3_code 6 = .ok (.getfield 50, 3) := by decide +kernel
theorem dX7_hasRoad_9 : decode prog_9_method_3_code 9 = .ok (.if_icmp .ge 7, 3) := by decide +kernel
theorem dX7_hasRoad_16 : decode prog_9_method_3_code 16 = .ok (.iconst 0, 1) := by decide +kernel
theorem dX7_hasRoad_17 : decode prog_9_method_3_code 17 = .ok (.ireturn, 1) := by decide +kernel
theorem dX7_init_0 : decode prog_9_method_1_code 0 = .ok (.aload_n 0, 1) := by decide +kernel
theorem dX7_init_1 : decode prog_9_method_1_code 1 = .ok (.invokespecial 3, 3) := by decide +kernel
theorem dX7_init_4 : decode prog_9_method_1_code 4 = .ok (.aload_n 0, 1) := by decide +kernel
theorem dX7_init_5 : decode prog_9_method_1_code 5 = .ok (.bipush 9, 2) := by decide +kernel
theorem dX7_init_7 : decode prog_9_method_1_code 7 = .ok (.newarray .boolean, 2) := by decide +kernel
theorem dX7_init_9 : decode prog_9_method_1_code 9 = .ok (.putfield 9, 3) := by decide +kernel
theorem dX7_init_12 : decode prog_9_method_1_code 12 = .ok (.aload_n 0, 1) := by decide +kernel
theorem dX7_init_13 : decode prog_9_method_1_code 13 = .ok (.bipush 9, 2) := by decide +kernel
theorem dX7_init_15 : decode prog_9_method_1_code 15 = .ok (.newarray .int, 2) := by decide +kernel
theorem dX7_init_17 : decode prog_9_method_1_code 17 = .ok (.putfield 15, 3) := by decide +kernel
theorem dX7_init_20 : decode prog_9_method_1_code 20 = .ok (.aload_n 0, 1) := by decide +kernel
theorem dX7_init_21 : decode prog_9_method_1_code 21 = .ok (.bipush 9, 2) := by decide +kernel
theorem dX7_init_23 : decode prog_9_method_1_code 23 = .ok (.newarray .int, 2) := by decide +kernel
theorem dX7_init_25 : decode prog_9_method_1_code 25 = .ok (.putfield 19, 3) := by decide +kernel
theorem dX7_init_28 : decode prog_9_method_1_code 28 = .ok (.aload_n 0, 1) := by decide +kernel
theorem dX7_init_29 : decode prog_9_method_1_code 29 = .ok (.bipush 9, 2) := by decide +kernel
theorem dX7_init_31 : decode prog_9_method_1_code 31 = .ok (.newarray .boolean, 2) := by decide +kernel
theorem dX7_init_33 : decode prog_9_method_1_code 33 = .ok (.putfield 22, 3) := by decide +kernel
theorem dX7_init_36 : decode prog_9_method_1_code 36 = .ok (.aload_n 0, 1) := by decide +kernel
theorem dX7_init_37 : decode prog_9_method_1_code 37 = .ok (.bipush 14, 2) := by decide +kernel
theorem dX7_init_39 : decode prog_9_method_1_code 39 = .ok (.newarray .int, 2) := by decide +kernel
theorem dX7_init_41 : decode prog_9_method_1_code 41 = .ok (.putfield 25, 3) := by decide +kernel
theorem dX7_init_44 : decode prog_9_method_1_code 44 = .ok (.aload_n 0, 1) := by decide +kernel
theorem dX7_init_45 : decode prog_9_method_1_code 45 = .ok (.bipush 14, 2) := by decide +kernel
theorem dX7_init_47 : decode prog_9_method_1_code 47 = .ok (.newarray .int, 2) := by decide +kernel
theorem dX7_init_49 : decode prog_9_method_1_code 49 = .ok (.putfield 28, 3) := by decide +kernel
theorem dX7_init_52 : decode prog_9_method_1_code 52 = .ok (.aload_n 0, 1) := by decide +kernel
theorem dX7_init_53 : decode prog_9_method_1_code 53 = .ok (.bipush 14, 2) := by decide +kernel
theorem dX7_init_55 : decode prog_9_method_1_code 55 = .ok (.newarray .int, 2) := by decide +kernel
theorem dX7_init_57 : decode prog_9_method_1_code 57 = .ok (.putfield 31, 3) := by decide +kernel
theorem dX7_init_60 : decode prog_9_method_1_code 60 = .ok (.aload_n 0, 1) := by decide +kernel
theorem dX7_init_61 : decode prog_9_method_1_code 61 = .ok (.bipush 14, 2) := by decide +kernel
theorem dX7_init_63 : decode prog_9_method_1_code 63 = .ok (.newarray .boolean, 2) := by decide +kernel
theorem dX7_init_65 : decode prog_9_method_1_code 65 = .ok (.putfield 34, 3) := by decide +kernel
theorem dX7_init_68 : decode prog_9_method_1_code 68 = .ok (.aload_n 0, 1) := by decide +kernel
theorem dX7_init_69 : decode prog_9_method_1_code 69 = .ok (.bipush 14, 2) := by decide +kernel
theorem dX7_init_71 : decode prog_9_method_1_code 71 = .ok (.newarray .boolean, 2) := by decide +kernel
theorem dX7_init_73 : decode prog_9_method_1_code 73 = .ok (.putfield 37, 3) := by decide +kernel
theorem dX7_init_76 : decode prog_9_method_1_code 76 = .ok (.aload_n 0, 1) := by decide +kernel
theorem dX7_init_77 : decode prog_9_method_1_code 77 = .ok (.bipush 14, 2) := by decide +kernel
theorem dX7_init_79 : decode prog_9_method_1_code 79 = .ok (.newarray .boolean, 2) := by decide +kernel
theorem dX7_init_81 : decode prog_9_method_1_code 81 = .ok (.putfield 40, 3) := by decide +kernel
theorem dX7_init_84 : decode prog_9_method_1_code 84 = .ok (.aload_n 0, 1) := by decide +kernel
theorem dX7_init_85 : decode prog_9_method_1_code 85 = .ok (.bipush 14, 2) := by decide +kernel
theorem dX7_init_87 : decode prog_9_method_1_code 87 = .ok (.newarray .int, 2) := by decide +kernel
theorem dX7_init_89 : decode prog_9_method_1_code 89 = .ok (.putfield 43, 3) := by decide +kernel
theorem dX7_init_92 : decode prog_9_method_1_code 92 = .ok (.return_, 1) := by decide +kernel
theorem dX7_putJunction_0 : decode prog_9_method_4_code 0 = .ok (.aload_n 0, 1) := by decide +kernel
theorem dX7_putJunction_1 : decode prog_9_method_4_code 1 = .ok (.getfield 46, 3) := by decide +kernel
theorem dX7_putJunction_4 : decode prog_9_method_4_code 4 = .ok (.bipush 9, 2) := by decide +kernel
theorem dX7_putJunction_6 : decode prog_9_method_4_code 6 = .ok (.if_icmp .lt 5, 3) := by decide +kernel
theorem dX7_putJunction_11 : decode prog_9_method_4_code 11 = .ok (.aload_n 0, 1) := by decide +kernel
theorem dX7_putJunction_12 : decode prog_9_method_4_code 12 = .ok (.getfield 9, 3) := by decide +kernel
theorem dX7_putJunction_15 : decode prog_9_method_4_code 15 = .ok (.aload_n 0, 1) := by decide +kernel
theorem dX7_putJunction_16 : decode prog_9_method_4_code 16 = .ok (.getfield 46, 3) := by decide +kernel
theorem dX7_putJunction_19 : decode prog_9_method_4_code 19 = .ok (.iload_n 1, 1) := by decide +kernel
theorem dX7_putJunction_20 : decode prog_9_method_4_code 20 = .ok (.bastore, 1) := by decide +kernel
theorem dX7_putJunction_21 : decode prog_9_method_4_code 21 = .ok (.aload_n 0, 1) := by decide +kernel
theorem dX7_putJunction_22 : decode prog_9_method_4_code 22 = .ok (.getfield 15, 3) := by decide +kernel
theorem dX7_putJunction_25 : decode prog_9_method_4_code 25 = .ok (.aload_n 0, 1) := by decide +kernel
theorem dX7_putJunction_26 : decode prog_9_method_4_code 26 = .ok (.getfield 46, 3) := by decide +kernel
theorem dX7_putJunction_29 : decode prog_9_method_4_code 29 = .ok (.iload_n 1, 1) := by decide +kernel
theorem dX7_putJunction_30 : decode prog_9_method_4_code 30 = .ok (.ifCond .eq 7, 3) := by decide +kernel
theorem dX7_putJunction_33 : decode prog_9_method_4_code 33 = .ok (.iload_n 2, 1) := by decide +kernel
theorem dX7_putJunction_34 : decode prog_9_method_4_code 34 = .ok (.goto 4, 3) := by decide +kernel
theorem dX7_putJunction_37 : decode prog_9_method_4_code 37 = .ok (.iconst 0, 1) := by decide +kernel
theorem dX7_putJunction_38 : decode prog_9_method_4_code 38 = .ok (.iastore, 1) := by decide +kernel
theorem dX7_putJunction_39 : decode prog_9_method_4_code 39 = .ok (.aload_n 0, 1) := by decide +kernel
theorem dX7_putJunction_40 : decode prog_9_method_4_code 40 = .ok (.dup, 1) := by decide +kernel
theorem dX7_putJunction_41 : decode prog_9_method_4_code 41 = .ok (.getfield 46, 3) := by decide +kernel
theorem dX7_putJunction_44 : decode prog_9_method_4_code 44 = .ok (.iconst 1, 1) := by decide +kernel
theorem dX7_putJunction_45 : decode prog_9_method_4_code 45 = .ok (.iadd, 1) := by decide +kernel
theorem dX7_putJunction_46 : decode prog_9_method_4_code 46 = .ok (.putfield 46, 3) := by decide +kernel
theorem dX7_putJunction_49 : decode prog_9_method_4_code 49 = .ok (.aload_n 0, 1) := by decide +kernel
theorem dX7_putJunction_50 : decode prog_9_method_4_code 50 = .ok (.getfield 46, 3) := by decide +kernel
theorem dX7_putJunction_53 : decode prog_9_method_4_code 53 = .ok (.iconst 1, 1) := by decide +kernel
theorem dX7_putJunction_54 : decode prog_9_method_4_code 54 = .ok (.isub, 1) := by decide +kernel
theorem dX7_putJunction_55 : decode prog_9_method_4_code 55 = .ok (.ireturn, 1) := by decide +kernel
theorem dX8_add_0 : decode prog_10_method_2_code 0 = .ok (.aload_n 0, 1) := by decide +kernel
theorem dX8_add_1 : decode prog_10_method_2_code 1 = .ok (.getfield 16, 3) := by decide +kernel
theorem dX8_add_4 : decode prog_10_method_2_code 4 = .ok (.bipush 32, 2) := by decide +kernel
theorem dX8_add_6 : decode prog_10_method_2_code 6 = .ok (.if_icmp .ge 11, 3) := by decide +kernel
theorem dX8_add_9 : decode prog_10_method_2_code 9 = .ok (.lload_n 1, 1) := by decide +kernel
theorem dX8_add_10 : decode prog_10_method_2_code 10 = .ok (.ldc2_w 20, 3) := by decide +kernel
theorem dX8_add_13 : decode prog_10_method_2_code 13 = .ok (.lcmp, 1) := by decide +kernel
theorem dX8_add_14 : decode prog_10_method_2_code 14 = .ok (.ifCond .ge 4, 3) := by decide +kernel
theorem dX8_add_18 : decode prog_10_method_2_code 18 = .ok (.lconst 1, 1) := by decide +kernel
theorem dX8_add_19 : decode prog_10_method_2_code 19 = .ok (.lstore_n 3, 1) := by decide +kernel
theorem dX8_add_20 : decode prog_10_method_2_code 20 = .ok (.iconst 0, 1) := by decide +kernel
theorem dX8_add_21 : decode prog_10_method_2_code 21 = .ok (.istore 5, 2) := by decide +kernel
theorem dX8_add_23 : decode prog_10_method_2_code 23 = .ok (.iload 5, 2) := by decide +kernel
theorem dX8_add_25 : decode prog_10_method_2_code 25 = .ok (.aload_n 0, 1) := by decide +kernel
theorem dX8_add_26 : decode prog_10_method_2_code 26 = .ok (.getfield 16, 3) := by decide +kernel
theorem dX8_add_29 : decode prog_10_method_2_code 29 = .ok (.if_icmp .ge 23, 3) := by decide +kernel
theorem dX8_add_32 : decode prog_10_method_2_code 32 = .ok (.lload_n 3, 1) := by decide +kernel
theorem dX8_add_33 : decode prog_10_method_2_code 33 = .ok (.aload_n 0, 1) := by decide +kernel
theorem dX8_add_34 : decode prog_10_method_2_code 34 = .ok (.getfield 9, 3) := by decide +kernel
theorem dX8_add_37 : decode prog_10_method_2_code 37 = .ok (.iload 5, 2) := by decide +kernel
theorem dX8_add_39 : decode prog_10_method_2_code 39 = .ok (.laload, 1) := by decide +kernel
theorem dX8_add_40 : decode prog_10_method_2_code 40 = .ok (.lload_n 1, 1) := by decide +kernel
theorem dX8_add_41 : decode prog_10_method_2_code 41 = .ok (.lrem, 1) := by decide +kernel
theorem dX8_add_42 : decode prog_10_method_2_code 42 = .ok (.lmul, 1) := by decide +kernel
theorem dX8_add_43 : decode prog_10_method_2_code 43 = .ok (.lload_n 1, 1) := by decide +kernel
theorem dX8_add_44 : decode prog_10_method_2_code 44 = .ok (.lrem, 1) := by decide +kernel
theorem dX8_add_45 : decode prog_10_method_2_code 45 = .ok (.lstore_n 3, 1) := by decide +kernel
theorem dX8_add_46 : decode prog_10_method_2_code 46 = .ok (.iinc 5 1, 3) := by decide +kernel
theorem dX8_add_49 : decode prog_10_method_2_code 49 = .ok (.goto (-26), 3) := by decide +kernel
theorem dX8_add_52 : decode prog_10_method_2_code 52 = .ok (.aload_n 0, 1) := by decide +kernel
theorem dX8_add_53 : decode prog_10_method_2_code 53 = .ok (.getfield 9, 3) := by decide +kernel
theorem dX8_add_56 : decode prog_10_method_2_code 56 = .ok (.aload_n 0, 1) := by decide +kernel
theorem dX8_add_57 : decode prog_10_method_2_code 57 = .ok (.getfield 16, 3) := by decide +kernel
theorem dX8_add_60 : decode prog_10_method_2_code 60 = .ok (.lload_n 1, 1) := by decide +kernel
theorem dX8_add_61 : decode prog_10_method_2_code 61 = .ok (.lastore, 1) := by decide +kernel
theorem dX8_add_62 : decode prog_10_method_2_code 62 = .ok (.aload_n 0, 1) := by decide +kernel
theorem dX8_add_63 : decode prog_10_method_2_code 63 = .ok (.getfield 13, 3) := by decide +kernel
theorem dX8_add_66 : decode prog_10_method_2_code 66 = .ok (.aload_n 0, 1) := by decide +kernel
theorem dX8_add_67 : decode prog_10_method_2_code 67 = .ok (.getfield 16, 3) := by decide +kernel
theorem dX8_add_70 : decode prog_10_method_2_code 70 = .ok (.lload_n 3, 1) := by decide +kernel
theorem dX8_add_71 : decode prog_10_method_2_code 71 = .ok (.lload_n 1, 1) := by decide +kernel
theorem dX8_add_72 : decode prog_10_method_2_code 72 = .ok (.invokestatic 22, 3) := by decide +kernel
theorem dX8_add_75 : decode prog_10_method_2_code 75 = .ok (.lastore, 1) := by decide +kernel
theorem dX8_add_76 : decode prog_10_method_2_code 76 = .ok (.aload_n 0, 1) := by decide +kernel
theorem dX8_add_77 : decode prog_10_method_2_code 77 = .ok (.dup, 1) := by decide +kernel
theorem dX8_add_78 : decode prog_10_method_2_code 78 = .ok (.getfield 16, 3) := by decide +kernel
theorem dX8_add_81 : decode prog_10_method_2_code 81 = .ok (.iconst 1, 1) := by decide +kernel
theorem dX8_add_82 : decode prog_10_method_2_code 82 = .ok (.iadd, 1) := by decide +kernel
theorem dX8_add_83 : decode prog_10_method_2_code 83 = .ok (.putfield 16, 3) := by decide +kernel
theorem dX8_add_86 : decode prog_10_method_2_code 86 = .ok (.return_, 1) := by decide +kernel
theorem dX8_bitLength_0 : decode prog_10_method_5_code 0 = .ok (.iconst 0, 1) := by decide +kernel
theorem dX8_bitLength_1 : decode prog_10_method_5_code 1 = .ok (.istore_n 2, 1) := by decide +kernel
theorem dX8_bitLength_2 : decode prog_10_method_5_code 2 = .ok (.iconst 0, 1) := by decide +kernel
theorem dX8_bitLength_3 : decode prog_10_method_5_code 3 = .ok (.istore_n 3, 1) := by decide +kernel
theorem dX8_bitLength_4 : decode prog_10_method_5_code 4 = .ok (.iload_n 3, 1) := by decide +kernel
theorem dX8_bitLength_5 : decode prog_10_method_5_code 5 = .ok (.bipush 64, 2) := by decide +kernel
theorem dX8_bitLength_7 : decode prog_10_method_5_code 7 = .ok (.if_icmp .ge 20, 3) := by decide +kernel
theorem dX8_bitLength_10 : decode prog_10_method_5_code 10 = .ok (.lload_n 0, 1) := by decide +kernel
theorem dX8_bitLength_11 : decode prog_10_method_5_code 11 = .ok (.iload_n 3, 1) := by decide +kernel
theorem dX8_bitLength_12 : decode prog_10_method_5_code 12 = .ok (.lshr, 1) := by decide +kernel
theorem dX8_bitLength_13 : decode prog_10_method_5_code 13 = .ok (.lconst 0, 1) := by decide +kernel
theorem dX8_bitLength_14 : decode prog_10_method_5_code 14 = .ok (.lcmp, 1) := by decide +kernel
theorem dX8_bitLength_15 : decode prog_10_method_5_code 15 = .ok (.ifCond .le 12, 3) := by decide +kernel
theorem dX8_bitLength_18 : decode prog_10_method_5_code 18 = .ok (.iinc 2 1, 3) := by decide +kernel
theorem dX8_bitLength_21 : decode prog_10_method_5_code 21 = .ok (.iinc 3 1, 3) := by decide +kernel
theorem dX8_bitLength_24 : decode prog_10_method_5_code 24 = .ok (.goto (-20), 3) := by decide +kernel
theorem dX8_bitLength_27 : decode prog_10_method_5_code 27 = .ok (.iload_n 2, 1) := by decide +kernel
theorem dX8_bitLength_28 : decode prog_10_method_5_code 28 = .ok (.ireturn, 1) := by decide +kernel
theorem dX8_findDigits_0 : decode prog_10_method_3_code 0 = .ok (.iconst 0, 1) := by decide +kernel
theorem dX8_findDigits_1 : decode prog_10_method_3_code 1 = .ok (.istore_n 3, 1) := by decide +kernel
theorem dX8_findDigits_2 : decode prog_10_method_3_code 2 = .ok (.iload_n 3, 1) := by decide +kernel
theorem dX8_findDigits_3 : decode prog_10_method_3_code 3 = .ok (.aload_n 0, 1) := by decide +kernel
theorem dX8_findDigits_4 : decode prog_10_method_3_code 4 = .ok (.getfield 16, 3) := by decide +kernel
theorem dX8_findDigits_7 : decode prog_10_method_3_code 7 = .ok (.if_icmp .ge 84, 3) := by decide +kernel
theorem dX8_findDigits_10 : decode prog_10_method_3_code 10 = .ok (.lconst 0, 1) := by decide +kernel
theorem dX8_findDigits_11 : decode prog_10_method_3_code 11 = .ok (.lstore 4, 2) := by decide +kernel
theorem dX8_findDigits_13 : decode prog_10_method_3_code 13 = .ok (.iload_n 3, 1) := by decide +kernel
theorem dX8_findDigits_14 : decode prog_10_method_3_code 14 = .ok (.iconst 1, 1) := by decide +kernel
theorem dX8_findDigits_15 : decode prog_10_method_3_code 15 = .ok (.isub, 1) := by decide +kernel
theorem dX8_findDigits_16 : decode prog_10_method_3_code 16 = .ok (.istore 6, 2) := by decide +kernel
theorem dX8_findDigits_18 : decode prog_10_method_3_code 18 = .ok (.iload 6, 2) := by decide +kernel
theorem dX8_findDigits_20 : decode prog_10_method_3_code 20 = .ok (.ifCond .lt 33, 3) := by decide +kernel
theorem dX8_findDigits_23 : decode prog_10_method_3_code 23 = .ok (.lload 4, 2) := by decide +kernel
theorem dX8_findDigits_25 : decode prog_10_method_3_code 25 = .ok (.aload_n 0, 1) := by decide +kernel
theorem dX8_findDigits_26 : decode prog_10_method_3_code 26 = .ok (.getfield 9, 3) := by decide +kernel
theorem dX8_findDigits_29 : decode prog_10_method_3_code 29 = .ok (.iload 6, 2) := by decide +kernel
theorem dX8_findDigits_31 : decode prog_10_method_3_code 31 = .ok (.laload, 1) := by decide +kernel
theorem dX8_findDigits_32 : decode prog_10_method_3_code 32 = .ok (.lmul, 1) := by decide +kernel
theorem dX8_findDigits_33 : decode prog_10_method_3_code 33 = .ok (.aload_n 2, 1) := by decide +kernel
theorem dX8_findDigits_34 : decode prog_10_method_3_code 34 = .ok (.iload 6, 2) := by decide +kernel
theorem dX8_findDigits_36 : decode prog_10_method_3_code 36 = .ok (.laload, 1) := by decide +kernel
theorem dX8_findDigits_37 : decode prog_10_method_3_code 37 = .ok (.ladd, 1) := by decide +kernel
theorem dX8_findDigits_38 : decode prog_10_method_3_code 38 = .ok (.aload_n 0, 1) := by decide +kernel
theorem dX8_findDigits_39 : decode prog_10_method_3_code 39 = .ok (.getfield 9, 3) := by decide +kernel
theorem dX8_findDigits_42 : decode prog_10_method_3_code 42 = .ok (.iload_n 3, 1) := by decide +kernel
theorem dX8_findDigits_43 : decode prog_10_method_3_code 43 = .ok (.laload, 1) := by decide +kernel
theorem dX8_findDigits_44 : decode prog_10_method_3_code 44 = .ok (.lrem, 1) := by decide +kernel
theorem dX8_findDigits_45 : decode prog_10_method_3_code 45 = .ok (.lstore 4, 2) := by decide +kernel
theorem dX8_findDigits_47 : decode prog_10_method_3_code 47 = .ok (.iinc 6 (-1), 3) := by decide +kernel
theorem dX8_findDigits_50 : decode prog_10_method_3_code 50 = .ok (.goto (-32), 3) := by decide +kernel
theorem dX8_findDigits_53 : decode prog_10_method_3_code 53 = .ok (.aload_n 2, 1) := by decide +kernel
theorem dX8_findDigits_54 : decode prog_10_method_3_code 54 = .ok (.iload_n 3, 1) := by decide +kernel
theorem dX8_findDigits_55 : decode prog_10_method_3_code 55 = .ok (.aload_n 1, 1) := by decide +kernel
theorem dX8_findDigits_56 : decode prog_10_method_3_code 56 = .ok (.iload_n 3, 1) := by decide +kernel
theorem dX8_findDigits_57 : decode prog_10_method_3_code 57 = .ok (.laload, 1) := by decide +kernel
theorem dX8_findDigits_58 : decode prog_10_method_3_code 58 = .ok (.lload 4, 2) := by decide +kernel
theorem dX8_findDigits_60 : decode prog_10_method_3_code 60 = .ok (.lsub, 1) := by decide +kernel
theorem dX8_findDigits_61 : decode prog_10_method_3_code 61 = .ok (.aload_n 0, 1) := by decide +kernel
theorem dX8_findDigits_62 : decode prog_10_method_3_code 62 = .ok (.getfield 9, 3) := by decide +kernel
theorem dX8_findDigits_65 : decode prog_10_method_3_code 65 = .ok (.iload_n 3, 1) := by decide +kernel
theorem dX8_findDigits_66 : decode prog_10_method_3_code 66 = .ok (.laload, 1) := by decide +kernel
theorem dX8_findDigits_67 : decode prog_10_method_3_code 67 = .ok (.invokestatic 26, 3) := by decide +kernel
theorem dX8_findDigits_70 : decode prog_10_method_3_code 70 = .ok (.aload_n 0, 1) := by decide +kernel
theorem dX8_findDigits_71 : decode prog_10_method_3_code 71 = .ok (.getfield 13, 3) := by decide +kernel
theorem dX8_findDigits_74 : decode prog_10_method_3_code 74 = .ok (.iload_n 3, 1) := by decide +kernel
theorem dX8_findDigits_75 : decode prog_10_method_3_code 75 = .ok (.laload, 1) := by decide +kernel
theorem dX8_findDigits_76 : decode prog_10_method_3_code 76 = .ok (.lmul, 1) := by decide +kernel
theorem dX8_findDigits_77 : decode prog_10_method_3_code 77 = .ok (.aload_n 0, 1) := by decide +kernel
theorem dX8_findDigits_78 : decode prog_10_method_3_code 78 = .ok (.getfield 9, 3) := by decide +kernel
theorem dX8_findDigits_81 : decode prog_10_method_3_code 81 = .ok (.iload_n 3, 1) := by decide +kernel
theorem dX8_findDigits_82 : decode prog_10_method_3_code 82 = .ok (.laload, 1) := by decide +kernel
theorem dX8_findDigits_83 : decode prog_10_method_3_code 83 = .ok (.lrem, 1) := by decide +kernel
theorem dX8_findDigits_84 : decode prog_10_method_3_code 84 = .ok (.lastore, 1) := by decide +kernel
theorem dX8_findDigits_85 : decode prog_10_method_3_code 85 = .ok (.iinc 3 1, 3) := by decide +kernel
theorem dX8_findDigits_88 : decode prog_10_method_3_code 88 = .ok (.goto (-86), 3) := by decide +kernel
theorem dX8_findDigits_91 : decode prog_10_method_3_code 91 = .ok (.return_, 1) := by decide +kernel
theorem dX8_init_0 : decode prog_10_method_1_code 0 = .ok (.aload_n 0, 1) := by decide +kernel
theorem dX8_init_1 : decode prog_10_method_1_code 1 = .ok (.invokespecial 1, 3) := by decide +kernel
theorem dX8_init_4 : decode prog_10_method_1_code 4 = .ok (.aload_n 0, 1) := by decide +kernel
theorem dX8_init_5 : decode prog_10_method_1_code 5 = .ok (.bipush 32, 2) := by decide +kernel
theorem dX8_init_7 : decode prog_10_method_1_code 7 = .ok (.newarray .long, 2) := by decide +kernel
theorem dX8_init_9 : decode prog_10_method_1_code 9 = .ok (.putfield 9, 3) := by decide +kernel
theorem dX8_init_12 : decode prog_10_method_1_code 12 = .ok (.aload_n 0, 1) := by decide +kernel
theorem dX8_init_13 : decode prog_10_method_1_code 13 = .ok (.bipush 32, 2) := by decide +kernel
theorem dX8_init_15 : decode prog_10_method_1_code 15 = .ok (.newarray .long, 2) := by decide +kernel
theorem dX8_init_17 : decode prog_10_method_1_code 17 = .ok (.putfield 13, 3) := by decide +kernel
theorem dX8_init_20 : decode prog_10_method_1_code 20 = .ok (.return_, 1) := by decide +kernel
theorem dX8_inverse_0 : decode prog_10_method_4_code 0 = .ok (.lload_n 2, 1) := by decide +kernel
theorem dX8_inverse_1 : decode prog_10_method_4_code 1 = .ok (.ldc2_w 20, 3) := by decide +kernel
theorem dX8_inverse_4 : decode prog_10_method_4_code 4 = .ok (.lcmp, 1) := by decide +kernel
theorem dX8_inverse_5 : decode prog_10_method_4_code 5 = .ok (.ifCond .ge 5, 3) := by decide +kernel
theorem dX8_inverse_10 : decode prog_10_method_4_code 10 = .ok (.lload_n 2, 1) := by decide +kernel
theorem dX8_inverse_11 : decode prog_10_method_4_code 11 = .ok (.lstore 4, 2) := by decide +kernel
theorem dX8_inverse_13 : decode prog_10_method_4_code 13 = .ok (.lload_n 0, 1) := by decide +kernel
theorem dX8_inverse_14 : decode prog_10_method_4_code 14 = .ok (.lload_n 2, 1) := by decide +kernel
theorem dX8_inverse_15 : decode prog_10_method_4_code 15 = .ok (.invokestatic 26, 3) := by decide +kernel
theorem dX8_inverse_18 : decode prog_10_method_4_code 18 = .ok (.lstore 6, 2) := by decide +kernel
theorem dX8_inverse_20 : decode prog_10_method_4_code 20 = .ok (.lconst 0, 1) := by decide +kernel
theorem dX8_inverse_21 : decode prog_10_method_4_code 21 = .ok (.lstore 8, 2) := by decide +kernel
theorem dX8_inverse_23 : decode prog_10_method_4_code 23 = .ok (.lconst 1, 1) := by decide +kernel
theorem dX8_inverse_24 : decode prog_10_method_4_code 24 = .ok (.lstore 10, 2) := by decide +kernel
theorem dX8_inverse_26 : decode prog_10_method_4_code 26 = .ok (.iconst 0, 1) := by decide +kernel
theorem dX8_inverse_27 : decode prog_10_method_4_code 27 = .ok (.istore 12, 2) := by decide +kernel
theorem dX8_inverse_29 : decode prog_10_method_4_code 29 = .ok (.iload 12, 2) := by decide +kernel
theorem dX8_inverse_31 : decode prog_10_method_4_code 31 = .ok (.bipush 64, 2) := by decide +kernel
theorem dX8_inverse_33 : decode prog_10_method_4_code 33 = .ok (.if_icmp .ge 59, 3) := by decide +kernel
theorem dX8_inverse_36 : decode prog_10_method_4_code 36 = .ok (.lload 6, 2) := by decide +kernel
theorem dX8_inverse_38 : decode prog_10_method_4_code 38 = .ok (.lconst 0, 1) := by decide +kernel
theorem dX8_inverse_39 : decode prog_10_method_4_code 39 = .ok (.lcmp, 1) := by decide +kernel
theorem dX8_inverse_40 : decode prog_10_method_4_code 40 = .ok (.ifCond .eq 52, 3) := by decide +kernel
theorem dX8_inverse_43 : decode prog_10_method_4_code 43 = .ok (.lload 4, 2) := by decide +kernel
theorem dX8_inverse_45 : decode prog_10_method_4_code 45 = .ok (.lload 6, 2) := by decide +kernel
theorem dX8_inverse_47 : decode prog_10_method_4_code 47 = .ok (.ldiv, 1) := by decide +kernel
theorem dX8_inverse_48 : decode prog_10_method_4_code 48 = .ok (.lstore 13, 2) := by decide +kernel
theorem dX8_inverse_50 : decode prog_10_method_4_code 50 = .ok (.lload 4, 2) := by decide +kernel
theorem dX8_inverse_52 : decode prog_10_method_4_code 52 = .ok (.lload 13, 2) := by decide +kernel
theorem dX8_inverse_54 : decode prog_10_method_4_code 54 = .ok (.lload 6, 2) := by decide +kernel
theorem dX8_inverse_56 : decode prog_10_method_4_code 56 = .ok (.lmul, 1) := by decide +kernel
theorem dX8_inverse_57 : decode prog_10_method_4_code 57 = .ok (.lsub, 1) := by decide +kernel
theorem dX8_inverse_58 : decode prog_10_method_4_code 58 = .ok (.lstore 15, 2) := by decide +kernel
theorem dX8_inverse_60 : decode prog_10_method_4_code 60 = .ok (.lload 8, 2) := by decide +kernel
theorem dX8_inverse_62 : decode prog_10_method_4_code 62 = .ok (.lload 13, 2) := by decide +kernel
theorem dX8_inverse_64 : decode prog_10_method_4_code 64 = .ok (.lload 10, 2) := by decide +kernel
theorem dX8_inverse_66 : decode prog_10_method_4_code 66 = .ok (.lmul, 1) := by decide +kernel
theorem dX8_inverse_67 : decode prog_10_method_4_code 67 = .ok (.lsub, 1) := by decide +kernel
theorem dX8_inverse_68 : decode prog_10_method_4_code 68 = .ok (.lstore 17, 2) := by decide +kernel
theorem dX8_inverse_70 : decode prog_10_method_4_code 70 = .ok (.lload 6, 2) := by decide +kernel
theorem dX8_inverse_72 : decode prog_10_method_4_code 72 = .ok (.lstore 4, 2) := by decide +kernel
theorem dX8_inverse_74 : decode prog_10_method_4_code 74 = .ok (.lload 15, 2) := by decide +kernel
theorem dX8_inverse_76 : decode prog_10_method_4_code 76 = .ok (.lstore 6, 2) := by decide +kernel
theorem dX8_inverse_78 : decode prog_10_method_4_code 78 = .ok (.lload 10, 2) := by decide +kernel
theorem dX8_inverse_80 : decode prog_10_method_4_code 80 = .ok (.lstore 8, 2) := by decide +kernel
theorem dX8_inverse_82 : decode prog_10_method_4_code 82 = .ok (.lload 17, 2) := by decide +kernel
theorem dX8_inverse_84 : decode prog_10_method_4_code 84 = .ok (.lstore 10, 2) := by decide +kernel
theorem dX8_inverse_86 : decode prog_10_method_4_code 86 = .ok (.iinc 12 1, 3) := by decide +kernel
theorem dX8_inverse_89 : decode prog_10_method_4_code 89 = .ok (.goto (-60), 3) := by decide +kernel
theorem dX8_inverse_92 : decode prog_10_method_4_code 92 = .ok (.lload 8, 2) := by decide +kernel
theorem dX8_inverse_94 : decode prog_10_method_4_code 94 = .ok (.lload_n 2, 1) := by decide +kernel
theorem dX8_inverse_95 : decode prog_10_method_4_code 95 = .ok (.invokestatic 26, 3) := by decide +kernel
theorem dX8_inverse_98 : decode prog_10_method_4_code 98 = .ok (.lreturn, 1) := by decide +kernel
theorem dX9_init_0 : decode prog_11_method_1_code 0 = .ok (.aload_n 0, 1) := by decide +kernel
theorem dX9_init_1 : decode prog_11_method_1_code 1 = .ok (.invokespecial 3, 3) := by decide +kernel
theorem dX9_init_4 : decode prog_11_method_1_code 4 = .ok (.aload_n 0, 1) := by decide +kernel
theorem dX9_init_5 : decode prog_11_method_1_code 5 = .ok (.bipush 9, 2) := by decide +kernel
theorem dX9_init_7 : decode prog_11_method_1_code 7 = .ok (.newarray .boolean, 2) := by decide +kernel
theorem dX9_init_9 : decode prog_11_method_1_code 9 = .ok (.putfield 9, 3) := by decide +kernel
theorem dX9_init_12 : decode prog_11_method_1_code 12 = .ok (.aload_n 0, 1) := by decide +kernel
theorem dX9_init_13 : decode prog_11_method_1_code 13 = .ok (.bipush 9, 2) := by decide +kernel
theorem dX9_init_15 : decode prog_11_method_1_code 15 = .ok (.newarray .int, 2) := by decide +kernel
theorem dX9_init_17 : decode prog_11_method_1_code 17 = .ok (.putfield 15, 3) := by decide +kernel
theorem dX9_init_20 : decode prog_11_method_1_code 20 = .ok (.aload_n 0, 1) := by decide +kernel
theorem dX9_init_21 : decode prog_11_method_1_code 21 = .ok (.bipush 9, 2) := by decide +kernel
theorem dX9_init_23 : decode prog_11_method_1_code 23 = .ok (.newarray .int, 2) := by decide +kernel
theorem dX9_init_25 : decode prog_11_method_1_code 25 = .ok (.putfield 19, 3) := by decide +kernel
theorem dX9_init_28 : decode prog_11_method_1_code 28 = .ok (.return_, 1) := by decide +kernel
