theorem dX7_hasPlace_0 : decode cX7_hasPlace 0 = .ok (.iload_n 1, 1) := by decide +kernel
theorem dX7_hasPlace_1 : decode cX7_hasPlace 1 = .ok (.ifCond .lt 15, 3) := by decide +kernel
theorem dX7_hasPlace_4 : decode cX7_hasPlace 4 = .ok (.iload_n 1, 1) := by decide +kernel
theorem dX7_hasPlace_5 : decode cX7_hasPlace 5 = .ok (.aload_n 0, 1) := by decide +kernel
theorem dX7_hasPlace_6 : decode cX7_hasPlace 6 = .ok (.getfield 19, 3) := by decide +kernel
theorem dX7_hasPlace_9 : decode cX7_hasPlace 9 = .ok (.if_icmp .ge 7, 3) := by decide +kernel
theorem dX7_hasPlace_12 : decode cX7_hasPlace 12 = .ok (.iconst 1, 1) := by decide +kernel
theorem dX7_hasPlace_13 : decode cX7_hasPlace 13 = .ok (.goto 4, 3) := by decide +kernel
theorem dX7_hasPlace_16 : decode cX7_hasPlace 16 = .ok (.iconst 0, 1) := by decide +kernel
theorem dX7_hasPlace_17 : decode cX7_hasPlace 17 = .ok (.ireturn, 1) := by decide +kernel
theorem dX7_at_0 : decode cX7_at 0 = .ok (.aload_n 0, 1) := by decide +kernel
theorem dX7_at_1 : decode cX7_at 1 = .ok (.iload_n 1, 1) := by decide +kernel
theorem dX7_at_2 : decode cX7_at 2 = .ok (.invokevirtual 29, 3) := by decide +kernel
theorem dX7_at_5 : decode cX7_at 5 = .ok (.ifCond .eq 12, 3) := by decide +kernel
theorem dX7_at_8 : decode cX7_at 8 = .ok (.aload_n 0, 1) := by decide +kernel
theorem dX7_at_9 : decode cX7_at 9 = .ok (.getfield 22, 3) := by decide +kernel
theorem dX7_at_12 : decode cX7_at 12 = .ok (.iload_n 1, 1) := by decide +kernel
theorem dX7_at_13 : decode cX7_at 13 = .ok (.iaload, 1) := by decide +kernel
theorem dX7_at_14 : decode cX7_at 14 = .ok (.goto 4, 3) := by decide +kernel
theorem dX7_at_17 : decode cX7_at 17 = .ok (.iconst 0, 1) := by decide +kernel
theorem dX7_at_18 : decode cX7_at 18 = .ok (.ireturn, 1) := by decide +kernel
theorem dX11_isIn_0 : decode cX11_isIn 0 = .ok (.lload_n 0, 1) := by decide +kernel
theorem dX11_isIn_1 : decode cX11_isIn 1 = .ok (.lload_n 2, 1) := by decide +kernel
theorem dX11_isIn_2 : decode cX11_isIn 2 = .ok (.lcmp, 1) := by decide +kernel
theorem dX11_isIn_3 : decode cX11_isIn 3 = .ok (.ifCond .lt 14, 3) := by decide +kernel
theorem dX11_isIn_6 : decode cX11_isIn 6 = .ok (.lload_n 0, 1) := by decide +kernel
theorem dX11_isIn_7 : decode cX11_isIn 7 = .ok (.lload 4, 2) := by decide +kernel
theorem dX11_isIn_9 : decode cX11_isIn 9 = .ok (.lcmp, 1) := by decide +kernel
theorem dX11_isIn_10 : decode cX11_isIn 10 = .ok (.ifCond .gt 7, 3) := by decide +kernel
theorem dX11_isIn_13 : decode cX11_isIn 13 = .ok (.iconst 1, 1) := by decide +kernel
theorem dX11_isIn_14 : decode cX11_isIn 14 = .ok (.goto 4, 3) := by decide +kernel
theorem dX11_isIn_17 : decode cX11_isIn 17 = .ok (.iconst 0, 1) := by decide +kernel
theorem dX11_isIn_18 : decode cX11_isIn 18 = .ok (.ireturn, 1) := by decide +kernel
theorem dX11_isShelf_0 : decode cX11_isShelf 0 = .ok (.iload_n 0, 1) := by decide +kernel
theorem dX11_isShelf_1 : decode cX11_isShelf 1 = .ok (.i2l, 1) := by decide +kernel
theorem dX11_isShelf_2 : decode cX11_isShelf 2 = .ok (.lconst 0, 1) := by decide +kernel
theorem dX11_isShelf_3 : decode cX11_isShelf 3 = .ok (.ldc2_w 57, 3) := by decide +kernel
theorem dX11_isShelf_6 : decode cX11_isShelf 6 = .ok (.invokestatic 59, 3) := by decide +kernel
theorem dX11_isShelf_9 : decode cX11_isShelf 9 = .ok (.ireturn, 1) := by decide +kernel
theorem dX11_isShip_0 : decode cX11_isShip 0 = .ok (.iload_n 1, 1) := by decide +kernel
theorem dX11_isShip_1 : decode cX11_isShip 1 = .ok (.i2l, 1) := by decide +kernel
theorem dX11_isShip_2 : decode cX11_isShip 2 = .ok (.lconst 0, 1) := by decide +kernel
theorem dX11_isShip_3 : decode cX11_isShip 3 = .ok (.aload_n 0, 1) := by decide +kernel
theorem dX11_isShip_4 : decode cX11_isShip 4 = .ok (.getfield 9, 3) := by decide +kernel
theorem dX11_isShip_7 : decode cX11_isShip 7 = .ok (.iconst 0, 1) := by decide +kernel
theorem dX11_isShip_8 : decode cX11_isShip 8 = .ok (.iaload, 1) := by decide +kernel
theorem dX11_isShip_9 : decode cX11_isShip 9 = .ok (.iconst 1, 1) := by decide +kernel
theorem dX11_isShip_10 : decode cX11_isShip 10 = .ok (.isub, 1) := by decide +kernel
theorem dX11_isShip_11 : decode cX11_isShip 11 = .ok (.i2l, 1) := by decide +kernel
theorem dX11_isShip_12 : decode cX11_isShip 12 = .ok (.invokestatic 59, 3) := by decide +kernel
theorem dX11_isShip_15 : decode cX11_isShip 15 = .ok (.ireturn, 1) := by decide +kernel
theorem dX11_get_0 : decode cX11_get 0 = .ok (.aload_n 0, 1) := by decide +kernel
theorem dX11_get_1 : decode cX11_get 1 = .ok (.getfield 9, 3) := by decide +kernel
theorem dX11_get_4 : decode cX11_get 4 = .ok (.bipush 13, 2) := by decide +kernel
theorem dX11_get_6 : decode cX11_get 6 = .ok (.iconst 5, 1) := by decide +kernel
theorem dX11_get_7 : decode cX11_get 7 = .ok (.iload_n 1, 1) := by decide +kernel
theorem dX11_get_8 : decode cX11_get 8 = .ok (.imul, 1) := by decide +kernel
theorem dX11_get_9 : decode cX11_get 9 = .ok (.iadd, 1) := by decide +kernel
theorem dX11_get_10 : decode cX11_get 10 = .ok (.iload_n 2, 1) := by decide +kernel
theorem dX11_get_11 : decode cX11_get 11 = .ok (.iadd, 1) := by decide +kernel
theorem dX11_get_12 : decode cX11_get 12 = .ok (.iaload, 1) := by decide +kernel
theorem dX11_get_13 : decode cX11_get 13 = .ok (.ireturn, 1) := by decide +kernel
theorem dX11_puts_0 : decode cX11_puts 0 = .ok (.aload_n 0, 1) := by decide +kernel
theorem dX11_puts_1 : decode cX11_puts 1 = .ok (.getfield 9, 3) := by decide +kernel
theorem dX11_puts_4 : decode cX11_puts 4 = .ok (.bipush 13, 2) := by decide +kernel
theorem dX11_puts_6 : decode cX11_puts 6 = .ok (.iconst 5, 1) := by decide +kernel
theorem dX11_puts_7 : decode cX11_puts 7 = .ok (.iload_n 1, 1) := by decide +kernel
theorem dX11_puts_8 : decode cX11_puts 8 = .ok (.imul, 1) := by decide +kernel
theorem dX11_puts_9 : decode cX11_puts 9 = .ok (.iadd, 1) := by decide +kernel
theorem dX11_puts_10 : decode cX11_puts 10 = .ok (.iload_n 2, 1) := by decide +kernel
theorem dX11_puts_11 : decode cX11_puts 11 = .ok (.iadd, 1) := by decide +kernel
theorem dX11_puts_12 : decode cX11_puts 12 = .ok (.iload_n 3, 1) := by decide +kernel
theorem dX11_puts_13 : decode cX11_puts 13 = .ok (.iastore, 1) := by decide +kernel
theorem dX11_puts_14 : decode cX11_puts 14 = .ok (.return_, 1) := by decide +kernel
theorem dX11_copies_0 : decode cX11_copies 0 = .ok (.iconst 0, 1) := by decide +kernel
theorem dX11_copies_1 : decode cX11_copies 1 = .ok (.istore_n 2, 1) := by decide +kernel
theorem dX11_copies_2 : decode cX11_copies 2 = .ok (.iload_n 2, 1) := by decide +kernel
theorem dX11_copies_3 : decode cX11_copies 3 = .ok (.bipush 73, 2) := by decide +kernel
theorem dX11_copies_5 : decode cX11_copies 5 = .ok (.if_icmp .ge 15, 3) := by decide +kernel
theorem dX11_copies_8 : decode cX11_copies 8 = .ok (.aload_n 1, 1) := by decide +kernel
theorem dX11_copies_9 : decode cX11_copies 9 = .ok (.iload_n 2, 1) := by decide +kernel
theorem dX11_copies_10 : decode cX11_copies 10 = .ok (.aload_n 0, 1) := by decide +kernel
theorem dX11_copies_11 : decode cX11_copies 11 = .ok (.iload_n 2, 1) := by decide +kernel
theorem dX11_copies_12 : decode cX11_copies 12 = .ok (.iaload, 1) := by decide +kernel
theorem dX11_copies_13 : decode cX11_copies 13 = .ok (.iastore, 1) := by decide +kernel
theorem dX11_copies_14 : decode cX11_copies 14 = .ok (.iinc 2 1, 3) := by decide +kernel
theorem dX11_copies_17 : decode cX11_copies 17 = .ok (.goto (-15), 3) := by decide +kernel
theorem dX11_copies_20 : decode cX11_copies 20 = .ok (.return_, 1) := by decide +kernel
theorem dX11_aboard_0 : decode cX11_aboard 0 = .ok (.iconst 0, 1) := by decide +kernel
theorem dX11_aboard_1 : decode cX11_aboard 1 = .ok (.istore_n 2, 1) := by decide +kernel
theorem dX11_aboard_2 : decode cX11_aboard 2 = .ok (.iconst 0, 1) := by decide +kernel
theorem dX11_aboard_3 : decode cX11_aboard 3 = .ok (.istore_n 3, 1) := by decide +kernel
theorem dX11_aboard_4 : decode cX11_aboard 4 = .ok (.iload_n 3, 1) := by decide +kernel
theorem dX11_aboard_5 : decode cX11_aboard 5 = .ok (.aload_n 0, 1) := by decide +kernel
theorem dX11_aboard_6 : decode cX11_aboard 6 = .ok (.getfield 9, 3) := by decide +kernel
theorem dX11_aboard_9 : decode cX11_aboard 9 = .ok (.iconst 1, 1) := by decide +kernel
theorem dX11_aboard_10 : decode cX11_aboard 10 = .ok (.iaload, 1) := by decide +kernel
theorem dX11_aboard_11 : decode cX11_aboard 11 = .ok (.if_icmp .ge 25, 3) := by decide +kernel
theorem dX11_aboard_14 : decode cX11_aboard 14 = .ok (.aload_n 0, 1) := by decide +kernel
theorem dX11_aboard_15 : decode cX11_aboard 15 = .ok (.iload_n 3, 1) := by decide +kernel
theorem dX11_aboard_16 : decode cX11_aboard 16 = .ok (.iconst 0, 1) := by decide +kernel
theorem dX11_aboard_17 : decode cX11_aboard 17 = .ok (.invokevirtual 67, 3) := by decide +kernel
theorem dX11_aboard_20 : decode cX11_aboard 20 = .ok (.iload_n 1, 1) := by decide +kernel
theorem dX11_aboard_21 : decode cX11_aboard 21 = .ok (.if_icmp .ne 9, 3) := by decide +kernel
theorem dX11_aboard_24 : decode cX11_aboard 24 = .ok (.iload_n 2, 1) := by decide +kernel
theorem dX11_aboard_25 : decode cX11_aboard 25 = .ok (.iconst 1, 1) := by decide +kernel
theorem dX11_aboard_26 : decode cX11_aboard 26 = .ok (.iload_n 3, 1) := by decide +kernel
theorem dX11_aboard_27 : decode cX11_aboard 27 = .ok (.ishl, 1) := by decide +kernel
theorem dX11_aboard_28 : decode cX11_aboard 28 = .ok (.ior, 1) := by decide +kernel
theorem dX11_aboard_29 : decode cX11_aboard 29 = .ok (.istore_n 2, 1) := by decide +kernel
theorem dX11_aboard_30 : decode cX11_aboard 30 = .ok (.iinc 3 1, 3) := by decide +kernel
theorem dX11_aboard_33 : decode cX11_aboard 33 = .ok (.goto (-29), 3) := by decide +kernel
theorem dX11_aboard_36 : decode cX11_aboard 36 = .ok (.iload_n 2, 1) := by decide +kernel
theorem dX11_aboard_37 : decode cX11_aboard 37 = .ok (.ireturn, 1) := by decide +kernel
theorem dX11_bits_0 : decode cX11_bits 0 = .ok (.iconst 0, 1) := by decide +kernel
theorem dX11_bits_1 : decode cX11_bits 1 = .ok (.istore_n 1, 1) := by decide +kernel
theorem dX11_bits_2 : decode cX11_bits 2 = .ok (.iload_n 0, 1) := by decide +kernel
theorem dX11_bits_3 : decode cX11_bits 3 = .ok (.istore_n 2, 1) := by decide +kernel
theorem dX11_bits_4 : decode cX11_bits 4 = .ok (.iload_n 2, 1) := by decide +kernel
theorem dX11_bits_5 : decode cX11_bits 5 = .ok (.ifCond .le 16, 3) := by decide +kernel
theorem dX11_bits_8 : decode cX11_bits 8 = .ok (.iload_n 1, 1) := by decide +kernel
theorem dX11_bits_9 : decode cX11_bits 9 = .ok (.iload_n 2, 1) := by decide +kernel
theorem dX11_bits_10 : decode cX11_bits 10 = .ok (.iconst 1, 1) := by decide +kernel
theorem dX11_bits_11 : decode cX11_bits 11 = .ok (.iand, 1) := by decide +kernel
theorem dX11_bits_12 : decode cX11_bits 12 = .ok (.iadd, 1) := by decide +kernel
theorem dX11_bits_13 : decode cX11_bits 13 = .ok (.istore_n 1, 1) := by decide +kernel
theorem dX11_bits_14 : decode cX11_bits 14 = .ok (.iload_n 2, 1) := by decide +kernel
theorem dX11_bits_15 : decode cX11_bits 15 = .ok (.iconst 1, 1) := by decide +kernel
theorem dX11_bits_16 : decode cX11_bits 16 = .ok (.ishr, 1) := by decide +kernel
theorem dX11_bits_17 : decode cX11_bits 17 = .ok (.istore_n 2, 1) := by decide +kernel
theorem dX11_bits_18 : decode cX11_bits 18 = .ok (.goto (-14), 3) := by decide +kernel
theorem dX11_bits_21 : decode cX11_bits 21 = .ok (.iload_n 1, 1) := by decide +kernel
theorem dX11_bits_22 : decode cX11_bits 22 = .ok (.ireturn, 1) := by decide +kernel
theorem dX11_sails_0 : decode cX11_sails 0 = .ok (.aload_n 0, 1) := by decide +kernel
theorem dX11_sails_1 : decode cX11_sails 1 = .ok (.iload_n 1, 1) := by decide +kernel
theorem dX11_sails_2 : decode cX11_sails 2 = .ok (.invokevirtual 74, 3) := by decide +kernel
theorem dX11_sails_5 : decode cX11_sails 5 = .ok (.istore_n 2, 1) := by decide +kernel
theorem dX11_sails_6 : decode cX11_sails 6 = .ok (.iconst 0, 1) := by decide +kernel
theorem dX11_sails_7 : decode cX11_sails 7 = .ok (.istore_n 3, 1) := by decide +kernel
theorem dX11_sails_8 : decode cX11_sails 8 = .ok (.iload_n 3, 1) := by decide +kernel
theorem dX11_sails_9 : decode cX11_sails 9 = .ok (.aload_n 0, 1) := by decide +kernel
theorem dX11_sails_10 : decode cX11_sails 10 = .ok (.getfield 9, 3) := by decide +kernel
theorem dX11_sails_13 : decode cX11_sails 13 = .ok (.iconst 1, 1) := by decide +kernel
theorem dX11_sails_14 : decode cX11_sails 14 = .ok (.iaload, 1) := by decide +kernel
theorem dX11_sails_15 : decode cX11_sails 15 = .ok (.if_icmp .ge 38, 3) := by decide +kernel
theorem dX11_sails_18 : decode cX11_sails 18 = .ok (.iload_n 2, 1) := by decide +kernel
theorem dX11_sails_19 : decode cX11_sails 19 = .ok (.iload_n 3, 1) := by decide +kernel
theorem dX11_sails_20 : decode cX11_sails 20 = .ok (.ishr, 1) := by decide +kernel
theorem dX11_sails_21 : decode cX11_sails 21 = .ok (.iconst 1, 1) := by decide +kernel
theorem dX11_sails_22 : decode cX11_sails 22 = .ok (.iand, 1) := by decide +kernel
theorem dX11_sails_23 : decode cX11_sails 23 = .ok (.iconst 1, 1) := by decide +kernel
theorem dX11_sails_24 : decode cX11_sails 24 = .ok (.if_icmp .ne 23, 3) := by decide +kernel
theorem dX11_sails_27 : decode cX11_sails 27 = .ok (.aload_n 0, 1) := by decide +kernel
theorem dX11_sails_28 : decode cX11_sails 28 = .ok (.iload_n 3, 1) := by decide +kernel
theorem dX11_sails_29 : decode cX11_sails 29 = .ok (.iconst 4, 1) := by decide +kernel
theorem dX11_sails_30 : decode cX11_sails 30 = .ok (.aload_n 0, 1) := by decide +kernel
theorem dX11_sails_31 : decode cX11_sails 31 = .ok (.iload_n 3, 1) := by decide +kernel
theorem dX11_sails_32 : decode cX11_sails 32 = .ok (.iconst 4, 1) := by decide +kernel
theorem dX11_sails_33 : decode cX11_sails 33 = .ok (.invokevirtual 67, 3) := by decide +kernel
theorem dX11_sails_36 : decode cX11_sails 36 = .ok (.iload_n 2, 1) := by decide +kernel
theorem dX11_sails_37 : decode cX11_sails 37 = .ok (.iconst 1, 1) := by decide +kernel
theorem dX11_sails_38 : decode cX11_sails 38 = .ok (.iload_n 3, 1) := by decide +kernel
theorem dX11_sails_39 : decode cX11_sails 39 = .ok (.ishl, 1) := by decide +kernel
theorem dX11_sails_40 : decode cX11_sails 40 = .ok (.iconst (-1), 1) := by decide +kernel
theorem dX11_sails_41 : decode cX11_sails 41 = .ok (.ixor, 1) := by decide +kernel
theorem dX11_sails_42 : decode cX11_sails 42 = .ok (.iand, 1) := by decide +kernel
theorem dX11_sails_43 : decode cX11_sails 43 = .ok (.ior, 1) := by decide +kernel
theorem dX11_sails_44 : decode cX11_sails 44 = .ok (.invokevirtual 100, 3) := by decide +kernel
theorem dX11_sails_47 : decode cX11_sails 47 = .ok (.iinc 3 1, 3) := by decide +kernel
theorem dX11_sails_50 : decode cX11_sails 50 = .ok (.goto (-42), 3) := by decide +kernel
theorem dX11_sails_53 : decode cX11_sails 53 = .ok (.return_, 1) := by decide +kernel
theorem dX11_never_0 : decode cX11_never 0 = .ok (.iconst 0, 1) := by decide +kernel
theorem dX11_never_1 : decode cX11_never 1 = .ok (.istore_n 1, 1) := by decide +kernel
theorem dX11_never_2 : decode cX11_never 2 = .ok (.iconst 0, 1) := by decide +kernel
theorem dX11_never_3 : decode cX11_never 3 = .ok (.istore_n 2, 1) := by decide +kernel
theorem dX11_never_4 : decode cX11_never 4 = .ok (.iload_n 2, 1) := by decide +kernel
theorem dX11_never_5 : decode cX11_never 5 = .ok (.aload_n 0, 1) := by decide +kernel
theorem dX11_never_6 : decode cX11_never 6 = .ok (.getfield 9, 3) := by decide +kernel
theorem dX11_never_9 : decode cX11_never 9 = .ok (.iconst 1, 1) := by decide +kernel
theorem dX11_never_10 : decode cX11_never 10 = .ok (.iaload, 1) := by decide +kernel
theorem dX11_never_11 : decode cX11_never 11 = .ok (.if_icmp .ge 44, 3) := by decide +kernel
theorem dX11_never_14 : decode cX11_never 14 = .ok (.iload_n 2, 1) := by decide +kernel
theorem dX11_never_15 : decode cX11_never 15 = .ok (.iconst 1, 1) := by decide +kernel
theorem dX11_never_16 : decode cX11_never 16 = .ok (.iadd, 1) := by decide +kernel
theorem dX11_never_17 : decode cX11_never 17 = .ok (.istore_n 3, 1) := by decide +kernel
theorem dX11_never_18 : decode cX11_never 18 = .ok (.iload_n 3, 1) := by decide +kernel
theorem dX11_never_19 : decode cX11_never 19 = .ok (.aload_n 0, 1) := by decide +kernel
theorem dX11_never_20 : decode cX11_never 20 = .ok (.getfield 9, 3) := by decide +kernel
theorem dX11_never_23 : decode cX11_never 23 = .ok (.iconst 1, 1) := by decide +kernel
theorem dX11_never_24 : decode cX11_never 24 = .ok (.iaload, 1) := by decide +kernel
theorem dX11_never_25 : decode cX11_never 25 = .ok (.if_icmp .ge 24, 3) := by decide +kernel
theorem dX11_never_28 : decode cX11_never 28 = .ok (.iload_n 1, 1) := by decide +kernel
theorem dX11_never_29 : decode cX11_never 29 = .ok (.iconst 1, 1) := by decide +kernel
theorem dX11_never_30 : decode cX11_never 30 = .ok (.aload_n 0, 1) := by decide +kernel
theorem dX11_never_31 : decode cX11_never 31 = .ok (.iload_n 2, 1) := by decide +kernel
theorem dX11_never_32 : decode cX11_never 32 = .ok (.iconst 4, 1) := by decide +kernel
theorem dX11_never_33 : decode cX11_never 33 = .ok (.invokevirtual 67, 3) := by decide +kernel
theorem dX11_never_36 : decode cX11_never 36 = .ok (.iload_n 3, 1) := by decide +kernel
theorem dX11_never_37 : decode cX11_never 37 = .ok (.ishr, 1) := by decide +kernel
theorem dX11_never_38 : decode cX11_never 38 = .ok (.iconst 1, 1) := by decide +kernel
theorem dX11_never_39 : decode cX11_never 39 = .ok (.iand, 1) := by decide +kernel
theorem dX11_never_40 : decode cX11_never 40 = .ok (.isub, 1) := by decide +kernel
theorem dX11_never_41 : decode cX11_never 41 = .ok (.iadd, 1) := by decide +kernel
theorem dX11_never_42 : decode cX11_never 42 = .ok (.istore_n 1, 1) := by decide +kernel
theorem dX11_never_43 : decode cX11_never 43 = .ok (.iinc 3 1, 3) := by decide +kernel
theorem dX11_never_46 : decode cX11_never 46 = .ok (.goto (-28), 3) := by decide +kernel
theorem dX11_never_49 : decode cX11_never 49 = .ok (.iinc 2 1, 3) := by decide +kernel
theorem dX11_never_52 : decode cX11_never 52 = .ok (.goto (-48), 3) := by decide +kernel
theorem dX11_never_55 : decode cX11_never 55 = .ok (.iload_n 1, 1) := by decide +kernel
theorem dX11_never_56 : decode cX11_never 56 = .ok (.ireturn, 1) := by decide +kernel
theorem ffX2_39_2 : ah_F "ShipsThatMeet$Fleet" 39 2 0 := ⟨_, _, _, "ShipsThatMeet$Fleet", rfl, by decide, inX2, q_108, Or.inl rfl⟩
theorem fwX2_39_2 : ah_W "ShipsThatMeet$Fleet" 39 2 0 .int false := ⟨_, _, _, tyX2, rfl, by decide, inX2, q_108, tyX2_ok, nmX2, rfl, (fun h => by cases h), by decide +kernel⟩
theorem ffX2_43_2 : ah_F "ShipsThatMeet$Fleet" 43 2 1 := ⟨_, _, _, "ShipsThatMeet$Fleet", rfl, by decide, inX2, q_110, Or.inl rfl⟩
theorem fwX2_43_2 : ah_W "ShipsThatMeet$Fleet" 43 2 1 .int false := ⟨_, _, _, tyX2, rfl, by decide, inX2, q_110, tyX2_ok, nmX2, rfl, (fun h => by cases h), by decide +kernel⟩
theorem ffX2_46_2 : ah_F "ShipsThatMeet$Fleet" 46 2 2 := ⟨_, _, _, "ShipsThatMeet$Fleet", rfl, by decide, inX2, q_112, Or.inl rfl⟩
theorem fwX2_46_2 : ah_W "ShipsThatMeet$Fleet" 46 2 2 .int false := ⟨_, _, _, tyX2, rfl, by decide, inX2, q_112, tyX2_ok, nmX2, rfl, (fun h => by cases h), by decide +kernel⟩
theorem ffX2_24_2 : ah_F "ShipsThatMeet$Fleet" 24 2 5 := ⟨_, _, _, "ShipsThatMeet$Fleet", rfl, by decide, inX2, q_118, Or.inl rfl⟩
theorem ffX2_27_2 : ah_F "ShipsThatMeet$Fleet" 27 2 6 := ⟨_, _, _, "ShipsThatMeet$Fleet", rfl, by decide, inX2, q_120, Or.inl rfl⟩
theorem ffX2_30_2 : ah_F "ShipsThatMeet$Fleet" 30 2 7 := ⟨_, _, _, "ShipsThatMeet$Fleet", rfl, by decide, inX2, q_123, Or.inl rfl⟩
theorem ffX2_33_2 : ah_F "ShipsThatMeet$Fleet" 33 2 8 := ⟨_, _, _, "ShipsThatMeet$Fleet", rfl, by decide, inX2, q_126, Or.inl rfl⟩
theorem ffX2_36_2 : ah_F "ShipsThatMeet$Fleet" 36 2 9 := ⟨_, _, _, "ShipsThatMeet$Fleet", rfl, by decide, inX2, q_130, Or.inl rfl⟩
theorem ffX2_11_2 : ah_F "ShipsThatMeet$Fleet" 11 2 3 := ⟨_, _, _, "ShipsThatMeet$Fleet", rfl, by decide, inX2, q_114, Or.inl rfl⟩
theorem ffX2_20_2 : ah_F "ShipsThatMeet$Fleet" 20 2 4 := ⟨_, _, _, "ShipsThatMeet$Fleet", rfl, by decide, inX2, q_116, Or.inl rfl⟩
theorem fwX7_9_7 : ah_W "ShipsThatMeet$Shelf" 9 7 0 (.object "ShipsThatMeet$Captain") false := ⟨_, _, _, tyX7, rfl, by decide, inX7, q_161, tyX7_ok, nmX7, rfl, (fun h => by cases h), by decide +kernel⟩
theorem fwX7_15_7 : ah_W "ShipsThatMeet$Shelf" 15 7 1 .int false := ⟨_, _, _, tyX7, rfl, by decide, inX7, q_163, tyX7_ok, nmX7, rfl, (fun h => by cases h), by decide +kernel⟩
theorem fwX7_19_7 : ah_W "ShipsThatMeet$Shelf" 19 7 2 .int false := ⟨_, _, _, tyX7, rfl, by decide, inX7, q_165, tyX7_ok, nmX7, rfl, (fun h => by cases h), by decide +kernel⟩
theorem ffX7_9_7 : ah_F "ShipsThatMeet$Shelf" 9 7 0 := ⟨_, _, _, "ShipsThatMeet$Shelf", rfl, by decide, inX7, q_161, Or.inl rfl⟩
theorem ffX7_15_7 : ah_F "ShipsThatMeet$Shelf" 15 7 1 := ⟨_, _, _, "ShipsThatMeet$Shelf", rfl, by decide, inX7, q_163, Or.inl rfl⟩
theorem ffX7_22_7 : ah_F "ShipsThatMeet$Shelf" 22 7 3 := ⟨_, _, _, "ShipsThatMeet$Shelf", rfl, by decide, inX7, q_167, Or.inl rfl⟩
theorem ffX7_19_7 : ah_F "ShipsThatMeet$Shelf" 19 7 2 := ⟨_, _, _, "ShipsThatMeet$Shelf", rfl, by decide, inX7, q_165, Or.inl rfl⟩
theorem ffX10_10_10 : ah_F "ShipsThatMeet" 10 10 0 := ⟨_, _, _, "ShipsThatMeet", rfl, by decide, inX10, q_180, Or.inl rfl⟩
theorem ffX10_76_2 : ah_F "ShipsThatMeet" 76 2 3 := ⟨_, _, _, "ShipsThatMeet$Fleet", rfl, by decide, inX2, q_115, Or.inl rfl⟩
theorem ffX10_80_0 : ah_F "ShipsThatMeet" 80 0 0 := ⟨_, _, _, "ShipsThatMeet$Captain", rfl, by decide, inX0, q_92, Or.inl rfl⟩
theorem ffX10_80_1 : ah_F "ShipsThatMeet" 80 1 0 := ⟨_, _, _, "ShipsThatMeet$Captain", rfl, by decide, inX1, q_92, Or.inl rfl⟩
theorem ffX10_80_3 : ah_F "ShipsThatMeet" 80 3 0 := ⟨_, _, _, "ShipsThatMeet$Captain", rfl, by decide, inX3, q_92, Or.inl rfl⟩
theorem ffX10_80_4 : ah_F "ShipsThatMeet" 80 4 0 := ⟨_, _, _, "ShipsThatMeet$Captain", rfl, by decide, inX4, q_92, Or.inl rfl⟩
theorem ffX10_80_5 : ah_F "ShipsThatMeet" 80 5 0 := ⟨_, _, _, "ShipsThatMeet$Captain", rfl, by decide, inX5, q_92, Or.inl rfl⟩
theorem ffX10_80_6 : ah_F "ShipsThatMeet" 80 6 0 := ⟨_, _, _, "ShipsThatMeet$Captain", rfl, by decide, inX6, q_92, Or.inl rfl⟩
theorem ffX10_80_8 : ah_F "ShipsThatMeet" 80 8 0 := ⟨_, _, _, "ShipsThatMeet$Captain", rfl, by decide, inX8, q_92, Or.inl rfl⟩
theorem ffX10_80_9 : ah_F "ShipsThatMeet" 80 9 0 := ⟨_, _, _, "ShipsThatMeet$Captain", rfl, by decide, inX9, q_92, Or.inl rfl⟩
theorem ffX10_80_c : ∀ ci, ah_cap ci = true → ah_F "ShipsThatMeet" 80 ci 0 := fun ci h => by
  rcases ah_caps h with rfl | rfl | rfl | rfl | rfl | rfl | rfl | rfl
  · exact ffX10_80_0
  · exact ffX10_80_1
  · exact ffX10_80_3
  · exact ffX10_80_4
  · exact ffX10_80_5
  · exact ffX10_80_6
  · exact ffX10_80_8
  · exact ffX10_80_9
theorem ffX10_85_0 : ah_F "ShipsThatMeet" 85 0 1 := ⟨_, _, _, "ShipsThatMeet$Captain", rfl, by decide, inX0, q_102, Or.inl rfl⟩
theorem ffX10_85_1 : ah_F "ShipsThatMeet" 85 1 1 := ⟨_, _, _, "ShipsThatMeet$Captain", rfl, by decide, inX1, q_102, Or.inl rfl⟩
theorem ffX10_85_3 : ah_F "ShipsThatMeet" 85 3 1 := ⟨_, _, _, "ShipsThatMeet$Captain", rfl, by decide, inX3, q_102, Or.inl rfl⟩
theorem ffX10_85_4 : ah_F "ShipsThatMeet" 85 4 1 := ⟨_, _, _, "ShipsThatMeet$Captain", rfl, by decide, inX4, q_102, Or.inl rfl⟩
theorem ffX10_85_5 : ah_F "ShipsThatMeet" 85 5 1 := ⟨_, _, _, "ShipsThatMeet$Captain", rfl, by decide, inX5, q_102, Or.inl rfl⟩
theorem ffX10_85_6 : ah_F "ShipsThatMeet" 85 6 1 := ⟨_, _, _, "ShipsThatMeet$Captain", rfl, by decide, inX6, q_102, Or.inl rfl⟩
theorem ffX10_85_8 : ah_F "ShipsThatMeet" 85 8 1 := ⟨_, _, _, "ShipsThatMeet$Captain", rfl, by decide, inX8, q_102, Or.inl rfl⟩
theorem ffX10_85_9 : ah_F "ShipsThatMeet" 85 9 1 := ⟨_, _, _, "ShipsThatMeet$Captain", rfl, by decide, inX9, q_102, Or.inl rfl⟩
theorem ffX10_85_c : ∀ ci, ah_cap ci = true → ah_F "ShipsThatMeet" 85 ci 1 := fun ci h => by
  rcases ah_caps h with rfl | rfl | rfl | rfl | rfl | rfl | rfl | rfl
  · exact ffX10_85_0
  · exact ffX10_85_1
  · exact ffX10_85_3
  · exact ffX10_85_4
  · exact ffX10_85_5
  · exact ffX10_85_6
  · exact ffX10_85_8
  · exact ffX10_85_9
theorem ffX10_88_2 : ah_F "ShipsThatMeet" 88 2 4 := ⟨_, _, _, "ShipsThatMeet$Fleet", rfl, by decide, inX2, q_117, Or.inl rfl⟩
theorem ffX10_102_2 : ah_F "ShipsThatMeet" 102 2 5 := ⟨_, _, _, "ShipsThatMeet$Fleet", rfl, by decide, inX2, q_119, Or.inl rfl⟩
theorem ffX10_105_2 : ah_F "ShipsThatMeet" 105 2 6 := ⟨_, _, _, "ShipsThatMeet$Fleet", rfl, by decide, inX2, q_122, Or.inl rfl⟩
theorem ffX10_108_2 : ah_F "ShipsThatMeet" 108 2 7 := ⟨_, _, _, "ShipsThatMeet$Fleet", rfl, by decide, inX2, q_125, Or.inl rfl⟩
theorem ffX10_111_2 : ah_F "ShipsThatMeet" 111 2 8 := ⟨_, _, _, "ShipsThatMeet$Fleet", rfl, by decide, inX2, q_129, Or.inl rfl⟩
theorem ffX10_179_2 : ah_F "ShipsThatMeet" 179 2 9 := ⟨_, _, _, "ShipsThatMeet$Fleet", rfl, by decide, inX2, q_131, Or.inl rfl⟩
theorem ffX10_182_2 : ah_F "ShipsThatMeet" 182 2 1 := ⟨_, _, _, "ShipsThatMeet$Fleet", rfl, by decide, inX2, q_111, Or.inl rfl⟩
theorem ffX10_188_2 : ah_F "ShipsThatMeet" 188 2 0 := ⟨_, _, _, "ShipsThatMeet$Fleet", rfl, by decide, inX2, q_109, Or.inl rfl⟩
theorem ffX10_16_10 : ah_F "ShipsThatMeet" 16 10 1 := ⟨_, _, _, "ShipsThatMeet", rfl, by decide, inX10, q_181, Or.inl rfl⟩
theorem ffX10_19_10 : ah_F "ShipsThatMeet" 19 10 2 := ⟨_, _, _, "ShipsThatMeet", rfl, by decide, inX10, q_182, Or.inl rfl⟩
theorem fwX10_22_10 : ah_W "ShipsThatMeet" 22 10 3 .boolean false := ⟨_, _, _, tyX10, rfl, by decide, inX10, q_183, tyX10_ok, nmX10, rfl, (fun h => by cases h), by decide +kernel⟩
theorem ffX10_230_2 : ah_F "ShipsThatMeet" 230 2 2 := ⟨_, _, _, "ShipsThatMeet$Fleet", rfl, by decide, inX2, q_113, Or.inl rfl⟩
theorem ffX10_22_10 : ah_F "ShipsThatMeet" 22 10 3 := ⟨_, _, _, "ShipsThatMeet", rfl, by decide, inX10, q_183, Or.inl rfl⟩
theorem ffX10_28_10 : ah_F "ShipsThatMeet" 28 10 4 := ⟨_, _, _, "ShipsThatMeet", rfl, by decide, inX10, q_184, Or.inl rfl⟩
theorem ffX10_117_7 : ah_F "ShipsThatMeet" 117 7 0 := ⟨_, _, _, "ShipsThatMeet$Shelf", rfl, by decide, inX7, q_162, Or.inl rfl⟩
theorem ffX10_275_7 : ah_F "ShipsThatMeet" 275 7 1 := ⟨_, _, _, "ShipsThatMeet$Shelf", rfl, by decide, inX7, q_164, Or.inl rfl⟩
theorem ffX10_58_7 : ah_F "ShipsThatMeet" 58 7 2 := ⟨_, _, _, "ShipsThatMeet$Shelf", rfl, by decide, inX7, q_166, Or.inl rfl⟩
theorem ffX10_38_10 : ah_F "ShipsThatMeet" 38 10 6 := ⟨_, _, _, "ShipsThatMeet", rfl, by decide, inX10, q_186, Or.inl rfl⟩
theorem ffX10_35_10 : ah_F "ShipsThatMeet" 35 10 5 := ⟨_, _, _, "ShipsThatMeet", rfl, by decide, inX10, q_185, Or.inl rfl⟩
theorem ffX11_53_11 : ah_F "ShipsThatMeetModel" 53 11 11 := ⟨_, _, _, "ShipsThatMeetModel", rfl, by decide, inX11, q_897, Or.inl rfl⟩
theorem ffX11_9_11 : ah_F "ShipsThatMeetModel" 9 11 0 := ⟨_, _, _, "ShipsThatMeetModel", rfl, by decide, inX11, q_886, Or.inl rfl⟩
theorem fwX11_111_11 : ah_W "ShipsThatMeetModel" 111 11 12 .int false := ⟨_, _, _, tyX11, rfl, by decide, inX11, q_898, tyX11_ok, nmX11, rfl, (fun h => by cases h), by decide +kernel⟩
theorem fwX11_114_11 : ah_W "ShipsThatMeetModel" 114 11 13 .int false := ⟨_, _, _, tyX11, rfl, by decide, inX11, q_899, tyX11_ok, nmX11, rfl, (fun h => by cases h), by decide +kernel⟩
theorem ffX11_111_11 : ah_F "ShipsThatMeetModel" 111 11 12 := ⟨_, _, _, "ShipsThatMeetModel", rfl, by decide, inX11, q_898, Or.inl rfl⟩
theorem ffX11_114_11 : ah_F "ShipsThatMeetModel" 114 11 13 := ⟨_, _, _, "ShipsThatMeetModel", rfl, by decide, inX11, q_899, Or.inl rfl⟩
theorem ffX11_121_11 : ah_F "ShipsThatMeetModel" 121 11 14 := ⟨_, _, _, "ShipsThatMeetModel", rfl, by decide, inX11, q_900, Or.inl rfl⟩
theorem ffX11_124_11 : ah_F "ShipsThatMeetModel" 124 11 16 := ⟨_, _, _, "ShipsThatMeetModel", rfl, by decide, inX11, q_902, Or.inl rfl⟩
theorem ffX11_31_11 : ah_F "ShipsThatMeetModel" 31 11 7 := ⟨_, _, _, "ShipsThatMeetModel", rfl, by decide, inX11, q_893, Or.inl rfl⟩
theorem ffX11_127_11 : ah_F "ShipsThatMeetModel" 127 11 15 := ⟨_, _, _, "ShipsThatMeetModel", rfl, by decide, inX11, q_901, Or.inl rfl⟩
theorem ffX11_40_11 : ah_F "ShipsThatMeetModel" 40 11 18 := ⟨_, _, _, "ShipsThatMeetModel", rfl, by decide, inX11, q_903, Or.inl rfl⟩
theorem fwX11_121_11 : ah_W "ShipsThatMeetModel" 121 11 14 .int false := ⟨_, _, _, tyX11, rfl, by decide, inX11, q_900, tyX11_ok, nmX11, rfl, (fun h => by cases h), by decide +kernel⟩
theorem ffX11_22_11 : ah_F "ShipsThatMeetModel" 22 11 4 := ⟨_, _, _, "ShipsThatMeetModel", rfl, by decide, inX11, q_890, Or.inl rfl⟩
theorem ffX11_25_11 : ah_F "ShipsThatMeetModel" 25 11 5 := ⟨_, _, _, "ShipsThatMeetModel", rfl, by decide, inX11, q_891, Or.inl rfl⟩
theorem fwX11_127_11 : ah_W "ShipsThatMeetModel" 127 11 15 .int false := ⟨_, _, _, tyX11, rfl, by decide, inX11, q_901, tyX11_ok, nmX11, rfl, (fun h => by cases h), by decide +kernel⟩
theorem ffX11_28_11 : ah_F "ShipsThatMeetModel" 28 11 6 := ⟨_, _, _, "ShipsThatMeetModel", rfl, by decide, inX11, q_892, Or.inl rfl⟩
theorem fwX11_124_11 : ah_W "ShipsThatMeetModel" 124 11 16 .int false := ⟨_, _, _, tyX11, rfl, by decide, inX11, q_902, tyX11_ok, nmX11, rfl, (fun h => by cases h), by decide +kernel⟩
theorem ffX11_16_11 : ah_F "ShipsThatMeetModel" 16 11 2 := ⟨_, _, _, "ShipsThatMeetModel", rfl, by decide, inX11, q_888, Or.inl rfl⟩
theorem ffX11_34_11 : ah_F "ShipsThatMeetModel" 34 11 8 := ⟨_, _, _, "ShipsThatMeetModel", rfl, by decide, inX11, q_894, Or.inl rfl⟩
theorem ffX11_37_11 : ah_F "ShipsThatMeetModel" 37 11 9 := ⟨_, _, _, "ShipsThatMeetModel", rfl, by decide, inX11, q_895, Or.inl rfl⟩
theorem ffX11_19_11 : ah_F "ShipsThatMeetModel" 19 11 3 := ⟨_, _, _, "ShipsThatMeetModel", rfl, by decide, inX11, q_889, Or.inl rfl⟩
theorem ffX11_43_11 : ah_F "ShipsThatMeetModel" 43 11 19 := ⟨_, _, _, "ShipsThatMeetModel", rfl, by decide, inX11, q_904, Or.inl rfl⟩
theorem ffX11_47_11 : ah_F "ShipsThatMeetModel" 47 11 20 := ⟨_, _, _, "ShipsThatMeetModel", rfl, by decide, inX11, q_905, Or.inl rfl⟩
theorem ffX11_50_11 : ah_F "ShipsThatMeetModel" 50 11 22 := ⟨_, _, _, "ShipsThatMeetModel", rfl, by decide, inX11, q_907, Or.inl rfl⟩
theorem fwX11_212_11 : ah_W "ShipsThatMeetModel" 212 11 21 .int false := ⟨_, _, _, tyX11, rfl, by decide, inX11, q_906, tyX11_ok, nmX11, rfl, (fun h => by cases h), by decide +kernel⟩
theorem ffX11_226_11 : ah_F "ShipsThatMeetModel" 226 11 23 := ⟨_, _, _, "ShipsThatMeetModel", rfl, by decide, inX11, q_908, Or.inl rfl⟩
theorem fwX11_226_11 : ah_W "ShipsThatMeetModel" 226 11 23 .int false := ⟨_, _, _, tyX11, rfl, by decide, inX11, q_908, tyX11_ok, nmX11, rfl, (fun h => by cases h), by decide +kernel⟩
theorem ffX11_13_11 : ah_F "ShipsThatMeetModel" 13 11 1 := ⟨_, _, _, "ShipsThatMeetModel", rfl, by decide, inX11, q_887, Or.inl rfl⟩
theorem fwX11_240_11 : ah_W "ShipsThatMeetModel" 240 11 10 .boolean false := ⟨_, _, _, tyX11, rfl, by decide, inX11, q_896, tyX11_ok, nmX11, rfl, (fun h => by cases h), by decide +kernel⟩
theorem ffX11_240_11 : ah_F "ShipsThatMeetModel" 240 11 10 := ⟨_, _, _, "ShipsThatMeetModel", rfl, by decide, inX11, q_896, Or.inl rfl⟩
theorem fwX11_53_11 : ah_W "ShipsThatMeetModel" 53 11 11 .int false := ⟨_, _, _, tyX11, rfl, by decide, inX11, q_897, tyX11_ok, nmX11, rfl, (fun h => by cases h), by decide +kernel⟩
theorem ffX10_281_7 : ah_F "ShipsThatMeet" 281 7 3 := ⟨_, _, _, "ShipsThatMeet$Shelf", rfl, by decide, inX7, q_168, Or.inl rfl⟩
theorem ffX10_42_10 : ah_F "ShipsThatMeet" 42 10 7 := ⟨_, _, _, "ShipsThatMeet", rfl, by decide, inX10, q_187, Or.inl rfl⟩
theorem hdX2_isShip : ah_d yX2_isShip 1 := by decide +kernel
theorem hdX2_areUnlikeShips : ah_d yX2_areUnlikeShips 2 := by decide +kernel
theorem hdX2_canMeet : ah_d yX2_canMeet 2 := by decide +kernel
theorem hdX2_isMan : ah_d yX2_isMan 1 := by decide +kernel
theorem hdX2_isAstray : ah_d yX2_isAstray 2 := by decide +kernel
theorem hdX2_firstAstray : ah_d yX2_firstAstray 1 := by decide +kernel
theorem hdX7_holdNothing : ah_d yX7_holdNothing 0 := by decide +kernel
theorem hdX7_hasPlace : ah_d yX7_hasPlace 1 := by decide +kernel
theorem hdX7_at : ah_d yX7_at 1 := by decide +kernel
theorem hdX2_mixedPairs : ah_d yX2_mixedPairs 0 := by decide +kernel
theorem hdX2_become : ah_d yX2_become 1 := by decide +kernel
theorem hdX2_hasTrade : ah_d yX2_hasTrade 2 := by decide +kernel
theorem hdX2_shipsWithoutMen : ah_d yX2_shipsWithoutMen 0 := by decide +kernel
theorem hdX10_isShelf : ah_d yX10_isShelf 1 := by decide +kernel
theorem hdX7_holdsNothing : ah_d yX7_holdsNothing 0 := by decide +kernel
theorem hdX7_holdsRow : ah_d yX7_holdsRow 0 := by decide +kernel
theorem hdX10_refusalOfRow : ah_d yX10_refusalOfRow 1 := by decide +kernel
theorem hdX10_refusalOfBytes : ah_d yX10_refusalOfBytes 1 := by decide +kernel
theorem hdX7_meetings : ah_d yX7_meetings 0 := by decide +kernel
theorem hdX7_one : ah_d yX7_one 1 := by decide +kernel
theorem hdX7_other : ah_d yX7_other 1 := by decide +kernel
theorem hdX10_refusalOfMeetings : ah_d yX10_refusalOfMeetings 1 := by decide +kernel
theorem hdX10_signsBehind : ah_d yX10_signsBehind 1 := by decide +kernel
theorem hdX10_digit : ah_d yX10_digit 2 := by decide +kernel
theorem hdX10_has : ah_d yX10_has 2 := by decide +kernel
theorem hdX2_astray : ah_d yX2_astray 1 := by decide +kernel
theorem hdX11_isIn : ah_d yX11_isIn 3 := by decide +kernel
theorem hdX11_get : ah_d yX11_get 2 := by decide +kernel
theorem hdX11_likeTongue : ah_d yX11_likeTongue 2 := by decide +kernel
theorem hdX11_aboard : ah_d yX11_aboard 1 := by decide +kernel
theorem hdX11_figure : ah_d yX11_figure 1 := by decide +kernel
theorem hdX11_kind : ah_d yX11_kind 1 := by decide +kernel
theorem hdX11_bits : ah_d yX11_bits 1 := by decide +kernel
theorem hdX11_at : ah_d yX11_at 2 := by decide +kernel
theorem hdX11_bySince : ah_d yX11_bySince 2 := by decide +kernel
theorem hdX11_notOf : ah_d yX11_notOf 2 := by decide +kernel
theorem hdX11_bestOf : ah_d yX11_bestOf 2 := by decide +kernel
theorem hdX11_puts : ah_d yX11_puts 3 := by decide +kernel
theorem hdX11_isShip : ah_d yX11_isShip 1 := by decide +kernel
theorem hdX11_gives : ah_d yX11_gives 1 := by decide +kernel
theorem hdX11_sails : ah_d yX11_sails 1 := by decide +kernel
theorem hdX11_here : ah_d yX11_here 0 := by decide +kernel
theorem hdX11_readsDigits : ah_d yX11_readsDigits 1 := by decide +kernel
theorem hdX11_mayMeet : ah_d yX11_mayMeet 2 := by decide +kernel
theorem hdX11_meets : ah_d yX11_meets 2 := by decide +kernel
theorem hdX11_isShelf : ah_d yX11_isShelf 1 := by decide +kernel
theorem hdX11_wrongRow : ah_d yX11_wrongRow 2 := by decide +kernel
theorem hdX11_readsStatement : ah_d yX11_readsStatement 0 := by decide +kernel
theorem hdX11_copies : ah_d yX11_copies 2 := by decide +kernel
theorem hdX11_comes : ah_d yX11_comes 1 := by decide +kernel
theorem hdX11_isMan : ah_d yX11_isMan 1 := by decide +kernel
theorem hdX11_wrongKept : ah_d yX11_wrongKept 1 := by decide +kernel
theorem hdX11_first : ah_d yX11_first 2 := by decide +kernel
theorem hdX11_second : ah_d yX11_second 2 := by decide +kernel
theorem hdX11_begins : ah_d yX11_begins 0 := by decide +kernel
theorem hdX11_meetings : ah_d yX11_meetings 1 := by decide +kernel
theorem hdX11_ends : ah_d yX11_ends 0 := by decide +kernel
theorem hdX11_meetsTold : ah_d yX11_meetsTold 2 := by decide +kernel
theorem hdX11_wrongMeetings : ah_d yX11_wrongMeetings 1 := by decide +kernel
theorem hdX11_mayBe : ah_d yX11_mayBe 3 := by decide +kernel
theorem hdX11_keeps : ah_d yX11_keeps 1 := by decide +kernel
theorem hdX11_mixedNow : ah_d yX11_mixedNow 0 := by decide +kernel
theorem hdX11_spreads : ah_d yX11_spreads 1 := by decide +kernel
theorem hdX11_drawn : ah_d yX11_drawn 1 := by decide +kernel
theorem hdX11_wrongFour : ah_d yX11_wrongFour 2 := by decide +kernel
theorem hdX11_payBy : ah_d yX11_payBy 2 := by decide +kernel
theorem hdJ6_bitCount_0f7a4 : ah_d yJ6_bitCount_0f7a4 1 := by decide +kernel
theorem hdX10_isKindAndFigure : ah_d yX10_isKindAndFigure 2 := by decide +kernel
theorem hdX2_acquaint : ah_d yX2_acquaint 1 := by decide +kernel
theorem hdX2_bring : ah_d yX2_bring 3 := by decide +kernel
theorem hdJ9_max_7cf53 : ah_d yJ9_max_7cf53 2 := by decide +kernel
theorem hdX10_faultOfForm : ah_d yX10_faultOfForm 1 := by decide +kernel
theorem hdX10_refusalOfCaptain : ah_d yX10_refusalOfCaptain 1 := by decide +kernel
theorem hdX10_refusalOfManAndMeetings : ah_d yX10_refusalOfManAndMeetings 2 := by decide +kernel
theorem hdX10_tellsOfEachMan : ah_d yX10_tellsOfEachMan 1 := by decide +kernel
theorem hdX2_withShipmates : ah_d yX2_withShipmates 1 := by decide +kernel
theorem hdX10_nextSeed : ah_d yX10_nextSeed 1 := by decide +kernel
theorem hdX10_drawBelow : ah_d yX10_drawBelow 2 := by decide +kernel
theorem hdX2_mostAboard : ah_d yX2_mostAboard 0 := by decide +kernel
theorem hdX7_holdRow : ah_d yX7_holdRow 2 := by decide +kernel
theorem hdX7_write : ah_d yX7_write 2 := by decide +kernel
theorem hdX7_hasStretch : ah_d yX7_hasStretch 2 := by decide +kernel
theorem hdX2_takesMan : ah_d yX2_takesMan 3 := by decide +kernel
theorem hdJ9_min_7cf53 : ah_d yJ9_min_7cf53 2 := by decide +kernel
theorem hdX2_isAlone : ah_d yX2_isAlone 1 := by decide +kernel
theorem hdX10_choicesBehind : ah_d yX10_choicesBehind 3 := by decide +kernel
theorem hdX10_spreadChances : ah_d yX10_spreadChances 2 := by decide +kernel
theorem hdX10_fillChances : ah_d yX10_fillChances 2 := by decide +kernel
theorem hdX10_commonDivisor : ah_d yX10_commonDivisor 2 := by decide +kernel
def fX11_isIn (M : ah_h) (x0 : Int64) (x2 : Int64) (x4 : Int64) : Option (Int32) := if (lg_cmp x0 x2) < 0 then (some 0) else (if 0 < (lg_cmp x0 x4) then (some 0) else (some 1))
set_option maxRecDepth 100000 in
set_option maxHeartbeats 4000000 in
theorem ctX11_isIn (l : Launch) (H0 : Heap) (D : va_G) (ca : Nat → ClassId) (M : ah_h) (z : Nat) (x0 : Int64) (x2 : Int64) (x4 : Int64) (Z : Int32) (hf : fX11_isIn M x0 x2 x4 = some Z) : ah_ct l H0 D ca yX11_isIn cX11_isIn 6 (some .boolean) 0 0 0 0 [.long x0, .long x2, .long x4] M z (some (.int Z)) M z := by
  refine ah_of (by decide) (Nat.le_of_ble_eq_true rfl) ?_
  intro p e s m below meth c ls hin K hG hl
  have hL : ah_L H0 [] := ah_L.nil
  have hl : lv_has ls 6 [(0, .long x0), (2, .long x2), (4, .long x4)] := hl
  unfold fX11_isIn at hf
  refine lv_lload_n K.1 K.2.1 dX11_isIn_0 rfl (lv_at hl 0 rfl) ?_
  refine lv_lload_n K.1 K.2.1 dX11_isIn_1 rfl (lv_at hl 1 rfl) ?_
  refine W.lcmp K.1 K.2.1 dX11_isIn_2 ?_
  refine lv_if_lt (tgt := 17) K.1 K.2.1 dX11_isIn_3 (by decide) (fun h1 => ?_) (fun h1 => ?_)
  · rw [if_pos h1] at hf
    refine lv_iconst (v := 0) K.1 K.2.1 dX11_isIn_17 (by decide) ?_
    cases hf
    exact ah_zret K hG hL (by decide) (Nat.le_refl _) (Nat.le_refl _) dX11_isIn_18
  · rw [if_neg h1] at hf
    refine lv_lload_n K.1 K.2.1 dX11_isIn_6 rfl (lv_at hl 0 rfl) ?_
    refine lv_lload K.1 K.2.1 dX11_isIn_7 (lv_at hl 2 rfl) ?_
    refine W.lcmp K.1 K.2.1 dX11_isIn_9 ?_
    refine lv_if_gt (tgt := 17) K.1 K.2.1 dX11_isIn_10 (by decide) (fun h2 => ?_) (fun h2 => ?_)
    · rw [if_pos h2] at hf
      refine lv_iconst (v := 0) K.1 K.2.1 dX11_isIn_17 (by decide) ?_
      cases hf
      exact ah_zret K hG hL (by decide) (Nat.le_refl _) (Nat.le_refl _) dX11_isIn_18
    · rw [if_neg h2] at hf
      refine lv_iconst (v := 1) K.1 K.2.1 dX11_isIn_13 (by decide) ?_
      refine lv_goto (tgt := 18) K.1 K.2.1 dX11_isIn_14 (by decide) ?_
      cases hf
      exact ah_zret K hG hL (by decide) (Nat.le_refl _) (Nat.le_refl _) dX11_isIn_18
def fX11_isShelf (M : ah_h) (x0 : Int32) : Option (Int32) := (fX11_isIn M x0.toInt64 0 7).bind fun v1 => if v1 = 0 ∨ v1 = 1 then some v1 else none
set_option maxRecDepth 100000 in
set_option maxHeartbeats 4000000 in
theorem ctX11_isShelf (l : Launch) (H0 : Heap) (D : va_G) (ca : Nat → ClassId) (M : ah_h) (z : Nat) (x0 : Int32) (Z : Int32) (hf : fX11_isShelf M x0 = some Z) : ah_ct l H0 D ca yX11_isShelf cX11_isShelf 1 (some .boolean) 1 25 0 0 [.int x0] M z (some (.int Z)) M z := by
  refine ah_of (by decide) (Nat.le_of_ble_eq_true rfl) ?_
  intro p e s m below meth c ls hin K hG hl
  have hL : ah_L H0 [] := ah_L.nil
  have hl : lv_has ls 1 [(0, .int x0)] := hl
  unfold fX11_isShelf at hf
  refine lv_iload_n K.1 K.2.1 dX11_isShelf_0 rfl (lv_at hl 0 rfl) ?_
  refine lv_i2l (v := x0.toInt64) K.1 K.2.1 dX11_isShelf_1 rfl ?_
  refine lv_lconst (v := 0) K.1 K.2.1 dX11_isShelf_2 (by decide) ?_
  refine lv_ldc2 (v := 7) K.1 K.2.1 K.2.2.2.1 (K.2.2.2.2.1 _ q_973) dX11_isShelf_3 ?_
  obtain ⟨v1, ev1, hf⟩ := Option.bind_eq_some_iff.mp hf
  refine ah_callS (As := [.long x0.toInt64, .long 0, .long 7]) (rest := []) K hG hL hl.1 (ctX11_isIn l H0 D ca M z x0.toInt64 0 7 v1 ev1) hdX11_isIn q_974 q_975 q_54 q_976 ⟨Nat.le_of_ble_eq_true rfl, Nat.le_of_ble_eq_true rfl⟩ rfl rfl (Nat.le_of_ble_eq_true rfl) ⟨Nat.le_refl _, Nat.le_refl _⟩ dX11_isShelf_6 (fun H locs hG hL => ?_)
  by_cases h2 : v1 = 0 ∨ v1 = 1
  case neg => rw [if_neg h2] at hf; cases hf
  rw [if_pos h2] at hf
  cases hf
  exact ah_zret K hG hL h2 (Nat.le_refl _) (Nat.le_refl _) dX11_isShelf_9
def fX11_isShip (M : ah_h) (a0 : Nat) (x1 : Int32) : Option (Int32) := (ah_ob M a0 11).bind fun _ => (ah_gr M a0 11 0).bind fun v1 => (ah_ai M v1 0).bind fun v2 => (fX11_isIn M x1.toInt64 0 ((v2 - 1).toInt64)).bind fun v3 => if v3 = 0 ∨ v3 = 1 then some v3 else none
set_option maxRecDepth 100000 in
set_option maxHeartbeats 4000000 in
theorem ctX11_isShip (l : Launch) (H0 : Heap) (D : va_G) (ca : Nat → ClassId) (M : ah_h) (z : Nat) (a0 : Nat) (x1 : Int32) (Z : Int32) (hf : fX11_isShip M a0 x1 = some Z) : ah_ct l H0 D ca yX11_isShip cX11_isShip 2 (some .boolean) 1 25 0 0 [.ref a0, .int x1] M z (some (.int Z)) M z := by
  refine ah_of (by decide) (Nat.le_of_ble_eq_true rfl) ?_
  intro p e s m below meth c ls hin K hG hl
  have hL : ah_L H0 [] := ah_L.nil
  have hl : lv_has ls 2 [(0, .ref a0), (1, .int x1)] := hl
  unfold fX11_isShip at hf
  obtain ⟨-, -, hf⟩ := Option.bind_eq_some_iff.mp hf
  refine lv_iload_n K.1 K.2.1 dX11_isShip_0 rfl (lv_at hl 1 rfl) ?_
  refine lv_i2l (v := x1.toInt64) K.1 K.2.1 dX11_isShip_1 rfl ?_
  refine lv_lconst (v := 0) K.1 K.2.1 dX11_isShip_2 (by decide) ?_
  refine lv_aload_n K.1 K.2.1 dX11_isShip_3 rfl (lv_at hl 0 rfl) ?_
  obtain ⟨v1, ev1, hf⟩ := Option.bind_eq_some_iff.mp hf
  refine ah_getr K hG ev1 ffX11_9_11 dX11_isShip_4 ?_
  refine lv_iconst (v := 0) K.1 K.2.1 dX11_isShip_7 (by decide) ?_
  obtain ⟨v2, ev2, hf⟩ := Option.bind_eq_some_iff.mp hf
  refine ah_iald K hG ev2 dX11_isShip_8 ?_
  refine lv_iconst (v := 1) K.1 K.2.1 dX11_isShip_9 (by decide) ?_
  refine lv_isub K.1 K.2.1 dX11_isShip_10 ?_
  refine lv_i2l (v := (v2 - 1).toInt64) K.1 K.2.1 dX11_isShip_11 rfl ?_
  obtain ⟨v3, ev3, hf⟩ := Option.bind_eq_some_iff.mp hf
  refine ah_callS (As := [.long x1.toInt64, .long 0, .long ((v2 - 1).toInt64)]) (rest := []) K hG hL hl.1 (ctX11_isIn l H0 D ca M z x1.toInt64 0 ((v2 - 1).toInt64) v3 ev3) hdX11_isIn q_974 q_975 q_54 q_976 ⟨Nat.le_of_ble_eq_true rfl, Nat.le_of_ble_eq_true rfl⟩ rfl rfl (Nat.le_of_ble_eq_true rfl) ⟨Nat.le_refl _, Nat.le_refl _⟩ dX11_isShip_12 (fun H locs hG hL => ?_)
  by_cases h4 : v3 = 0 ∨ v3 = 1
  case neg => rw [if_neg h4] at hf; cases hf
  rw [if_pos h4] at hf
  cases hf
  exact ah_zret K hG hL h4 (Nat.le_refl _) (Nat.le_refl _) dX11_isShip_15
def fX11_get (M : ah_h) (a0 : Nat) (x1 : Int32) (x2 : Int32) : Option (Int32) := (ah_ob M a0 11).bind fun _ => (ah_gr M a0 11 0).bind fun v1 => (ah_ai M v1 ((13 + (5 * x1)) + x2)).bind fun v2 => some v2
set_option maxRecDepth 100000 in
set_option maxHeartbeats 4000000 in
theorem ctX11_get (l : Launch) (H0 : Heap) (D : va_G) (ca : Nat → ClassId) (M : ah_h) (z : Nat) (a0 : Nat) (x1 : Int32) (x2 : Int32) (Z : Int32) (hf : fX11_get M a0 x1 x2 = some Z) : ah_ct l H0 D ca yX11_get cX11_get 3 (some .int) 0 0 0 0 [.ref a0, .int x1, .int x2] M z (some (.int Z)) M z := by
  refine ah_of (by decide) (Nat.le_of_ble_eq_true rfl) ?_
  intro p e s m below meth c ls hin K hG hl
  have hL : ah_L H0 [] := ah_L.nil
  have hl : lv_has ls 3 [(0, .ref a0), (1, .int x1), (2, .int x2)] := hl
  unfold fX11_get at hf
  obtain ⟨-, -, hf⟩ := Option.bind_eq_some_iff.mp hf
  refine lv_aload_n K.1 K.2.1 dX11_get_0 rfl (lv_at hl 0 rfl) ?_
  obtain ⟨v1, ev1, hf⟩ := Option.bind_eq_some_iff.mp hf
  refine ah_getr K hG ev1 ffX11_9_11 dX11_get_1 ?_
  refine lv_bipush (v := 13) K.1 K.2.1 dX11_get_4 (by decide) ?_
  refine lv_iconst (v := 5) K.1 K.2.1 dX11_get_6 (by decide) ?_
  refine lv_iload_n K.1 K.2.1 dX11_get_7 rfl (lv_at hl 1 rfl) ?_
  refine lv_imul K.1 K.2.1 dX11_get_8 ?_
  refine lv_iadd K.1 K.2.1 dX11_get_9 ?_
  refine lv_iload_n K.1 K.2.1 dX11_get_10 rfl (lv_at hl 2 rfl) ?_
  refine lv_iadd K.1 K.2.1 dX11_get_11 ?_
  obtain ⟨v2, ev2, hf⟩ := Option.bind_eq_some_iff.mp hf
  refine ah_iald K hG ev2 dX11_get_12 ?_
  cases hf
  exact ah_iret K hG hL (Nat.le_refl _) (Nat.le_refl _) dX11_get_13
def fX11_puts (M : ah_h) (a0 : Nat) (x1 : Int32) (x2 : Int32) (x3 : Int32) : Option (ah_h) := (ah_ob M a0 11).bind fun _ => (ah_gr M a0 11 0).bind fun v1 => (ah_si M v1 ((13 + (5 * x1)) + x2) x3).bind fun M2 => some M2
set_option maxRecDepth 100000 in
set_option maxHeartbeats 4000000 in
theorem ctX11_puts (l : Launch) (H0 : Heap) (D : va_G) (ca : Nat → ClassId) (M : ah_h) (z : Nat) (a0 : Nat) (x1 : Int32) (x2 : Int32) (x3 : Int32) (Z : ah_h) (hf : fX11_puts M a0 x1 x2 x3 = some Z) : ah_ct l H0 D ca yX11_puts cX11_puts 4 none 0 0 0 0 [.ref a0, .int x1, .int x2, .int x3] M z none Z z := by
  refine ah_of (by decide) (Nat.le_of_ble_eq_true rfl) ?_
  intro p e s m below meth c ls hin K hG hl
  have hL : ah_L H0 [] := ah_L.nil
  have hl : lv_has ls 4 [(0, .ref a0), (1, .int x1), (2, .int x2), (3, .int x3)] := hl
  unfold fX11_puts at hf
  obtain ⟨-, -, hf⟩ := Option.bind_eq_some_iff.mp hf
  refine lv_aload_n K.1 K.2.1 dX11_puts_0 rfl (lv_at hl 0 rfl) ?_
  obtain ⟨v1, ev1, hf⟩ := Option.bind_eq_some_iff.mp hf
  refine ah_getr K hG ev1 ffX11_9_11 dX11_puts_1 ?_
  refine lv_bipush (v := 13) K.1 K.2.1 dX11_puts_4 (by decide) ?_
  refine lv_iconst (v := 5) K.1 K.2.1 dX11_puts_6 (by decide) ?_
  refine lv_iload_n K.1 K.2.1 dX11_puts_7 rfl (lv_at hl 1 rfl) ?_
  refine lv_imul K.1 K.2.1 dX11_puts_8 ?_
  refine lv_iadd K.1 K.2.1 dX11_puts_9 ?_
  refine lv_iload_n K.1 K.2.1 dX11_puts_10 rfl (lv_at hl 2 rfl) ?_
  refine lv_iadd K.1 K.2.1 dX11_puts_11 ?_
  refine lv_iload_n K.1 K.2.1 dX11_puts_12 rfl (lv_at hl 3 rfl) ?_
  obtain ⟨M2, eM2, hf⟩ := Option.bind_eq_some_iff.mp hf
  refine ah_iast K hG hL eM2 dX11_puts_13 (fun H locs hG hL => ?_)
  cases hf
  exact ah_vret K hG hL (Nat.le_refl _) (Nat.le_refl _) dX11_puts_14
def fX11_aboard_30 (k4 : Nat → Int32 → Int32 → Int32 → Option (Int32)) (M : ah_h) (a0 : Nat) (x1 : Int32) (x2 : Int32) (x3 : Int32) : Option (Int32) := k4 a0 x1 x2 (x3 + 1)
set_option maxRecDepth 100000 in
set_option maxHeartbeats 4000000 in
theorem wX11_aboard_30 {p : Program} {l : Launch} {e : Env} {s : State} {m : MethodId} {args : Array Value} {below : List Frame} {meth : Method} {c : Code} {D : va_G} {ca : Nat → ClassId} {H0 : Heap} {M : ah_h} {z : Nat} (K : ah_K p s m args meth c D ca "ShipsThatMeetModel" cX11_aboard 4 (some .int)) (k4 : Nat → Int32 → Int32 → Int32 → Option (Int32)) (hk4 : ∀ (a0 : Nat) (x1 : Int32) (x2 : Int32) (x3 : Int32) (H : Heap) (locs : List Loc) (ls : Array Slot), ah_g H0 D ca M z H → ah_L H0 locs → lv_has ls 4 [(0, .ref a0), (1, .int x1), (2, .int x2), (3, .int x3)] → ∀ Z, k4 a0 x1 x2 x3 = some Z → W p l e { frames := 1, cells := 0, slots := 0, locals := 22 } s m args below meth c H locs 0 0 (ah_Q below args s H0 D ca 0 0 (some (.int Z)) M z) (F0 m 4 ls [])) : ∀ (a0 : Nat) (x1 : Int32) (x2 : Int32) (x3 : Int32) (H : Heap) (locs : List Loc) (ls : Array Slot), ah_g H0 D ca M z H → ah_L H0 locs → lv_has ls 4 [(0, .ref a0), (1, .int x1), (2, .int x2), (3, .int x3)] → ∀ Z, fX11_aboard_30 k4 M a0 x1 x2 x3 = some Z → W p l e { frames := 1, cells := 0, slots := 0, locals := 22 } s m args below meth c H locs 0 0 (ah_Q below args s H0 D ca 0 0 (some (.int Z)) M z) (F0 m 30 ls []) := by
  intro a0 x1 x2 x3 H locs ls hG hL hl Z hf
  unfold fX11_aboard_30 at hf
  refine lv_iinc (v := x3 + 1) (lv' := [(3, .int (x3 + 1)), (0, .ref a0), (1, .int x1), (2, .int x2)]) K.1 K.2.1 dX11_aboard_30 hl (k := 3) rfl rfl (by decide) rfl (fun ls hl => ?_)
  refine lv_goto (tgt := 4) K.1 K.2.1 dX11_aboard_33 (by decide) ?_
  exact hk4 a0 x1 x2 (x3 + 1) _ _ _ hG hL (lv_sub hl [1, 2, 3, 0] rfl) _ hf
def fX11_aboard_4_b  (k4 : Nat → Int32 → Int32 → Int32 → Option (Int32)) (M : ah_h) (a0 : Nat) (x1 : Int32) (x2 : Int32) (x3 : Int32) : Option (Int32) := (ah_gr M a0 11 0).bind fun v1 => (ah_ai M v1 1).bind fun v2 => if v2 ≤ x3 then (some x2) else ((fX11_get M a0 x3 0).bind fun v4 => if v4 = x1 then (fX11_aboard_30 k4 M a0 x1 (x2 ||| (1 <<< (x3 &&& 31))) x3) else (fX11_aboard_30 k4 M a0 x1 x2 x3))
def fX11_aboard_4  (M : ah_h) : Nat → Nat → Int32 → Int32 → Int32 → Option (Int32)
  | 0 => fun _ _ _ _ => none
  | n + 1 => fun a0 x1 x2 x3 => fX11_aboard_4_b  (fX11_aboard_4  M n) M a0 x1 x2 x3
set_option maxRecDepth 100000 in
set_option maxHeartbeats 4000000 in
theorem wX11_aboard_4_b {p : Program} {l : Launch} {e : Env} {s : State} {m : MethodId} {args : Array Value} {below : List Frame} {meth : Method} {c : Code} {D : va_G} {ca : Nat → ClassId} {H0 : Heap} {M : ah_h} {z : Nat} (K : ah_K p s m args meth c D ca "ShipsThatMeetModel" cX11_aboard 4 (some .int))  (k4 : Nat → Int32 → Int32 → Int32 → Option (Int32)) (hk4 : ∀ (a0 : Nat) (x1 : Int32) (x2 : Int32) (x3 : Int32) (H : Heap) (locs : List Loc) (ls : Array Slot), ah_g H0 D ca M z H → ah_L H0 locs → lv_has ls 4 [(0, .ref a0), (1, .int x1), (2, .int x2), (3, .int x3)] → ∀ Z, k4 a0 x1 x2 x3 = some Z → W p l e { frames := 1, cells := 0, slots := 0, locals := 22 } s m args below meth c H locs 0 0 (ah_Q below args s H0 D ca 0 0 (some (.int Z)) M z) (F0 m 4 ls [])) : ∀ (a0 : Nat) (x1 : Int32) (x2 : Int32) (x3 : Int32) (H : Heap) (locs : List Loc) (ls : Array Slot), ah_g H0 D ca M z H → ah_L H0 locs → lv_has ls 4 [(0, .ref a0), (1, .int x1), (2, .int x2), (3, .int x3)] → ∀ Z, fX11_aboard_4_b  k4 M a0 x1 x2 x3 = some Z → W p l e { frames := 1, cells := 0, slots := 0, locals := 22 } s m args below meth c H locs 0 0 (ah_Q below args s H0 D ca 0 0 (some (.int Z)) M z) (F0 m 4 ls []) := by
  intro a0 x1 x2 x3 H locs ls hG hL hl Z hf
  unfold fX11_aboard_4_b at hf
  refine lv_iload_n K.1 K.2.1 dX11_aboard_4 rfl (lv_at hl 3 rfl) ?_
  refine lv_aload_n K.1 K.2.1 dX11_aboard_5 rfl (lv_at hl 0 rfl) ?_
  obtain ⟨v1, ev1, hf⟩ := Option.bind_eq_some_iff.mp hf
  refine ah_getr K hG ev1 ffX11_9_11 dX11_aboard_6 ?_
  refine lv_iconst (v := 1) K.1 K.2.1 dX11_aboard_9 (by decide) ?_
  obtain ⟨v2, ev2, hf⟩ := Option.bind_eq_some_iff.mp hf
  refine ah_iald K hG ev2 dX11_aboard_10 ?_
  refine lv_icmp_ge (tgt := 36) K.1 K.2.1 dX11_aboard_11 (by decide) (fun h3 => ?_) (fun h3 => ?_)
  · rw [if_pos h3] at hf
    refine lv_iload_n K.1 K.2.1 dX11_aboard_36 rfl (lv_at hl 2 rfl) ?_
    cases hf
    exact ah_iret K hG hL (Nat.le_refl _) (Nat.le_refl _) dX11_aboard_37
  · rw [if_neg h3] at hf
    refine lv_aload_n K.1 K.2.1 dX11_aboard_14 rfl (lv_at hl 0 rfl) ?_
    refine lv_iload_n K.1 K.2.1 dX11_aboard_15 rfl (lv_at hl 3 rfl) ?_
    refine lv_iconst (v := 0) K.1 K.2.1 dX11_aboard_16 (by decide) ?_
    obtain ⟨v4, ev4, hf⟩ := Option.bind_eq_some_iff.mp hf
    obtain ⟨q5, eq5⟩ := ah_this ev4
    refine ah_callV (As := [.int x3, .int 0]) (rest := []) K hG hL hl.1 eq5 rfl (ctX11_get l H0 D ca M z a0 x3 0 v4 ev4) hdX11_get q_1014 q_1016 q_54 q_1017 q_20 ⟨Nat.le_of_ble_eq_true rfl, Nat.le_of_ble_eq_true rfl⟩ rfl rfl (Nat.le_of_ble_eq_true rfl) ⟨Nat.le_refl _, Nat.le_refl _⟩ dX11_aboard_17 (fun H locs hG hL => ?_)
    refine lv_iload_n K.1 K.2.1 dX11_aboard_20 rfl (lv_at hl 1 rfl) ?_
    refine lv_icmp_ne (tgt := 30) K.1 K.2.1 dX11_aboard_21 (by decide) (fun h6 => ?_) (fun h6 => ?_)
    · rw [if_neg h6] at hf
      exact wX11_aboard_30 K k4 hk4 a0 x1 x2 x3 _ _ _ hG hL (lv_sub hl [0, 1, 2, 3] rfl) _ hf
    · rw [if_pos h6] at hf
      refine lv_iload_n K.1 K.2.1 dX11_aboard_24 rfl (lv_at hl 2 rfl) ?_
      refine lv_iconst (v := 1) K.1 K.2.1 dX11_aboard_25 (by decide) ?_
      refine lv_iload_n K.1 K.2.1 dX11_aboard_26 rfl (lv_at hl 3 rfl) ?_
      refine lv_ishl K.1 K.2.1 dX11_aboard_27 ?_
      refine lv_ior K.1 K.2.1 dX11_aboard_28 ?_
      refine lv_istore_n (lv' := [(2, .int (x2 ||| (1 <<< (x3 &&& 31)))), (0, .ref a0), (1, .int x1), (3, .int x3)]) K.1 K.2.1 dX11_aboard_29 rfl hl (by decide) rfl (fun ls hl => ?_)
      exact wX11_aboard_30 K k4 hk4 a0 x1 (x2 ||| (1 <<< (x3 &&& 31))) x3 _ _ _ hG hL (lv_sub hl [1, 2, 0, 3] rfl) _ hf
theorem wX11_aboard_4 {p : Program} {l : Launch} {e : Env} {s : State} {m : MethodId} {args : Array Value} {below : List Frame} {meth : Method} {c : Code} {D : va_G} {ca : Nat → ClassId} {H0 : Heap} {M : ah_h} {z : Nat} (K : ah_K p s m args meth c D ca "ShipsThatMeetModel" cX11_aboard 4 (some .int))  (n : Nat) : ∀ (a0 : Nat) (x1 : Int32) (x2 : Int32) (x3 : Int32) (H : Heap) (locs : List Loc) (ls : Array Slot), ah_g H0 D ca M z H → ah_L H0 locs → lv_has ls 4 [(0, .ref a0), (1, .int x1), (2, .int x2), (3, .int x3)] → ∀ Z, fX11_aboard_4  M n a0 x1 x2 x3 = some Z → W p l e { frames := 1, cells := 0, slots := 0, locals := 22 } s m args below meth c H locs 0 0 (ah_Q below args s H0 D ca 0 0 (some (.int Z)) M z) (F0 m 4 ls []) := by
  induction n with
  | zero => intro a0 x1 x2 x3 H locs ls hG hL hl Z hf; cases hf
  | succ n ih => exact wX11_aboard_4_b K  _ ih
def fX11_aboard (M : ah_h) (a0 : Nat) (x1 : Int32) : Option (Int32) := (ah_ob M a0 11).bind fun _ => fX11_aboard_4 M ah_fu a0 x1 0 0
set_option maxRecDepth 100000 in
set_option maxHeartbeats 4000000 in
theorem ctX11_aboard (l : Launch) (H0 : Heap) (D : va_G) (ca : Nat → ClassId) (M : ah_h) (z : Nat) (a0 : Nat) (x1 : Int32) (Z : Int32) (hf : fX11_aboard M a0 x1 = some Z) : ah_ct l H0 D ca yX11_aboard cX11_aboard 4 (some .int) 1 22 0 0 [.ref a0, .int x1] M z (some (.int Z)) M z := by
  refine ah_of (by decide) (Nat.le_of_ble_eq_true rfl) ?_
  intro p e s m below meth c ls hin K hG hl
  have hL : ah_L H0 [] := ah_L.nil
  have hl : lv_has ls 4 [(0, .ref a0), (1, .int x1)] := hl
  unfold fX11_aboard at hf
  obtain ⟨-, -, hf⟩ := Option.bind_eq_some_iff.mp hf
  refine lv_iconst (v := 0) K.1 K.2.1 dX11_aboard_0 (by decide) ?_
  refine lv_istore_n (lv' := [(2, .int 0), (0, .ref a0), (1, .int x1)]) K.1 K.2.1 dX11_aboard_1 rfl hl (by decide) rfl (fun ls hl => ?_)
  refine lv_iconst (v := 0) K.1 K.2.1 dX11_aboard_2 (by decide) ?_
  refine lv_istore_n (lv' := [(3, .int 0), (2, .int 0), (0, .ref a0), (1, .int x1)]) K.1 K.2.1 dX11_aboard_3 rfl hl (by decide) rfl (fun ls hl => ?_)
  exact wX11_aboard_4 K  ah_fu a0 x1 0 0 _ _ _ hG hL (lv_sub hl [2, 3, 1, 0] rfl) _ hf
def fX11_bits_4_b  (k4 : Int32 → Int32 → Option (Int32)) (M : ah_h) (x1 : Int32) (x2 : Int32) : Option (Int32) := if x2 ≤ 0 then (some x1) else (k4 (x1 + (x2 &&& 1)) (x2 >>> (1 &&& 31)))
def fX11_bits_4  (M : ah_h) : Nat → Int32 → Int32 → Option (Int32)
  | 0 => fun _ _ => none
  | n + 1 => fun x1 x2 => fX11_bits_4_b  (fX11_bits_4  M n) M x1 x2
set_option maxRecDepth 100000 in
set_option maxHeartbeats 4000000 in
theorem wX11_bits_4_b {p : Program} {l : Launch} {e : Env} {s : State} {m : MethodId} {args : Array Value} {below : List Frame} {meth : Method} {c : Code} {D : va_G} {ca : Nat → ClassId} {H0 : Heap} {M : ah_h} {z : Nat} (K : ah_K p s m args meth c D ca "ShipsThatMeetModel" cX11_bits 3 (some .int))  (k4 : Int32 → Int32 → Option (Int32)) (hk4 : ∀ (x1 : Int32) (x2 : Int32) (H : Heap) (locs : List Loc) (ls : Array Slot), ah_g H0 D ca M z H → ah_L H0 locs → lv_has ls 3 [(1, .int x1), (2, .int x2)] → ∀ Z, k4 x1 x2 = some Z → W p l e { frames := 0, cells := 0, slots := 0, locals := 0 } s m args below meth c H locs 0 0 (ah_Q below args s H0 D ca 0 0 (some (.int Z)) M z) (F0 m 4 ls [])) : ∀ (x1 : Int32) (x2 : Int32) (H : Heap) (locs : List Loc) (ls : Array Slot), ah_g H0 D ca M z H → ah_L H0 locs → lv_has ls 3 [(1, .int x1), (2, .int x2)] → ∀ Z, fX11_bits_4_b  k4 M x1 x2 = some Z → W p l e { frames := 0, cells := 0, slots := 0, locals := 0 } s m args below meth c H locs 0 0 (ah_Q below args s H0 D ca 0 0 (some (.int Z)) M z) (F0 m 4 ls []) := by
  intro x1 x2 H locs ls hG hL hl Z hf
  unfold fX11_bits_4_b at hf
  refine lv_iload_n K.1 K.2.1 dX11_bits_4 rfl (lv_at hl 1 rfl) ?_
  refine lv_if_le (tgt := 21) K.1 K.2.1 dX11_bits_5 (by decide) (fun h1 => ?_) (fun h1 => ?_)
  · rw [if_pos h1] at hf
    refine lv_iload_n K.1 K.2.1 dX11_bits_21 rfl (lv_at hl 0 rfl) ?_
    cases hf
    exact ah_iret K hG hL (Nat.le_refl _) (Nat.le_refl _) dX11_bits_22
  · rw [if_neg h1] at hf
    refine lv_iload_n K.1 K.2.1 dX11_bits_8 rfl (lv_at hl 0 rfl) ?_
    refine lv_iload_n K.1 K.2.1 dX11_bits_9 rfl (lv_at hl 1 rfl) ?_
    refine lv_iconst (v := 1) K.1 K.2.1 dX11_bits_10 (by decide) ?_
    refine lv_iand K.1 K.2.1 dX11_bits_11 ?_
    refine lv_iadd K.1 K.2.1 dX11_bits_12 ?_
    refine lv_istore_n (lv' := [(1, .int (x1 + (x2 &&& 1))), (2, .int x2)]) K.1 K.2.1 dX11_bits_13 rfl hl (by decide) rfl (fun ls hl => ?_)
    refine lv_iload_n K.1 K.2.1 dX11_bits_14 rfl (lv_at hl 1 rfl) ?_
    refine lv_iconst (v := 1) K.1 K.2.1 dX11_bits_15 (by decide) ?_
    refine lv_ishr K.1 K.2.1 dX11_bits_16 ?_
    refine lv_istore_n (lv' := [(2, .int (x2 >>> (1 &&& 31))), (1, .int (x1 + (x2 &&& 1)))]) K.1 K.2.1 dX11_bits_17 rfl hl (by decide) rfl (fun ls hl => ?_)
    refine lv_goto (tgt := 4) K.1 K.2.1 dX11_bits_18 (by decide) ?_
    exact hk4 (x1 + (x2 &&& 1)) (x2 >>> (1 &&& 31)) _ _ _ hG hL (lv_sub hl [1, 0] rfl) _ hf
theorem wX11_bits_4 {p : Program} {l : Launch} {e : Env} {s : State} {m : MethodId} {args : Array Value} {below : List Frame} {meth : Method} {c : Code} {D : va_G} {ca : Nat → ClassId} {H0 : Heap} {M : ah_h} {z : Nat} (K : ah_K p s m args meth c D ca "ShipsThatMeetModel" cX11_bits 3 (some .int))  (n : Nat) : ∀ (x1 : Int32) (x2 : Int32) (H : Heap) (locs : List Loc) (ls : Array Slot), ah_g H0 D ca M z H → ah_L H0 locs → lv_has ls 3 [(1, .int x1), (2, .int x2)] → ∀ Z, fX11_bits_4  M n x1 x2 = some Z → W p l e { frames := 0, cells := 0, slots := 0, locals := 0 } s m args below meth c H locs 0 0 (ah_Q below args s H0 D ca 0 0 (some (.int Z)) M z) (F0 m 4 ls []) := by
  induction n with
  | zero => intro x1 x2 H locs ls hG hL hl Z hf; cases hf
  | succ n ih => exact wX11_bits_4_b K  _ ih
def fX11_bits (M : ah_h) (x0 : Int32) : Option (Int32) := fX11_bits_4 M ah_fu 0 x0
set_option maxRecDepth 100000 in
set_option maxHeartbeats 4000000 in
theorem ctX11_bits (l : Launch) (H0 : Heap) (D : va_G) (ca : Nat → ClassId) (M : ah_h) (z : Nat) (x0 : Int32) (Z : Int32) (hf : fX11_bits M x0 = some Z) : ah_ct l H0 D ca yX11_bits cX11_bits 3 (some .int) 0 0 0 0 [.int x0] M z (some (.int Z)) M z := by
  refine ah_of (by decide) (Nat.le_of_ble_eq_true rfl) ?_
  intro p e s m below meth c ls hin K hG hl
  have hL : ah_L H0 [] := ah_L.nil
  have hl : lv_has ls 3 [(0, .int x0)] := hl
  unfold fX11_bits at hf
  refine lv_iconst (v := 0) K.1 K.2.1 dX11_bits_0 (by decide) ?_
  refine lv_istore_n (lv' := [(1, .int 0), (0, .int x0)]) K.1 K.2.1 dX11_bits_1 rfl hl (by decide) rfl (fun ls hl => ?_)
  refine lv_iload_n K.1 K.2.1 dX11_bits_2 rfl (lv_at hl 1 rfl) ?_
  refine lv_istore_n (lv' := [(2, .int x0), (1, .int 0), (0, .int x0)]) K.1 K.2.1 dX11_bits_3 rfl hl (by decide) rfl (fun ls hl => ?_)
  exact wX11_bits_4 K  ah_fu 0 x0 _ _ _ hG hL (lv_sub hl [1, 0] rfl) _ hf
def fX7_hasPlace (M : ah_h) (a0 : Nat) (x1 : Int32) : Option (Int32) := (ah_ob M a0 7).bind fun _ => if x1 < 0 then (some 0) else ((ah_gi M a0 7 2).bind fun v2 => if v2 ≤ x1 then (some 0) else (some 1))
set_option maxRecDepth 100000 in
set_option maxHeartbeats 4000000 in
theorem ctX7_hasPlace (l : Launch) (H0 : Heap) (D : va_G) (ca : Nat → ClassId) (M : ah_h) (z : Nat) (a0 : Nat) (x1 : Int32) (Z : Int32) (hf : fX7_hasPlace M a0 x1 = some Z) : ah_ct l H0 D ca yX7_hasPlace cX7_hasPlace 2 (some .boolean) 0 0 0 0 [.ref a0, .int x1] M z (some (.int Z)) M z := by
  refine ah_of (by decide) (Nat.le_of_ble_eq_true rfl) ?_
  intro p e s m below meth c ls hin K hG hl
  have hL : ah_L H0 [] := ah_L.nil
  have hl : lv_has ls 2 [(0, .ref a0), (1, .int x1)] := hl
  unfold fX7_hasPlace at hf
  obtain ⟨-, -, hf⟩ := Option.bind_eq_some_iff.mp hf
  refine lv_iload_n K.1 K.2.1 dX7_hasPlace_0 rfl (lv_at hl 1 rfl) ?_
  refine lv_if_lt (tgt := 16) K.1 K.2.1 dX7_hasPlace_1 (by decide) (fun h1 => ?_) (fun h1 => ?_)
  · rw [if_pos h1] at hf
    refine lv_iconst (v := 0) K.1 K.2.1 dX7_hasPlace_16 (by decide) ?_
    cases hf
    exact ah_zret K hG hL (by decide) (Nat.le_refl _) (Nat.le_refl _) dX7_hasPlace_17
  · rw [if_neg h1] at hf
    refine lv_iload_n K.1 K.2.1 dX7_hasPlace_4 rfl (lv_at hl 1 rfl) ?_
    refine lv_aload_n K.1 K.2.1 dX7_hasPlace_5 rfl (lv_at hl 0 rfl) ?_
    obtain ⟨v2, ev2, hf⟩ := Option.bind_eq_some_iff.mp hf
    refine ah_geti K hG ev2 ffX7_19_7 dX7_hasPlace_6 ?_
    refine lv_icmp_ge (tgt := 16) K.1 K.2.1 dX7_hasPlace_9 (by decide) (fun h3 => ?_) (fun h3 => ?_)
    · rw [if_pos h3] at hf
      refine lv_iconst (v := 0) K.1 K.2.1 dX7_hasPlace_16 (by decide) ?_
      cases hf
      exact ah_zret K hG hL (by decide) (Nat.le_refl _) (Nat.le_refl _) dX7_hasPlace_17
    · rw [if_neg h3] at hf
      refine lv_iconst (v := 1) K.1 K.2.1 dX7_hasPlace_12 (by decide) ?_
      refine lv_goto (tgt := 17) K.1 K.2.1 dX7_hasPlace_13 (by decide) ?_
      cases hf
      exact ah_zret K hG hL (by decide) (Nat.le_refl _) (Nat.le_refl _) dX7_hasPlace_17
def fX7_at (M : ah_h) (a0 : Nat) (x1 : Int32) : Option (Int32) := (ah_ob M a0 7).bind fun _ => (fX7_hasPlace M a0 x1).bind fun v1 => if v1 = 0 then (some 0) else ((ah_gr M a0 7 3).bind fun v4 => (ah_ai M v4 x1).bind fun v5 => some v5)
set_option maxRecDepth 100000 in
set_option maxHeartbeats 4000000 in
theorem ctX7_at (l : Launch) (H0 : Heap) (D : va_G) (ca : Nat → ClassId) (M : ah_h) (z : Nat) (a0 : Nat) (x1 : Int32) (Z : Int32) (hf : fX7_at M a0 x1 = some Z) : ah_ct l H0 D ca yX7_at cX7_at 2 (some .int) 1 21 0 0 [.ref a0, .int x1] M z (some (.int Z)) M z := by
  refine ah_of (by decide) (Nat.le_of_ble_eq_true rfl) ?_
  intro p e s m below meth c ls hin K hG hl
  have hL : ah_L H0 [] := ah_L.nil
  have hl : lv_has ls 2 [(0, .ref a0), (1, .int x1)] := hl
  unfold fX7_at at hf
  obtain ⟨-, -, hf⟩ := Option.bind_eq_some_iff.mp hf
  refine lv_aload_n K.1 K.2.1 dX7_at_0 rfl (lv_at hl 0 rfl) ?_
  refine lv_iload_n K.1 K.2.1 dX7_at_1 rfl (lv_at hl 1 rfl) ?_
  obtain ⟨v1, ev1, hf⟩ := Option.bind_eq_some_iff.mp hf
  obtain ⟨q2, eq2⟩ := ah_this ev1
  refine ah_callV (As := [.int x1]) (rest := []) K hG hL hl.1 eq2 rfl (ctX7_hasPlace l H0 D ca M z a0 x1 v1 ev1) hdX7_hasPlace q_236 q_237 q_53 q_239 q_238 ⟨Nat.le_of_ble_eq_true rfl, Nat.le_of_ble_eq_true rfl⟩ rfl rfl (Nat.le_of_ble_eq_true rfl) ⟨Nat.le_refl _, Nat.le_refl _⟩ dX7_at_2 (fun H locs hG hL => ?_)
  refine lv_if_eq (tgt := 17) K.1 K.2.1 dX7_at_5 (by decide) (fun h3 => ?_) (fun h3 => ?_)
  · rw [if_pos h3] at hf
    refine lv_iconst (v := 0) K.1 K.2.1 dX7_at_17 (by decide) ?_
    cases hf
    exact ah_iret K hG hL (Nat.le_refl _) (Nat.le_refl _) dX7_at_18
  · rw [if_neg h3] at hf
    refine lv_aload_n K.1 K.2.1 dX7_at_8 rfl (lv_at hl 0 rfl) ?_
    obtain ⟨v4, ev4, hf⟩ := Option.bind_eq_some_iff.mp hf
    refine ah_getr K hG ev4 ffX7_22_7 dX7_at_9 ?_
    refine lv_iload_n K.1 K.2.1 dX7_at_12 rfl (lv_at hl 1 rfl) ?_
    obtain ⟨v5, ev5, hf⟩ := Option.bind_eq_some_iff.mp hf
    refine ah_iald K hG ev5 dX7_at_13 ?_
    refine lv_goto (tgt := 18) K.1 K.2.1 dX7_at_14 (by decide) ?_
    cases hf
    exact ah_iret K hG hL (Nat.le_refl _) (Nat.le_refl _) dX7_at_18
def fX11_copies_2_b  (k2 : ah_h → Nat → Nat → Int32 → Option (ah_h))  (M : ah_h) (a0 : Nat) (a1 : Nat) (x2 : Int32) : Option (ah_h) := if 73 ≤ x2 then (some M) else ((ah_ai M a0 x2).bind fun v2 => (ah_si M a1 x2 v2).bind fun M3 => k2 M3 a0 a1 (x2 + 1))
def fX11_copies_2   : Nat → ah_h → Nat → Nat → Int32 → Option (ah_h)
  | 0 => fun _ _ _ _ => none
  | n + 1 => fun M a0 a1 x2 => fX11_copies_2_b  (fX11_copies_2   n)  M a0 a1 x2
set_option maxRecDepth 100000 in
set_option maxHeartbeats 4000000 in
theorem wX11_copies_2_b {p : Program} {l : Launch} {e : Env} {s : State} {m : MethodId} {args : Array Value} {below : List Frame} {meth : Method} {c : Code} {D : va_G} {ca : Nat → ClassId} {H0 : Heap} {z : Nat} (K : ah_K p s m args meth c D ca "ShipsThatMeetModel" cX11_copies 3 none)  (k2 : ah_h → Nat → Nat → Int32 → Option (ah_h)) (hk2 : ∀ (M : ah_h) (a0 : Nat) (a1 : Nat) (x2 : Int32) (H : Heap) (locs : List Loc) (ls : Array Slot), ah_g H0 D ca M z H → ah_L H0 locs → lv_has ls 3 [(0, .ref a0), (1, .ref a1), (2, .int x2)] → ∀ Z, k2 M a0 a1 x2 = some Z → W p l e { frames := 0, cells := 0, slots := 0, locals := 0 } s m args below meth c H locs 0 0 (ah_Q below args s H0 D ca 0 0 none Z z) (F0 m 2 ls [])) : ∀ (M : ah_h) (a0 : Nat) (a1 : Nat) (x2 : Int32) (H : Heap) (locs : List Loc) (ls : Array Slot), ah_g H0 D ca M z H → ah_L H0 locs → lv_has ls 3 [(0, .ref a0), (1, .ref a1), (2, .int x2)] → ∀ Z, fX11_copies_2_b  k2  M a0 a1 x2 = some Z → W p l e { frames := 0, cells := 0, slots := 0, locals := 0 } s m args below meth c H locs 0 0 (ah_Q below args s H0 D ca 0 0 none Z z) (F0 m 2 ls []) := by
  intro M a0 a1 x2 H locs ls hG hL hl Z hf
  unfold fX11_copies_2_b at hf
  refine lv_iload_n K.1 K.2.1 dX11_copies_2 rfl (lv_at hl 2 rfl) ?_
  refine lv_bipush (v := 73) K.1 K.2.1 dX11_copies_3 (by decide) ?_
  refine lv_icmp_ge (tgt := 20) K.1 K.2.1 dX11_copies_5 (by decide) (fun h1 => ?_) (fun h1 => ?_)
  · rw [if_pos h1] at hf
    cases hf
    exact ah_vret K hG hL (Nat.le_refl _) (Nat.le_refl _) dX11_copies_20
  · rw [if_neg h1] at hf
    refine lv_aload_n K.1 K.2.1 dX11_copies_8 rfl (lv_at hl 1 rfl) ?_
    refine lv_iload_n K.1 K.2.1 dX11_copies_9 rfl (lv_at hl 2 rfl) ?_
    refine lv_aload_n K.1 K.2.1 dX11_copies_10 rfl (lv_at hl 0 rfl) ?_
    refine lv_iload_n K.1 K.2.1 dX11_copies_11 rfl (lv_at hl 2 rfl) ?_
    obtain ⟨v2, ev2, hf⟩ := Option.bind_eq_some_iff.mp hf
    refine ah_iald K hG ev2 dX11_copies_12 ?_
    obtain ⟨M3, eM3, hf⟩ := Option.bind_eq_some_iff.mp hf
    refine ah_iast K hG hL eM3 dX11_copies_13 (fun H locs hG hL => ?_)
    refine lv_iinc (v := x2 + 1) (lv' := [(2, .int (x2 + 1)), (0, .ref a0), (1, .ref a1)]) K.1 K.2.1 dX11_copies_14 hl (k := 2) rfl rfl (by decide) rfl (fun ls hl => ?_)
    refine lv_goto (tgt := 2) K.1 K.2.1 dX11_copies_17 (by decide) ?_
    exact hk2 M3 a0 a1 (x2 + 1) _ _ _ hG hL (lv_sub hl [1, 2, 0] rfl) _ hf
theorem wX11_copies_2 {p : Program} {l : Launch} {e : Env} {s : State} {m : MethodId} {args : Array Value} {below : List Frame} {meth : Method} {c : Code} {D : va_G} {ca : Nat → ClassId} {H0 : Heap} {z : Nat} (K : ah_K p s m args meth c D ca "ShipsThatMeetModel" cX11_copies 3 none)  (n : Nat) : ∀ (M : ah_h) (a0 : Nat) (a1 : Nat) (x2 : Int32) (H : Heap) (locs : List Loc) (ls : Array Slot), ah_g H0 D ca M z H → ah_L H0 locs → lv_has ls 3 [(0, .ref a0), (1, .ref a1), (2, .int x2)] → ∀ Z, fX11_copies_2   n M a0 a1 x2 = some Z → W p l e { frames := 0, cells := 0, slots := 0, locals := 0 } s m args below meth c H locs 0 0 (ah_Q below args s H0 D ca 0 0 none Z z) (F0 m 2 ls []) := by
  induction n with
  | zero => intro M a0 a1 x2 H locs ls hG hL hl Z hf; cases hf
  | succ n ih => exact wX11_copies_2_b K  _ ih
def fX11_copies (M : ah_h) (x0 : Nat) (x1 : Nat) : Option (ah_h) := fX11_copies_2 ah_fu M x0 x1 0
set_option maxRecDepth 100000 in
set_option maxHeartbeats 4000000 in
theorem ctX11_copies (l : Launch) (H0 : Heap) (D : va_G) (ca : Nat → ClassId) (M : ah_h) (z : Nat) (x0 : Nat) (x1 : Nat) (Z : ah_h) (hf : fX11_copies M x0 x1 = some Z) : ah_ct l H0 D ca yX11_copies cX11_copies 3 none 0 0 0 0 [.ref x0, .ref x1] M z none Z z := by
  refine ah_of (by decide) (Nat.le_of_ble_eq_true rfl) ?_
  intro p e s m below meth c ls hin K hG hl
  have hL : ah_L H0 [] := ah_L.nil
  have hl : lv_has ls 3 [(0, .ref x0), (1, .ref x1)] := hl
  unfold fX11_copies at hf
  refine lv_iconst (v := 0) K.1 K.2.1 dX11_copies_0 (by decide) ?_
  refine lv_istore_n (lv' := [(2, .int 0), (0, .ref x0), (1, .ref x1)]) K.1 K.2.1 dX11_copies_1 rfl hl (by decide) rfl (fun ls hl => ?_)
  exact wX11_copies_2 K  ah_fu M x0 x1 0 _ _ _ hG hL (lv_sub hl [1, 2, 0] rfl) _ hf
def fX11_sails_47 (k8 : ah_h → Nat → Int32 → Int32 → Option (ah_h))  (M : ah_h) (a0 : Nat) (x2 : Int32) (x3 : Int32) : Option (ah_h) := k8 M a0 x2 (x3 + 1)
set_option maxRecDepth 100000 in
set_option maxHeartbeats 4000000 in
theorem wX11_sails_47 {p : Program} {l : Launch} {e : Env} {s : State} {m : MethodId} {args : Array Value} {below : List Frame} {meth : Method} {c : Code} {D : va_G} {ca : Nat → ClassId} {H0 : Heap} {z : Nat} (K : ah_K p s m args meth c D ca "ShipsThatMeetModel" cX11_sails 4 none) (k8 : ah_h → Nat → Int32 → Int32 → Option (ah_h)) (hk8 : ∀ (M : ah_h) (a0 : Nat) (x2 : Int32) (x3 : Int32) (H : Heap) (locs : List Loc) (ls : Array Slot), ah_g H0 D ca M z H → ah_L H0 locs → lv_has ls 4 [(0, .ref a0), (2, .int x2), (3, .int x3)] → ∀ Z, k8 M a0 x2 x3 = some Z → W p l e { frames := 2, cells := 0, slots := 0, locals := 45 } s m args below meth c H locs 0 0 (ah_Q below args s H0 D ca 0 0 none Z z) (F0 m 8 ls [])) : ∀ (M : ah_h) (a0 : Nat) (x2 : Int32) (x3 : Int32) (H : Heap) (locs : List Loc) (ls : Array Slot), ah_g H0 D ca M z H → ah_L H0 locs → lv_has ls 4 [(0, .ref a0), (2, .int x2), (3, .int x3)] → ∀ Z, fX11_sails_47 k8  M a0 x2 x3 = some Z → W p l e { frames := 2, cells := 0, slots := 0, locals := 45 } s m args below meth c H locs 0 0 (ah_Q below args s H0 D ca 0 0 none Z z) (F0 m 47 ls []) := by
  intro M a0 x2 x3 H locs ls hG hL hl Z hf
  unfold fX11_sails_47 at hf
  refine lv_iinc (v := x3 + 1) (lv' := [(3, .int (x3 + 1)), (0, .ref a0), (2, .int x2)]) K.1 K.2.1 dX11_sails_47 hl (k := 2) rfl rfl (by decide) rfl (fun ls hl => ?_)
  refine lv_goto (tgt := 8) K.1 K.2.1 dX11_sails_50 (by decide) ?_
  exact hk8 M a0 x2 (x3 + 1) _ _ _ hG hL (lv_sub hl [1, 2, 0] rfl) _ hf
def fX11_sails_8_b  (k8 : ah_h → Nat → Int32 → Int32 → Option (ah_h))  (M : ah_h) (a0 : Nat) (x2 : Int32) (x3 : Int32) : Option (ah_h) := (ah_gr M a0 11 0).bind fun v1 => (ah_ai M v1 1).bind fun v2 => if v2 ≤ x3 then (some M) else (if ((x2 >>> (x3 &&& 31)) &&& 1) = 1 then ((fX11_get M a0 x3 4).bind fun v5 => (fX11_puts M a0 x3 4 (v5 ||| (x2 &&& ((1 <<< (x3 &&& 31)) ^^^ (-1))))).bind fun v7 => fX11_sails_47 k8 v7 a0 x2 x3) else (fX11_sails_47 k8 M a0 x2 x3))
def fX11_sails_8   : Nat → ah_h → Nat → Int32 → Int32 → Option (ah_h)
  | 0 => fun _ _ _ _ => none
  | n + 1 => fun M a0 x2 x3 => fX11_sails_8_b  (fX11_sails_8   n)  M a0 x2 x3
set_option maxRecDepth 100000 in
set_option maxHeartbeats 4000000 in
theorem wX11_sails_8_b {p : Program} {l : Launch} {e : Env} {s : State} {m : MethodId} {args : Array Value} {below : List Frame} {meth : Method} {c : Code} {D : va_G} {ca : Nat → ClassId} {H0 : Heap} {z : Nat} (K : ah_K p s m args meth c D ca "ShipsThatMeetModel" cX11_sails 4 none)  (k8 : ah_h → Nat → Int32 → Int32 → Option (ah_h)) (hk8 : ∀ (M : ah_h) (a0 : Nat) (x2 : Int32) (x3 : Int32) (H : Heap) (locs : List Loc) (ls : Array Slot), ah_g H0 D ca M z H → ah_L H0 locs → lv_has ls 4 [(0, .ref a0), (2, .int x2), (3, .int x3)] → ∀ Z, k8 M a0 x2 x3 = some Z → W p l e { frames := 2, cells := 0, slots := 0, locals := 45 } s m args below meth c H locs 0 0 (ah_Q below args s H0 D ca 0 0 none Z z) (F0 m 8 ls [])) : ∀ (M : ah_h) (a0 : Nat) (x2 : Int32) (x3 : Int32) (H : Heap) (locs : List Loc) (ls : Array Slot), ah_g H0 D ca M z H → ah_L H0 locs → lv_has ls 4 [(0, .ref a0), (2, .int x2), (3, .int x3)] → ∀ Z, fX11_sails_8_b  k8  M a0 x2 x3 = some Z → W p l e { frames := 2, cells := 0, slots := 0, locals := 45 } s m args below meth c H locs 0 0 (ah_Q below args s H0 D ca 0 0 none Z z) (F0 m 8 ls []) := by
  intro M a0 x2 x3 H locs ls hG hL hl Z hf
  unfold fX11_sails_8_b at hf
  refine lv_iload_n K.1 K.2.1 dX11_sails_8 rfl (lv_at hl 2 rfl) ?_
  refine lv_aload_n K.1 K.2.1 dX11_sails_9 rfl (lv_at hl 0 rfl) ?_
  obtain ⟨v1, ev1, hf⟩ := Option.bind_eq_some_iff.mp hf
  refine ah_getr K hG ev1 ffX11_9_11 dX11_sails_10 ?_
  refine lv_iconst (v := 1) K.1 K.2.1 dX11_sails_13 (by decide) ?_
  obtain ⟨v2, ev2, hf⟩ := Option.bind_eq_some_iff.mp hf
  refine ah_iald K hG ev2 dX11_sails_14 ?_
  refine lv_icmp_ge (tgt := 53) K.1 K.2.1 dX11_sails_15 (by decide) (fun h3 => ?_) (fun h3 => ?_)
  · rw [if_pos h3] at hf
    cases hf
    exact ah_vret K hG hL (Nat.le_refl _) (Nat.le_refl _) dX11_sails_53
  · rw [if_neg h3] at hf
    refine lv_iload_n K.1 K.2.1 dX11_sails_18 rfl (lv_at hl 1 rfl) ?_
    refine lv_iload_n K.1 K.2.1 dX11_sails_19 rfl (lv_at hl 2 rfl) ?_
    refine lv_ishr K.1 K.2.1 dX11_sails_20 ?_
    refine lv_iconst (v := 1) K.1 K.2.1 dX11_sails_21 (by decide) ?_
    refine lv_iand K.1 K.2.1 dX11_sails_22 ?_
    refine lv_iconst (v := 1) K.1 K.2.1 dX11_sails_23 (by decide) ?_
    refine lv_icmp_ne (tgt := 47) K.1 K.2.1 dX11_sails_24 (by decide) (fun h4 => ?_) (fun h4 => ?_)
    · rw [if_neg h4] at hf
      exact wX11_sails_47 K k8 hk8 M a0 x2 x3 _ _ _ hG hL (lv_sub hl [0, 1, 2] rfl) _ hf
    · rw [if_pos h4] at hf
      refine lv_aload_n K.1 K.2.1 dX11_sails_27 rfl (lv_at hl 0 rfl) ?_
      refine lv_iload_n K.1 K.2.1 dX11_sails_28 rfl (lv_at hl 2 rfl) ?_
      refine lv_iconst (v := 4) K.1 K.2.1 dX11_sails_29 (by decide) ?_
      refine lv_aload_n K.1 K.2.1 dX11_sails_30 rfl (lv_at hl 0 rfl) ?_
      refine lv_iload_n K.1 K.2.1 dX11_sails_31 rfl (lv_at hl 2 rfl) ?_
      refine lv_iconst (v := 4) K.1 K.2.1 dX11_sails_32 (by decide) ?_
      obtain ⟨v5, ev5, hf⟩ := Option.bind_eq_some_iff.mp hf
      obtain ⟨q6, eq6⟩ := ah_this ev5
      refine ah_callV (As := [.int x3, .int 4]) (rest := [.int 4, .int x3, .ref a0]) K hG hL hl.1 eq6 rfl (ctX11_get l H0 D ca M z a0 x3 4 v5 ev5) hdX11_get q_1014 q_1016 q_54 q_1017 q_20 ⟨Nat.le_of_ble_eq_true rfl, Nat.le_of_ble_eq_true rfl⟩ rfl rfl (Nat.le_of_ble_eq_true rfl) ⟨Nat.le_refl _, Nat.le_refl _⟩ dX11_sails_33 (fun H locs hG hL => ?_)
      refine lv_iload_n K.1 K.2.1 dX11_sails_36 rfl (lv_at hl 1 rfl) ?_
      refine lv_iconst (v := 1) K.1 K.2.1 dX11_sails_37 (by decide) ?_
      refine lv_iload_n K.1 K.2.1 dX11_sails_38 rfl (lv_at hl 2 rfl) ?_
      refine lv_ishl K.1 K.2.1 dX11_sails_39 ?_
      refine lv_iconst (v := (-1)) K.1 K.2.1 dX11_sails_40 (by decide) ?_
      refine lv_ixor K.1 K.2.1 dX11_sails_41 ?_
      refine lv_iand K.1 K.2.1 dX11_sails_42 ?_
      refine lv_ior K.1 K.2.1 dX11_sails_43 ?_
      obtain ⟨v7, ev7, hf⟩ := Option.bind_eq_some_iff.mp hf
      obtain ⟨q8, eq8⟩ := ah_this ev7
      refine ah_callV (As := [.int x3, .int 4, .int (v5 ||| (x2 &&& ((1 <<< (x3 &&& 31)) ^^^ (-1))))]) (rest := []) K hG hL hl.1 eq8 rfl (ctX11_puts l H0 D ca M z a0 x3 4 (v5 ||| (x2 &&& ((1 <<< (x3 &&& 31)) ^^^ (-1)))) v7 ev7) hdX11_puts q_1002 q_1004 q_54 q_1005 q_17 ⟨Nat.le_of_ble_eq_true rfl, Nat.le_of_ble_eq_true rfl⟩ rfl rfl (Nat.le_of_ble_eq_true rfl) ⟨Nat.le_refl _, Nat.le_refl _⟩ dX11_sails_44 (fun H locs hG hL => ?_)
      exact wX11_sails_47 K k8 hk8 v7 a0 x2 x3 _ _ _ hG hL (lv_sub hl [0, 1, 2] rfl) _ hf
theorem wX11_sails_8 {p : Program} {l : Launch} {e : Env} {s : State} {m : MethodId} {args : Array Value} {below : List Frame} {meth : Method} {c : Code} {D : va_G} {ca : Nat → ClassId} {H0 : Heap} {z : Nat} (K : ah_K p s m args meth c D ca "ShipsThatMeetModel" cX11_sails 4 none)  (n : Nat) : ∀ (M : ah_h) (a0 : Nat) (x2 : Int32) (x3 : Int32) (H : Heap) (locs : List Loc) (ls : Array Slot), ah_g H0 D ca M z H → ah_L H0 locs → lv_has ls 4 [(0, .ref a0), (2, .int x2), (3, .int x3)] → ∀ Z, fX11_sails_8   n M a0 x2 x3 = some Z → W p l e { frames := 2, cells := 0, slots := 0, locals := 45 } s m args below meth c H locs 0 0 (ah_Q below args s H0 D ca 0 0 none Z z) (F0 m 8 ls []) := by
  induction n with
  | zero => intro M a0 x2 x3 H locs ls hG hL hl Z hf; cases hf
  | succ n ih => exact wX11_sails_8_b K  _ ih
def fX11_sails (M : ah_h) (a0 : Nat) (x1 : Int32) : Option (ah_h) := (ah_ob M a0 11).bind fun _ => (fX11_aboard M a0 x1).bind fun v1 => fX11_sails_8 ah_fu M a0 v1 0
set_option maxRecDepth 100000 in
set_option maxHeartbeats 4000000 in
theorem ctX11_sails (l : Launch) (H0 : Heap) (D : va_G) (ca : Nat → ClassId) (M : ah_h) (z : Nat) (a0 : Nat) (x1 : Int32) (Z : ah_h) (hf : fX11_sails M a0 x1 = some Z) : ah_ct l H0 D ca yX11_sails cX11_sails 4 none 2 45 0 0 [.ref a0, .int x1] M z none Z z := by
  refine ah_of (by decide) (Nat.le_of_ble_eq_true rfl) ?_
  intro p e s m below meth c ls hin K hG hl
  have hL : ah_L H0 [] := ah_L.nil
  have hl : lv_has ls 4 [(0, .ref a0), (1, .int x1)] := hl
  unfold fX11_sails at hf
  obtain ⟨-, -, hf⟩ := Option.bind_eq_some_iff.mp hf
  refine lv_aload_n K.1 K.2.1 dX11_sails_0 rfl (lv_at hl 0 rfl) ?_
  refine lv_iload_n K.1 K.2.1 dX11_sails_1 rfl (lv_at hl 1 rfl) ?_
  obtain ⟨v1, ev1, hf⟩ := Option.bind_eq_some_iff.mp hf
  obtain ⟨q2, eq2⟩ := ah_this ev1
  refine ah_callV (As := [.int x1]) (rest := []) K hG hL hl.1 eq2 rfl (ctX11_aboard l H0 D ca M z a0 x1 v1 ev1) hdX11_aboard q_1010 q_1012 q_54 q_1013 q_19 ⟨Nat.le_of_ble_eq_true rfl, Nat.le_of_ble_eq_true rfl⟩ rfl rfl (Nat.le_of_ble_eq_true rfl) ⟨Nat.le_refl _, Nat.le_refl _⟩ dX11_sails_2 (fun H locs hG hL => ?_)
  refine lv_istore_n (lv' := [(2, .int v1), (0, .ref a0), (1, .int x1)]) K.1 K.2.1 dX11_sails_5 rfl hl (by decide) rfl (fun ls hl => ?_)
  refine lv_iconst (v := 0) K.1 K.2.1 dX11_sails_6 (by decide) ?_
  refine lv_istore_n (lv' := [(3, .int 0), (2, .int v1), (0, .ref a0), (1, .int x1)]) K.1 K.2.1 dX11_sails_7 rfl hl (by decide) rfl (fun ls hl => ?_)
  exact wX11_sails_8 K  ah_fu M a0 v1 0 _ _ _ hG hL (lv_sub hl [2, 1, 0] rfl) _ hf
def fX11_never_18_b (k4 : Nat → Int32 → Int32 → Option (Int32)) (k18 : Nat → Int32 → Int32 → Int32 → Option (Int32)) (M : ah_h) (a0 : Nat) (x1 : Int32) (x2 : Int32) (x3 : Int32) : Option (Int32) := (ah_gr M a0 11 0).bind fun v1 => (ah_ai M v1 1).bind fun v2 => if v2 ≤ x3 then (k4 a0 x1 (x2 + 1)) else ((fX11_get M a0 x2 4).bind fun v4 => k18 a0 (x1 + (1 - ((v4 >>> (x3 &&& 31)) &&& 1))) x2 (x3 + 1))
def fX11_never_18 (k4 : Nat → Int32 → Int32 → Option (Int32)) (M : ah_h) : Nat → Nat → Int32 → Int32 → Int32 → Option (Int32)
  | 0 => fun _ _ _ _ => none
  | n + 1 => fun a0 x1 x2 x3 => fX11_never_18_b k4 (fX11_never_18 k4 M n) M a0 x1 x2 x3
set_option maxRecDepth 100000 in
set_option maxHeartbeats 4000000 in
theorem wX11_never_18_b {p : Program} {l : Launch} {e : Env} {s : State} {m : MethodId} {args : Array Value} {below : List Frame} {meth : Method} {c : Code} {D : va_G} {ca : Nat → ClassId} {H0 : Heap} {M : ah_h} {z : Nat} (K : ah_K p s m args meth c D ca "ShipsThatMeetModel" cX11_never 4 (some .int)) (k4 : Nat → Int32 → Int32 → Option (Int32)) (hk4 : ∀ (a0 : Nat) (x1 : Int32) (x2 : Int32) (H : Heap) (locs : List Loc) (ls : Array Slot), ah_g H0 D ca M z H → ah_L H0 locs → lv_has ls 4 [(0, .ref a0), (1, .int x1), (2, .int x2)] → ∀ Z, k4 a0 x1 x2 = some Z → W p l e { frames := 1, cells := 0, slots := 0, locals := 22 } s m args below meth c H locs 0 0 (ah_Q below args s H0 D ca 0 0 (some (.int Z)) M z) (F0 m 4 ls [])) (k18 : Nat → Int32 → Int32 → Int32 → Option (Int32)) (hk18 : ∀ (a0 : Nat) (x1 : Int32) (x2 : Int32) (x3 : Int32) (H : Heap) (locs : List Loc) (ls : Array Slot), ah_g H0 D ca M z H → ah_L H0 locs → lv_has ls 4 [(0, .ref a0), (1, .int x1), (2, .int x2), (3, .int x3)] → ∀ Z, k18 a0 x1 x2 x3 = some Z → W p l e { frames := 1, cells := 0, slots := 0, locals := 22 } s m args below meth c H locs 0 0 (ah_Q below args s H0 D ca 0 0 (some (.int Z)) M z) (F0 m 18 ls [])) : ∀ (a0 : Nat) (x1 : Int32) (x2 : Int32) (x3 : Int32) (H : Heap) (locs : List Loc) (ls : Array Slot), ah_g H0 D ca M z H → ah_L H0 locs → lv_has ls 4 [(0, .ref a0), (1, .int x1), (2, .int x2), (3, .int x3)] → ∀ Z, fX11_never_18_b k4 k18 M a0 x1 x2 x3 = some Z → W p l e { frames := 1, cells := 0, slots := 0, locals := 22 } s m args below meth c H locs 0 0 (ah_Q below args s H0 D ca 0 0 (some (.int Z)) M z) (F0 m 18 ls []) := by
  intro a0 x1 x2 x3 H locs ls hG hL hl Z hf
  unfold fX11_never_18_b at hf
  refine lv_iload_n K.1 K.2.1 dX11_never_18 rfl (lv_at hl 3 rfl) ?_
  refine lv_aload_n K.1 K.2.1 dX11_never_19 rfl (lv_at hl 0 rfl) ?_
  obtain ⟨v1, ev1, hf⟩ := Option.bind_eq_some_iff.mp hf
  refine ah_getr K hG ev1 ffX11_9_11 dX11_never_20 ?_
  refine lv_iconst (v := 1) K.1 K.2.1 dX11_never_23 (by decide) ?_
  obtain ⟨v2, ev2, hf⟩ := Option.bind_eq_some_iff.mp hf
  refine ah_iald K hG ev2 dX11_never_24 ?_
  refine lv_icmp_ge (tgt := 49) K.1 K.2.1 dX11_never_25 (by decide) (fun h3 => ?_) (fun h3 => ?_)
  · rw [if_pos h3] at hf
    refine lv_iinc (v := x2 + 1) (lv' := [(2, .int (x2 + 1)), (0, .ref a0), (1, .int x1), (3, .int x3)]) K.1 K.2.1 dX11_never_49 hl (k := 2) rfl rfl (by decide) rfl (fun ls hl => ?_)
    refine lv_goto (tgt := 4) K.1 K.2.1 dX11_never_52 (by decide) ?_
    exact hk4 a0 x1 (x2 + 1) _ _ _ hG hL (lv_sub hl [1, 2, 0] rfl) _ hf
  · rw [if_neg h3] at hf
    refine lv_iload_n K.1 K.2.1 dX11_never_28 rfl (lv_at hl 1 rfl) ?_
    refine lv_iconst (v := 1) K.1 K.2.1 dX11_never_29 (by decide) ?_
    refine lv_aload_n K.1 K.2.1 dX11_never_30 rfl (lv_at hl 0 rfl) ?_
    refine lv_iload_n K.1 K.2.1 dX11_never_31 rfl (lv_at hl 2 rfl) ?_
    refine lv_iconst (v := 4) K.1 K.2.1 dX11_never_32 (by decide) ?_
    obtain ⟨v4, ev4, hf⟩ := Option.bind_eq_some_iff.mp hf
    obtain ⟨q5, eq5⟩ := ah_this ev4
    refine ah_callV (As := [.int x2, .int 4]) (rest := [.int 1, .int x1]) K hG hL hl.1 eq5 rfl (ctX11_get l H0 D ca M z a0 x2 4 v4 ev4) hdX11_get q_1014 q_1016 q_54 q_1017 q_20 ⟨Nat.le_of_ble_eq_true rfl, Nat.le_of_ble_eq_true rfl⟩ rfl rfl (Nat.le_of_ble_eq_true rfl) ⟨Nat.le_refl _, Nat.le_refl _⟩ dX11_never_33 (fun H locs hG hL => ?_)
    refine lv_iload_n K.1 K.2.1 dX11_never_36 rfl (lv_at hl 3 rfl) ?_
    refine lv_ishr K.1 K.2.1 dX11_never_37 ?_
    refine lv_iconst (v := 1) K.1 K.2.1 dX11_never_38 (by decide) ?_
    refine lv_iand K.1 K.2.1 dX11_never_39 ?_
    refine lv_isub K.1 K.2.1 dX11_never_40 ?_
    refine lv_iadd K.1 K.2.1 dX11_never_41 ?_
    refine lv_istore_n (lv' := [(1, .int (x1 + (1 - ((v4 >>> (x3 &&& 31)) &&& 1)))), (0, .ref a0), (2, .int x2), (3, .int x3)]) K.1 K.2.1 dX11_never_42 rfl hl (by decide) rfl (fun ls hl => ?_)
    refine lv_iinc (v := x3 + 1) (lv' := [(3, .int (x3 + 1)), (1, .int (x1 + (1 - ((v4 >>> (x3 &&& 31)) &&& 1)))), (0, .ref a0), (2, .int x2)]) K.1 K.2.1 dX11_never_43 hl (k := 3) rfl rfl (by decide) rfl (fun ls hl => ?_)
    refine lv_goto (tgt := 18) K.1 K.2.1 dX11_never_46 (by decide) ?_
    exact hk18 a0 (x1 + (1 - ((v4 >>> (x3 &&& 31)) &&& 1))) x2 (x3 + 1) _ _ _ hG hL (lv_sub hl [2, 1, 3, 0] rfl) _ hf
theorem wX11_never_18 {p : Program} {l : Launch} {e : Env} {s : State} {m : MethodId} {args : Array Value} {below : List Frame} {meth : Method} {c : Code} {D : va_G} {ca : Nat → ClassId} {H0 : Heap} {M : ah_h} {z : Nat} (K : ah_K p s m args meth c D ca "ShipsThatMeetModel" cX11_never 4 (some .int)) (k4 : Nat → Int32 → Int32 → Option (Int32)) (hk4 : ∀ (a0 : Nat) (x1 : Int32) (x2 : Int32) (H : Heap) (locs : List Loc) (ls : Array Slot), ah_g H0 D ca M z H → ah_L H0 locs → lv_has ls 4 [(0, .ref a0), (1, .int x1), (2, .int x2)] → ∀ Z, k4 a0 x1 x2 = some Z → W p l e { frames := 1, cells := 0, slots := 0, locals := 22 } s m args below meth c H locs 0 0 (ah_Q below args s H0 D ca 0 0 (some (.int Z)) M z) (F0 m 4 ls [])) (n : Nat) : ∀ (a0 : Nat) (x1 : Int32) (x2 : Int32) (x3 : Int32) (H : Heap) (locs : List Loc) (ls : Array Slot), ah_g H0 D ca M z H → ah_L H0 locs → lv_has ls 4 [(0, .ref a0), (1, .int x1), (2, .int x2), (3, .int x3)] → ∀ Z, fX11_never_18 k4 M n a0 x1 x2 x3 = some Z → W p l e { frames := 1, cells := 0, slots := 0, locals := 22 } s m args below meth c H locs 0 0 (ah_Q below args s H0 D ca 0 0 (some (.int Z)) M z) (F0 m 18 ls []) := by
  induction n with
  | zero => intro a0 x1 x2 x3 H locs ls hG hL hl Z hf; cases hf
  | succ n ih => exact wX11_never_18_b K k4 hk4 _ ih
def fX11_never_4_b  (k4 : Nat → Int32 → Int32 → Option (Int32)) (M : ah_h) (a0 : Nat) (x1 : Int32) (x2 : Int32) : Option (Int32) := (ah_gr M a0 11 0).bind fun v1 => (ah_ai M v1 1).bind fun v2 => if v2 ≤ x2 then (some x1) else (fX11_never_18 k4 M ah_fu a0 x1 x2 (x2 + 1))
def fX11_never_4  (M : ah_h) : Nat → Nat → Int32 → Int32 → Option (Int32)
  | 0 => fun _ _ _ => none
  | n + 1 => fun a0 x1 x2 => fX11_never_4_b  (fX11_never_4  M n) M a0 x1 x2
set_option maxRecDepth 100000 in
set_option maxHeartbeats 4000000 in
theorem wX11_never_4_b {p : Program} {l : Launch} {e : Env} {s : State} {m : MethodId} {args : Array Value} {below : List Frame} {meth : Method} {c : Code} {D : va_G} {ca : Nat → ClassId} {H0 : Heap} {M : ah_h} {z : Nat} (K : ah_K p s m args meth c D ca "ShipsThatMeetModel" cX11_never 4 (some .int))  (k4 : Nat → Int32 → Int32 → Option (Int32)) (hk4 : ∀ (a0 : Nat) (x1 : Int32) (x2 : Int32) (H : Heap) (locs : List Loc) (ls : Array Slot), ah_g H0 D ca M z H → ah_L H0 locs → lv_has ls 4 [(0, .ref a0), (1, .int x1), (2, .int x2)] → ∀ Z, k4 a0 x1 x2 = some Z → W p l e { frames := 1, cells := 0, slots := 0, locals := 22 } s m args below meth c H locs 0 0 (ah_Q below args s H0 D ca 0 0 (some (.int Z)) M z) (F0 m 4 ls [])) : ∀ (a0 : Nat) (x1 : Int32) (x2 : Int32) (H : Heap) (locs : List Loc) (ls : Array Slot), ah_g H0 D ca M z H → ah_L H0 locs → lv_has ls 4 [(0, .ref a0), (1, .int x1), (2, .int x2)] → ∀ Z, fX11_never_4_b  k4 M a0 x1 x2 = some Z → W p l e { frames := 1, cells := 0, slots := 0, locals := 22 } s m args below meth c H locs 0 0 (ah_Q below args s H0 D ca 0 0 (some (.int Z)) M z) (F0 m 4 ls []) := by
  intro a0 x1 x2 H locs ls hG hL hl Z hf
  unfold fX11_never_4_b at hf
  refine lv_iload_n K.1 K.2.1 dX11_never_4 rfl (lv_at hl 2 rfl) ?_
  refine lv_aload_n K.1 K.2.1 dX11_never_5 rfl (lv_at hl 0 rfl) ?_
  obtain ⟨v1, ev1, hf⟩ := Option.bind_eq_some_iff.mp hf
  refine ah_getr K hG ev1 ffX11_9_11 dX11_never_6 ?_
  refine lv_iconst (v := 1) K.1 K.2.1 dX11_never_9 (by decide) ?_
  obtain ⟨v2, ev2, hf⟩ := Option.bind_eq_some_iff.mp hf
  refine ah_iald K hG ev2 dX11_never_10 ?_
  refine lv_icmp_ge (tgt := 55) K.1 K.2.1 dX11_never_11 (by decide) (fun h3 => ?_) (fun h3 => ?_)
  · rw [if_pos h3] at hf
    refine lv_iload_n K.1 K.2.1 dX11_never_55 rfl (lv_at hl 1 rfl) ?_
    cases hf
    exact ah_iret K hG hL (Nat.le_refl _) (Nat.le_refl _) dX11_never_56
  · rw [if_neg h3] at hf
    refine lv_iload_n K.1 K.2.1 dX11_never_14 rfl (lv_at hl 2 rfl) ?_
    refine lv_iconst (v := 1) K.1 K.2.1 dX11_never_15 (by decide) ?_
    refine lv_iadd K.1 K.2.1 dX11_never_16 ?_
    refine lv_istore_n (lv' := [(3, .int (x2 + 1)), (0, .ref a0), (1, .int x1), (2, .int x2)]) K.1 K.2.1 dX11_never_17 rfl hl (by decide) rfl (fun ls hl => ?_)
    exact wX11_never_18 K k4 hk4 ah_fu a0 x1 x2 (x2 + 1) _ _ _ hG hL (lv_sub hl [1, 2, 3, 0] rfl) _ hf
theorem wX11_never_4 {p : Program} {l : Launch} {e : Env} {s : State} {m : MethodId} {args : Array Value} {below : List Frame} {meth : Method} {c : Code} {D : va_G} {ca : Nat → ClassId} {H0 : Heap} {M : ah_h} {z : Nat} (K : ah_K p s m args meth c D ca "ShipsThatMeetModel" cX11_never 4 (some .int))  (n : Nat) : ∀ (a0 : Nat) (x1 : Int32) (x2 : Int32) (H : Heap) (locs : List Loc) (ls : Array Slot), ah_g H0 D ca M z H → ah_L H0 locs → lv_has ls 4 [(0, .ref a0), (1, .int x1), (2, .int x2)] → ∀ Z, fX11_never_4  M n a0 x1 x2 = some Z → W p l e { frames := 1, cells := 0, slots := 0, locals := 22 } s m args below meth c H locs 0 0 (ah_Q below args s H0 D ca 0 0 (some (.int Z)) M z) (F0 m 4 ls []) := by
  induction n with
  | zero => intro a0 x1 x2 H locs ls hG hL hl Z hf; cases hf
  | succ n ih => exact wX11_never_4_b K  _ ih
def fX11_never (M : ah_h) (a0 : Nat) : Option (Int32) := (ah_ob M a0 11).bind fun _ => fX11_never_4 M ah_fu a0 0 0
set_option maxRecDepth 100000 in
set_option maxHeartbeats 4000000 in
theorem ctX11_never (l : Launch) (H0 : Heap) (D : va_G) (ca : Nat → ClassId) (M : ah_h) (z : Nat) (a0 : Nat) (Z : Int32) (hf : fX11_never M a0 = some Z) : ah_ct l H0 D ca yX11_never cX11_never 4 (some .int) 1 22 0 0 [.ref a0] M z (some (.int Z)) M z := by
  refine ah_of (by decide) (Nat.le_of_ble_eq_true rfl) ?_
  intro p e s m below meth c ls hin K hG hl
  have hL : ah_L H0 [] := ah_L.nil
  have hl : lv_has ls 4 [(0, .ref a0)] := hl
  unfold fX11_never at hf
  obtain ⟨-, -, hf⟩ := Option.bind_eq_some_iff.mp hf
  refine lv_iconst (v := 0) K.1 K.2.1 dX11_never_0 (by decide) ?_
  refine lv_istore_n (lv' := [(1, .int 0), (0, .ref a0)]) K.1 K.2.1 dX11_never_1 rfl hl (by decide) rfl (fun ls hl => ?_)
  refine lv_iconst (v := 0) K.1 K.2.1 dX11_never_2 (by decide) ?_
  refine lv_istore_n (lv' := [(2, .int 0), (1, .int 0), (0, .ref a0)]) K.1 K.2.1 dX11_never_3 rfl hl (by decide) rfl (fun ls hl => ?_)
  exact wX11_never_4 K  ah_fu a0 0 0 _ _ _ hG hL (lv_sub hl [2, 1, 0] rfl) _ hf
