theorem dX0_init_0 : decode cX0_init 0 = .ok (.aload_n 0, 1) := by decide +kernel
theorem dX0_init_1 : decode cX0_init 1 = .ok (.invokespecial 3, 3) := by decide +kernel
theorem dX0_init_4 : decode cX0_init 4 = .ok (.aload_n 0, 1) := by decide +kernel
theorem dX0_init_5 : decode cX0_init 5 = .ok (.aload_n 1, 1) := by decide +kernel
theorem dX0_init_6 : decode cX0_init 6 = .ok (.putfield 9, 3) := by decide +kernel
theorem dX0_init_9 : decode cX0_init 9 = .ok (.aload_n 0, 1) := by decide +kernel
theorem dX0_init_10 : decode cX0_init 10 = .ok (.iload_n 2, 1) := by decide +kernel
theorem dX0_init_11 : decode cX0_init 11 = .ok (.putfield 15, 3) := by decide +kernel
theorem dX0_init_14 : decode cX0_init 14 = .ok (.aload_n 0, 1) := by decide +kernel
theorem dX0_init_15 : decode cX0_init 15 = .ok (.iload_n 3, 1) := by decide +kernel
theorem dX0_init_16 : decode cX0_init 16 = .ok (.putfield 19, 3) := by decide +kernel
theorem dX0_init_19 : decode cX0_init 19 = .ok (.aload_n 0, 1) := by decide +kernel
theorem dX0_init_20 : decode cX0_init 20 = .ok (.iconst 0, 1) := by decide +kernel
theorem dX0_init_21 : decode cX0_init 21 = .ok (.putfield 22, 3) := by decide +kernel
theorem dX0_init_24 : decode cX0_init 24 = .ok (.return_, 1) := by decide +kernel
theorem dX0_isOpen_0 : decode cX0_isOpen 0 = .ok (.aload_n 0, 1) := by decide +kernel
theorem dX0_isOpen_1 : decode cX0_isOpen 1 = .ok (.getfield 22, 3) := by decide +kernel
theorem dX0_isOpen_4 : decode cX0_isOpen 4 = .ok (.ifCond .eq 11, 3) := by decide +kernel
theorem dX0_isOpen_7 : decode cX0_isOpen 7 = .ok (.aload_n 0, 1) := by decide +kernel
theorem dX0_isOpen_8 : decode cX0_isOpen 8 = .ok (.getfield 22, 3) := by decide +kernel
theorem dX0_isOpen_11 : decode cX0_isOpen 11 = .ok (.iconst 1, 1) := by decide +kernel
theorem dX0_isOpen_12 : decode cX0_isOpen 12 = .ok (.if_icmp .ne 7, 3) := by decide +kernel
theorem dX0_isOpen_15 : decode cX0_isOpen 15 = .ok (.iconst 1, 1) := by decide +kernel
theorem dX0_isOpen_16 : decode cX0_isOpen 16 = .ok (.goto 4, 3) := by decide +kernel
theorem dX0_isOpen_19 : decode cX0_isOpen 19 = .ok (.iconst 0, 1) := by decide +kernel
theorem dX0_isOpen_20 : decode cX0_isOpen 20 = .ok (.ireturn, 1) := by decide +kernel
theorem dX0_amount_0 : decode cX0_amount 0 = .ok (.aload_n 0, 1) := by decide +kernel
theorem dX0_amount_1 : decode cX0_amount 1 = .ok (.getfield 22, 3) := by decide +kernel
theorem dX0_amount_4 : decode cX0_amount 4 = .ok (.iconst 1, 1) := by decide +kernel
theorem dX0_amount_5 : decode cX0_amount 5 = .ok (.if_icmp .eq 5, 3) := by decide +kernel
theorem dX0_amount_8 : decode cX0_amount 8 = .ok (.iconst 0, 1) := by decide +kernel
theorem dX0_amount_9 : decode cX0_amount 9 = .ok (.ireturn, 1) := by decide +kernel
theorem dX0_amount_10 : decode cX0_amount 10 = .ok (.aload_n 0, 1) := by decide +kernel
theorem dX0_amount_11 : decode cX0_amount 11 = .ok (.getfield 9, 3) := by decide +kernel
theorem dX0_amount_14 : decode cX0_amount 14 = .ok (.invokevirtual 25, 3) := by decide +kernel
theorem dX0_amount_17 : decode cX0_amount 17 = .ok (.ifCond .eq 8, 3) := by decide +kernel
theorem dX0_amount_20 : decode cX0_amount 20 = .ok (.aload_n 0, 1) := by decide +kernel
theorem dX0_amount_21 : decode cX0_amount 21 = .ok (.getfield 15, 3) := by decide +kernel
theorem dX0_amount_24 : decode cX0_amount 24 = .ok (.ireturn, 1) := by decide +kernel
theorem dX0_amount_25 : decode cX0_amount 25 = .ok (.aload_n 0, 1) := by decide +kernel
theorem dX0_amount_26 : decode cX0_amount 26 = .ok (.getfield 9, 3) := by decide +kernel
theorem dX0_amount_29 : decode cX0_amount 29 = .ok (.invokevirtual 31, 3) := by decide +kernel
theorem dX0_amount_32 : decode cX0_amount 32 = .ok (.aload_n 0, 1) := by decide +kernel
theorem dX0_amount_33 : decode cX0_amount 33 = .ok (.getfield 9, 3) := by decide +kernel
theorem dX0_amount_36 : decode cX0_amount 36 = .ok (.getfield 35, 3) := by decide +kernel
theorem dX0_amount_39 : decode cX0_amount 39 = .ok (.isub, 1) := by decide +kernel
theorem dX0_amount_40 : decode cX0_amount 40 = .ok (.istore_n 1, 1) := by decide +kernel
theorem dX0_amount_41 : decode cX0_amount 41 = .ok (.iload_n 1, 1) := by decide +kernel
theorem dX0_amount_42 : decode cX0_amount 42 = .ok (.bipush 120, 2) := by decide +kernel
theorem dX0_amount_44 : decode cX0_amount 44 = .ok (.if_icmp .lt 10, 3) := by decide +kernel
theorem dX0_amount_47 : decode cX0_amount 47 = .ok (.aload_n 0, 1) := by decide +kernel
theorem dX0_amount_48 : decode cX0_amount 48 = .ok (.getfield 15, 3) := by decide +kernel
theorem dX0_amount_51 : decode cX0_amount 51 = .ok (.iconst 2, 1) := by decide +kernel
theorem dX0_amount_52 : decode cX0_amount 52 = .ok (.idiv, 1) := by decide +kernel
theorem dX0_amount_53 : decode cX0_amount 53 = .ok (.ireturn, 1) := by decide +kernel
theorem dX0_amount_54 : decode cX0_amount 54 = .ok (.iload_n 1, 1) := by decide +kernel
theorem dX0_amount_55 : decode cX0_amount 55 = .ok (.bipush 60, 2) := by decide +kernel
theorem dX0_amount_57 : decode cX0_amount 57 = .ok (.if_icmp .lt 12, 3) := by decide +kernel
theorem dX0_amount_60 : decode cX0_amount 60 = .ok (.aload_n 0, 1) := by decide +kernel
theorem dX0_amount_61 : decode cX0_amount 61 = .ok (.getfield 15, 3) := by decide +kernel
theorem dX0_amount_64 : decode cX0_amount 64 = .ok (.iconst 4, 1) := by decide +kernel
theorem dX0_amount_65 : decode cX0_amount 65 = .ok (.idiv, 1) := by decide +kernel
theorem dX0_amount_66 : decode cX0_amount 66 = .ok (.goto 4, 3) := by decide +kernel
theorem dX0_amount_69 : decode cX0_amount 69 = .ok (.iconst 0, 1) := by decide +kernel
theorem dX0_amount_70 : decode cX0_amount 70 = .ok (.ireturn, 1) := by decide +kernel
theorem dX1_init_0 : decode cX1_init 0 = .ok (.aload_n 0, 1) := by decide +kernel
theorem dX1_init_1 : decode cX1_init 1 = .ok (.invokespecial 3, 3) := by decide +kernel
theorem dX1_init_4 : decode cX1_init 4 = .ok (.aload_n 0, 1) := by decide +kernel
theorem dX1_init_5 : decode cX1_init 5 = .ok (.iconst 3, 1) := by decide +kernel
theorem dX1_init_6 : decode cX1_init 6 = .ok (.newarray .int, 2) := by decide +kernel
theorem dX1_init_8 : decode cX1_init 8 = .ok (.putfield 9, 3) := by decide +kernel
theorem dX1_init_11 : decode cX1_init 11 = .ok (.aload_n 0, 1) := by decide +kernel
theorem dX1_init_12 : decode cX1_init 12 = .ok (.iconst 3, 1) := by decide +kernel
theorem dX1_init_13 : decode cX1_init 13 = .ok (.newarray .int, 2) := by decide +kernel
theorem dX1_init_15 : decode cX1_init 15 = .ok (.putfield 15, 3) := by decide +kernel
theorem dX1_init_18 : decode cX1_init 18 = .ok (.aload_n 0, 1) := by decide +kernel
theorem dX1_init_19 : decode cX1_init 19 = .ok (.iconst 3, 1) := by decide +kernel
theorem dX1_init_20 : decode cX1_init 20 = .ok (.newarray .int, 2) := by decide +kernel
theorem dX1_init_22 : decode cX1_init 22 = .ok (.putfield 18, 3) := by decide +kernel
theorem dX1_init_25 : decode cX1_init 25 = .ok (.aload_n 0, 1) := by decide +kernel
theorem dX1_init_26 : decode cX1_init 26 = .ok (.iconst 5, 1) := by decide +kernel
theorem dX1_init_27 : decode cX1_init 27 = .ok (.newarray .int, 2) := by decide +kernel
theorem dX1_init_29 : decode cX1_init 29 = .ok (.putfield 21, 3) := by decide +kernel
theorem dX1_init_32 : decode cX1_init 32 = .ok (.return_, 1) := by decide +kernel
theorem dX1_setPrices_0 : decode cX1_setPrices 0 = .ok (.aload_n 0, 1) := by decide +kernel
theorem dX1_setPrices_1 : decode cX1_setPrices 1 = .ok (.getfield 9, 3) := by decide +kernel
theorem dX1_setPrices_4 : decode cX1_setPrices 4 = .ok (.iload_n 1, 1) := by decide +kernel
theorem dX1_setPrices_5 : decode cX1_setPrices 5 = .ok (.iload_n 2, 1) := by decide +kernel
theorem dX1_setPrices_6 : decode cX1_setPrices 6 = .ok (.invokestatic 24, 3) := by decide +kernel
theorem dX1_setPrices_9 : decode cX1_setPrices 9 = .ok (.aload_n 0, 1) := by decide +kernel
theorem dX1_setPrices_10 : decode cX1_setPrices 10 = .ok (.getfield 15, 3) := by decide +kernel
theorem dX1_setPrices_13 : decode cX1_setPrices 13 = .ok (.iload_n 1, 1) := by decide +kernel
theorem dX1_setPrices_14 : decode cX1_setPrices 14 = .ok (.iload_n 3, 1) := by decide +kernel
theorem dX1_setPrices_15 : decode cX1_setPrices 15 = .ok (.invokestatic 24, 3) := by decide +kernel
theorem dX1_setPrices_18 : decode cX1_setPrices 18 = .ok (.aload_n 0, 1) := by decide +kernel
theorem dX1_setPrices_19 : decode cX1_setPrices 19 = .ok (.getfield 18, 3) := by decide +kernel
theorem dX1_setPrices_22 : decode cX1_setPrices 22 = .ok (.iload_n 1, 1) := by decide +kernel
theorem dX1_setPrices_23 : decode cX1_setPrices 23 = .ok (.iload 4, 2) := by decide +kernel
theorem dX1_setPrices_25 : decode cX1_setPrices 25 = .ok (.invokestatic 24, 3) := by decide +kernel
theorem dX1_setPrices_28 : decode cX1_setPrices 28 = .ok (.return_, 1) := by decide +kernel
theorem dX1_ticket_0 : decode cX1_ticket 0 = .ok (.aload_n 0, 1) := by decide +kernel
theorem dX1_ticket_1 : decode cX1_ticket 1 = .ok (.getfield 9, 3) := by decide +kernel
theorem dX1_ticket_4 : decode cX1_ticket 4 = .ok (.iload_n 1, 1) := by decide +kernel
theorem dX1_ticket_5 : decode cX1_ticket 5 = .ok (.invokestatic 28, 3) := by decide +kernel
theorem dX1_ticket_8 : decode cX1_ticket 8 = .ok (.aload_n 0, 1) := by decide +kernel
theorem dX1_ticket_9 : decode cX1_ticket 9 = .ok (.getfield 15, 3) := by decide +kernel
theorem dX1_ticket_12 : decode cX1_ticket 12 = .ok (.iload_n 1, 1) := by decide +kernel
theorem dX1_ticket_13 : decode cX1_ticket 13 = .ok (.invokestatic 28, 3) := by decide +kernel
theorem dX1_ticket_16 : decode cX1_ticket 16 = .ok (.iload_n 2, 1) := by decide +kernel
theorem dX1_ticket_17 : decode cX1_ticket 17 = .ok (.imul, 1) := by decide +kernel
theorem dX1_ticket_18 : decode cX1_ticket 18 = .ok (.iadd, 1) := by decide +kernel
theorem dX1_ticket_19 : decode cX1_ticket 19 = .ok (.istore_n 3, 1) := by decide +kernel
theorem dX1_ticket_20 : decode cX1_ticket 20 = .ok (.iload_n 2, 1) := by decide +kernel
theorem dX1_ticket_21 : decode cX1_ticket 21 = .ok (.iconst 3, 1) := by decide +kernel
theorem dX1_ticket_22 : decode cX1_ticket 22 = .ok (.if_icmp .le 16, 3) := by decide +kernel
theorem dX1_ticket_25 : decode cX1_ticket 25 = .ok (.iload_n 3, 1) := by decide +kernel
theorem dX1_ticket_26 : decode cX1_ticket 26 = .ok (.aload_n 0, 1) := by decide +kernel
theorem dX1_ticket_27 : decode cX1_ticket 27 = .ok (.getfield 18, 3) := by decide +kernel
theorem dX1_ticket_30 : decode cX1_ticket 30 = .ok (.iload_n 1, 1) := by decide +kernel
theorem dX1_ticket_31 : decode cX1_ticket 31 = .ok (.invokestatic 28, 3) := by decide +kernel
theorem dX1_ticket_34 : decode cX1_ticket 34 = .ok (.iadd, 1) := by decide +kernel
theorem dX1_ticket_35 : decode cX1_ticket 35 = .ok (.goto 4, 3) := by decide +kernel
theorem dX1_ticket_38 : decode cX1_ticket 38 = .ok (.iload_n 3, 1) := by decide +kernel
theorem dX1_ticket_39 : decode cX1_ticket 39 = .ok (.ireturn, 1) := by decide +kernel
theorem dX1_fareOf_0 : decode cX1_fareOf 0 = .ok (.aload_n 0, 1) := by decide +kernel
theorem dX1_fareOf_1 : decode cX1_fareOf 1 = .ok (.getfield 21, 3) := by decide +kernel
theorem dX1_fareOf_4 : decode cX1_fareOf 4 = .ok (.ldc 32, 2) := by decide +kernel
theorem dX1_fareOf_6 : decode cX1_fareOf 6 = .ok (.invokestatic 33, 3) := by decide +kernel
theorem dX1_fareOf_9 : decode cX1_fareOf 9 = .ok (.aload_n 0, 1) := by decide +kernel
theorem dX1_fareOf_10 : decode cX1_fareOf 10 = .ok (.getfield 21, 3) := by decide +kernel
theorem dX1_fareOf_13 : decode cX1_fareOf 13 = .ok (.iconst 0, 1) := by decide +kernel
theorem dX1_fareOf_14 : decode cX1_fareOf 14 = .ok (.iconst 0, 1) := by decide +kernel
theorem dX1_fareOf_15 : decode cX1_fareOf 15 = .ok (.invokestatic 24, 3) := by decide +kernel
theorem dX1_fareOf_18 : decode cX1_fareOf 18 = .ok (.iconst 0, 1) := by decide +kernel
theorem dX1_fareOf_19 : decode cX1_fareOf 19 = .ok (.istore_n 2, 1) := by decide +kernel
theorem dX1_fareOf_20 : decode cX1_fareOf 20 = .ok (.aload_n 1, 1) := by decide +kernel
theorem dX1_fareOf_21 : decode cX1_fareOf 21 = .ok (.getfield 39, 3) := by decide +kernel
theorem dX1_fareOf_24 : decode cX1_fareOf 24 = .ok (.astore_n 3, 1) := by decide +kernel
theorem dX1_fareOf_25 : decode cX1_fareOf 25 = .ok (.aload_n 3, 1) := by decide +kernel
theorem dX1_fareOf_26 : decode cX1_fareOf 26 = .ok (.ifnull 20, 3) := by decide +kernel
theorem dX1_fareOf_29 : decode cX1_fareOf 29 = .ok (.aload_n 0, 1) := by decide +kernel
theorem dX1_fareOf_30 : decode cX1_fareOf 30 = .ok (.aload_n 3, 1) := by decide +kernel
theorem dX1_fareOf_31 : decode cX1_fareOf 31 = .ok (.iload_n 2, 1) := by decide +kernel
theorem dX1_fareOf_32 : decode cX1_fareOf 32 = .ok (.invokevirtual 45, 3) := by decide +kernel
theorem dX1_fareOf_35 : decode cX1_fareOf 35 = .ok (.iinc 2 1, 3) := by decide +kernel
theorem dX1_fareOf_38 : decode cX1_fareOf 38 = .ok (.aload_n 3, 1) := by decide +kernel
theorem dX1_fareOf_39 : decode cX1_fareOf 39 = .ok (.getfield 49, 3) := by decide +kernel
theorem dX1_fareOf_42 : decode cX1_fareOf 42 = .ok (.astore_n 3, 1) := by decide +kernel
theorem dX1_fareOf_43 : decode cX1_fareOf 43 = .ok (.goto (-18), 3) := by decide +kernel
theorem dX1_fareOf_46 : decode cX1_fareOf 46 = .ok (.aload_n 0, 1) := by decide +kernel
theorem dX1_fareOf_47 : decode cX1_fareOf 47 = .ok (.getfield 21, 3) := by decide +kernel
theorem dX1_fareOf_50 : decode cX1_fareOf 50 = .ok (.iload_n 2, 1) := by decide +kernel
theorem dX1_fareOf_51 : decode cX1_fareOf 51 = .ok (.invokestatic 28, 3) := by decide +kernel
theorem dX1_fareOf_54 : decode cX1_fareOf 54 = .ok (.ireturn, 1) := by decide +kernel
theorem dX1_ticketsFrom_0 : decode cX1_ticketsFrom 0 = .ok (.aload_n 1, 1) := by decide +kernel
theorem dX1_ticketsFrom_1 : decode cX1_ticketsFrom 1 = .ok (.getfield 54, 3) := by decide +kernel
theorem dX1_ticketsFrom_4 : decode cX1_ticketsFrom 4 = .ok (.getfield 58, 3) := by decide +kernel
theorem dX1_ticketsFrom_7 : decode cX1_ticketsFrom 7 = .ok (.istore_n 3, 1) := by decide +kernel
theorem dX1_ticketsFrom_8 : decode cX1_ticketsFrom 8 = .ok (.iconst 0, 1) := by decide +kernel
theorem dX1_ticketsFrom_9 : decode cX1_ticketsFrom 9 = .ok (.istore 4, 2) := by decide +kernel
theorem dX1_ticketsFrom_11 : decode cX1_ticketsFrom 11 = .ok (.iload_n 2, 1) := by decide +kernel
theorem dX1_ticketsFrom_12 : decode cX1_ticketsFrom 12 = .ok (.istore 5, 2) := by decide +kernel
theorem dX1_ticketsFrom_14 : decode cX1_ticketsFrom 14 = .ok (.aload_n 1, 1) := by decide +kernel
theorem dX1_ticketsFrom_15 : decode cX1_ticketsFrom 15 = .ok (.astore 6, 2) := by decide +kernel
theorem dX1_ticketsFrom_17 : decode cX1_ticketsFrom 17 = .ok (.aload 6, 2) := by decide +kernel
theorem dX1_ticketsFrom_19 : decode cX1_ticketsFrom 19 = .ok (.ifnull 75, 3) := by decide +kernel
theorem dX1_ticketsFrom_22 : decode cX1_ticketsFrom 22 = .ok (.aload 6, 2) := by decide +kernel
theorem dX1_ticketsFrom_24 : decode cX1_ticketsFrom 24 = .ok (.getfield 54, 3) := by decide +kernel
theorem dX1_ticketsFrom_27 : decode cX1_ticketsFrom 27 = .ok (.getfield 58, 3) := by decide +kernel
theorem dX1_ticketsFrom_30 : decode cX1_ticketsFrom 30 = .ok (.iload_n 3, 1) := by decide +kernel
theorem dX1_ticketsFrom_31 : decode cX1_ticketsFrom 31 = .ok (.if_icmp .ne 63, 3) := by decide +kernel
theorem dX1_ticketsFrom_34 : decode cX1_ticketsFrom 34 = .ok (.iload 4, 2) := by decide +kernel
theorem dX1_ticketsFrom_36 : decode cX1_ticketsFrom 36 = .ok (.aload 6, 2) := by decide +kernel
theorem dX1_ticketsFrom_38 : decode cX1_ticketsFrom 38 = .ok (.invokevirtual 64, 3) := by decide +kernel
theorem dX1_ticketsFrom_41 : decode cX1_ticketsFrom 41 = .ok (.iadd, 1) := by decide +kernel
theorem dX1_ticketsFrom_42 : decode cX1_ticketsFrom 42 = .ok (.istore 4, 2) := by decide +kernel
theorem dX1_ticketsFrom_44 : decode cX1_ticketsFrom 44 = .ok (.iinc 5 1, 3) := by decide +kernel
theorem dX1_ticketsFrom_47 : decode cX1_ticketsFrom 47 = .ok (.aload_n 0, 1) := by decide +kernel
theorem dX1_ticketsFrom_48 : decode cX1_ticketsFrom 48 = .ok (.getfield 21, 3) := by decide +kernel
theorem dX1_ticketsFrom_51 : decode cX1_ticketsFrom 51 = .ok (.iload 5, 2) := by decide +kernel
theorem dX1_ticketsFrom_53 : decode cX1_ticketsFrom 53 = .ok (.aload_n 0, 1) := by decide +kernel
theorem dX1_ticketsFrom_54 : decode cX1_ticketsFrom 54 = .ok (.getfield 21, 3) := by decide +kernel
theorem dX1_ticketsFrom_57 : decode cX1_ticketsFrom 57 = .ok (.iload 5, 2) := by decide +kernel
theorem dX1_ticketsFrom_59 : decode cX1_ticketsFrom 59 = .ok (.invokestatic 28, 3) := by decide +kernel
theorem dX1_ticketsFrom_62 : decode cX1_ticketsFrom 62 = .ok (.aload_n 0, 1) := by decide +kernel
theorem dX1_ticketsFrom_63 : decode cX1_ticketsFrom 63 = .ok (.getfield 21, 3) := by decide +kernel
theorem dX1_ticketsFrom_66 : decode cX1_ticketsFrom 66 = .ok (.iload_n 2, 1) := by decide +kernel
theorem dX1_ticketsFrom_67 : decode cX1_ticketsFrom 67 = .ok (.invokestatic 28, 3) := by decide +kernel
theorem dX1_ticketsFrom_70 : decode cX1_ticketsFrom 70 = .ok (.aload_n 0, 1) := by decide +kernel
theorem dX1_ticketsFrom_71 : decode cX1_ticketsFrom 71 = .ok (.iload_n 3, 1) := by decide +kernel
theorem dX1_ticketsFrom_72 : decode cX1_ticketsFrom 72 = .ok (.iload 4, 2) := by decide +kernel
theorem dX1_ticketsFrom_74 : decode cX1_ticketsFrom 74 = .ok (.invokevirtual 68, 3) := by decide +kernel
theorem dX1_ticketsFrom_77 : decode cX1_ticketsFrom 77 = .ok (.iadd, 1) := by decide +kernel
theorem dX1_ticketsFrom_78 : decode cX1_ticketsFrom 78 = .ok (.invokestatic 72, 3) := by decide +kernel
theorem dX1_ticketsFrom_81 : decode cX1_ticketsFrom 81 = .ok (.invokestatic 24, 3) := by decide +kernel
theorem dX1_ticketsFrom_84 : decode cX1_ticketsFrom 84 = .ok (.aload 6, 2) := by decide +kernel
theorem dX1_ticketsFrom_86 : decode cX1_ticketsFrom 86 = .ok (.getfield 49, 3) := by decide +kernel
theorem dX1_ticketsFrom_89 : decode cX1_ticketsFrom 89 = .ok (.astore 6, 2) := by decide +kernel
theorem dX1_ticketsFrom_91 : decode cX1_ticketsFrom 91 = .ok (.goto (-74), 3) := by decide +kernel
theorem dX1_ticketsFrom_94 : decode cX1_ticketsFrom 94 = .ok (.return_, 1) := by decide +kernel
theorem dX2_init_0 : decode cX2_init 0 = .ok (.aload_n 0, 1) := by decide +kernel
theorem dX2_init_1 : decode cX2_init 1 = .ok (.invokespecial 3, 3) := by decide +kernel
theorem dX2_init_4 : decode cX2_init 4 = .ok (.aload_n 0, 1) := by decide +kernel
theorem dX2_init_5 : decode cX2_init 5 = .ok (.iload_n 1, 1) := by decide +kernel
theorem dX2_init_6 : decode cX2_init 6 = .ok (.putfield 9, 3) := by decide +kernel
theorem dX2_init_9 : decode cX2_init 9 = .ok (.aload_n 0, 1) := by decide +kernel
theorem dX2_init_10 : decode cX2_init 10 = .ok (.aload_n 2, 1) := by decide +kernel
theorem dX2_init_11 : decode cX2_init 11 = .ok (.putfield 15, 3) := by decide +kernel
theorem dX2_init_14 : decode cX2_init 14 = .ok (.aload_n 0, 1) := by decide +kernel
theorem dX2_init_15 : decode cX2_init 15 = .ok (.iload_n 3, 1) := by decide +kernel
theorem dX2_init_16 : decode cX2_init 16 = .ok (.putfield 19, 3) := by decide +kernel
theorem dX2_init_19 : decode cX2_init 19 = .ok (.aload_n 0, 1) := by decide +kernel
theorem dX2_init_20 : decode cX2_init 20 = .ok (.iload 4, 2) := by decide +kernel
theorem dX2_init_22 : decode cX2_init 22 = .ok (.putfield 22, 3) := by decide +kernel
theorem dX2_init_25 : decode cX2_init 25 = .ok (.aload_n 0, 1) := by decide +kernel
theorem dX2_init_26 : decode cX2_init 26 = .ok (.iload 5, 2) := by decide +kernel
theorem dX2_init_28 : decode cX2_init 28 = .ok (.putfield 25, 3) := by decide +kernel
theorem dX2_init_31 : decode cX2_init 31 = .ok (.return_, 1) := by decide +kernel
theorem dX2_rideAt_0 : decode cX2_rideAt 0 = .ok (.iconst 0, 1) := by decide +kernel
theorem dX2_rideAt_1 : decode cX2_rideAt 1 = .ok (.istore_n 2, 1) := by decide +kernel
theorem dX2_rideAt_2 : decode cX2_rideAt 2 = .ok (.aload_n 0, 1) := by decide +kernel
theorem dX2_rideAt_3 : decode cX2_rideAt 3 = .ok (.getfield 15, 3) := by decide +kernel
theorem dX2_rideAt_6 : decode cX2_rideAt 6 = .ok (.astore_n 3, 1) := by decide +kernel
theorem dX2_rideAt_7 : decode cX2_rideAt 7 = .ok (.aload_n 3, 1) := by decide +kernel
theorem dX2_rideAt_8 : decode cX2_rideAt 8 = .ok (.ifnull 21, 3) := by decide +kernel
theorem dX2_rideAt_11 : decode cX2_rideAt 11 = .ok (.iload_n 2, 1) := by decide +kernel
theorem dX2_rideAt_12 : decode cX2_rideAt 12 = .ok (.iload_n 1, 1) := by decide +kernel
theorem dX2_rideAt_13 : decode cX2_rideAt 13 = .ok (.if_icmp .ne 5, 3) := by decide +kernel
theorem dX2_rideAt_16 : decode cX2_rideAt 16 = .ok (.aload_n 3, 1) := by decide +kernel
theorem dX2_rideAt_17 : decode cX2_rideAt 17 = .ok (.areturn, 1) := by decide +kernel
theorem dX2_rideAt_18 : decode cX2_rideAt 18 = .ok (.iinc 2 1, 3) := by decide +kernel
theorem dX2_rideAt_21 : decode cX2_rideAt 21 = .ok (.aload_n 3, 1) := by decide +kernel
theorem dX2_rideAt_22 : decode cX2_rideAt 22 = .ok (.getfield 28, 3) := by decide +kernel
theorem dX2_rideAt_25 : decode cX2_rideAt 25 = .ok (.astore_n 3, 1) := by decide +kernel
theorem dX2_rideAt_26 : decode cX2_rideAt 26 = .ok (.goto (-19), 3) := by decide +kernel
theorem dX2_rideAt_29 : decode cX2_rideAt 29 = .ok (.aconst_null, 1) := by decide +kernel
theorem dX2_rideAt_30 : decode cX2_rideAt 30 = .ok (.areturn, 1) := by decide +kernel
theorem dX2_goesBy_0 : decode cX2_goesBy 0 = .ok (.aload_n 0, 1) := by decide +kernel
theorem dX2_goesBy_1 : decode cX2_goesBy 1 = .ok (.getfield 15, 3) := by decide +kernel
theorem dX2_goesBy_4 : decode cX2_goesBy 4 = .ok (.astore_n 3, 1) := by decide +kernel
theorem dX2_goesBy_5 : decode cX2_goesBy 5 = .ok (.aload_n 3, 1) := by decide +kernel
theorem dX2_goesBy_6 : decode cX2_goesBy 6 = .ok (.ifnull 40, 3) := by decide +kernel
theorem dX2_goesBy_9 : decode cX2_goesBy 9 = .ok (.aload_n 3, 1) := by decide +kernel
theorem dX2_goesBy_10 : decode cX2_goesBy 10 = .ok (.getfield 33, 3) := by decide +kernel
theorem dX2_goesBy_13 : decode cX2_goesBy 13 = .ok (.getfield 37, 3) := by decide +kernel
theorem dX2_goesBy_16 : decode cX2_goesBy 16 = .ok (.aload_n 1, 1) := by decide +kernel
theorem dX2_goesBy_17 : decode cX2_goesBy 17 = .ok (.getfield 37, 3) := by decide +kernel
theorem dX2_goesBy_20 : decode cX2_goesBy 20 = .ok (.if_icmp .ne 18, 3) := by decide +kernel
theorem dX2_goesBy_23 : decode cX2_goesBy 23 = .ok (.iload_n 2, 1) := by decide +kernel
theorem dX2_goesBy_24 : decode cX2_goesBy 24 = .ok (.iconst (-1), 1) := by decide +kernel
theorem dX2_goesBy_25 : decode cX2_goesBy 25 = .ok (.if_icmp .eq 11, 3) := by decide +kernel
theorem dX2_goesBy_28 : decode cX2_goesBy 28 = .ok (.aload_n 3, 1) := by decide +kernel
theorem dX2_goesBy_29 : decode cX2_goesBy 29 = .ok (.getfield 42, 3) := by decide +kernel
theorem dX2_goesBy_32 : decode cX2_goesBy 32 = .ok (.iload_n 2, 1) := by decide +kernel
theorem dX2_goesBy_33 : decode cX2_goesBy 33 = .ok (.if_icmp .ne 5, 3) := by decide +kernel
theorem dX2_goesBy_36 : decode cX2_goesBy 36 = .ok (.iconst 1, 1) := by decide +kernel
theorem dX2_goesBy_37 : decode cX2_goesBy 37 = .ok (.ireturn, 1) := by decide +kernel
theorem dX2_goesBy_38 : decode cX2_goesBy 38 = .ok (.aload_n 3, 1) := by decide +kernel
theorem dX2_goesBy_39 : decode cX2_goesBy 39 = .ok (.getfield 28, 3) := by decide +kernel
theorem dX2_goesBy_42 : decode cX2_goesBy 42 = .ok (.astore_n 3, 1) := by decide +kernel
theorem dX2_goesBy_43 : decode cX2_goesBy 43 = .ok (.goto (-38), 3) := by decide +kernel
theorem dX2_goesBy_46 : decode cX2_goesBy 46 = .ok (.iconst 0, 1) := by decide +kernel
theorem dX2_goesBy_47 : decode cX2_goesBy 47 = .ok (.ireturn, 1) := by decide +kernel
theorem dX2_chance_0 : decode cX2_chance 0 = .ok (.dconst 1, 1) := by decide +kernel
theorem dX2_chance_1 : decode cX2_chance 1 = .ok (.dstore_n 1, 1) := by decide +kernel
theorem dX2_chance_2 : decode cX2_chance 2 = .ok (.aload_n 0, 1) := by decide +kernel
theorem dX2_chance_3 : decode cX2_chance 3 = .ok (.getfield 15, 3) := by decide +kernel
theorem dX2_chance_6 : decode cX2_chance 6 = .ok (.astore_n 3, 1) := by decide +kernel
theorem dX2_chance_7 : decode cX2_chance 7 = .ok (.aload_n 3, 1) := by decide +kernel
theorem dX2_chance_8 : decode cX2_chance 8 = .ok (.ifnull 52, 3) := by decide +kernel
theorem dX2_chance_11 : decode cX2_chance 11 = .ok (.aload_n 3, 1) := by decide +kernel
theorem dX2_chance_12 : decode cX2_chance 12 = .ok (.getfield 28, 3) := by decide +kernel
theorem dX2_chance_15 : decode cX2_chance 15 = .ok (.ifnull 45, 3) := by decide +kernel
theorem dX2_chance_18 : decode cX2_chance 18 = .ok (.aload_n 3, 1) := by decide +kernel
theorem dX2_chance_19 : decode cX2_chance 19 = .ok (.getfield 28, 3) := by decide +kernel
theorem dX2_chance_22 : decode cX2_chance 22 = .ok (.invokevirtual 45, 3) := by decide +kernel
theorem dX2_chance_25 : decode cX2_chance 25 = .ok (.aload_n 3, 1) := by decide +kernel
theorem dX2_chance_26 : decode cX2_chance 26 = .ok (.invokevirtual 49, 3) := by decide +kernel
theorem dX2_chance_29 : decode cX2_chance 29 = .ok (.isub, 1) := by decide +kernel
theorem dX2_chance_30 : decode cX2_chance 30 = .ok (.aload_n 3, 1) := by decide +kernel
theorem dX2_chance_31 : decode cX2_chance 31 = .ok (.getfield 28, 3) := by decide +kernel
theorem dX2_chance_34 : decode cX2_chance 34 = .ok (.getfield 52, 3) := by decide +kernel
theorem dX2_chance_37 : decode cX2_chance 37 = .ok (.isub, 1) := by decide +kernel
theorem dX2_chance_38 : decode cX2_chance 38 = .ok (.istore 4, 2) := by decide +kernel
theorem dX2_chance_40 : decode cX2_chance 40 = .ok (.dload_n 1, 1) := by decide +kernel
theorem dX2_chance_41 : decode cX2_chance 41 = .ok (.aload_n 3, 1) := by decide +kernel
theorem dX2_chance_42 : decode cX2_chance 42 = .ok (.getfield 33, 3) := by decide +kernel
theorem dX2_chance_45 : decode cX2_chance 45 = .ok (.iload 4, 2) := by decide +kernel
theorem dX2_chance_47 : decode cX2_chance 47 = .ok (.invokevirtual 55, 3) := by decide +kernel
theorem dX2_chance_50 : decode cX2_chance 50 = .ok (.dmul, 1) := by decide +kernel
theorem dX2_chance_51 : decode cX2_chance 51 = .ok (.dstore_n 1, 1) := by decide +kernel
theorem dX2_chance_52 : decode cX2_chance 52 = .ok (.aload_n 3, 1) := by decide +kernel
theorem dX2_chance_53 : decode cX2_chance 53 = .ok (.getfield 28, 3) := by decide +kernel
theorem dX2_chance_56 : decode cX2_chance 56 = .ok (.astore_n 3, 1) := by decide +kernel
theorem dX2_chance_57 : decode cX2_chance 57 = .ok (.goto (-50), 3) := by decide +kernel
theorem dX2_chance_60 : decode cX2_chance 60 = .ok (.dload_n 1, 1) := by decide +kernel
theorem dX2_chance_61 : decode cX2_chance 61 = .ok (.dreturn, 1) := by decide +kernel
theorem dX2_carbon_0 : decode cX2_carbon 0 = .ok (.dconst 0, 1) := by decide +kernel
theorem dX2_carbon_1 : decode cX2_carbon 1 = .ok (.dstore_n 1, 1) := by decide +kernel
theorem dX2_carbon_2 : decode cX2_carbon 2 = .ok (.aload_n 0, 1) := by decide +kernel
theorem dX2_carbon_3 : decode cX2_carbon 3 = .ok (.getfield 15, 3) := by decide +kernel
theorem dX2_carbon_6 : decode cX2_carbon 6 = .ok (.astore_n 3, 1) := by decide +kernel
theorem dX2_carbon_7 : decode cX2_carbon 7 = .ok (.aload_n 3, 1) := by decide +kernel
theorem dX2_carbon_8 : decode cX2_carbon 8 = .ok (.ifnull 34, 3) := by decide +kernel
theorem dX2_carbon_11 : decode cX2_carbon 11 = .ok (.dload_n 1, 1) := by decide +kernel
theorem dX2_carbon_12 : decode cX2_carbon 12 = .ok (.getstatic 59, 3) := by decide +kernel
theorem dX2_carbon_15 : decode cX2_carbon 15 = .ok (.aload_n 3, 1) := by decide +kernel
theorem dX2_carbon_16 : decode cX2_carbon 16 = .ok (.getfield 33, 3) := by decide +kernel
theorem dX2_carbon_19 : decode cX2_carbon 19 = .ok (.getfield 63, 3) := by decide +kernel
theorem dX2_carbon_22 : decode cX2_carbon 22 = .ok (.invokestatic 66, 3) := by decide +kernel
theorem dX2_carbon_25 : decode cX2_carbon 25 = .ok (.i2d, 1) := by decide +kernel
theorem dX2_carbon_26 : decode cX2_carbon 26 = .ok (.aload_n 3, 1) := by decide +kernel
theorem dX2_carbon_27 : decode cX2_carbon 27 = .ok (.invokevirtual 70, 3) := by decide +kernel
theorem dX2_carbon_30 : decode cX2_carbon 30 = .ok (.i2d, 1) := by decide +kernel
theorem dX2_carbon_31 : decode cX2_carbon 31 = .ok (.dmul, 1) := by decide +kernel
theorem dX2_carbon_32 : decode cX2_carbon 32 = .ok (.dadd, 1) := by decide +kernel
theorem dX2_carbon_33 : decode cX2_carbon 33 = .ok (.dstore_n 1, 1) := by decide +kernel
theorem dX2_carbon_34 : decode cX2_carbon 34 = .ok (.aload_n 3, 1) := by decide +kernel
theorem dX2_carbon_35 : decode cX2_carbon 35 = .ok (.getfield 28, 3) := by decide +kernel
theorem dX2_carbon_38 : decode cX2_carbon 38 = .ok (.astore_n 3, 1) := by decide +kernel
theorem dX2_carbon_39 : decode cX2_carbon 39 = .ok (.goto (-32), 3) := by decide +kernel
theorem dX2_carbon_42 : decode cX2_carbon 42 = .ok (.dload_n 1, 1) := by decide +kernel
theorem dX2_carbon_43 : decode cX2_carbon 43 = .ok (.dreturn, 1) := by decide +kernel
theorem dX2_score_0 : decode cX2_score 0 = .ok (.aload_n 0, 1) := by decide +kernel
theorem dX2_score_1 : decode cX2_score 1 = .ok (.getfield 25, 3) := by decide +kernel
theorem dX2_score_4 : decode cX2_score 4 = .ok (.aload_n 0, 1) := by decide +kernel
theorem dX2_score_5 : decode cX2_score 5 = .ok (.getfield 9, 3) := by decide +kernel
theorem dX2_score_8 : decode cX2_score 8 = .ok (.isub, 1) := by decide +kernel
theorem dX2_score_9 : decode cX2_score 9 = .ok (.i2d, 1) := by decide +kernel
theorem dX2_score_10 : decode cX2_score 10 = .ok (.ldc2_w 73, 3) := by decide +kernel
theorem dX2_score_13 : decode cX2_score 13 = .ok (.aload_n 0, 1) := by decide +kernel
theorem dX2_score_14 : decode cX2_score 14 = .ok (.getfield 19, 3) := by decide +kernel
theorem dX2_score_17 : decode cX2_score 17 = .ok (.i2d, 1) := by decide +kernel
theorem dX2_score_18 : decode cX2_score 18 = .ok (.dmul, 1) := by decide +kernel
theorem dX2_score_19 : decode cX2_score 19 = .ok (.dadd, 1) := by decide +kernel
theorem dX2_score_20 : decode cX2_score 20 = .ok (.aload_n 0, 1) := by decide +kernel
theorem dX2_score_21 : decode cX2_score 21 = .ok (.invokevirtual 75, 3) := by decide +kernel
theorem dX2_score_24 : decode cX2_score 24 = .ok (.ldc2_w 79, 3) := by decide +kernel
theorem dX2_score_27 : decode cX2_score 27 = .ok (.ddiv, 1) := by decide +kernel
theorem dX2_score_28 : decode cX2_score 28 = .ok (.dadd, 1) := by decide +kernel
theorem dX2_score_29 : decode cX2_score 29 = .ok (.dreturn, 1) := by decide +kernel
theorem dX2_isBroken_0 : decode cX2_isBroken 0 = .ok (.aload_n 0, 1) := by decide +kernel
theorem dX2_isBroken_1 : decode cX2_isBroken 1 = .ok (.getfield 9, 3) := by decide +kernel
theorem dX2_isBroken_4 : decode cX2_isBroken 4 = .ok (.istore_n 1, 1) := by decide +kernel
theorem dX2_isBroken_5 : decode cX2_isBroken 5 = .ok (.aload_n 0, 1) := by decide +kernel
theorem dX2_isBroken_6 : decode cX2_isBroken 6 = .ok (.getfield 15, 3) := by decide +kernel
theorem dX2_isBroken_9 : decode cX2_isBroken 9 = .ok (.astore_n 2, 1) := by decide +kernel
theorem dX2_isBroken_10 : decode cX2_isBroken 10 = .ok (.aload_n 2, 1) := by decide +kernel
theorem dX2_isBroken_11 : decode cX2_isBroken 11 = .ok (.ifnull 45, 3) := by decide +kernel
theorem dX2_isBroken_14 : decode cX2_isBroken 14 = .ok (.aload_n 2, 1) := by decide +kernel
theorem dX2_isBroken_15 : decode cX2_isBroken 15 = .ok (.getfield 33, 3) := by decide +kernel
theorem dX2_isBroken_18 : decode cX2_isBroken 18 = .ok (.aload_n 2, 1) := by decide +kernel
theorem dX2_isBroken_19 : decode cX2_isBroken 19 = .ok (.getfield 42, 3) := by decide +kernel
theorem dX2_isBroken_22 : decode cX2_isBroken 22 = .ok (.invokevirtual 81, 3) := by decide +kernel
theorem dX2_isBroken_25 : decode cX2_isBroken 25 = .ok (.ifCond .eq 16, 3) := by decide +kernel
theorem dX2_isBroken_28 : decode cX2_isBroken 28 = .ok (.aload_n 2, 1) := by decide +kernel
theorem dX2_isBroken_29 : decode cX2_isBroken 29 = .ok (.invokevirtual 45, 3) := by decide +kernel
theorem dX2_isBroken_32 : decode cX2_isBroken 32 = .ok (.iload_n 1, 1) := by decide +kernel
theorem dX2_isBroken_33 : decode cX2_isBroken 33 = .ok (.aload_n 2, 1) := by decide +kernel
theorem dX2_isBroken_34 : decode cX2_isBroken 34 = .ok (.getfield 52, 3) := by decide +kernel
theorem dX2_isBroken_37 : decode cX2_isBroken 37 = .ok (.iadd, 1) := by decide +kernel
theorem dX2_isBroken_38 : decode cX2_isBroken 38 = .ok (.if_icmp .ge 5, 3) := by decide +kernel
theorem dX2_isBroken_41 : decode cX2_isBroken 41 = .ok (.iconst 1, 1) := by decide +kernel
theorem dX2_isBroken_42 : decode cX2_isBroken 42 = .ok (.ireturn, 1) := by decide +kernel
theorem dX2_isBroken_43 : decode cX2_isBroken 43 = .ok (.aload_n 2, 1) := by decide +kernel
theorem dX2_isBroken_44 : decode cX2_isBroken 44 = .ok (.invokevirtual 49, 3) := by decide +kernel
theorem dX2_isBroken_47 : decode cX2_isBroken 47 = .ok (.istore_n 1, 1) := by decide +kernel
theorem dX2_isBroken_48 : decode cX2_isBroken 48 = .ok (.aload_n 2, 1) := by decide +kernel
theorem dX2_isBroken_49 : decode cX2_isBroken 49 = .ok (.getfield 28, 3) := by decide +kernel
theorem dX2_isBroken_52 : decode cX2_isBroken 52 = .ok (.astore_n 2, 1) := by decide +kernel
theorem dX2_isBroken_53 : decode cX2_isBroken 53 = .ok (.goto (-43), 3) := by decide +kernel
theorem dX2_isBroken_56 : decode cX2_isBroken 56 = .ok (.iconst 0, 1) := by decide +kernel
theorem dX2_isBroken_57 : decode cX2_isBroken 57 = .ok (.ireturn, 1) := by decide +kernel
theorem dX2_endNow_0 : decode cX2_endNow 0 = .ok (.aload_n 0, 1) := by decide +kernel
theorem dX2_endNow_1 : decode cX2_endNow 1 = .ok (.getfield 9, 3) := by decide +kernel
theorem dX2_endNow_4 : decode cX2_endNow 4 = .ok (.istore_n 1, 1) := by decide +kernel
theorem dX2_endNow_5 : decode cX2_endNow 5 = .ok (.aload_n 0, 1) := by decide +kernel
theorem dX2_endNow_6 : decode cX2_endNow 6 = .ok (.getfield 15, 3) := by decide +kernel
theorem dX2_endNow_9 : decode cX2_endNow 9 = .ok (.astore_n 2, 1) := by decide +kernel
theorem dX2_endNow_10 : decode cX2_endNow 10 = .ok (.aload_n 2, 1) := by decide +kernel
theorem dX2_endNow_11 : decode cX2_endNow 11 = .ok (.ifnull 16, 3) := by decide +kernel
theorem dX2_endNow_14 : decode cX2_endNow 14 = .ok (.aload_n 2, 1) := by decide +kernel
theorem dX2_endNow_15 : decode cX2_endNow 15 = .ok (.invokevirtual 49, 3) := by decide +kernel
theorem dX2_endNow_18 : decode cX2_endNow 18 = .ok (.istore_n 1, 1) := by decide +kernel
theorem dX2_endNow_19 : decode cX2_endNow 19 = .ok (.aload_n 2, 1) := by decide +kernel
theorem dX2_endNow_20 : decode cX2_endNow 20 = .ok (.getfield 28, 3) := by decide +kernel
theorem dX2_endNow_23 : decode cX2_endNow 23 = .ok (.astore_n 2, 1) := by decide +kernel
theorem dX2_endNow_24 : decode cX2_endNow 24 = .ok (.goto (-14), 3) := by decide +kernel
theorem dX2_endNow_27 : decode cX2_endNow 27 = .ok (.iload_n 1, 1) := by decide +kernel
theorem dX2_endNow_28 : decode cX2_endNow 28 = .ok (.aload_n 0, 1) := by decide +kernel
theorem dX2_endNow_29 : decode cX2_endNow 29 = .ok (.getfield 22, 3) := by decide +kernel
theorem dX2_endNow_32 : decode cX2_endNow 32 = .ok (.iadd, 1) := by decide +kernel
theorem dX2_endNow_33 : decode cX2_endNow 33 = .ok (.ireturn, 1) := by decide +kernel
theorem dX3_init_0 : decode cX3_init 0 = .ok (.aload_n 0, 1) := by decide +kernel
theorem dX3_init_1 : decode cX3_init 1 = .ok (.invokespecial 3, 3) := by decide +kernel
theorem dX3_init_4 : decode cX3_init 4 = .ok (.aload_n 0, 1) := by decide +kernel
theorem dX3_init_5 : decode cX3_init 5 = .ok (.bipush 10, 2) := by decide +kernel
theorem dX3_init_7 : decode cX3_init 7 = .ok (.newarray .int, 2) := by decide +kernel
theorem dX3_init_9 : decode cX3_init 9 = .ok (.putfield 9, 3) := by decide +kernel
theorem dX3_init_12 : decode cX3_init 12 = .ok (.aload_n 0, 1) := by decide +kernel
theorem dX3_init_13 : decode cX3_init 13 = .ok (.bipush 100, 2) := by decide +kernel
theorem dX3_init_15 : decode cX3_init 15 = .ok (.newarray .int, 2) := by decide +kernel
theorem dX3_init_17 : decode cX3_init 17 = .ok (.putfield 15, 3) := by decide +kernel
theorem dX3_init_20 : decode cX3_init 20 = .ok (.aload_n 0, 1) := by decide +kernel
theorem dX3_init_21 : decode cX3_init 21 = .ok (.new 18, 3) := by decide +kernel
theorem dX3_init_24 : decode cX3_init 24 = .ok (.dup, 1) := by decide +kernel
theorem dX3_init_25 : decode cX3_init 25 = .ok (.invokespecial 20, 3) := by decide +kernel
theorem dX3_init_28 : decode cX3_init 28 = .ok (.putfield 21, 3) := by decide +kernel
theorem dX3_init_31 : decode cX3_init 31 = .ok (.aload_n 0, 1) := by decide +kernel
theorem dX3_init_32 : decode cX3_init 32 = .ok (.getfield 15, 3) := by decide +kernel
theorem dX3_init_35 : decode cX3_init 35 = .ok (.iconst (-1), 1) := by decide +kernel
theorem dX3_init_36 : decode cX3_init 36 = .ok (.invokestatic 25, 3) := by decide +kernel
theorem dX3_init_39 : decode cX3_init 39 = .ok (.return_, 1) := by decide +kernel
theorem dX3_addStop_0 : decode cX3_addStop 0 = .ok (.aload_n 0, 1) := by decide +kernel
theorem dX3_addStop_1 : decode cX3_addStop 1 = .ok (.getfield 31, 3) := by decide +kernel
theorem dX3_addStop_4 : decode cX3_addStop 4 = .ok (.istore_n 2, 1) := by decide +kernel
theorem dX3_addStop_5 : decode cX3_addStop 5 = .ok (.aload_n 0, 1) := by decide +kernel
theorem dX3_addStop_6 : decode cX3_addStop 6 = .ok (.getfield 9, 3) := by decide +kernel
theorem dX3_addStop_9 : decode cX3_addStop 9 = .ok (.iload_n 2, 1) := by decide +kernel
theorem dX3_addStop_10 : decode cX3_addStop 10 = .ok (.iload_n 1, 1) := by decide +kernel
theorem dX3_addStop_11 : decode cX3_addStop 11 = .ok (.invokestatic 35, 3) := by decide +kernel
theorem dX3_addStop_14 : decode cX3_addStop 14 = .ok (.aload_n 0, 1) := by decide +kernel
theorem dX3_addStop_15 : decode cX3_addStop 15 = .ok (.dup, 1) := by decide +kernel
theorem dX3_addStop_16 : decode cX3_addStop 16 = .ok (.getfield 31, 3) := by decide +kernel
theorem dX3_addStop_19 : decode cX3_addStop 19 = .ok (.iconst 1, 1) := by decide +kernel
theorem dX3_addStop_20 : decode cX3_addStop 20 = .ok (.iadd, 1) := by decide +kernel
theorem dX3_addStop_21 : decode cX3_addStop 21 = .ok (.putfield 31, 3) := by decide +kernel
theorem dX3_addStop_24 : decode cX3_addStop 24 = .ok (.iload_n 2, 1) := by decide +kernel
theorem dX3_addStop_25 : decode cX3_addStop 25 = .ok (.ireturn, 1) := by decide +kernel
theorem dX3_transferAt_0 : decode cX3_transferAt 0 = .ok (.aload_n 0, 1) := by decide +kernel
theorem dX3_transferAt_1 : decode cX3_transferAt 1 = .ok (.getfield 9, 3) := by decide +kernel
theorem dX3_transferAt_4 : decode cX3_transferAt 4 = .ok (.iload_n 1, 1) := by decide +kernel
theorem dX3_transferAt_5 : decode cX3_transferAt 5 = .ok (.invokestatic 39, 3) := by decide +kernel
theorem dX3_transferAt_8 : decode cX3_transferAt 8 = .ok (.ireturn, 1) := by decide +kernel
theorem dX3_walk_0 : decode cX3_walk 0 = .ok (.aload_n 0, 1) := by decide +kernel
theorem dX3_walk_1 : decode cX3_walk 1 = .ok (.getfield 15, 3) := by decide +kernel
theorem dX3_walk_4 : decode cX3_walk 4 = .ok (.iload_n 1, 1) := by decide +kernel
theorem dX3_walk_5 : decode cX3_walk 5 = .ok (.bipush 10, 2) := by decide +kernel
theorem dX3_walk_7 : decode cX3_walk 7 = .ok (.imul, 1) := by decide +kernel
theorem dX3_walk_8 : decode cX3_walk 8 = .ok (.iload_n 2, 1) := by decide +kernel
theorem dX3_walk_9 : decode cX3_walk 9 = .ok (.iadd, 1) := by decide +kernel
theorem dX3_walk_10 : decode cX3_walk 10 = .ok (.invokestatic 39, 3) := by decide +kernel
theorem dX3_walk_13 : decode cX3_walk 13 = .ok (.ireturn, 1) := by decide +kernel
theorem dX3_setWalk_0 : decode cX3_setWalk 0 = .ok (.aload_n 0, 1) := by decide +kernel
theorem dX3_setWalk_1 : decode cX3_setWalk 1 = .ok (.getfield 15, 3) := by decide +kernel
theorem dX3_setWalk_4 : decode cX3_setWalk 4 = .ok (.iload_n 1, 1) := by decide +kernel
theorem dX3_setWalk_5 : decode cX3_setWalk 5 = .ok (.bipush 10, 2) := by decide +kernel
theorem dX3_setWalk_7 : decode cX3_setWalk 7 = .ok (.imul, 1) := by decide +kernel
theorem dX3_setWalk_8 : decode cX3_setWalk 8 = .ok (.iload_n 2, 1) := by decide +kernel
theorem dX3_setWalk_9 : decode cX3_setWalk 9 = .ok (.iadd, 1) := by decide +kernel
theorem dX3_setWalk_10 : decode cX3_setWalk 10 = .ok (.iload_n 3, 1) := by decide +kernel
theorem dX3_setWalk_11 : decode cX3_setWalk 11 = .ok (.invokestatic 35, 3) := by decide +kernel
theorem dX3_setWalk_14 : decode cX3_setWalk 14 = .ok (.aload_n 0, 1) := by decide +kernel
theorem dX3_setWalk_15 : decode cX3_setWalk 15 = .ok (.getfield 15, 3) := by decide +kernel
theorem dX3_setWalk_18 : decode cX3_setWalk 18 = .ok (.iload_n 2, 1) := by decide +kernel
theorem dX3_setWalk_19 : decode cX3_setWalk 19 = .ok (.bipush 10, 2) := by decide +kernel
theorem dX3_setWalk_21 : decode cX3_setWalk 21 = .ok (.imul, 1) := by decide +kernel
theorem dX3_setWalk_22 : decode cX3_setWalk 22 = .ok (.iload_n 1, 1) := by decide +kernel
theorem dX3_setWalk_23 : decode cX3_setWalk 23 = .ok (.iadd, 1) := by decide +kernel
theorem dX3_setWalk_24 : decode cX3_setWalk 24 = .ok (.iload_n 3, 1) := by decide +kernel
theorem dX3_setWalk_25 : decode cX3_setWalk 25 = .ok (.invokestatic 35, 3) := by decide +kernel
theorem dX3_setWalk_28 : decode cX3_setWalk 28 = .ok (.return_, 1) := by decide +kernel
theorem dX4_init_0 : decode cX4_init 0 = .ok (.aload_n 0, 1) := by decide +kernel
theorem dX4_init_1 : decode cX4_init 1 = .ok (.invokespecial 1, 3) := by decide +kernel
theorem dX4_init_4 : decode cX4_init 4 = .ok (.aload_n 0, 1) := by decide +kernel
theorem dX4_init_5 : decode cX4_init 5 = .ok (.aload_n 1, 1) := by decide +kernel
theorem dX4_init_6 : decode cX4_init 6 = .ok (.putfield 7, 3) := by decide +kernel
theorem dX4_init_9 : decode cX4_init 9 = .ok (.aload_n 0, 1) := by decide +kernel
theorem dX4_init_10 : decode cX4_init 10 = .ok (.iload_n 2, 1) := by decide +kernel
theorem dX4_init_11 : decode cX4_init 11 = .ok (.putfield 13, 3) := by decide +kernel
theorem dX4_init_14 : decode cX4_init 14 = .ok (.aload_n 0, 1) := by decide +kernel
theorem dX4_init_15 : decode cX4_init 15 = .ok (.iload_n 3, 1) := by decide +kernel
theorem dX4_init_16 : decode cX4_init 16 = .ok (.putfield 17, 3) := by decide +kernel
theorem dX4_init_19 : decode cX4_init 19 = .ok (.aload_n 0, 1) := by decide +kernel
theorem dX4_init_20 : decode cX4_init 20 = .ok (.iload 4, 2) := by decide +kernel
theorem dX4_init_22 : decode cX4_init 22 = .ok (.putfield 20, 3) := by decide +kernel
theorem dX4_init_25 : decode cX4_init 25 = .ok (.aload_n 0, 1) := by decide +kernel
theorem dX4_init_26 : decode cX4_init 26 = .ok (.aload 5, 2) := by decide +kernel
theorem dX4_init_28 : decode cX4_init 28 = .ok (.putfield 23, 3) := by decide +kernel
theorem dX4_init_31 : decode cX4_init 31 = .ok (.return_, 1) := by decide +kernel
theorem dX4_boardsAt_0 : decode cX4_boardsAt 0 = .ok (.aload_n 0, 1) := by decide +kernel
theorem dX4_boardsAt_1 : decode cX4_boardsAt 1 = .ok (.getfield 7, 3) := by decide +kernel
theorem dX4_boardsAt_4 : decode cX4_boardsAt 4 = .ok (.aload_n 0, 1) := by decide +kernel
theorem dX4_boardsAt_5 : decode cX4_boardsAt 5 = .ok (.getfield 17, 3) := by decide +kernel
theorem dX4_boardsAt_8 : decode cX4_boardsAt 8 = .ok (.invokevirtual 27, 3) := by decide +kernel
theorem dX4_boardsAt_11 : decode cX4_boardsAt 11 = .ok (.ireturn, 1) := by decide +kernel
theorem dX4_departs_0 : decode cX4_departs 0 = .ok (.aload_n 0, 1) := by decide +kernel
theorem dX4_departs_1 : decode cX4_departs 1 = .ok (.getfield 7, 3) := by decide +kernel
theorem dX4_departs_4 : decode cX4_departs 4 = .ok (.aload_n 0, 1) := by decide +kernel
theorem dX4_departs_5 : decode cX4_departs 5 = .ok (.getfield 13, 3) := by decide +kernel
theorem dX4_departs_8 : decode cX4_departs 8 = .ok (.aload_n 0, 1) := by decide +kernel
theorem dX4_departs_9 : decode cX4_departs 9 = .ok (.getfield 17, 3) := by decide +kernel
theorem dX4_departs_12 : decode cX4_departs 12 = .ok (.invokevirtual 33, 3) := by decide +kernel
theorem dX4_departs_15 : decode cX4_departs 15 = .ok (.ireturn, 1) := by decide +kernel
theorem dX4_arrives_0 : decode cX4_arrives 0 = .ok (.aload_n 0, 1) := by decide +kernel
theorem dX4_arrives_1 : decode cX4_arrives 1 = .ok (.getfield 7, 3) := by decide +kernel
theorem dX4_arrives_4 : decode cX4_arrives 4 = .ok (.aload_n 0, 1) := by decide +kernel
theorem dX4_arrives_5 : decode cX4_arrives 5 = .ok (.getfield 13, 3) := by decide +kernel
theorem dX4_arrives_8 : decode cX4_arrives 8 = .ok (.aload_n 0, 1) := by decide +kernel
theorem dX4_arrives_9 : decode cX4_arrives 9 = .ok (.getfield 20, 3) := by decide +kernel
theorem dX4_arrives_12 : decode cX4_arrives 12 = .ok (.invokevirtual 37, 3) := by decide +kernel
theorem dX4_arrives_15 : decode cX4_arrives 15 = .ok (.ireturn, 1) := by decide +kernel
theorem dX4_length_0 : decode cX4_length 0 = .ok (.aload_n 0, 1) := by decide +kernel
theorem dX4_length_1 : decode cX4_length 1 = .ok (.getfield 20, 3) := by decide +kernel
theorem dX4_length_4 : decode cX4_length 4 = .ok (.aload_n 0, 1) := by decide +kernel
theorem dX4_length_5 : decode cX4_length 5 = .ok (.getfield 17, 3) := by decide +kernel
theorem dX4_length_8 : decode cX4_length 8 = .ok (.isub, 1) := by decide +kernel
theorem dX4_length_9 : decode cX4_length 9 = .ok (.ireturn, 1) := by decide +kernel
theorem dX4_tell_0 : decode cX4_tell 0 = .ok (.iload_n 1, 1) := by decide +kernel
theorem dX4_tell_1 : decode cX4_tell 1 = .ok (.tableswitch 70 0 4 #[35, 43, 48, 53, 65], 35) := by decide +kernel
theorem dX4_tell_36 : decode cX4_tell 36 = .ok (.aload_n 0, 1) := by decide +kernel
theorem dX4_tell_37 : decode cX4_tell 37 = .ok (.getfield 7, 3) := by decide +kernel
theorem dX4_tell_40 : decode cX4_tell 40 = .ok (.getfield 40, 3) := by decide +kernel
theorem dX4_tell_43 : decode cX4_tell 43 = .ok (.ireturn, 1) := by decide +kernel
theorem dX4_tell_44 : decode cX4_tell 44 = .ok (.aload_n 0, 1) := by decide +kernel
theorem dX4_tell_45 : decode cX4_tell 45 = .ok (.getfield 13, 3) := by decide +kernel
theorem dX4_tell_48 : decode cX4_tell 48 = .ok (.ireturn, 1) := by decide +kernel
theorem dX4_tell_49 : decode cX4_tell 49 = .ok (.aload_n 0, 1) := by decide +kernel
theorem dX4_tell_50 : decode cX4_tell 50 = .ok (.invokevirtual 43, 3) := by decide +kernel
theorem dX4_tell_53 : decode cX4_tell 53 = .ok (.ireturn, 1) := by decide +kernel
theorem dX4_tell_54 : decode cX4_tell 54 = .ok (.aload_n 0, 1) := by decide +kernel
theorem dX4_tell_55 : decode cX4_tell 55 = .ok (.getfield 7, 3) := by decide +kernel
theorem dX4_tell_58 : decode cX4_tell 58 = .ok (.aload_n 0, 1) := by decide +kernel
theorem dX4_tell_59 : decode cX4_tell 59 = .ok (.getfield 20, 3) := by decide +kernel
theorem dX4_tell_62 : decode cX4_tell 62 = .ok (.invokevirtual 27, 3) := by decide +kernel
theorem dX4_tell_65 : decode cX4_tell 65 = .ok (.ireturn, 1) := by decide +kernel
theorem dX4_tell_66 : decode cX4_tell 66 = .ok (.aload_n 0, 1) := by decide +kernel
theorem dX4_tell_67 : decode cX4_tell 67 = .ok (.invokevirtual 47, 3) := by decide +kernel
theorem dX4_tell_70 : decode cX4_tell 70 = .ok (.ireturn, 1) := by decide +kernel
theorem dX4_tell_71 : decode cX4_tell 71 = .ok (.aload_n 0, 1) := by decide +kernel
theorem dX4_tell_72 : decode cX4_tell 72 = .ok (.invokevirtual 50, 3) := by decide +kernel
theorem dX4_tell_75 : decode cX4_tell 75 = .ok (.ireturn, 1) := by decide +kernel
theorem dX5_init_0 : decode cX5_init 0 = .ok (.aload_n 0, 1) := by decide +kernel
theorem dX5_init_1 : decode cX5_init 1 = .ok (.invokespecial 3, 3) := by decide +kernel
theorem dX5_init_4 : decode cX5_init 4 = .ok (.aload_n 0, 1) := by decide +kernel
theorem dX5_init_5 : decode cX5_init 5 = .ok (.bipush 50, 2) := by decide +kernel
theorem dX5_init_7 : decode cX5_init 7 = .ok (.newarray .int, 2) := by decide +kernel
theorem dX5_init_9 : decode cX5_init 9 = .ok (.putfield 9, 3) := by decide +kernel
theorem dX5_init_12 : decode cX5_init 12 = .ok (.aload_n 0, 1) := by decide +kernel
theorem dX5_init_13 : decode cX5_init 13 = .ok (.bipush 50, 2) := by decide +kernel
theorem dX5_init_15 : decode cX5_init 15 = .ok (.newarray .int, 2) := by decide +kernel
theorem dX5_init_17 : decode cX5_init 17 = .ok (.putfield 15, 3) := by decide +kernel
theorem dX5_init_20 : decode cX5_init 20 = .ok (.aload_n 0, 1) := by decide +kernel
theorem dX5_init_21 : decode cX5_init 21 = .ok (.aload_n 1, 1) := by decide +kernel
theorem dX5_init_22 : decode cX5_init 22 = .ok (.putfield 18, 3) := by decide +kernel
theorem dX5_init_25 : decode cX5_init 25 = .ok (.return_, 1) := by decide +kernel
theorem dX5_seek_0 : decode cX5_seek 0 = .ok (.aload_n 0, 1) := by decide +kernel
theorem dX5_seek_1 : decode cX5_seek 1 = .ok (.iload_n 1, 1) := by decide +kernel
theorem dX5_seek_2 : decode cX5_seek 2 = .ok (.putfield 22, 3) := by decide +kernel
theorem dX5_seek_5 : decode cX5_seek 5 = .ok (.aload_n 0, 1) := by decide +kernel
theorem dX5_seek_6 : decode cX5_seek 6 = .ok (.iload_n 2, 1) := by decide +kernel
theorem dX5_seek_7 : decode cX5_seek 7 = .ok (.putfield 26, 3) := by decide +kernel
theorem dX5_seek_10 : decode cX5_seek 10 = .ok (.aload_n 0, 1) := by decide +kernel
theorem dX5_seek_11 : decode cX5_seek 11 = .ok (.iload_n 3, 1) := by decide +kernel
theorem dX5_seek_12 : decode cX5_seek 12 = .ok (.putfield 29, 3) := by decide +kernel
theorem dX5_seek_15 : decode cX5_seek 15 = .ok (.aload_n 0, 1) := by decide +kernel
theorem dX5_seek_16 : decode cX5_seek 16 = .ok (.iload_n 3, 1) := by decide +kernel
theorem dX5_seek_17 : decode cX5_seek 17 = .ok (.invokestatic 32, 3) := by decide +kernel
theorem dX5_seek_20 : decode cX5_seek 20 = .ok (.putfield 36, 3) := by decide +kernel
theorem dX5_seek_23 : decode cX5_seek 23 = .ok (.aload_n 0, 1) := by decide +kernel
theorem dX5_seek_24 : decode cX5_seek 24 = .ok (.iload_n 3, 1) := by decide +kernel
theorem dX5_seek_25 : decode cX5_seek 25 = .ok (.invokestatic 39, 3) := by decide +kernel
theorem dX5_seek_28 : decode cX5_seek 28 = .ok (.putfield 42, 3) := by decide +kernel
theorem dX5_seek_31 : decode cX5_seek 31 = .ok (.aload_n 0, 1) := by decide +kernel
theorem dX5_seek_32 : decode cX5_seek 32 = .ok (.getfield 9, 3) := by decide +kernel
theorem dX5_seek_35 : decode cX5_seek 35 = .ok (.ldc 45, 2) := by decide +kernel
theorem dX5_seek_37 : decode cX5_seek 37 = .ok (.invokestatic 46, 3) := by decide +kernel
theorem dX5_seek_40 : decode cX5_seek 40 = .ok (.aload_n 0, 1) := by decide +kernel
theorem dX5_seek_41 : decode cX5_seek 41 = .ok (.getfield 15, 3) := by decide +kernel
theorem dX5_seek_44 : decode cX5_seek 44 = .ok (.ldc 45, 2) := by decide +kernel
theorem dX5_seek_46 : decode cX5_seek 46 = .ok (.invokestatic 46, 3) := by decide +kernel
theorem dX5_seek_49 : decode cX5_seek 49 = .ok (.aload_n 0, 1) := by decide +kernel
theorem dX5_seek_50 : decode cX5_seek 50 = .ok (.invokevirtual 52, 3) := by decide +kernel
theorem dX5_seek_53 : decode cX5_seek 53 = .ok (.iconst 1, 1) := by decide +kernel
theorem dX5_seek_54 : decode cX5_seek 54 = .ok (.istore 5, 2) := by decide +kernel
theorem dX5_seek_56 : decode cX5_seek 56 = .ok (.iload 5, 2) := by decide +kernel
theorem dX5_seek_58 : decode cX5_seek 58 = .ok (.iconst 4, 1) := by decide +kernel
theorem dX5_seek_59 : decode cX5_seek 59 = .ok (.if_icmp .gt 28, 3) := by decide +kernel
theorem dX5_seek_62 : decode cX5_seek 62 = .ok (.iload 5, 2) := by decide +kernel
theorem dX5_seek_64 : decode cX5_seek 64 = .ok (.iload 4, 2) := by decide +kernel
theorem dX5_seek_66 : decode cX5_seek 66 = .ok (.if_icmp .gt 21, 3) := by decide +kernel
theorem dX5_seek_69 : decode cX5_seek 69 = .ok (.aload_n 0, 1) := by decide +kernel
theorem dX5_seek_70 : decode cX5_seek 70 = .ok (.iload 5, 2) := by decide +kernel
theorem dX5_seek_72 : decode cX5_seek 72 = .ok (.invokevirtual 55, 3) := by decide +kernel
theorem dX5_seek_75 : decode cX5_seek 75 = .ok (.aload_n 0, 1) := by decide +kernel
theorem dX5_seek_76 : decode cX5_seek 76 = .ok (.iload 5, 2) := by decide +kernel
theorem dX5_seek_78 : decode cX5_seek 78 = .ok (.invokevirtual 59, 3) := by decide +kernel
theorem dX5_seek_81 : decode cX5_seek 81 = .ok (.iinc 5 1, 3) := by decide +kernel
theorem dX5_seek_84 : decode cX5_seek 84 = .ok (.goto (-28), 3) := by decide +kernel
theorem dX5_seek_87 : decode cX5_seek 87 = .ok (.return_, 1) := by decide +kernel
theorem dX5_setOut_0 : decode cX5_setOut 0 = .ok (.iconst 0, 1) := by decide +kernel
theorem dX5_setOut_1 : decode cX5_setOut 1 = .ok (.istore_n 1, 1) := by decide +kernel
theorem dX5_setOut_2 : decode cX5_setOut 2 = .ok (.iload_n 1, 1) := by decide +kernel
theorem dX5_setOut_3 : decode cX5_setOut 3 = .ok (.aload_n 0, 1) := by decide +kernel
theorem dX5_setOut_4 : decode cX5_setOut 4 = .ok (.getfield 18, 3) := by decide +kernel
theorem dX5_setOut_7 : decode cX5_setOut 7 = .ok (.getfield 62, 3) := by decide +kernel
theorem dX5_setOut_10 : decode cX5_setOut 10 = .ok (.if_icmp .ge 41, 3) := by decide +kernel
theorem dX5_setOut_13 : decode cX5_setOut 13 = .ok (.aload_n 0, 1) := by decide +kernel
theorem dX5_setOut_14 : decode cX5_setOut 14 = .ok (.getfield 18, 3) := by decide +kernel
theorem dX5_setOut_17 : decode cX5_setOut 17 = .ok (.aload_n 0, 1) := by decide +kernel
theorem dX5_setOut_18 : decode cX5_setOut 18 = .ok (.getfield 22, 3) := by decide +kernel
theorem dX5_setOut_21 : decode cX5_setOut 21 = .ok (.iload_n 1, 1) := by decide +kernel
theorem dX5_setOut_22 : decode cX5_setOut 22 = .ok (.invokevirtual 67, 3) := by decide +kernel
theorem dX5_setOut_25 : decode cX5_setOut 25 = .ok (.istore_n 2, 1) := by decide +kernel
theorem dX5_setOut_26 : decode cX5_setOut 26 = .ok (.iload_n 2, 1) := by decide +kernel
theorem dX5_setOut_27 : decode cX5_setOut 27 = .ok (.iconst (-1), 1) := by decide +kernel
theorem dX5_setOut_28 : decode cX5_setOut 28 = .ok (.if_icmp .eq 17, 3) := by decide +kernel
theorem dX5_setOut_31 : decode cX5_setOut 31 = .ok (.aload_n 0, 1) := by decide +kernel
theorem dX5_setOut_32 : decode cX5_setOut 32 = .ok (.getfield 15, 3) := by decide +kernel
theorem dX5_setOut_35 : decode cX5_setOut 35 = .ok (.iload_n 1, 1) := by decide +kernel
theorem dX5_setOut_36 : decode cX5_setOut 36 = .ok (.aload_n 0, 1) := by decide +kernel
theorem dX5_setOut_37 : decode cX5_setOut 37 = .ok (.getfield 29, 3) := by decide +kernel
theorem dX5_setOut_40 : decode cX5_setOut 40 = .ok (.iload_n 2, 1) := by decide +kernel
theorem dX5_setOut_41 : decode cX5_setOut 41 = .ok (.iadd, 1) := by decide +kernel
theorem dX5_setOut_42 : decode cX5_setOut 42 = .ok (.invokestatic 71, 3) := by decide +kernel
theorem dX5_setOut_45 : decode cX5_setOut 45 = .ok (.iinc 1 1, 3) := by decide +kernel
theorem dX5_setOut_48 : decode cX5_setOut 48 = .ok (.goto (-46), 3) := by decide +kernel
theorem dX5_setOut_51 : decode cX5_setOut 51 = .ok (.aload_n 0, 1) := by decide +kernel
theorem dX5_setOut_52 : decode cX5_setOut 52 = .ok (.getfield 15, 3) := by decide +kernel
theorem dX5_setOut_55 : decode cX5_setOut 55 = .ok (.aload_n 0, 1) := by decide +kernel
theorem dX5_setOut_56 : decode cX5_setOut 56 = .ok (.getfield 22, 3) := by decide +kernel
theorem dX5_setOut_59 : decode cX5_setOut 59 = .ok (.aload_n 0, 1) := by decide +kernel
theorem dX5_setOut_60 : decode cX5_setOut 60 = .ok (.getfield 29, 3) := by decide +kernel
theorem dX5_setOut_63 : decode cX5_setOut 63 = .ok (.invokestatic 71, 3) := by decide +kernel
theorem dX5_setOut_66 : decode cX5_setOut 66 = .ok (.return_, 1) := by decide +kernel
theorem dX5_rideOn_0 : decode cX5_rideOn 0 = .ok (.iconst 0, 1) := by decide +kernel
theorem dX5_rideOn_1 : decode cX5_rideOn 1 = .ok (.istore_n 2, 1) := by decide +kernel
theorem dX5_rideOn_2 : decode cX5_rideOn 2 = .ok (.iload_n 2, 1) := by decide +kernel
theorem dX5_rideOn_3 : decode cX5_rideOn 3 = .ok (.aload_n 0, 1) := by decide +kernel
theorem dX5_rideOn_4 : decode cX5_rideOn 4 = .ok (.getfield 18, 3) := by decide +kernel
theorem dX5_rideOn_7 : decode cX5_rideOn 7 = .ok (.getfield 75, 3) := by decide +kernel
theorem dX5_rideOn_10 : decode cX5_rideOn 10 = .ok (.invokevirtual 79, 3) := by decide +kernel
theorem dX5_rideOn_13 : decode cX5_rideOn 13 = .ok (.if_icmp .ge 69, 3) := by decide +kernel
theorem dX5_rideOn_16 : decode cX5_rideOn 16 = .ok (.aload_n 0, 1) := by decide +kernel
theorem dX5_rideOn_17 : decode cX5_rideOn 17 = .ok (.getfield 18, 3) := by decide +kernel
theorem dX5_rideOn_20 : decode cX5_rideOn 20 = .ok (.getfield 75, 3) := by decide +kernel
theorem dX5_rideOn_23 : decode cX5_rideOn 23 = .ok (.iload_n 2, 1) := by decide +kernel
theorem dX5_rideOn_24 : decode cX5_rideOn 24 = .ok (.invokevirtual 85, 3) := by decide +kernel
theorem dX5_rideOn_27 : decode cX5_rideOn 27 = .ok (.checkcast 89, 3) := by decide +kernel
theorem dX5_rideOn_30 : decode cX5_rideOn 30 = .ok (.astore_n 3, 1) := by decide +kernel
theorem dX5_rideOn_31 : decode cX5_rideOn 31 = .ok (.aload_n 0, 1) := by decide +kernel
theorem dX5_rideOn_32 : decode cX5_rideOn 32 = .ok (.getfield 36, 3) := by decide +kernel
theorem dX5_rideOn_35 : decode cX5_rideOn 35 = .ok (.istore 4, 2) := by decide +kernel
theorem dX5_rideOn_37 : decode cX5_rideOn 37 = .ok (.iload 4, 2) := by decide +kernel
theorem dX5_rideOn_39 : decode cX5_rideOn 39 = .ok (.aload_n 0, 1) := by decide +kernel
theorem dX5_rideOn_40 : decode cX5_rideOn 40 = .ok (.getfield 42, 3) := by decide +kernel
theorem dX5_rideOn_43 : decode cX5_rideOn 43 = .ok (.if_icmp .gt 33, 3) := by decide +kernel
theorem dX5_rideOn_46 : decode cX5_rideOn 46 = .ok (.iload 4, 2) := by decide +kernel
theorem dX5_rideOn_48 : decode cX5_rideOn 48 = .ok (.bipush 100, 2) := by decide +kernel
theorem dX5_rideOn_50 : decode cX5_rideOn 50 = .ok (.if_icmp .ge 26, 3) := by decide +kernel
theorem dX5_rideOn_53 : decode cX5_rideOn 53 = .ok (.aload_n 3, 1) := by decide +kernel
theorem dX5_rideOn_54 : decode cX5_rideOn 54 = .ok (.iload 4, 2) := by decide +kernel
theorem dX5_rideOn_56 : decode cX5_rideOn 56 = .ok (.invokevirtual 91, 3) := by decide +kernel
theorem dX5_rideOn_59 : decode cX5_rideOn 59 = .ok (.ifCond .eq 11, 3) := by decide +kernel
theorem dX5_rideOn_62 : decode cX5_rideOn 62 = .ok (.aload_n 0, 1) := by decide +kernel
theorem dX5_rideOn_63 : decode cX5_rideOn 63 = .ok (.aload_n 3, 1) := by decide +kernel
theorem dX5_rideOn_64 : decode cX5_rideOn 64 = .ok (.iload 4, 2) := by decide +kernel
theorem dX5_rideOn_66 : decode cX5_rideOn 66 = .ok (.iload_n 1, 1) := by decide +kernel
theorem dX5_rideOn_67 : decode cX5_rideOn 67 = .ok (.invokevirtual 95, 3) := by decide +kernel
theorem dX5_rideOn_70 : decode cX5_rideOn 70 = .ok (.iinc 4 1, 3) := by decide +kernel
theorem dX5_rideOn_73 : decode cX5_rideOn 73 = .ok (.goto (-36), 3) := by decide +kernel
theorem dX5_rideOn_76 : decode cX5_rideOn 76 = .ok (.iinc 2 1, 3) := by decide +kernel
theorem dX5_rideOn_79 : decode cX5_rideOn 79 = .ok (.goto (-77), 3) := by decide +kernel
theorem dX5_rideOn_82 : decode cX5_rideOn 82 = .ok (.return_, 1) := by decide +kernel
theorem dX5_rideRun_0 : decode cX5_rideRun 0 = .ok (.iconst 0, 1) := by decide +kernel
theorem dX5_rideRun_1 : decode cX5_rideRun 1 = .ok (.istore 4, 2) := by decide +kernel
theorem dX5_rideRun_3 : decode cX5_rideRun 3 = .ok (.iconst 0, 1) := by decide +kernel
theorem dX5_rideRun_4 : decode cX5_rideRun 4 = .ok (.istore 5, 2) := by decide +kernel
theorem dX5_rideRun_6 : decode cX5_rideRun 6 = .ok (.iload 5, 2) := by decide +kernel
theorem dX5_rideRun_8 : decode cX5_rideRun 8 = .ok (.aload_n 1, 1) := by decide +kernel
theorem dX5_rideRun_9 : decode cX5_rideRun 9 = .ok (.getfield 99, 3) := by decide +kernel
theorem dX5_rideRun_12 : decode cX5_rideRun 12 = .ok (.if_icmp .ge 82, 3) := by decide +kernel
theorem dX5_rideRun_15 : decode cX5_rideRun 15 = .ok (.aload_n 1, 1) := by decide +kernel
theorem dX5_rideRun_16 : decode cX5_rideRun 16 = .ok (.iload 5, 2) := by decide +kernel
theorem dX5_rideRun_18 : decode cX5_rideRun 18 = .ok (.invokevirtual 101, 3) := by decide +kernel
theorem dX5_rideRun_21 : decode cX5_rideRun 21 = .ok (.istore 6, 2) := by decide +kernel
theorem dX5_rideRun_23 : decode cX5_rideRun 23 = .ok (.iload 4, 2) := by decide +kernel
theorem dX5_rideRun_25 : decode cX5_rideRun 25 = .ok (.ifCond .eq 37, 3) := by decide +kernel
theorem dX5_rideRun_28 : decode cX5_rideRun 28 = .ok (.aload_n 0, 1) := by decide +kernel
theorem dX5_rideRun_29 : decode cX5_rideRun 29 = .ok (.getfield 9, 3) := by decide +kernel
theorem dX5_rideRun_32 : decode cX5_rideRun 32 = .ok (.iload_n 3, 1) := by decide +kernel
theorem dX5_rideRun_33 : decode cX5_rideRun 33 = .ok (.bipush 10, 2) := by decide +kernel
theorem dX5_rideRun_35 : decode cX5_rideRun 35 = .ok (.imul, 1) := by decide +kernel
theorem dX5_rideRun_36 : decode cX5_rideRun 36 = .ok (.iload 6, 2) := by decide +kernel
theorem dX5_rideRun_38 : decode cX5_rideRun 38 = .ok (.iadd, 1) := by decide +kernel
theorem dX5_rideRun_39 : decode cX5_rideRun 39 = .ok (.aload_n 0, 1) := by decide +kernel
theorem dX5_rideRun_40 : decode cX5_rideRun 40 = .ok (.iload_n 3, 1) := by decide +kernel
theorem dX5_rideRun_41 : decode cX5_rideRun 41 = .ok (.iload 6, 2) := by decide +kernel
theorem dX5_rideRun_43 : decode cX5_rideRun 43 = .ok (.invokevirtual 104, 3) := by decide +kernel
theorem dX5_rideRun_46 : decode cX5_rideRun 46 = .ok (.aload_n 1, 1) := by decide +kernel
theorem dX5_rideRun_47 : decode cX5_rideRun 47 = .ok (.iload_n 2, 1) := by decide +kernel
theorem dX5_rideRun_48 : decode cX5_rideRun 48 = .ok (.iload 5, 2) := by decide +kernel
theorem dX5_rideRun_50 : decode cX5_rideRun 50 = .ok (.invokevirtual 107, 3) := by decide +kernel
theorem dX5_rideRun_53 : decode cX5_rideRun 53 = .ok (.invokestatic 110, 3) := by decide +kernel
theorem dX5_rideRun_56 : decode cX5_rideRun 56 = .ok (.invokestatic 71, 3) := by decide +kernel
theorem dX5_rideRun_59 : decode cX5_rideRun 59 = .ok (.goto 29, 3) := by decide +kernel
theorem dX5_rideRun_62 : decode cX5_rideRun 62 = .ok (.aload_n 1, 1) := by decide +kernel
theorem dX5_rideRun_63 : decode cX5_rideRun 63 = .ok (.iload_n 2, 1) := by decide +kernel
theorem dX5_rideRun_64 : decode cX5_rideRun 64 = .ok (.iload 5, 2) := by decide +kernel
theorem dX5_rideRun_66 : decode cX5_rideRun 66 = .ok (.invokevirtual 115, 3) := by decide +kernel
theorem dX5_rideRun_69 : decode cX5_rideRun 69 = .ok (.aload_n 0, 1) := by decide +kernel
theorem dX5_rideRun_70 : decode cX5_rideRun 70 = .ok (.iload_n 3, 1) := by decide +kernel
theorem dX5_rideRun_71 : decode cX5_rideRun 71 = .ok (.iconst 1, 1) := by decide +kernel
theorem dX5_rideRun_72 : decode cX5_rideRun 72 = .ok (.isub, 1) := by decide +kernel
theorem dX5_rideRun_73 : decode cX5_rideRun 73 = .ok (.iload 6, 2) := by decide +kernel
theorem dX5_rideRun_75 : decode cX5_rideRun 75 = .ok (.invokevirtual 118, 3) := by decide +kernel
theorem dX5_rideRun_78 : decode cX5_rideRun 78 = .ok (.if_icmp .lt 7, 3) := by decide +kernel
theorem dX5_rideRun_81 : decode cX5_rideRun 81 = .ok (.iconst 1, 1) := by decide +kernel
theorem dX5_rideRun_82 : decode cX5_rideRun 82 = .ok (.goto 4, 3) := by decide +kernel
theorem dX5_rideRun_85 : decode cX5_rideRun 85 = .ok (.iconst 0, 1) := by decide +kernel
theorem dX5_rideRun_86 : decode cX5_rideRun 86 = .ok (.istore 4, 2) := by decide +kernel
theorem dX5_rideRun_88 : decode cX5_rideRun 88 = .ok (.iinc 5 1, 3) := by decide +kernel
theorem dX5_rideRun_91 : decode cX5_rideRun 91 = .ok (.goto (-85), 3) := by decide +kernel
theorem dX5_rideRun_94 : decode cX5_rideRun 94 = .ok (.return_, 1) := by decide +kernel
theorem dX5_changeAll_0 : decode cX5_changeAll 0 = .ok (.iconst 0, 1) := by decide +kernel
theorem dX5_changeAll_1 : decode cX5_changeAll 1 = .ok (.istore_n 2, 1) := by decide +kernel
theorem dX5_changeAll_2 : decode cX5_changeAll 2 = .ok (.iload_n 2, 1) := by decide +kernel
theorem dX5_changeAll_3 : decode cX5_changeAll 3 = .ok (.aload_n 0, 1) := by decide +kernel
theorem dX5_changeAll_4 : decode cX5_changeAll 4 = .ok (.getfield 18, 3) := by decide +kernel
theorem dX5_changeAll_7 : decode cX5_changeAll 7 = .ok (.getfield 62, 3) := by decide +kernel
theorem dX5_changeAll_10 : decode cX5_changeAll 10 = .ok (.if_icmp .ge 60, 3) := by decide +kernel
theorem dX5_changeAll_13 : decode cX5_changeAll 13 = .ok (.ldc 45, 2) := by decide +kernel
theorem dX5_changeAll_15 : decode cX5_changeAll 15 = .ok (.istore_n 3, 1) := by decide +kernel
theorem dX5_changeAll_16 : decode cX5_changeAll 16 = .ok (.iconst 0, 1) := by decide +kernel
theorem dX5_changeAll_17 : decode cX5_changeAll 17 = .ok (.istore 4, 2) := by decide +kernel
theorem dX5_changeAll_19 : decode cX5_changeAll 19 = .ok (.iload 4, 2) := by decide +kernel
theorem dX5_changeAll_21 : decode cX5_changeAll 21 = .ok (.aload_n 0, 1) := by decide +kernel
theorem dX5_changeAll_22 : decode cX5_changeAll 22 = .ok (.getfield 18, 3) := by decide +kernel
theorem dX5_changeAll_25 : decode cX5_changeAll 25 = .ok (.getfield 62, 3) := by decide +kernel
theorem dX5_changeAll_28 : decode cX5_changeAll 28 = .ok (.if_icmp .ge 22, 3) := by decide +kernel
theorem dX5_changeAll_31 : decode cX5_changeAll 31 = .ok (.iload_n 3, 1) := by decide +kernel
theorem dX5_changeAll_32 : decode cX5_changeAll 32 = .ok (.aload_n 0, 1) := by decide +kernel
theorem dX5_changeAll_33 : decode cX5_changeAll 33 = .ok (.iload 4, 2) := by decide +kernel
theorem dX5_changeAll_35 : decode cX5_changeAll 35 = .ok (.iload_n 2, 1) := by decide +kernel
theorem dX5_changeAll_36 : decode cX5_changeAll 36 = .ok (.iload_n 1, 1) := by decide +kernel
theorem dX5_changeAll_37 : decode cX5_changeAll 37 = .ok (.invokevirtual 121, 3) := by decide +kernel
theorem dX5_changeAll_40 : decode cX5_changeAll 40 = .ok (.invokestatic 110, 3) := by decide +kernel
theorem dX5_changeAll_43 : decode cX5_changeAll 43 = .ok (.istore_n 3, 1) := by decide +kernel
theorem dX5_changeAll_44 : decode cX5_changeAll 44 = .ok (.iinc 4 1, 3) := by decide +kernel
theorem dX5_changeAll_47 : decode cX5_changeAll 47 = .ok (.goto (-28), 3) := by decide +kernel
theorem dX5_changeAll_50 : decode cX5_changeAll 50 = .ok (.aload_n 0, 1) := by decide +kernel
theorem dX5_changeAll_51 : decode cX5_changeAll 51 = .ok (.getfield 15, 3) := by decide +kernel
theorem dX5_changeAll_54 : decode cX5_changeAll 54 = .ok (.iload_n 1, 1) := by decide +kernel
theorem dX5_changeAll_55 : decode cX5_changeAll 55 = .ok (.bipush 10, 2) := by decide +kernel
theorem dX5_changeAll_57 : decode cX5_changeAll 57 = .ok (.imul, 1) := by decide +kernel
theorem dX5_changeAll_58 : decode cX5_changeAll 58 = .ok (.iload_n 2, 1) := by decide +kernel
theorem dX5_changeAll_59 : decode cX5_changeAll 59 = .ok (.iadd, 1) := by decide +kernel
theorem dX5_changeAll_60 : decode cX5_changeAll 60 = .ok (.iload_n 3, 1) := by decide +kernel
theorem dX5_changeAll_61 : decode cX5_changeAll 61 = .ok (.invokestatic 71, 3) := by decide +kernel
theorem dX5_changeAll_64 : decode cX5_changeAll 64 = .ok (.iinc 2 1, 3) := by decide +kernel
theorem dX5_changeAll_67 : decode cX5_changeAll 67 = .ok (.goto (-65), 3) := by decide +kernel
theorem dX5_changeAll_70 : decode cX5_changeAll 70 = .ok (.return_, 1) := by decide +kernel
theorem dX5_arrivalAt_0 : decode cX5_arrivalAt 0 = .ok (.aload_n 0, 1) := by decide +kernel
theorem dX5_arrivalAt_1 : decode cX5_arrivalAt 1 = .ok (.getfield 9, 3) := by decide +kernel
theorem dX5_arrivalAt_4 : decode cX5_arrivalAt 4 = .ok (.iload_n 1, 1) := by decide +kernel
theorem dX5_arrivalAt_5 : decode cX5_arrivalAt 5 = .ok (.bipush 10, 2) := by decide +kernel
theorem dX5_arrivalAt_7 : decode cX5_arrivalAt 7 = .ok (.imul, 1) := by decide +kernel
theorem dX5_arrivalAt_8 : decode cX5_arrivalAt 8 = .ok (.iload_n 2, 1) := by decide +kernel
theorem dX5_arrivalAt_9 : decode cX5_arrivalAt 9 = .ok (.iadd, 1) := by decide +kernel
theorem dX5_arrivalAt_10 : decode cX5_arrivalAt 10 = .ok (.invokestatic 125, 3) := by decide +kernel
theorem dX5_arrivalAt_13 : decode cX5_arrivalAt 13 = .ok (.ireturn, 1) := by decide +kernel
theorem dX5_readyAt_0 : decode cX5_readyAt 0 = .ok (.aload_n 0, 1) := by decide +kernel
theorem dX5_readyAt_1 : decode cX5_readyAt 1 = .ok (.getfield 15, 3) := by decide +kernel
theorem dX5_readyAt_4 : decode cX5_readyAt 4 = .ok (.iload_n 1, 1) := by decide +kernel
theorem dX5_readyAt_5 : decode cX5_readyAt 5 = .ok (.bipush 10, 2) := by decide +kernel
theorem dX5_readyAt_7 : decode cX5_readyAt 7 = .ok (.imul, 1) := by decide +kernel
theorem dX5_readyAt_8 : decode cX5_readyAt 8 = .ok (.iload_n 2, 1) := by decide +kernel
theorem dX5_readyAt_9 : decode cX5_readyAt 9 = .ok (.iadd, 1) := by decide +kernel
theorem dX5_readyAt_10 : decode cX5_readyAt 10 = .ok (.invokestatic 125, 3) := by decide +kernel
theorem dX5_readyAt_13 : decode cX5_readyAt 13 = .ok (.ireturn, 1) := by decide +kernel
theorem dX5_changing_0 : decode cX5_changing 0 = .ok (.iload_n 1, 1) := by decide +kernel
theorem dX5_changing_1 : decode cX5_changing 1 = .ok (.iload_n 2, 1) := by decide +kernel
theorem dX5_changing_2 : decode cX5_changing 2 = .ok (.if_icmp .ne 14, 3) := by decide +kernel
theorem dX5_changing_5 : decode cX5_changing 5 = .ok (.aload_n 0, 1) := by decide +kernel
theorem dX5_changing_6 : decode cX5_changing 6 = .ok (.getfield 18, 3) := by decide +kernel
theorem dX5_changing_9 : decode cX5_changing 9 = .ok (.iload_n 2, 1) := by decide +kernel
theorem dX5_changing_10 : decode cX5_changing 10 = .ok (.invokevirtual 129, 3) := by decide +kernel
theorem dX5_changing_13 : decode cX5_changing 13 = .ok (.goto 12, 3) := by decide +kernel
theorem dX5_changing_16 : decode cX5_changing 16 = .ok (.aload_n 0, 1) := by decide +kernel
theorem dX5_changing_17 : decode cX5_changing 17 = .ok (.getfield 18, 3) := by decide +kernel
theorem dX5_changing_20 : decode cX5_changing 20 = .ok (.iload_n 1, 1) := by decide +kernel
theorem dX5_changing_21 : decode cX5_changing 21 = .ok (.iload_n 2, 1) := by decide +kernel
theorem dX5_changing_22 : decode cX5_changing 22 = .ok (.invokevirtual 67, 3) := by decide +kernel
theorem dX5_changing_25 : decode cX5_changing 25 = .ok (.ireturn, 1) := by decide +kernel
theorem dX5_readyFrom_0 : decode cX5_readyFrom 0 = .ok (.aload_n 0, 1) := by decide +kernel
theorem dX5_readyFrom_1 : decode cX5_readyFrom 1 = .ok (.iload_n 1, 1) := by decide +kernel
theorem dX5_readyFrom_2 : decode cX5_readyFrom 2 = .ok (.iload_n 2, 1) := by decide +kernel
theorem dX5_readyFrom_3 : decode cX5_readyFrom 3 = .ok (.invokevirtual 132, 3) := by decide +kernel
theorem dX5_readyFrom_6 : decode cX5_readyFrom 6 = .ok (.istore 4, 2) := by decide +kernel
theorem dX5_readyFrom_8 : decode cX5_readyFrom 8 = .ok (.aload_n 0, 1) := by decide +kernel
theorem dX5_readyFrom_9 : decode cX5_readyFrom 9 = .ok (.iload_n 3, 1) := by decide +kernel
theorem dX5_readyFrom_10 : decode cX5_readyFrom 10 = .ok (.iload_n 1, 1) := by decide +kernel
theorem dX5_readyFrom_11 : decode cX5_readyFrom 11 = .ok (.invokevirtual 104, 3) := by decide +kernel
theorem dX5_readyFrom_14 : decode cX5_readyFrom 14 = .ok (.istore 5, 2) := by decide +kernel
theorem dX5_readyFrom_16 : decode cX5_readyFrom 16 = .ok (.iload 4, 2) := by decide +kernel
theorem dX5_readyFrom_18 : decode cX5_readyFrom 18 = .ok (.iconst (-1), 1) := by decide +kernel
theorem dX5_readyFrom_19 : decode cX5_readyFrom 19 = .ok (.if_icmp .eq 10, 3) := by decide +kernel
theorem dX5_readyFrom_22 : decode cX5_readyFrom 22 = .ok (.iload 5, 2) := by decide +kernel
theorem dX5_readyFrom_24 : decode cX5_readyFrom 24 = .ok (.ldc 45, 2) := by decide +kernel
theorem dX5_readyFrom_26 : decode cX5_readyFrom 26 = .ok (.if_icmp .lt 8, 3) := by decide +kernel
theorem dX5_readyFrom_29 : decode cX5_readyFrom 29 = .ok (.ldc 45, 2) := by decide +kernel
theorem dX5_readyFrom_31 : decode cX5_readyFrom 31 = .ok (.goto 8, 3) := by decide +kernel
theorem dX5_readyFrom_34 : decode cX5_readyFrom 34 = .ok (.iload 5, 2) := by decide +kernel
theorem dX5_readyFrom_36 : decode cX5_readyFrom 36 = .ok (.iload 4, 2) := by decide +kernel
theorem dX5_readyFrom_38 : decode cX5_readyFrom 38 = .ok (.iadd, 1) := by decide +kernel
theorem dX5_readyFrom_39 : decode cX5_readyFrom 39 = .ok (.ireturn, 1) := by decide +kernel
theorem dX5_endFrom_0 : decode cX5_endFrom 0 = .ok (.iload_n 1, 1) := by decide +kernel
theorem dX5_endFrom_1 : decode cX5_endFrom 1 = .ok (.aload_n 0, 1) := by decide +kernel
theorem dX5_endFrom_2 : decode cX5_endFrom 2 = .ok (.getfield 26, 3) := by decide +kernel
theorem dX5_endFrom_5 : decode cX5_endFrom 5 = .ok (.if_icmp .ne 7, 3) := by decide +kernel
theorem dX5_endFrom_8 : decode cX5_endFrom 8 = .ok (.iconst 0, 1) := by decide +kernel
theorem dX5_endFrom_9 : decode cX5_endFrom 9 = .ok (.goto 15, 3) := by decide +kernel
theorem dX5_endFrom_12 : decode cX5_endFrom 12 = .ok (.aload_n 0, 1) := by decide +kernel
theorem dX5_endFrom_13 : decode cX5_endFrom 13 = .ok (.getfield 18, 3) := by decide +kernel
theorem dX5_endFrom_16 : decode cX5_endFrom 16 = .ok (.iload_n 1, 1) := by decide +kernel
theorem dX5_endFrom_17 : decode cX5_endFrom 17 = .ok (.aload_n 0, 1) := by decide +kernel
theorem dX5_endFrom_18 : decode cX5_endFrom 18 = .ok (.getfield 26, 3) := by decide +kernel
theorem dX5_endFrom_21 : decode cX5_endFrom 21 = .ok (.invokevirtual 67, 3) := by decide +kernel
theorem dX5_endFrom_24 : decode cX5_endFrom 24 = .ok (.istore_n 3, 1) := by decide +kernel
theorem dX5_endFrom_25 : decode cX5_endFrom 25 = .ok (.aload_n 0, 1) := by decide +kernel
theorem dX5_endFrom_26 : decode cX5_endFrom 26 = .ok (.iload_n 2, 1) := by decide +kernel
theorem dX5_endFrom_27 : decode cX5_endFrom 27 = .ok (.iload_n 1, 1) := by decide +kernel
theorem dX5_endFrom_28 : decode cX5_endFrom 28 = .ok (.invokevirtual 104, 3) := by decide +kernel
theorem dX5_endFrom_31 : decode cX5_endFrom 31 = .ok (.istore 4, 2) := by decide +kernel
theorem dX5_endFrom_33 : decode cX5_endFrom 33 = .ok (.iload_n 3, 1) := by decide +kernel
theorem dX5_endFrom_34 : decode cX5_endFrom 34 = .ok (.iconst (-1), 1) := by decide +kernel
theorem dX5_endFrom_35 : decode cX5_endFrom 35 = .ok (.if_icmp .eq 10, 3) := by decide +kernel
theorem dX5_endFrom_38 : decode cX5_endFrom 38 = .ok (.iload 4, 2) := by decide +kernel
theorem dX5_endFrom_40 : decode cX5_endFrom 40 = .ok (.ldc 45, 2) := by decide +kernel
theorem dX5_endFrom_42 : decode cX5_endFrom 42 = .ok (.if_icmp .lt 8, 3) := by decide +kernel
theorem dX5_endFrom_45 : decode cX5_endFrom 45 = .ok (.ldc 45, 2) := by decide +kernel
theorem dX5_endFrom_47 : decode cX5_endFrom 47 = .ok (.goto 7, 3) := by decide +kernel
theorem dX5_endFrom_50 : decode cX5_endFrom 50 = .ok (.iload 4, 2) := by decide +kernel
theorem dX5_endFrom_52 : decode cX5_endFrom 52 = .ok (.iload_n 3, 1) := by decide +kernel
theorem dX5_endFrom_53 : decode cX5_endFrom 53 = .ok (.iadd, 1) := by decide +kernel
theorem dX5_endFrom_54 : decode cX5_endFrom 54 = .ok (.ireturn, 1) := by decide +kernel
theorem dX5_end_0 : decode cX5_end 0 = .ok (.ldc 45, 2) := by decide +kernel
theorem dX5_end_2 : decode cX5_end 2 = .ok (.istore_n 2, 1) := by decide +kernel
theorem dX5_end_3 : decode cX5_end 3 = .ok (.iconst 0, 1) := by decide +kernel
theorem dX5_end_4 : decode cX5_end 4 = .ok (.istore_n 3, 1) := by decide +kernel
theorem dX5_end_5 : decode cX5_end 5 = .ok (.iload_n 3, 1) := by decide +kernel
theorem dX5_end_6 : decode cX5_end 6 = .ok (.aload_n 0, 1) := by decide +kernel
theorem dX5_end_7 : decode cX5_end 7 = .ok (.getfield 18, 3) := by decide +kernel
theorem dX5_end_10 : decode cX5_end 10 = .ok (.getfield 62, 3) := by decide +kernel
theorem dX5_end_13 : decode cX5_end 13 = .ok (.if_icmp .ge 20, 3) := by decide +kernel
theorem dX5_end_16 : decode cX5_end 16 = .ok (.iload_n 2, 1) := by decide +kernel
theorem dX5_end_17 : decode cX5_end 17 = .ok (.aload_n 0, 1) := by decide +kernel
theorem dX5_end_18 : decode cX5_end 18 = .ok (.iload_n 3, 1) := by decide +kernel
theorem dX5_end_19 : decode cX5_end 19 = .ok (.iload_n 1, 1) := by decide +kernel
theorem dX5_end_20 : decode cX5_end 20 = .ok (.invokevirtual 135, 3) := by decide +kernel
theorem dX5_end_23 : decode cX5_end 23 = .ok (.invokestatic 110, 3) := by decide +kernel
theorem dX5_end_26 : decode cX5_end 26 = .ok (.istore_n 2, 1) := by decide +kernel
theorem dX5_end_27 : decode cX5_end 27 = .ok (.iinc 3 1, 3) := by decide +kernel
theorem dX5_end_30 : decode cX5_end 30 = .ok (.goto (-25), 3) := by decide +kernel
theorem dX5_end_33 : decode cX5_end 33 = .ok (.iload_n 2, 1) := by decide +kernel
theorem dX5_end_34 : decode cX5_end 34 = .ok (.ireturn, 1) := by decide +kernel
theorem dX5_tell_0 : decode cX5_tell 0 = .ok (.aload_n 0, 1) := by decide +kernel
theorem dX5_tell_1 : decode cX5_tell 1 = .ok (.iload_n 1, 1) := by decide +kernel
theorem dX5_tell_2 : decode cX5_tell 2 = .ok (.invokevirtual 138, 3) := by decide +kernel
theorem dX5_tell_5 : decode cX5_tell 5 = .ok (.istore_n 2, 1) := by decide +kernel
theorem dX5_tell_6 : decode cX5_tell 6 = .ok (.iload_n 2, 1) := by decide +kernel
theorem dX5_tell_7 : decode cX5_tell 7 = .ok (.ldc 45, 2) := by decide +kernel
theorem dX5_tell_9 : decode cX5_tell 9 = .ok (.if_icmp .lt 5, 3) := by decide +kernel
theorem dX5_tell_12 : decode cX5_tell 12 = .ok (.aconst_null, 1) := by decide +kernel
theorem dX5_tell_13 : decode cX5_tell 13 = .ok (.areturn, 1) := by decide +kernel
theorem dX5_tell_14 : decode cX5_tell 14 = .ok (.aload_n 0, 1) := by decide +kernel
theorem dX5_tell_15 : decode cX5_tell 15 = .ok (.iload_n 1, 1) := by decide +kernel
theorem dX5_tell_16 : decode cX5_tell 16 = .ok (.iload_n 2, 1) := by decide +kernel
theorem dX5_tell_17 : decode cX5_tell 17 = .ok (.invokevirtual 141, 3) := by decide +kernel
theorem dX5_tell_20 : decode cX5_tell 20 = .ok (.istore_n 3, 1) := by decide +kernel
theorem dX5_tell_21 : decode cX5_tell 21 = .ok (.iload_n 3, 1) := by decide +kernel
theorem dX5_tell_22 : decode cX5_tell 22 = .ok (.aload_n 0, 1) := by decide +kernel
theorem dX5_tell_23 : decode cX5_tell 23 = .ok (.getfield 26, 3) := by decide +kernel
theorem dX5_tell_26 : decode cX5_tell 26 = .ok (.if_icmp .ne 7, 3) := by decide +kernel
theorem dX5_tell_29 : decode cX5_tell 29 = .ok (.iconst 0, 1) := by decide +kernel
theorem dX5_tell_30 : decode cX5_tell 30 = .ok (.goto 15, 3) := by decide +kernel
theorem dX5_tell_33 : decode cX5_tell 33 = .ok (.aload_n 0, 1) := by decide +kernel
theorem dX5_tell_34 : decode cX5_tell 34 = .ok (.getfield 18, 3) := by decide +kernel
theorem dX5_tell_37 : decode cX5_tell 37 = .ok (.iload_n 3, 1) := by decide +kernel
theorem dX5_tell_38 : decode cX5_tell 38 = .ok (.aload_n 0, 1) := by decide +kernel
theorem dX5_tell_39 : decode cX5_tell 39 = .ok (.getfield 26, 3) := by decide +kernel
theorem dX5_tell_42 : decode cX5_tell 42 = .ok (.invokevirtual 67, 3) := by decide +kernel
theorem dX5_tell_45 : decode cX5_tell 45 = .ok (.istore 4, 2) := by decide +kernel
theorem dX5_tell_47 : decode cX5_tell 47 = .ok (.aconst_null, 1) := by decide +kernel
theorem dX5_tell_48 : decode cX5_tell 48 = .ok (.astore 5, 2) := by decide +kernel
theorem dX5_tell_50 : decode cX5_tell 50 = .ok (.iload_n 1, 1) := by decide +kernel
theorem dX5_tell_51 : decode cX5_tell 51 = .ok (.istore 6, 2) := by decide +kernel
theorem dX5_tell_53 : decode cX5_tell 53 = .ok (.iload 6, 2) := by decide +kernel
theorem dX5_tell_55 : decode cX5_tell 55 = .ok (.iconst 1, 1) := by decide +kernel
theorem dX5_tell_56 : decode cX5_tell 56 = .ok (.if_icmp .lt 54, 3) := by decide +kernel
theorem dX5_tell_59 : decode cX5_tell 59 = .ok (.aload_n 0, 1) := by decide +kernel
theorem dX5_tell_60 : decode cX5_tell 60 = .ok (.iload_n 3, 1) := by decide +kernel
theorem dX5_tell_61 : decode cX5_tell 61 = .ok (.iload 6, 2) := by decide +kernel
theorem dX5_tell_63 : decode cX5_tell 63 = .ok (.aload 5, 2) := by decide +kernel
theorem dX5_tell_65 : decode cX5_tell 65 = .ok (.invokevirtual 144, 3) := by decide +kernel
theorem dX5_tell_68 : decode cX5_tell 68 = .ok (.astore 7, 2) := by decide +kernel
theorem dX5_tell_70 : decode cX5_tell 70 = .ok (.aload 7, 2) := by decide +kernel
theorem dX5_tell_72 : decode cX5_tell 72 = .ok (.ifnonnull 5, 3) := by decide +kernel
theorem dX5_tell_75 : decode cX5_tell 75 = .ok (.aconst_null, 1) := by decide +kernel
theorem dX5_tell_76 : decode cX5_tell 76 = .ok (.areturn, 1) := by decide +kernel
theorem dX5_tell_77 : decode cX5_tell 77 = .ok (.aload_n 0, 1) := by decide +kernel
theorem dX5_tell_78 : decode cX5_tell 78 = .ok (.aload 7, 2) := by decide +kernel
theorem dX5_tell_80 : decode cX5_tell 80 = .ok (.iload 6, 2) := by decide +kernel
theorem dX5_tell_82 : decode cX5_tell 82 = .ok (.invokevirtual 148, 3) := by decide +kernel
theorem dX5_tell_85 : decode cX5_tell 85 = .ok (.istore_n 3, 1) := by decide +kernel
theorem dX5_tell_86 : decode cX5_tell 86 = .ok (.aload 7, 2) := by decide +kernel
theorem dX5_tell_88 : decode cX5_tell 88 = .ok (.aload_n 0, 1) := by decide +kernel
theorem dX5_tell_89 : decode cX5_tell 89 = .ok (.iload_n 3, 1) := by decide +kernel
theorem dX5_tell_90 : decode cX5_tell 90 = .ok (.aload 7, 2) := by decide +kernel
theorem dX5_tell_92 : decode cX5_tell 92 = .ok (.iload 6, 2) := by decide +kernel
theorem dX5_tell_94 : decode cX5_tell 94 = .ok (.invokevirtual 152, 3) := by decide +kernel
theorem dX5_tell_97 : decode cX5_tell 97 = .ok (.putfield 156, 3) := by decide +kernel
theorem dX5_tell_100 : decode cX5_tell 100 = .ok (.aload 7, 2) := by decide +kernel
theorem dX5_tell_102 : decode cX5_tell 102 = .ok (.astore 5, 2) := by decide +kernel
theorem dX5_tell_104 : decode cX5_tell 104 = .ok (.iinc 6 (-1), 3) := by decide +kernel
theorem dX5_tell_107 : decode cX5_tell 107 = .ok (.goto (-54), 3) := by decide +kernel
theorem dX5_tell_110 : decode cX5_tell 110 = .ok (.new 160, 3) := by decide +kernel
theorem dX5_tell_113 : decode cX5_tell 113 = .ok (.dup, 1) := by decide +kernel
theorem dX5_tell_114 : decode cX5_tell 114 = .ok (.aload_n 0, 1) := by decide +kernel
theorem dX5_tell_115 : decode cX5_tell 115 = .ok (.getfield 29, 3) := by decide +kernel
theorem dX5_tell_118 : decode cX5_tell 118 = .ok (.aload 5, 2) := by decide +kernel
theorem dX5_tell_120 : decode cX5_tell 120 = .ok (.iload_n 1, 1) := by decide +kernel
theorem dX5_tell_121 : decode cX5_tell 121 = .ok (.iload 4, 2) := by decide +kernel
theorem dX5_tell_123 : decode cX5_tell 123 = .ok (.iload_n 2, 1) := by decide +kernel
theorem dX5_tell_124 : decode cX5_tell 124 = .ok (.invokespecial 162, 3) := by decide +kernel
theorem dX5_tell_127 : decode cX5_tell 127 = .ok (.areturn, 1) := by decide +kernel
theorem dX5_lastStop_0 : decode cX5_lastStop 0 = .ok (.aload_n 0, 1) := by decide +kernel
theorem dX5_lastStop_1 : decode cX5_lastStop 1 = .ok (.aload_n 0, 1) := by decide +kernel
theorem dX5_lastStop_2 : decode cX5_lastStop 2 = .ok (.getfield 26, 3) := by decide +kernel
theorem dX5_lastStop_5 : decode cX5_lastStop 5 = .ok (.iload_n 1, 1) := by decide +kernel
theorem dX5_lastStop_6 : decode cX5_lastStop 6 = .ok (.invokevirtual 135, 3) := by decide +kernel
theorem dX5_lastStop_9 : decode cX5_lastStop 9 = .ok (.iload_n 2, 1) := by decide +kernel
theorem dX5_lastStop_10 : decode cX5_lastStop 10 = .ok (.if_icmp .ne 8, 3) := by decide +kernel
theorem dX5_lastStop_13 : decode cX5_lastStop 13 = .ok (.aload_n 0, 1) := by decide +kernel
theorem dX5_lastStop_14 : decode cX5_lastStop 14 = .ok (.getfield 26, 3) := by decide +kernel
theorem dX5_lastStop_17 : decode cX5_lastStop 17 = .ok (.ireturn, 1) := by decide +kernel
theorem dX5_lastStop_18 : decode cX5_lastStop 18 = .ok (.iconst 0, 1) := by decide +kernel
theorem dX5_lastStop_19 : decode cX5_lastStop 19 = .ok (.istore_n 3, 1) := by decide +kernel
theorem dX5_lastStop_20 : decode cX5_lastStop 20 = .ok (.iload_n 3, 1) := by decide +kernel
theorem dX5_lastStop_21 : decode cX5_lastStop 21 = .ok (.aload_n 0, 1) := by decide +kernel
theorem dX5_lastStop_22 : decode cX5_lastStop 22 = .ok (.getfield 18, 3) := by decide +kernel
theorem dX5_lastStop_25 : decode cX5_lastStop 25 = .ok (.getfield 62, 3) := by decide +kernel
theorem dX5_lastStop_28 : decode cX5_lastStop 28 = .ok (.if_icmp .ge 21, 3) := by decide +kernel
theorem dX5_lastStop_31 : decode cX5_lastStop 31 = .ok (.aload_n 0, 1) := by decide +kernel
theorem dX5_lastStop_32 : decode cX5_lastStop 32 = .ok (.iload_n 3, 1) := by decide +kernel
theorem dX5_lastStop_33 : decode cX5_lastStop 33 = .ok (.iload_n 1, 1) := by decide +kernel
theorem dX5_lastStop_34 : decode cX5_lastStop 34 = .ok (.invokevirtual 135, 3) := by decide +kernel
theorem dX5_lastStop_37 : decode cX5_lastStop 37 = .ok (.iload_n 2, 1) := by decide +kernel
theorem dX5_lastStop_38 : decode cX5_lastStop 38 = .ok (.if_icmp .ne 5, 3) := by decide +kernel
theorem dX5_lastStop_41 : decode cX5_lastStop 41 = .ok (.iload_n 3, 1) := by decide +kernel
theorem dX5_lastStop_42 : decode cX5_lastStop 42 = .ok (.ireturn, 1) := by decide +kernel
theorem dX5_lastStop_43 : decode cX5_lastStop 43 = .ok (.iinc 3 1, 3) := by decide +kernel
theorem dX5_lastStop_46 : decode cX5_lastStop 46 = .ok (.goto (-26), 3) := by decide +kernel
theorem dX5_lastStop_49 : decode cX5_lastStop 49 = .ok (.aload_n 0, 1) := by decide +kernel
theorem dX5_lastStop_50 : decode cX5_lastStop 50 = .ok (.getfield 26, 3) := by decide +kernel
theorem dX5_lastStop_53 : decode cX5_lastStop 53 = .ok (.ireturn, 1) := by decide +kernel
theorem dX5_rideTo_0 : decode cX5_rideTo 0 = .ok (.iconst 0, 1) := by decide +kernel
theorem dX5_rideTo_1 : decode cX5_rideTo 1 = .ok (.istore 4, 2) := by decide +kernel
theorem dX5_rideTo_3 : decode cX5_rideTo 3 = .ok (.iload 4, 2) := by decide +kernel
theorem dX5_rideTo_5 : decode cX5_rideTo 5 = .ok (.aload_n 0, 1) := by decide +kernel
theorem dX5_rideTo_6 : decode cX5_rideTo 6 = .ok (.getfield 18, 3) := by decide +kernel
theorem dX5_rideTo_9 : decode cX5_rideTo 9 = .ok (.getfield 75, 3) := by decide +kernel
theorem dX5_rideTo_12 : decode cX5_rideTo 12 = .ok (.invokevirtual 79, 3) := by decide +kernel
theorem dX5_rideTo_15 : decode cX5_rideTo 15 = .ok (.if_icmp .ge 131, 3) := by decide +kernel
theorem dX5_rideTo_18 : decode cX5_rideTo 18 = .ok (.aload_n 0, 1) := by decide +kernel
theorem dX5_rideTo_19 : decode cX5_rideTo 19 = .ok (.getfield 18, 3) := by decide +kernel
theorem dX5_rideTo_22 : decode cX5_rideTo 22 = .ok (.getfield 75, 3) := by decide +kernel
theorem dX5_rideTo_25 : decode cX5_rideTo 25 = .ok (.iload 4, 2) := by decide +kernel
theorem dX5_rideTo_27 : decode cX5_rideTo 27 = .ok (.invokevirtual 85, 3) := by decide +kernel
theorem dX5_rideTo_30 : decode cX5_rideTo 30 = .ok (.checkcast 89, 3) := by decide +kernel
theorem dX5_rideTo_33 : decode cX5_rideTo 33 = .ok (.astore 5, 2) := by decide +kernel
theorem dX5_rideTo_35 : decode cX5_rideTo 35 = .ok (.aload_n 0, 1) := by decide +kernel
theorem dX5_rideTo_36 : decode cX5_rideTo 36 = .ok (.getfield 36, 3) := by decide +kernel
theorem dX5_rideTo_39 : decode cX5_rideTo 39 = .ok (.istore 6, 2) := by decide +kernel
theorem dX5_rideTo_41 : decode cX5_rideTo 41 = .ok (.iload 6, 2) := by decide +kernel
theorem dX5_rideTo_43 : decode cX5_rideTo 43 = .ok (.aload_n 0, 1) := by decide +kernel
theorem dX5_rideTo_44 : decode cX5_rideTo 44 = .ok (.getfield 42, 3) := by decide +kernel
theorem dX5_rideTo_47 : decode cX5_rideTo 47 = .ok (.if_icmp .gt 93, 3) := by decide +kernel
theorem dX5_rideTo_50 : decode cX5_rideTo 50 = .ok (.iload 6, 2) := by decide +kernel
theorem dX5_rideTo_52 : decode cX5_rideTo 52 = .ok (.bipush 100, 2) := by decide +kernel
theorem dX5_rideTo_54 : decode cX5_rideTo 54 = .ok (.if_icmp .ge 86, 3) := by decide +kernel
theorem dX5_rideTo_57 : decode cX5_rideTo 57 = .ok (.aload 5, 2) := by decide +kernel
theorem dX5_rideTo_59 : decode cX5_rideTo 59 = .ok (.iload 6, 2) := by decide +kernel
theorem dX5_rideTo_61 : decode cX5_rideTo 61 = .ok (.invokevirtual 91, 3) := by decide +kernel
theorem dX5_rideTo_64 : decode cX5_rideTo 64 = .ok (.ifCond .eq 21, 3) := by decide +kernel
theorem dX5_rideTo_67 : decode cX5_rideTo 67 = .ok (.aload_n 0, 1) := by decide +kernel
theorem dX5_rideTo_68 : decode cX5_rideTo 68 = .ok (.aload 5, 2) := by decide +kernel
theorem dX5_rideTo_70 : decode cX5_rideTo 70 = .ok (.iload 6, 2) := by decide +kernel
theorem dX5_rideTo_72 : decode cX5_rideTo 72 = .ok (.iload_n 1, 1) := by decide +kernel
theorem dX5_rideTo_73 : decode cX5_rideTo 73 = .ok (.aload_n 0, 1) := by decide +kernel
theorem dX5_rideTo_74 : decode cX5_rideTo 74 = .ok (.iload_n 2, 1) := by decide +kernel
theorem dX5_rideTo_75 : decode cX5_rideTo 75 = .ok (.iload_n 1, 1) := by decide +kernel
theorem dX5_rideTo_76 : decode cX5_rideTo 76 = .ok (.invokevirtual 104, 3) := by decide +kernel
theorem dX5_rideTo_79 : decode cX5_rideTo 79 = .ok (.invokevirtual 165, 3) := by decide +kernel
theorem dX5_rideTo_82 : decode cX5_rideTo 82 = .ok (.goto 4, 3) := by decide +kernel
theorem dX5_rideTo_85 : decode cX5_rideTo 85 = .ok (.iconst (-1), 1) := by decide +kernel
theorem dX5_rideTo_86 : decode cX5_rideTo 86 = .ok (.istore 7, 2) := by decide +kernel
theorem dX5_rideTo_88 : decode cX5_rideTo 88 = .ok (.iload 7, 2) := by decide +kernel
theorem dX5_rideTo_90 : decode cX5_rideTo 90 = .ok (.iconst (-1), 1) := by decide +kernel
theorem dX5_rideTo_91 : decode cX5_rideTo 91 = .ok (.if_icmp .ne 7, 3) := by decide +kernel
theorem dX5_rideTo_94 : decode cX5_rideTo 94 = .ok (.iconst (-1), 1) := by decide +kernel
theorem dX5_rideTo_95 : decode cX5_rideTo 95 = .ok (.goto 14, 3) := by decide +kernel
theorem dX5_rideTo_98 : decode cX5_rideTo 98 = .ok (.aload_n 0, 1) := by decide +kernel
theorem dX5_rideTo_99 : decode cX5_rideTo 99 = .ok (.aload 5, 2) := by decide +kernel
theorem dX5_rideTo_101 : decode cX5_rideTo 101 = .ok (.iload 6, 2) := by decide +kernel
theorem dX5_rideTo_103 : decode cX5_rideTo 103 = .ok (.iload 7, 2) := by decide +kernel
theorem dX5_rideTo_105 : decode cX5_rideTo 105 = .ok (.iload_n 2, 1) := by decide +kernel
theorem dX5_rideTo_106 : decode cX5_rideTo 106 = .ok (.invokevirtual 169, 3) := by decide +kernel
theorem dX5_rideTo_109 : decode cX5_rideTo 109 = .ok (.istore 8, 2) := by decide +kernel
theorem dX5_rideTo_111 : decode cX5_rideTo 111 = .ok (.iload 8, 2) := by decide +kernel
theorem dX5_rideTo_113 : decode cX5_rideTo 113 = .ok (.iconst (-1), 1) := by decide +kernel
theorem dX5_rideTo_114 : decode cX5_rideTo 114 = .ok (.if_icmp .eq 20, 3) := by decide +kernel
theorem dX5_rideTo_117 : decode cX5_rideTo 117 = .ok (.new 157, 3) := by decide +kernel
theorem dX5_rideTo_120 : decode cX5_rideTo 120 = .ok (.dup, 1) := by decide +kernel
theorem dX5_rideTo_121 : decode cX5_rideTo 121 = .ok (.aload 5, 2) := by decide +kernel
theorem dX5_rideTo_123 : decode cX5_rideTo 123 = .ok (.iload 6, 2) := by decide +kernel
theorem dX5_rideTo_125 : decode cX5_rideTo 125 = .ok (.iload 8, 2) := by decide +kernel
theorem dX5_rideTo_127 : decode cX5_rideTo 127 = .ok (.iload 7, 2) := by decide +kernel
theorem dX5_rideTo_129 : decode cX5_rideTo 129 = .ok (.aload_n 3, 1) := by decide +kernel
theorem dX5_rideTo_130 : decode cX5_rideTo 130 = .ok (.invokespecial 172, 3) := by decide +kernel
theorem dX5_rideTo_133 : decode cX5_rideTo 133 = .ok (.areturn, 1) := by decide +kernel
theorem dX5_rideTo_134 : decode cX5_rideTo 134 = .ok (.iinc 6 1, 3) := by decide +kernel
theorem dX5_rideTo_137 : decode cX5_rideTo 137 = .ok (.goto (-96), 3) := by decide +kernel
theorem dX5_rideTo_140 : decode cX5_rideTo 140 = .ok (.iinc 4 1, 3) := by decide +kernel
theorem dX5_rideTo_143 : decode cX5_rideTo 143 = .ok (.goto (-140), 3) := by decide +kernel
theorem dX5_rideTo_146 : decode cX5_rideTo 146 = .ok (.aconst_null, 1) := by decide +kernel
theorem dX5_rideTo_147 : decode cX5_rideTo 147 = .ok (.areturn, 1) := by decide +kernel
theorem dX5_leavingPlace_0 : decode cX5_leavingPlace 0 = .ok (.iconst 1, 1) := by decide +kernel
theorem dX5_leavingPlace_1 : decode cX5_leavingPlace 1 = .ok (.istore 5, 2) := by decide +kernel
theorem dX5_leavingPlace_3 : decode cX5_leavingPlace 3 = .ok (.iload 5, 2) := by decide +kernel
theorem dX5_leavingPlace_5 : decode cX5_leavingPlace 5 = .ok (.aload_n 1, 1) := by decide +kernel
theorem dX5_leavingPlace_6 : decode cX5_leavingPlace 6 = .ok (.getfield 99, 3) := by decide +kernel
theorem dX5_leavingPlace_9 : decode cX5_leavingPlace 9 = .ok (.if_icmp .ge 34, 3) := by decide +kernel
theorem dX5_leavingPlace_12 : decode cX5_leavingPlace 12 = .ok (.aload_n 1, 1) := by decide +kernel
theorem dX5_leavingPlace_13 : decode cX5_leavingPlace 13 = .ok (.iload 5, 2) := by decide +kernel
theorem dX5_leavingPlace_15 : decode cX5_leavingPlace 15 = .ok (.invokevirtual 101, 3) := by decide +kernel
theorem dX5_leavingPlace_18 : decode cX5_leavingPlace 18 = .ok (.iload_n 3, 1) := by decide +kernel
theorem dX5_leavingPlace_19 : decode cX5_leavingPlace 19 = .ok (.if_icmp .ne 18, 3) := by decide +kernel
theorem dX5_leavingPlace_22 : decode cX5_leavingPlace 22 = .ok (.aload_n 1, 1) := by decide +kernel
theorem dX5_leavingPlace_23 : decode cX5_leavingPlace 23 = .ok (.iload_n 2, 1) := by decide +kernel
theorem dX5_leavingPlace_24 : decode cX5_leavingPlace 24 = .ok (.iload 5, 2) := by decide +kernel
theorem dX5_leavingPlace_26 : decode cX5_leavingPlace 26 = .ok (.invokevirtual 107, 3) := by decide +kernel
theorem dX5_leavingPlace_29 : decode cX5_leavingPlace 29 = .ok (.iload 4, 2) := by decide +kernel
theorem dX5_leavingPlace_31 : decode cX5_leavingPlace 31 = .ok (.if_icmp .ne 6, 3) := by decide +kernel
theorem dX5_leavingPlace_34 : decode cX5_leavingPlace 34 = .ok (.iload 5, 2) := by decide +kernel
theorem dX5_leavingPlace_36 : decode cX5_leavingPlace 36 = .ok (.ireturn, 1) := by decide +kernel
theorem dX5_leavingPlace_37 : decode cX5_leavingPlace 37 = .ok (.iinc 5 1, 3) := by decide +kernel
theorem dX5_leavingPlace_40 : decode cX5_leavingPlace 40 = .ok (.goto (-37), 3) := by decide +kernel
theorem dX5_leavingPlace_43 : decode cX5_leavingPlace 43 = .ok (.iconst (-1), 1) := by decide +kernel
theorem dX5_leavingPlace_44 : decode cX5_leavingPlace 44 = .ok (.ireturn, 1) := by decide +kernel
theorem dX5_boardingPlace_0 : decode cX5_boardingPlace 0 = .ok (.iconst 0, 1) := by decide +kernel
theorem dX5_boardingPlace_1 : decode cX5_boardingPlace 1 = .ok (.istore 5, 2) := by decide +kernel
theorem dX5_boardingPlace_3 : decode cX5_boardingPlace 3 = .ok (.iload 5, 2) := by decide +kernel
theorem dX5_boardingPlace_5 : decode cX5_boardingPlace 5 = .ok (.iload_n 3, 1) := by decide +kernel
theorem dX5_boardingPlace_6 : decode cX5_boardingPlace 6 = .ok (.if_icmp .ge 36, 3) := by decide +kernel
theorem dX5_boardingPlace_9 : decode cX5_boardingPlace 9 = .ok (.aload_n 1, 1) := by decide +kernel
theorem dX5_boardingPlace_10 : decode cX5_boardingPlace 10 = .ok (.iload_n 2, 1) := by decide +kernel
theorem dX5_boardingPlace_11 : decode cX5_boardingPlace 11 = .ok (.iload 5, 2) := by decide +kernel
theorem dX5_boardingPlace_13 : decode cX5_boardingPlace 13 = .ok (.invokevirtual 115, 3) := by decide +kernel
theorem dX5_boardingPlace_16 : decode cX5_boardingPlace 16 = .ok (.aload_n 0, 1) := by decide +kernel
theorem dX5_boardingPlace_17 : decode cX5_boardingPlace 17 = .ok (.iload 4, 2) := by decide +kernel
theorem dX5_boardingPlace_19 : decode cX5_boardingPlace 19 = .ok (.iconst 1, 1) := by decide +kernel
theorem dX5_boardingPlace_20 : decode cX5_boardingPlace 20 = .ok (.isub, 1) := by decide +kernel
theorem dX5_boardingPlace_21 : decode cX5_boardingPlace 21 = .ok (.aload_n 1, 1) := by decide +kernel
theorem dX5_boardingPlace_22 : decode cX5_boardingPlace 22 = .ok (.iload 5, 2) := by decide +kernel
theorem dX5_boardingPlace_24 : decode cX5_boardingPlace 24 = .ok (.invokevirtual 101, 3) := by decide +kernel
theorem dX5_boardingPlace_27 : decode cX5_boardingPlace 27 = .ok (.invokevirtual 118, 3) := by decide +kernel
theorem dX5_boardingPlace_30 : decode cX5_boardingPlace 30 = .ok (.if_icmp .lt 6, 3) := by decide +kernel
theorem dX5_boardingPlace_33 : decode cX5_boardingPlace 33 = .ok (.iload 5, 2) := by decide +kernel
theorem dX5_boardingPlace_35 : decode cX5_boardingPlace 35 = .ok (.ireturn, 1) := by decide +kernel
theorem dX5_boardingPlace_36 : decode cX5_boardingPlace 36 = .ok (.iinc 5 1, 3) := by decide +kernel
theorem dX5_boardingPlace_39 : decode cX5_boardingPlace 39 = .ok (.goto (-36), 3) := by decide +kernel
theorem dX5_boardingPlace_42 : decode cX5_boardingPlace 42 = .ok (.iconst (-1), 1) := by decide +kernel
theorem dX5_boardingPlace_43 : decode cX5_boardingPlace 43 = .ok (.ireturn, 1) := by decide +kernel
theorem dX5_stopAhead_0 : decode cX5_stopAhead 0 = .ok (.aload_n 1, 1) := by decide +kernel
theorem dX5_stopAhead_1 : decode cX5_stopAhead 1 = .ok (.invokevirtual 175, 3) := by decide +kernel
theorem dX5_stopAhead_4 : decode cX5_stopAhead 4 = .ok (.istore_n 3, 1) := by decide +kernel
theorem dX5_stopAhead_5 : decode cX5_stopAhead 5 = .ok (.iload_n 2, 1) := by decide +kernel
theorem dX5_stopAhead_6 : decode cX5_stopAhead 6 = .ok (.iconst 1, 1) := by decide +kernel
theorem dX5_stopAhead_7 : decode cX5_stopAhead 7 = .ok (.if_icmp .ne 8, 3) := by decide +kernel
theorem dX5_stopAhead_10 : decode cX5_stopAhead 10 = .ok (.aload_n 0, 1) := by decide +kernel
theorem dX5_stopAhead_11 : decode cX5_stopAhead 11 = .ok (.getfield 22, 3) := by decide +kernel
theorem dX5_stopAhead_14 : decode cX5_stopAhead 14 = .ok (.ireturn, 1) := by decide +kernel
theorem dX5_stopAhead_15 : decode cX5_stopAhead 15 = .ok (.aload_n 0, 1) := by decide +kernel
theorem dX5_stopAhead_16 : decode cX5_stopAhead 16 = .ok (.iload_n 3, 1) := by decide +kernel
theorem dX5_stopAhead_17 : decode cX5_stopAhead 17 = .ok (.iload_n 3, 1) := by decide +kernel
theorem dX5_stopAhead_18 : decode cX5_stopAhead 18 = .ok (.iload_n 2, 1) := by decide +kernel
theorem dX5_stopAhead_19 : decode cX5_stopAhead 19 = .ok (.iconst 1, 1) := by decide +kernel
theorem dX5_stopAhead_20 : decode cX5_stopAhead 20 = .ok (.isub, 1) := by decide +kernel
theorem dX5_stopAhead_21 : decode cX5_stopAhead 21 = .ok (.invokevirtual 121, 3) := by decide +kernel
theorem dX5_stopAhead_24 : decode cX5_stopAhead 24 = .ok (.aload_n 1, 1) := by decide +kernel
theorem dX5_stopAhead_25 : decode cX5_stopAhead 25 = .ok (.invokevirtual 178, 3) := by decide +kernel
theorem dX5_stopAhead_28 : decode cX5_stopAhead 28 = .ok (.if_icmp .gt 5, 3) := by decide +kernel
theorem dX5_stopAhead_31 : decode cX5_stopAhead 31 = .ok (.iload_n 3, 1) := by decide +kernel
theorem dX5_stopAhead_32 : decode cX5_stopAhead 32 = .ok (.ireturn, 1) := by decide +kernel
theorem dX5_stopAhead_33 : decode cX5_stopAhead 33 = .ok (.iconst 0, 1) := by decide +kernel
theorem dX5_stopAhead_34 : decode cX5_stopAhead 34 = .ok (.istore 4, 2) := by decide +kernel
theorem dX5_stopAhead_36 : decode cX5_stopAhead 36 = .ok (.iload 4, 2) := by decide +kernel
theorem dX5_stopAhead_38 : decode cX5_stopAhead 38 = .ok (.aload_n 0, 1) := by decide +kernel
theorem dX5_stopAhead_39 : decode cX5_stopAhead 39 = .ok (.getfield 18, 3) := by decide +kernel
theorem dX5_stopAhead_42 : decode cX5_stopAhead 42 = .ok (.getfield 62, 3) := by decide +kernel
theorem dX5_stopAhead_45 : decode cX5_stopAhead 45 = .ok (.if_icmp .ge 29, 3) := by decide +kernel
theorem dX5_stopAhead_48 : decode cX5_stopAhead 48 = .ok (.aload_n 0, 1) := by decide +kernel
theorem dX5_stopAhead_49 : decode cX5_stopAhead 49 = .ok (.iload 4, 2) := by decide +kernel
theorem dX5_stopAhead_51 : decode cX5_stopAhead 51 = .ok (.iload_n 3, 1) := by decide +kernel
theorem dX5_stopAhead_52 : decode cX5_stopAhead 52 = .ok (.iload_n 2, 1) := by decide +kernel
theorem dX5_stopAhead_53 : decode cX5_stopAhead 53 = .ok (.iconst 1, 1) := by decide +kernel
theorem dX5_stopAhead_54 : decode cX5_stopAhead 54 = .ok (.isub, 1) := by decide +kernel
theorem dX5_stopAhead_55 : decode cX5_stopAhead 55 = .ok (.invokevirtual 121, 3) := by decide +kernel
theorem dX5_stopAhead_58 : decode cX5_stopAhead 58 = .ok (.aload_n 1, 1) := by decide +kernel
theorem dX5_stopAhead_59 : decode cX5_stopAhead 59 = .ok (.invokevirtual 178, 3) := by decide +kernel
theorem dX5_stopAhead_62 : decode cX5_stopAhead 62 = .ok (.if_icmp .gt 6, 3) := by decide +kernel
theorem dX5_stopAhead_65 : decode cX5_stopAhead 65 = .ok (.iload 4, 2) := by decide +kernel
theorem dX5_stopAhead_67 : decode cX5_stopAhead 67 = .ok (.ireturn, 1) := by decide +kernel
theorem dX5_stopAhead_68 : decode cX5_stopAhead 68 = .ok (.iinc 4 1, 3) := by decide +kernel
theorem dX5_stopAhead_71 : decode cX5_stopAhead 71 = .ok (.goto (-35), 3) := by decide +kernel
theorem dX5_stopAhead_74 : decode cX5_stopAhead 74 = .ok (.iload_n 3, 1) := by decide +kernel
theorem dX5_stopAhead_75 : decode cX5_stopAhead 75 = .ok (.ireturn, 1) := by decide +kernel
theorem dX5_minutesAhead_0 : decode cX5_minutesAhead 0 = .ok (.aload_n 2, 1) := by decide +kernel
theorem dX5_minutesAhead_1 : decode cX5_minutesAhead 1 = .ok (.invokevirtual 175, 3) := by decide +kernel
theorem dX5_minutesAhead_4 : decode cX5_minutesAhead 4 = .ok (.istore 4, 2) := by decide +kernel
theorem dX5_minutesAhead_6 : decode cX5_minutesAhead 6 = .ok (.iload_n 3, 1) := by decide +kernel
theorem dX5_minutesAhead_7 : decode cX5_minutesAhead 7 = .ok (.iconst 1, 1) := by decide +kernel
theorem dX5_minutesAhead_8 : decode cX5_minutesAhead 8 = .ok (.if_icmp .ne 13, 3) := by decide +kernel
theorem dX5_minutesAhead_11 : decode cX5_minutesAhead 11 = .ok (.iload_n 1, 1) := by decide +kernel
theorem dX5_minutesAhead_12 : decode cX5_minutesAhead 12 = .ok (.iload 4, 2) := by decide +kernel
theorem dX5_minutesAhead_14 : decode cX5_minutesAhead 14 = .ok (.if_icmp .ne 7, 3) := by decide +kernel
theorem dX5_minutesAhead_17 : decode cX5_minutesAhead 17 = .ok (.iconst 0, 1) := by decide +kernel
theorem dX5_minutesAhead_18 : decode cX5_minutesAhead 18 = .ok (.goto 10, 3) := by decide +kernel
theorem dX5_minutesAhead_21 : decode cX5_minutesAhead 21 = .ok (.aload_n 0, 1) := by decide +kernel
theorem dX5_minutesAhead_22 : decode cX5_minutesAhead 22 = .ok (.iload_n 1, 1) := by decide +kernel
theorem dX5_minutesAhead_23 : decode cX5_minutesAhead 23 = .ok (.iload 4, 2) := by decide +kernel
theorem dX5_minutesAhead_25 : decode cX5_minutesAhead 25 = .ok (.invokevirtual 132, 3) := by decide +kernel
theorem dX5_minutesAhead_28 : decode cX5_minutesAhead 28 = .ok (.ireturn, 1) := by decide +kernel
theorem dX6_init_0 : decode cX6_init 0 = .ok (.aload_n 0, 1) := by decide +kernel
theorem dX6_init_1 : decode cX6_init 1 = .ok (.invokespecial 3, 3) := by decide +kernel
theorem dX6_init_4 : decode cX6_init 4 = .ok (.aload_n 0, 1) := by decide +kernel
theorem dX6_init_5 : decode cX6_init 5 = .ok (.aload_n 1, 1) := by decide +kernel
theorem dX6_init_6 : decode cX6_init 6 = .ok (.putfield 9, 3) := by decide +kernel
theorem dX6_init_9 : decode cX6_init 9 = .ok (.return_, 1) := by decide +kernel
theorem dX6_tryAll_0 : decode cX6_tryAll 0 = .ok (.aload_n 0, 1) := by decide +kernel
theorem dX6_tryAll_1 : decode cX6_tryAll 1 = .ok (.iload_n 2, 1) := by decide +kernel
theorem dX6_tryAll_2 : decode cX6_tryAll 2 = .ok (.putfield 15, 3) := by decide +kernel
theorem dX6_tryAll_5 : decode cX6_tryAll 5 = .ok (.aload_n 0, 1) := by decide +kernel
theorem dX6_tryAll_6 : decode cX6_tryAll 6 = .ok (.iload_n 3, 1) := by decide +kernel
theorem dX6_tryAll_7 : decode cX6_tryAll 7 = .ok (.invokestatic 19, 3) := by decide +kernel
theorem dX6_tryAll_10 : decode cX6_tryAll 10 = .ok (.putfield 23, 3) := by decide +kernel
theorem dX6_tryAll_13 : decode cX6_tryAll 13 = .ok (.aload_n 0, 1) := by decide +kernel
theorem dX6_tryAll_14 : decode cX6_tryAll 14 = .ok (.iload_n 3, 1) := by decide +kernel
theorem dX6_tryAll_15 : decode cX6_tryAll 15 = .ok (.invokestatic 26, 3) := by decide +kernel
theorem dX6_tryAll_18 : decode cX6_tryAll 18 = .ok (.putfield 29, 3) := by decide +kernel
theorem dX6_tryAll_21 : decode cX6_tryAll 21 = .ok (.aload_n 0, 1) := by decide +kernel
theorem dX6_tryAll_22 : decode cX6_tryAll 22 = .ok (.ldc 32, 2) := by decide +kernel
theorem dX6_tryAll_24 : decode cX6_tryAll 24 = .ok (.putfield 33, 3) := by decide +kernel
theorem dX6_tryAll_27 : decode cX6_tryAll 27 = .ok (.aload_n 0, 1) := by decide +kernel
theorem dX6_tryAll_28 : decode cX6_tryAll 28 = .ok (.iload_n 1, 1) := by decide +kernel
theorem dX6_tryAll_29 : decode cX6_tryAll 29 = .ok (.iload_n 3, 1) := by decide +kernel
theorem dX6_tryAll_30 : decode cX6_tryAll 30 = .ok (.iconst 0, 1) := by decide +kernel
theorem dX6_tryAll_31 : decode cX6_tryAll 31 = .ok (.iload 4, 2) := by decide +kernel
theorem dX6_tryAll_33 : decode cX6_tryAll 33 = .ok (.invokevirtual 36, 3) := by decide +kernel
theorem dX6_tryAll_36 : decode cX6_tryAll 36 = .ok (.aload_n 0, 1) := by decide +kernel
theorem dX6_tryAll_37 : decode cX6_tryAll 37 = .ok (.getfield 33, 3) := by decide +kernel
theorem dX6_tryAll_40 : decode cX6_tryAll 40 = .ok (.ireturn, 1) := by decide +kernel
theorem dX6_goOn_0 : decode cX6_goOn 0 = .ok (.iload 4, 2) := by decide +kernel
theorem dX6_goOn_2 : decode cX6_goOn 2 = .ok (.iconst 1, 1) := by decide +kernel
theorem dX6_goOn_3 : decode cX6_goOn 3 = .ok (.if_icmp .lt 9, 3) := by decide +kernel
theorem dX6_goOn_6 : decode cX6_goOn 6 = .ok (.iload 4, 2) := by decide +kernel
theorem dX6_goOn_8 : decode cX6_goOn 8 = .ok (.iconst 4, 1) := by decide +kernel
theorem dX6_goOn_9 : decode cX6_goOn 9 = .ok (.if_icmp .le 4, 3) := by decide +kernel
theorem dX6_goOn_12 : decode cX6_goOn 12 = .ok (.return_, 1) := by decide +kernel
theorem dX6_goOn_13 : decode cX6_goOn 13 = .ok (.aload_n 0, 1) := by decide +kernel
theorem dX6_goOn_14 : decode cX6_goOn 14 = .ok (.getfield 23, 3) := by decide +kernel
theorem dX6_goOn_17 : decode cX6_goOn 17 = .ok (.istore 5, 2) := by decide +kernel
theorem dX6_goOn_19 : decode cX6_goOn 19 = .ok (.iload 5, 2) := by decide +kernel
theorem dX6_goOn_21 : decode cX6_goOn 21 = .ok (.aload_n 0, 1) := by decide +kernel
theorem dX6_goOn_22 : decode cX6_goOn 22 = .ok (.getfield 29, 3) := by decide +kernel
theorem dX6_goOn_25 : decode cX6_goOn 25 = .ok (.if_icmp .gt 113, 3) := by decide +kernel
theorem dX6_goOn_28 : decode cX6_goOn 28 = .ok (.iload 5, 2) := by decide +kernel
theorem dX6_goOn_30 : decode cX6_goOn 30 = .ok (.bipush 100, 2) := by decide +kernel
theorem dX6_goOn_32 : decode cX6_goOn 32 = .ok (.if_icmp .ge 106, 3) := by decide +kernel
theorem dX6_goOn_35 : decode cX6_goOn 35 = .ok (.iconst 0, 1) := by decide +kernel
theorem dX6_goOn_36 : decode cX6_goOn 36 = .ok (.istore 6, 2) := by decide +kernel
theorem dX6_goOn_38 : decode cX6_goOn 38 = .ok (.iload 6, 2) := by decide +kernel
theorem dX6_goOn_40 : decode cX6_goOn 40 = .ok (.aload_n 0, 1) := by decide +kernel
theorem dX6_goOn_41 : decode cX6_goOn 41 = .ok (.getfield 9, 3) := by decide +kernel
theorem dX6_goOn_44 : decode cX6_goOn 44 = .ok (.getfield 40, 3) := by decide +kernel
theorem dX6_goOn_47 : decode cX6_goOn 47 = .ok (.invokevirtual 46, 3) := by decide +kernel
theorem dX6_goOn_50 : decode cX6_goOn 50 = .ok (.if_icmp .ge 82, 3) := by decide +kernel
theorem dX6_goOn_53 : decode cX6_goOn 53 = .ok (.aload_n 0, 1) := by decide +kernel
theorem dX6_goOn_54 : decode cX6_goOn 54 = .ok (.getfield 9, 3) := by decide +kernel
theorem dX6_goOn_57 : decode cX6_goOn 57 = .ok (.getfield 40, 3) := by decide +kernel
theorem dX6_goOn_60 : decode cX6_goOn 60 = .ok (.iload 6, 2) := by decide +kernel
theorem dX6_goOn_62 : decode cX6_goOn 62 = .ok (.invokevirtual 52, 3) := by decide +kernel
theorem dX6_goOn_65 : decode cX6_goOn 65 = .ok (.checkcast 56, 3) := by decide +kernel
theorem dX6_goOn_68 : decode cX6_goOn 68 = .ok (.astore 7, 2) := by decide +kernel
theorem dX6_goOn_70 : decode cX6_goOn 70 = .ok (.aload 7, 2) := by decide +kernel
theorem dX6_goOn_72 : decode cX6_goOn 72 = .ok (.iload 5, 2) := by decide +kernel
theorem dX6_goOn_74 : decode cX6_goOn 74 = .ok (.invokevirtual 58, 3) := by decide +kernel
theorem dX6_goOn_77 : decode cX6_goOn 77 = .ok (.ifCond .eq 49, 3) := by decide +kernel
theorem dX6_goOn_80 : decode cX6_goOn 80 = .ok (.aload 7, 2) := by decide +kernel
theorem dX6_goOn_82 : decode cX6_goOn 82 = .ok (.iload 5, 2) := by decide +kernel
theorem dX6_goOn_84 : decode cX6_goOn 84 = .ok (.iconst 0, 1) := by decide +kernel
theorem dX6_goOn_85 : decode cX6_goOn 85 = .ok (.invokevirtual 62, 3) := by decide +kernel
theorem dX6_goOn_88 : decode cX6_goOn 88 = .ok (.aload_n 0, 1) := by decide +kernel
theorem dX6_goOn_89 : decode cX6_goOn 89 = .ok (.getfield 33, 3) := by decide +kernel
theorem dX6_goOn_92 : decode cX6_goOn 92 = .ok (.if_icmp .ge 34, 3) := by decide +kernel
theorem dX6_goOn_95 : decode cX6_goOn 95 = .ok (.aload 7, 2) := by decide +kernel
theorem dX6_goOn_97 : decode cX6_goOn 97 = .ok (.iload 5, 2) := by decide +kernel
theorem dX6_goOn_99 : decode cX6_goOn 99 = .ok (.aload 7, 2) := by decide +kernel
theorem dX6_goOn_101 : decode cX6_goOn 101 = .ok (.getfield 66, 3) := by decide +kernel
theorem dX6_goOn_104 : decode cX6_goOn 104 = .ok (.iconst 1, 1) := by decide +kernel
theorem dX6_goOn_105 : decode cX6_goOn 105 = .ok (.isub, 1) := by decide +kernel
theorem dX6_goOn_106 : decode cX6_goOn 106 = .ok (.invokevirtual 68, 3) := by decide +kernel
theorem dX6_goOn_109 : decode cX6_goOn 109 = .ok (.iload_n 2, 1) := by decide +kernel
theorem dX6_goOn_110 : decode cX6_goOn 110 = .ok (.if_icmp .le 16, 3) := by decide +kernel
theorem dX6_goOn_113 : decode cX6_goOn 113 = .ok (.aload_n 0, 1) := by decide +kernel
theorem dX6_goOn_114 : decode cX6_goOn 114 = .ok (.aload 7, 2) := by decide +kernel
theorem dX6_goOn_116 : decode cX6_goOn 116 = .ok (.iload 5, 2) := by decide +kernel
theorem dX6_goOn_118 : decode cX6_goOn 118 = .ok (.iload_n 1, 1) := by decide +kernel
theorem dX6_goOn_119 : decode cX6_goOn 119 = .ok (.iload_n 2, 1) := by decide +kernel
theorem dX6_goOn_120 : decode cX6_goOn 120 = .ok (.iload_n 3, 1) := by decide +kernel
theorem dX6_goOn_121 : decode cX6_goOn 121 = .ok (.iload 4, 2) := by decide +kernel
theorem dX6_goOn_123 : decode cX6_goOn 123 = .ok (.invokevirtual 71, 3) := by decide +kernel
theorem dX6_goOn_126 : decode cX6_goOn 126 = .ok (.iinc 6 1, 3) := by decide +kernel
theorem dX6_goOn_129 : decode cX6_goOn 129 = .ok (.goto (-91), 3) := by decide +kernel
theorem dX6_goOn_132 : decode cX6_goOn 132 = .ok (.iinc 5 1, 3) := by decide +kernel
theorem dX6_goOn_135 : decode cX6_goOn 135 = .ok (.goto (-116), 3) := by decide +kernel
theorem dX6_goOn_138 : decode cX6_goOn 138 = .ok (.return_, 1) := by decide +kernel
theorem dX6_tryRun_0 : decode cX6_tryRun 0 = .ok (.iconst 0, 1) := by decide +kernel
theorem dX6_tryRun_1 : decode cX6_tryRun 1 = .ok (.istore 7, 2) := by decide +kernel
theorem dX6_tryRun_3 : decode cX6_tryRun 3 = .ok (.iconst 0, 1) := by decide +kernel
theorem dX6_tryRun_4 : decode cX6_tryRun 4 = .ok (.istore 8, 2) := by decide +kernel
theorem dX6_tryRun_6 : decode cX6_tryRun 6 = .ok (.iload 8, 2) := by decide +kernel
theorem dX6_tryRun_8 : decode cX6_tryRun 8 = .ok (.aload_n 1, 1) := by decide +kernel
theorem dX6_tryRun_9 : decode cX6_tryRun 9 = .ok (.getfield 66, 3) := by decide +kernel
theorem dX6_tryRun_12 : decode cX6_tryRun 12 = .ok (.if_icmp .ge 93, 3) := by decide +kernel
theorem dX6_tryRun_15 : decode cX6_tryRun 15 = .ok (.aload_n 1, 1) := by decide +kernel
theorem dX6_tryRun_16 : decode cX6_tryRun 16 = .ok (.iload 8, 2) := by decide +kernel
theorem dX6_tryRun_18 : decode cX6_tryRun 18 = .ok (.invokevirtual 75, 3) := by decide +kernel
theorem dX6_tryRun_21 : decode cX6_tryRun 21 = .ok (.istore 9, 2) := by decide +kernel
theorem dX6_tryRun_23 : decode cX6_tryRun 23 = .ok (.iload 7, 2) := by decide +kernel
theorem dX6_tryRun_25 : decode cX6_tryRun 25 = .ok (.ifCond .eq 23, 3) := by decide +kernel
theorem dX6_tryRun_28 : decode cX6_tryRun 28 = .ok (.aload_n 0, 1) := by decide +kernel
theorem dX6_tryRun_29 : decode cX6_tryRun 29 = .ok (.iload 9, 2) := by decide +kernel
theorem dX6_tryRun_31 : decode cX6_tryRun 31 = .ok (.aload_n 1, 1) := by decide +kernel
theorem dX6_tryRun_32 : decode cX6_tryRun 32 = .ok (.iload_n 2, 1) := by decide +kernel
theorem dX6_tryRun_33 : decode cX6_tryRun 33 = .ok (.iload 8, 2) := by decide +kernel
theorem dX6_tryRun_35 : decode cX6_tryRun 35 = .ok (.invokevirtual 68, 3) := by decide +kernel
theorem dX6_tryRun_38 : decode cX6_tryRun 38 = .ok (.iload 6, 2) := by decide +kernel
theorem dX6_tryRun_40 : decode cX6_tryRun 40 = .ok (.iconst 1, 1) := by decide +kernel
theorem dX6_tryRun_41 : decode cX6_tryRun 41 = .ok (.isub, 1) := by decide +kernel
theorem dX6_tryRun_42 : decode cX6_tryRun 42 = .ok (.invokevirtual 78, 3) := by decide +kernel
theorem dX6_tryRun_45 : decode cX6_tryRun 45 = .ok (.goto 54, 3) := by decide +kernel
theorem dX6_tryRun_48 : decode cX6_tryRun 48 = .ok (.iload 9, 2) := by decide +kernel
theorem dX6_tryRun_50 : decode cX6_tryRun 50 = .ok (.iload_n 3, 1) := by decide +kernel
theorem dX6_tryRun_51 : decode cX6_tryRun 51 = .ok (.if_icmp .ne 8, 3) := by decide +kernel
theorem dX6_tryRun_54 : decode cX6_tryRun 54 = .ok (.iload 5, 2) := by decide +kernel
theorem dX6_tryRun_56 : decode cX6_tryRun 56 = .ok (.goto 13, 3) := by decide +kernel
theorem dX6_tryRun_59 : decode cX6_tryRun 59 = .ok (.aload_n 0, 1) := by decide +kernel
theorem dX6_tryRun_60 : decode cX6_tryRun 60 = .ok (.getfield 9, 3) := by decide +kernel
theorem dX6_tryRun_63 : decode cX6_tryRun 63 = .ok (.iload_n 3, 1) := by decide +kernel
theorem dX6_tryRun_64 : decode cX6_tryRun 64 = .ok (.iload 9, 2) := by decide +kernel
theorem dX6_tryRun_66 : decode cX6_tryRun 66 = .ok (.invokevirtual 82, 3) := by decide +kernel
theorem dX6_tryRun_69 : decode cX6_tryRun 69 = .ok (.istore 10, 2) := by decide +kernel
theorem dX6_tryRun_71 : decode cX6_tryRun 71 = .ok (.iload 10, 2) := by decide +kernel
theorem dX6_tryRun_73 : decode cX6_tryRun 73 = .ok (.iconst (-1), 1) := by decide +kernel
theorem dX6_tryRun_74 : decode cX6_tryRun 74 = .ok (.if_icmp .eq 22, 3) := by decide +kernel
theorem dX6_tryRun_77 : decode cX6_tryRun 77 = .ok (.aload_n 1, 1) := by decide +kernel
theorem dX6_tryRun_78 : decode cX6_tryRun 78 = .ok (.iload_n 2, 1) := by decide +kernel
theorem dX6_tryRun_79 : decode cX6_tryRun 79 = .ok (.iload 8, 2) := by decide +kernel
theorem dX6_tryRun_81 : decode cX6_tryRun 81 = .ok (.invokevirtual 62, 3) := by decide +kernel
theorem dX6_tryRun_84 : decode cX6_tryRun 84 = .ok (.iload 4, 2) := by decide +kernel
theorem dX6_tryRun_86 : decode cX6_tryRun 86 = .ok (.iload 10, 2) := by decide +kernel
theorem dX6_tryRun_88 : decode cX6_tryRun 88 = .ok (.iadd, 1) := by decide +kernel
theorem dX6_tryRun_89 : decode cX6_tryRun 89 = .ok (.if_icmp .lt 7, 3) := by decide +kernel
theorem dX6_tryRun_92 : decode cX6_tryRun 92 = .ok (.iconst 1, 1) := by decide +kernel
theorem dX6_tryRun_93 : decode cX6_tryRun 93 = .ok (.goto 4, 3) := by decide +kernel
theorem dX6_tryRun_96 : decode cX6_tryRun 96 = .ok (.iconst 0, 1) := by decide +kernel
theorem dX6_tryRun_97 : decode cX6_tryRun 97 = .ok (.istore 7, 2) := by decide +kernel
theorem dX6_tryRun_99 : decode cX6_tryRun 99 = .ok (.iinc 8 1, 3) := by decide +kernel
theorem dX6_tryRun_102 : decode cX6_tryRun 102 = .ok (.goto (-96), 3) := by decide +kernel
theorem dX6_tryRun_105 : decode cX6_tryRun 105 = .ok (.return_, 1) := by decide +kernel
theorem dX6_leaveAt_0 : decode cX6_leaveAt 0 = .ok (.iload_n 3, 1) := by decide +kernel
theorem dX6_leaveAt_1 : decode cX6_leaveAt 1 = .ok (.ifCond .le 27, 3) := by decide +kernel
theorem dX6_leaveAt_4 : decode cX6_leaveAt 4 = .ok (.iload_n 2, 1) := by decide +kernel
theorem dX6_leaveAt_5 : decode cX6_leaveAt 5 = .ok (.aload_n 0, 1) := by decide +kernel
theorem dX6_leaveAt_6 : decode cX6_leaveAt 6 = .ok (.getfield 33, 3) := by decide +kernel
theorem dX6_leaveAt_9 : decode cX6_leaveAt 9 = .ok (.if_icmp .ge 18, 3) := by decide +kernel
theorem dX6_leaveAt_12 : decode cX6_leaveAt 12 = .ok (.aload_n 0, 1) := by decide +kernel
theorem dX6_leaveAt_13 : decode cX6_leaveAt 13 = .ok (.iload_n 1, 1) := by decide +kernel
theorem dX6_leaveAt_14 : decode cX6_leaveAt 14 = .ok (.iload_n 2, 1) := by decide +kernel
theorem dX6_leaveAt_15 : decode cX6_leaveAt 15 = .ok (.aload_n 0, 1) := by decide +kernel
theorem dX6_leaveAt_16 : decode cX6_leaveAt 16 = .ok (.getfield 9, 3) := by decide +kernel
theorem dX6_leaveAt_19 : decode cX6_leaveAt 19 = .ok (.iload_n 1, 1) := by decide +kernel
theorem dX6_leaveAt_20 : decode cX6_leaveAt 20 = .ok (.invokevirtual 85, 3) := by decide +kernel
theorem dX6_leaveAt_23 : decode cX6_leaveAt 23 = .ok (.iload_n 3, 1) := by decide +kernel
theorem dX6_leaveAt_24 : decode cX6_leaveAt 24 = .ok (.invokevirtual 36, 3) := by decide +kernel
theorem dX6_leaveAt_27 : decode cX6_leaveAt 27 = .ok (.return_, 1) := by decide +kernel
theorem dX6_leaveAt_28 : decode cX6_leaveAt 28 = .ok (.iload_n 1, 1) := by decide +kernel
theorem dX6_leaveAt_29 : decode cX6_leaveAt 29 = .ok (.aload_n 0, 1) := by decide +kernel
theorem dX6_leaveAt_30 : decode cX6_leaveAt 30 = .ok (.getfield 15, 3) := by decide +kernel
theorem dX6_leaveAt_33 : decode cX6_leaveAt 33 = .ok (.if_icmp .ne 7, 3) := by decide +kernel
theorem dX6_leaveAt_36 : decode cX6_leaveAt 36 = .ok (.iconst 0, 1) := by decide +kernel
theorem dX6_leaveAt_37 : decode cX6_leaveAt 37 = .ok (.goto 15, 3) := by decide +kernel
theorem dX6_leaveAt_40 : decode cX6_leaveAt 40 = .ok (.aload_n 0, 1) := by decide +kernel
theorem dX6_leaveAt_41 : decode cX6_leaveAt 41 = .ok (.getfield 9, 3) := by decide +kernel
theorem dX6_leaveAt_44 : decode cX6_leaveAt 44 = .ok (.iload_n 1, 1) := by decide +kernel
theorem dX6_leaveAt_45 : decode cX6_leaveAt 45 = .ok (.aload_n 0, 1) := by decide +kernel
theorem dX6_leaveAt_46 : decode cX6_leaveAt 46 = .ok (.getfield 15, 3) := by decide +kernel
theorem dX6_leaveAt_49 : decode cX6_leaveAt 49 = .ok (.invokevirtual 82, 3) := by decide +kernel
theorem dX6_leaveAt_52 : decode cX6_leaveAt 52 = .ok (.istore 4, 2) := by decide +kernel
theorem dX6_leaveAt_54 : decode cX6_leaveAt 54 = .ok (.iload 4, 2) := by decide +kernel
theorem dX6_leaveAt_56 : decode cX6_leaveAt 56 = .ok (.iconst (-1), 1) := by decide +kernel
theorem dX6_leaveAt_57 : decode cX6_leaveAt 57 = .ok (.if_icmp .eq 18, 3) := by decide +kernel
theorem dX6_leaveAt_60 : decode cX6_leaveAt 60 = .ok (.aload_n 0, 1) := by decide +kernel
theorem dX6_leaveAt_61 : decode cX6_leaveAt 61 = .ok (.aload_n 0, 1) := by decide +kernel
theorem dX6_leaveAt_62 : decode cX6_leaveAt 62 = .ok (.getfield 33, 3) := by decide +kernel
theorem dX6_leaveAt_65 : decode cX6_leaveAt 65 = .ok (.iload_n 2, 1) := by decide +kernel
theorem dX6_leaveAt_66 : decode cX6_leaveAt 66 = .ok (.iload 4, 2) := by decide +kernel
theorem dX6_leaveAt_68 : decode cX6_leaveAt 68 = .ok (.iadd, 1) := by decide +kernel
theorem dX6_leaveAt_69 : decode cX6_leaveAt 69 = .ok (.invokestatic 88, 3) := by decide +kernel
theorem dX6_leaveAt_72 : decode cX6_leaveAt 72 = .ok (.putfield 33, 3) := by decide +kernel
theorem dX6_leaveAt_75 : decode cX6_leaveAt 75 = .ok (.return_, 1) := by decide +kernel
theorem dX7_init_0 : decode cX7_init 0 = .ok (.aload_n 0, 1) := by decide +kernel
theorem dX7_init_1 : decode cX7_init 1 = .ok (.invokespecial 3, 3) := by decide +kernel
theorem dX7_init_4 : decode cX7_init 4 = .ok (.aload_n 0, 1) := by decide +kernel
theorem dX7_init_5 : decode cX7_init 5 = .ok (.bipush 6, 2) := by decide +kernel
theorem dX7_init_7 : decode cX7_init 7 = .ok (.newarray .int, 2) := by decide +kernel
theorem dX7_init_9 : decode cX7_init 9 = .ok (.putfield 9, 3) := by decide +kernel
theorem dX7_init_12 : decode cX7_init 12 = .ok (.aload_n 0, 1) := by decide +kernel
theorem dX7_init_13 : decode cX7_init 13 = .ok (.bipush 6, 2) := by decide +kernel
theorem dX7_init_15 : decode cX7_init 15 = .ok (.newarray .int, 2) := by decide +kernel
theorem dX7_init_17 : decode cX7_init 17 = .ok (.putfield 15, 3) := by decide +kernel
theorem dX7_init_20 : decode cX7_init 20 = .ok (.aload_n 0, 1) := by decide +kernel
theorem dX7_init_21 : decode cX7_init 21 = .ok (.bipush 6, 2) := by decide +kernel
theorem dX7_init_23 : decode cX7_init 23 = .ok (.newarray .int, 2) := by decide +kernel
theorem dX7_init_25 : decode cX7_init 25 = .ok (.putfield 18, 3) := by decide +kernel
theorem dX7_init_28 : decode cX7_init 28 = .ok (.aload_n 0, 1) := by decide +kernel
theorem dX7_init_29 : decode cX7_init 29 = .ok (.bipush 100, 2) := by decide +kernel
theorem dX7_init_31 : decode cX7_init 31 = .ok (.newarray .boolean, 2) := by decide +kernel
theorem dX7_init_33 : decode cX7_init 33 = .ok (.putfield 21, 3) := by decide +kernel
theorem dX7_init_36 : decode cX7_init 36 = .ok (.aload_n 0, 1) := by decide +kernel
theorem dX7_init_37 : decode cX7_init 37 = .ok (.bipush 100, 2) := by decide +kernel
theorem dX7_init_39 : decode cX7_init 39 = .ok (.newarray .int, 2) := by decide +kernel
theorem dX7_init_41 : decode cX7_init 41 = .ok (.putfield 25, 3) := by decide +kernel
theorem dX7_init_44 : decode cX7_init 44 = .ok (.aload_n 0, 1) := by decide +kernel
theorem dX7_init_45 : decode cX7_init 45 = .ok (.bipush 30, 2) := by decide +kernel
theorem dX7_init_47 : decode cX7_init 47 = .ok (.newarray .int, 2) := by decide +kernel
theorem dX7_init_49 : decode cX7_init 49 = .ok (.putfield 28, 3) := by decide +kernel
theorem dX7_init_52 : decode cX7_init 52 = .ok (.aload_n 0, 1) := by decide +kernel
theorem dX7_init_53 : decode cX7_init 53 = .ok (.iload_n 1, 1) := by decide +kernel
theorem dX7_init_54 : decode cX7_init 54 = .ok (.putfield 31, 3) := by decide +kernel
theorem dX7_init_57 : decode cX7_init 57 = .ok (.aload_n 0, 1) := by decide +kernel
theorem dX7_init_58 : decode cX7_init 58 = .ok (.iload_n 2, 1) := by decide +kernel
theorem dX7_init_59 : decode cX7_init 59 = .ok (.putfield 35, 3) := by decide +kernel
theorem dX7_init_62 : decode cX7_init 62 = .ok (.aload_n 0, 1) := by decide +kernel
theorem dX7_init_63 : decode cX7_init 63 = .ok (.iload_n 3, 1) := by decide +kernel
theorem dX7_init_64 : decode cX7_init 64 = .ok (.putfield 38, 3) := by decide +kernel
theorem dX7_init_67 : decode cX7_init 67 = .ok (.aload_n 0, 1) := by decide +kernel
theorem dX7_init_68 : decode cX7_init 68 = .ok (.iload 4, 2) := by decide +kernel
theorem dX7_init_70 : decode cX7_init 70 = .ok (.putfield 41, 3) := by decide +kernel
theorem dX7_init_73 : decode cX7_init 73 = .ok (.return_, 1) := by decide +kernel
theorem dX7_setWeek_0 : decode cX7_setWeek 0 = .ok (.iconst 0, 1) := by decide +kernel
theorem dX7_setWeek_1 : decode cX7_setWeek 1 = .ok (.istore_n 2, 1) := by decide +kernel
theorem dX7_setWeek_2 : decode cX7_setWeek 2 = .ok (.iload_n 2, 1) := by decide +kernel
theorem dX7_setWeek_3 : decode cX7_setWeek 3 = .ok (.aload_n 0, 1) := by decide +kernel
theorem dX7_setWeek_4 : decode cX7_setWeek 4 = .ok (.getfield 21, 3) := by decide +kernel
theorem dX7_setWeek_7 : decode cX7_setWeek 7 = .ok (.arraylength, 1) := by decide +kernel
theorem dX7_setWeek_8 : decode cX7_setWeek 8 = .ok (.if_icmp .ge 31, 3) := by decide +kernel
theorem dX7_setWeek_11 : decode cX7_setWeek 11 = .ok (.aload_n 0, 1) := by decide +kernel
theorem dX7_setWeek_12 : decode cX7_setWeek 12 = .ok (.getfield 21, 3) := by decide +kernel
theorem dX7_setWeek_15 : decode cX7_setWeek 15 = .ok (.iload_n 2, 1) := by decide +kernel
theorem dX7_setWeek_16 : decode cX7_setWeek 16 = .ok (.iload_n 1, 1) := by decide +kernel
theorem dX7_setWeek_17 : decode cX7_setWeek 17 = .ok (.iconst 1, 1) := by decide +kernel
theorem dX7_setWeek_18 : decode cX7_setWeek 18 = .ok (.iload_n 2, 1) := by decide +kernel
theorem dX7_setWeek_19 : decode cX7_setWeek 19 = .ok (.bipush 7, 2) := by decide +kernel
theorem dX7_setWeek_21 : decode cX7_setWeek 21 = .ok (.irem, 1) := by decide +kernel
theorem dX7_setWeek_22 : decode cX7_setWeek 22 = .ok (.ishl, 1) := by decide +kernel
theorem dX7_setWeek_23 : decode cX7_setWeek 23 = .ok (.iand, 1) := by decide +kernel
theorem dX7_setWeek_24 : decode cX7_setWeek 24 = .ok (.ifCond .eq 7, 3) := by decide +kernel
theorem dX7_setWeek_27 : decode cX7_setWeek 27 = .ok (.iconst 1, 1) := by decide +kernel
theorem dX7_setWeek_28 : decode cX7_setWeek 28 = .ok (.goto 4, 3) := by decide +kernel
theorem dX7_setWeek_31 : decode cX7_setWeek 31 = .ok (.iconst 0, 1) := by decide +kernel
theorem dX7_setWeek_32 : decode cX7_setWeek 32 = .ok (.bastore, 1) := by decide +kernel
theorem dX7_setWeek_33 : decode cX7_setWeek 33 = .ok (.iinc 2 1, 3) := by decide +kernel
theorem dX7_setWeek_36 : decode cX7_setWeek 36 = .ok (.goto (-34), 3) := by decide +kernel
theorem dX7_setWeek_39 : decode cX7_setWeek 39 = .ok (.return_, 1) := by decide +kernel
theorem dX7_begin_0 : decode cX7_begin 0 = .ok (.aload_n 0, 1) := by decide +kernel
theorem dX7_begin_1 : decode cX7_begin 1 = .ok (.getfield 9, 3) := by decide +kernel
theorem dX7_begin_4 : decode cX7_begin 4 = .ok (.iconst 0, 1) := by decide +kernel
theorem dX7_begin_5 : decode cX7_begin 5 = .ok (.iload_n 1, 1) := by decide +kernel
theorem dX7_begin_6 : decode cX7_begin 6 = .ok (.invokestatic 44, 3) := by decide +kernel
theorem dX7_begin_9 : decode cX7_begin 9 = .ok (.aload_n 0, 1) := by decide +kernel
theorem dX7_begin_10 : decode cX7_begin 10 = .ok (.getfield 15, 3) := by decide +kernel
theorem dX7_begin_13 : decode cX7_begin 13 = .ok (.iconst 0, 1) := by decide +kernel
theorem dX7_begin_14 : decode cX7_begin 14 = .ok (.iload_n 2, 1) := by decide +kernel
theorem dX7_begin_15 : decode cX7_begin 15 = .ok (.invokestatic 44, 3) := by decide +kernel
theorem dX7_begin_18 : decode cX7_begin 18 = .ok (.aload_n 0, 1) := by decide +kernel
theorem dX7_begin_19 : decode cX7_begin 19 = .ok (.getfield 18, 3) := by decide +kernel
theorem dX7_begin_22 : decode cX7_begin 22 = .ok (.iconst 0, 1) := by decide +kernel
theorem dX7_begin_23 : decode cX7_begin 23 = .ok (.iload_n 2, 1) := by decide +kernel
theorem dX7_begin_24 : decode cX7_begin 24 = .ok (.invokestatic 44, 3) := by decide +kernel
theorem dX7_begin_27 : decode cX7_begin 27 = .ok (.aload_n 0, 1) := by decide +kernel
theorem dX7_begin_28 : decode cX7_begin 28 = .ok (.iconst 1, 1) := by decide +kernel
theorem dX7_begin_29 : decode cX7_begin 29 = .ok (.putfield 48, 3) := by decide +kernel
theorem dX7_begin_32 : decode cX7_begin 32 = .ok (.return_, 1) := by decide +kernel
theorem dX7_goOn_0 : decode cX7_goOn 0 = .ok (.aload_n 0, 1) := by decide +kernel
theorem dX7_goOn_1 : decode cX7_goOn 1 = .ok (.getfield 18, 3) := by decide +kernel
theorem dX7_goOn_4 : decode cX7_goOn 4 = .ok (.aload_n 0, 1) := by decide +kernel
theorem dX7_goOn_5 : decode cX7_goOn 5 = .ok (.getfield 48, 3) := by decide +kernel
theorem dX7_goOn_8 : decode cX7_goOn 8 = .ok (.iconst 1, 1) := by decide +kernel
theorem dX7_goOn_9 : decode cX7_goOn 9 = .ok (.isub, 1) := by decide +kernel
theorem dX7_goOn_10 : decode cX7_goOn 10 = .ok (.invokestatic 51, 3) := by decide +kernel
theorem dX7_goOn_13 : decode cX7_goOn 13 = .ok (.iload_n 2, 1) := by decide +kernel
theorem dX7_goOn_14 : decode cX7_goOn 14 = .ok (.iadd, 1) := by decide +kernel
theorem dX7_goOn_15 : decode cX7_goOn 15 = .ok (.istore 4, 2) := by decide +kernel
theorem dX7_goOn_17 : decode cX7_goOn 17 = .ok (.aload_n 0, 1) := by decide +kernel
theorem dX7_goOn_18 : decode cX7_goOn 18 = .ok (.getfield 9, 3) := by decide +kernel
theorem dX7_goOn_21 : decode cX7_goOn 21 = .ok (.aload_n 0, 1) := by decide +kernel
theorem dX7_goOn_22 : decode cX7_goOn 22 = .ok (.getfield 48, 3) := by decide +kernel
theorem dX7_goOn_25 : decode cX7_goOn 25 = .ok (.iload_n 1, 1) := by decide +kernel
theorem dX7_goOn_26 : decode cX7_goOn 26 = .ok (.invokestatic 44, 3) := by decide +kernel
theorem dX7_goOn_29 : decode cX7_goOn 29 = .ok (.aload_n 0, 1) := by decide +kernel
theorem dX7_goOn_30 : decode cX7_goOn 30 = .ok (.getfield 15, 3) := by decide +kernel
theorem dX7_goOn_33 : decode cX7_goOn 33 = .ok (.aload_n 0, 1) := by decide +kernel
theorem dX7_goOn_34 : decode cX7_goOn 34 = .ok (.getfield 48, 3) := by decide +kernel
theorem dX7_goOn_37 : decode cX7_goOn 37 = .ok (.iload 4, 2) := by decide +kernel
theorem dX7_goOn_39 : decode cX7_goOn 39 = .ok (.invokestatic 44, 3) := by decide +kernel
theorem dX7_goOn_42 : decode cX7_goOn 42 = .ok (.aload_n 0, 1) := by decide +kernel
theorem dX7_goOn_43 : decode cX7_goOn 43 = .ok (.getfield 18, 3) := by decide +kernel
theorem dX7_goOn_46 : decode cX7_goOn 46 = .ok (.aload_n 0, 1) := by decide +kernel
theorem dX7_goOn_47 : decode cX7_goOn 47 = .ok (.getfield 48, 3) := by decide +kernel
theorem dX7_goOn_50 : decode cX7_goOn 50 = .ok (.iload 4, 2) := by decide +kernel
theorem dX7_goOn_52 : decode cX7_goOn 52 = .ok (.iload_n 3, 1) := by decide +kernel
theorem dX7_goOn_53 : decode cX7_goOn 53 = .ok (.iadd, 1) := by decide +kernel
theorem dX7_goOn_54 : decode cX7_goOn 54 = .ok (.invokestatic 44, 3) := by decide +kernel
theorem dX7_goOn_57 : decode cX7_goOn 57 = .ok (.aload_n 0, 1) := by decide +kernel
theorem dX7_goOn_58 : decode cX7_goOn 58 = .ok (.dup, 1) := by decide +kernel
theorem dX7_goOn_59 : decode cX7_goOn 59 = .ok (.getfield 48, 3) := by decide +kernel
theorem dX7_goOn_62 : decode cX7_goOn 62 = .ok (.iconst 1, 1) := by decide +kernel
theorem dX7_goOn_63 : decode cX7_goOn 63 = .ok (.iadd, 1) := by decide +kernel
theorem dX7_goOn_64 : decode cX7_goOn 64 = .ok (.putfield 48, 3) := by decide +kernel
theorem dX7_goOn_67 : decode cX7_goOn 67 = .ok (.return_, 1) := by decide +kernel
theorem dX7_isThere_0 : decode cX7_isThere 0 = .ok (.iload_n 1, 1) := by decide +kernel
theorem dX7_isThere_1 : decode cX7_isThere 1 = .ok (.ifCond .lt 25, 3) := by decide +kernel
theorem dX7_isThere_4 : decode cX7_isThere 4 = .ok (.iload_n 1, 1) := by decide +kernel
theorem dX7_isThere_5 : decode cX7_isThere 5 = .ok (.aload_n 0, 1) := by decide +kernel
theorem dX7_isThere_6 : decode cX7_isThere 6 = .ok (.getfield 21, 3) := by decide +kernel
theorem dX7_isThere_9 : decode cX7_isThere 9 = .ok (.arraylength, 1) := by decide +kernel
theorem dX7_isThere_10 : decode cX7_isThere 10 = .ok (.if_icmp .ge 16, 3) := by decide +kernel
theorem dX7_isThere_13 : decode cX7_isThere 13 = .ok (.aload_n 0, 1) := by decide +kernel
theorem dX7_isThere_14 : decode cX7_isThere 14 = .ok (.getfield 21, 3) := by decide +kernel
theorem dX7_isThere_17 : decode cX7_isThere 17 = .ok (.iload_n 1, 1) := by decide +kernel
theorem dX7_isThere_18 : decode cX7_isThere 18 = .ok (.baload, 1) := by decide +kernel
theorem dX7_isThere_19 : decode cX7_isThere 19 = .ok (.ifCond .eq 7, 3) := by decide +kernel
theorem dX7_isThere_22 : decode cX7_isThere 22 = .ok (.iconst 1, 1) := by decide +kernel
theorem dX7_isThere_23 : decode cX7_isThere 23 = .ok (.goto 4, 3) := by decide +kernel
theorem dX7_isThere_26 : decode cX7_isThere 26 = .ok (.iconst 0, 1) := by decide +kernel
theorem dX7_isThere_27 : decode cX7_isThere 27 = .ok (.ireturn, 1) := by decide +kernel
theorem dX7_setThere_0 : decode cX7_setThere 0 = .ok (.iload_n 1, 1) := by decide +kernel
theorem dX7_setThere_1 : decode cX7_setThere 1 = .ok (.ifCond .lt 19, 3) := by decide +kernel
theorem dX7_setThere_4 : decode cX7_setThere 4 = .ok (.iload_n 1, 1) := by decide +kernel
theorem dX7_setThere_5 : decode cX7_setThere 5 = .ok (.aload_n 0, 1) := by decide +kernel
theorem dX7_setThere_6 : decode cX7_setThere 6 = .ok (.getfield 21, 3) := by decide +kernel
theorem dX7_setThere_9 : decode cX7_setThere 9 = .ok (.arraylength, 1) := by decide +kernel
theorem dX7_setThere_10 : decode cX7_setThere 10 = .ok (.if_icmp .ge 10, 3) := by decide +kernel
theorem dX7_setThere_13 : decode cX7_setThere 13 = .ok (.aload_n 0, 1) := by decide +kernel
theorem dX7_setThere_14 : decode cX7_setThere 14 = .ok (.getfield 21, 3) := by decide +kernel
theorem dX7_setThere_17 : decode cX7_setThere 17 = .ok (.iload_n 1, 1) := by decide +kernel
theorem dX7_setThere_18 : decode cX7_setThere 18 = .ok (.iload_n 2, 1) := by decide +kernel
theorem dX7_setThere_19 : decode cX7_setThere 19 = .ok (.bastore, 1) := by decide +kernel
theorem dX7_setThere_20 : decode cX7_setThere 20 = .ok (.return_, 1) := by decide +kernel
theorem dX7_goes_0 : decode cX7_goes 0 = .ok (.aload_n 0, 1) := by decide +kernel
theorem dX7_goes_1 : decode cX7_goes 1 = .ok (.iload_n 1, 1) := by decide +kernel
theorem dX7_goes_2 : decode cX7_goes 2 = .ok (.invokevirtual 55, 3) := by decide +kernel
theorem dX7_goes_5 : decode cX7_goes 5 = .ok (.ifCond .eq 19, 3) := by decide +kernel
theorem dX7_goes_8 : decode cX7_goes 8 = .ok (.aload_n 0, 1) := by decide +kernel
theorem dX7_goes_9 : decode cX7_goes 9 = .ok (.getfield 25, 3) := by decide +kernel
theorem dX7_goes_12 : decode cX7_goes 12 = .ok (.iload_n 1, 1) := by decide +kernel
theorem dX7_goes_13 : decode cX7_goes 13 = .ok (.invokestatic 51, 3) := by decide +kernel
theorem dX7_goes_16 : decode cX7_goes 16 = .ok (.iconst (-1), 1) := by decide +kernel
theorem dX7_goes_17 : decode cX7_goes 17 = .ok (.if_icmp .eq 7, 3) := by decide +kernel
theorem dX7_goes_20 : decode cX7_goes 20 = .ok (.iconst 1, 1) := by decide +kernel
theorem dX7_goes_21 : decode cX7_goes 21 = .ok (.goto 4, 3) := by decide +kernel
theorem dX7_goes_24 : decode cX7_goes 24 = .ok (.iconst 0, 1) := by decide +kernel
theorem dX7_goes_25 : decode cX7_goes 25 = .ok (.ireturn, 1) := by decide +kernel
theorem dX7_stopAt_0 : decode cX7_stopAt 0 = .ok (.aload_n 0, 1) := by decide +kernel
theorem dX7_stopAt_1 : decode cX7_stopAt 1 = .ok (.getfield 9, 3) := by decide +kernel
theorem dX7_stopAt_4 : decode cX7_stopAt 4 = .ok (.iload_n 1, 1) := by decide +kernel
theorem dX7_stopAt_5 : decode cX7_stopAt 5 = .ok (.invokestatic 51, 3) := by decide +kernel
theorem dX7_stopAt_8 : decode cX7_stopAt 8 = .ok (.ireturn, 1) := by decide +kernel
theorem dX7_reaches_0 : decode cX7_reaches 0 = .ok (.iload_n 1, 1) := by decide +kernel
theorem dX7_reaches_1 : decode cX7_reaches 1 = .ok (.sipush 1440, 3) := by decide +kernel
theorem dX7_reaches_4 : decode cX7_reaches 4 = .ok (.imul, 1) := by decide +kernel
theorem dX7_reaches_5 : decode cX7_reaches 5 = .ok (.aload_n 0, 1) := by decide +kernel
theorem dX7_reaches_6 : decode cX7_reaches 6 = .ok (.getfield 15, 3) := by decide +kernel
theorem dX7_reaches_9 : decode cX7_reaches 9 = .ok (.iload_n 2, 1) := by decide +kernel
theorem dX7_reaches_10 : decode cX7_reaches 10 = .ok (.invokestatic 51, 3) := by decide +kernel
theorem dX7_reaches_13 : decode cX7_reaches 13 = .ok (.iadd, 1) := by decide +kernel
theorem dX7_reaches_14 : decode cX7_reaches 14 = .ok (.aload_n 0, 1) := by decide +kernel
theorem dX7_reaches_15 : decode cX7_reaches 15 = .ok (.getfield 25, 3) := by decide +kernel
theorem dX7_reaches_18 : decode cX7_reaches 18 = .ok (.iload_n 1, 1) := by decide +kernel
theorem dX7_reaches_19 : decode cX7_reaches 19 = .ok (.invokestatic 51, 3) := by decide +kernel
theorem dX7_reaches_22 : decode cX7_reaches 22 = .ok (.iadd, 1) := by decide +kernel
theorem dX7_reaches_23 : decode cX7_reaches 23 = .ok (.ireturn, 1) := by decide +kernel
theorem dX7_leaves_0 : decode cX7_leaves 0 = .ok (.iload_n 1, 1) := by decide +kernel
theorem dX7_leaves_1 : decode cX7_leaves 1 = .ok (.sipush 1440, 3) := by decide +kernel
theorem dX7_leaves_4 : decode cX7_leaves 4 = .ok (.imul, 1) := by decide +kernel
theorem dX7_leaves_5 : decode cX7_leaves 5 = .ok (.aload_n 0, 1) := by decide +kernel
theorem dX7_leaves_6 : decode cX7_leaves 6 = .ok (.getfield 18, 3) := by decide +kernel
theorem dX7_leaves_9 : decode cX7_leaves 9 = .ok (.iload_n 2, 1) := by decide +kernel
theorem dX7_leaves_10 : decode cX7_leaves 10 = .ok (.invokestatic 51, 3) := by decide +kernel
theorem dX7_leaves_13 : decode cX7_leaves 13 = .ok (.iadd, 1) := by decide +kernel
theorem dX7_leaves_14 : decode cX7_leaves 14 = .ok (.aload_n 0, 1) := by decide +kernel
theorem dX7_leaves_15 : decode cX7_leaves 15 = .ok (.getfield 25, 3) := by decide +kernel
theorem dX7_leaves_18 : decode cX7_leaves 18 = .ok (.iload_n 1, 1) := by decide +kernel
theorem dX7_leaves_19 : decode cX7_leaves 19 = .ok (.invokestatic 51, 3) := by decide +kernel
theorem dX7_leaves_22 : decode cX7_leaves 22 = .ok (.iadd, 1) := by decide +kernel
theorem dX7_leaves_23 : decode cX7_leaves 23 = .ok (.ireturn, 1) := by decide +kernel
theorem dX7_chanceWithin_0 : decode cX7_chanceWithin 0 = .ok (.aload_n 0, 1) := by decide +kernel
theorem dX7_chanceWithin_1 : decode cX7_chanceWithin 1 = .ok (.getfield 59, 3) := by decide +kernel
theorem dX7_chanceWithin_4 : decode cX7_chanceWithin 4 = .ok (.ifCond .ne 5, 3) := by decide +kernel
theorem dX7_chanceWithin_7 : decode cX7_chanceWithin 7 = .ok (.dconst 1, 1) := by decide +kernel
theorem dX7_chanceWithin_8 : decode cX7_chanceWithin 8 = .ok (.dreturn, 1) := by decide +kernel
theorem dX7_chanceWithin_9 : decode cX7_chanceWithin 9 = .ok (.iconst 0, 1) := by decide +kernel
theorem dX7_chanceWithin_10 : decode cX7_chanceWithin 10 = .ok (.istore_n 2, 1) := by decide +kernel
theorem dX7_chanceWithin_11 : decode cX7_chanceWithin 11 = .ok (.iconst 0, 1) := by decide +kernel
theorem dX7_chanceWithin_12 : decode cX7_chanceWithin 12 = .ok (.istore_n 3, 1) := by decide +kernel
theorem dX7_chanceWithin_13 : decode cX7_chanceWithin 13 = .ok (.iload_n 3, 1) := by decide +kernel
theorem dX7_chanceWithin_14 : decode cX7_chanceWithin 14 = .ok (.aload_n 0, 1) := by decide +kernel
theorem dX7_chanceWithin_15 : decode cX7_chanceWithin 15 = .ok (.getfield 59, 3) := by decide +kernel
theorem dX7_chanceWithin_18 : decode cX7_chanceWithin 18 = .ok (.if_icmp .ge 24, 3) := by decide +kernel
theorem dX7_chanceWithin_21 : decode cX7_chanceWithin 21 = .ok (.aload_n 0, 1) := by decide +kernel
theorem dX7_chanceWithin_22 : decode cX7_chanceWithin 22 = .ok (.getfield 28, 3) := by decide +kernel
theorem dX7_chanceWithin_25 : decode cX7_chanceWithin 25 = .ok (.iload_n 3, 1) := by decide +kernel
theorem dX7_chanceWithin_26 : decode cX7_chanceWithin 26 = .ok (.invokestatic 51, 3) := by decide +kernel
theorem dX7_chanceWithin_29 : decode cX7_chanceWithin 29 = .ok (.iload_n 1, 1) := by decide +kernel
theorem dX7_chanceWithin_30 : decode cX7_chanceWithin 30 = .ok (.if_icmp .gt 6, 3) := by decide +kernel
theorem dX7_chanceWithin_33 : decode cX7_chanceWithin 33 = .ok (.iinc 2 1, 3) := by decide +kernel
theorem dX7_chanceWithin_36 : decode cX7_chanceWithin 36 = .ok (.iinc 3 1, 3) := by decide +kernel
theorem dX7_chanceWithin_39 : decode cX7_chanceWithin 39 = .ok (.goto (-26), 3) := by decide +kernel
theorem dX7_chanceWithin_42 : decode cX7_chanceWithin 42 = .ok (.iload_n 2, 1) := by decide +kernel
theorem dX7_chanceWithin_43 : decode cX7_chanceWithin 43 = .ok (.i2d, 1) := by decide +kernel
theorem dX7_chanceWithin_44 : decode cX7_chanceWithin 44 = .ok (.aload_n 0, 1) := by decide +kernel
theorem dX7_chanceWithin_45 : decode cX7_chanceWithin 45 = .ok (.getfield 59, 3) := by decide +kernel
theorem dX7_chanceWithin_48 : decode cX7_chanceWithin 48 = .ok (.i2d, 1) := by decide +kernel
theorem dX7_chanceWithin_49 : decode cX7_chanceWithin 49 = .ok (.ddiv, 1) := by decide +kernel
theorem dX7_chanceWithin_50 : decode cX7_chanceWithin 50 = .ok (.dreturn, 1) := by decide +kernel
theorem dX8_init_0 : decode cX8_init 0 = .ok (.aload_n 0, 1) := by decide +kernel
theorem dX8_init_1 : decode cX8_init 1 = .ok (.invokespecial 1, 3) := by decide +kernel
theorem dX8_init_4 : decode cX8_init 4 = .ok (.new 7, 3) := by decide +kernel
theorem dX8_init_7 : decode cX8_init 7 = .ok (.dup, 1) := by decide +kernel
theorem dX8_init_8 : decode cX8_init 8 = .ok (.invokespecial 9, 3) := by decide +kernel
theorem dX8_init_11 : decode cX8_init 11 = .ok (.astore_n 1, 1) := by decide +kernel
theorem dX8_init_12 : decode cX8_init 12 = .ok (.aload_n 0, 1) := by decide +kernel
theorem dX8_init_13 : decode cX8_init 13 = .ok (.aload_n 1, 1) := by decide +kernel
theorem dX8_init_14 : decode cX8_init 14 = .ok (.putfield 10, 3) := by decide +kernel
theorem dX8_init_17 : decode cX8_init 17 = .ok (.aload_n 0, 1) := by decide +kernel
theorem dX8_init_18 : decode cX8_init 18 = .ok (.new 16, 3) := by decide +kernel
theorem dX8_init_21 : decode cX8_init 21 = .ok (.dup, 1) := by decide +kernel
theorem dX8_init_22 : decode cX8_init 22 = .ok (.aload_n 1, 1) := by decide +kernel
theorem dX8_init_23 : decode cX8_init 23 = .ok (.invokespecial 18, 3) := by decide +kernel
theorem dX8_init_26 : decode cX8_init 26 = .ok (.putfield 21, 3) := by decide +kernel
theorem dX8_init_29 : decode cX8_init 29 = .ok (.aload_n 0, 1) := by decide +kernel
theorem dX8_init_30 : decode cX8_init 30 = .ok (.new 25, 3) := by decide +kernel
theorem dX8_init_33 : decode cX8_init 33 = .ok (.dup, 1) := by decide +kernel
theorem dX8_init_34 : decode cX8_init 34 = .ok (.aload_n 1, 1) := by decide +kernel
theorem dX8_init_35 : decode cX8_init 35 = .ok (.invokespecial 27, 3) := by decide +kernel
theorem dX8_init_38 : decode cX8_init 38 = .ok (.putfield 28, 3) := by decide +kernel
theorem dX8_init_41 : decode cX8_init 41 = .ok (.aload_n 0, 1) := by decide +kernel
theorem dX8_init_42 : decode cX8_init 42 = .ok (.new 32, 3) := by decide +kernel
theorem dX8_init_45 : decode cX8_init 45 = .ok (.dup, 1) := by decide +kernel
theorem dX8_init_46 : decode cX8_init 46 = .ok (.invokespecial 34, 3) := by decide +kernel
theorem dX8_init_49 : decode cX8_init 49 = .ok (.putfield 35, 3) := by decide +kernel
theorem dX8_init_52 : decode cX8_init 52 = .ok (.aload_n 0, 1) := by decide +kernel
theorem dX8_init_53 : decode cX8_init 53 = .ok (.new 39, 3) := by decide +kernel
theorem dX8_init_56 : decode cX8_init 56 = .ok (.dup, 1) := by decide +kernel
theorem dX8_init_57 : decode cX8_init 57 = .ok (.invokespecial 41, 3) := by decide +kernel
theorem dX8_init_60 : decode cX8_init 60 = .ok (.putfield 42, 3) := by decide +kernel
theorem dX8_init_63 : decode cX8_init 63 = .ok (.aload_n 0, 1) := by decide +kernel
theorem dX8_init_64 : decode cX8_init 64 = .ok (.iconst 0, 1) := by decide +kernel
theorem dX8_init_65 : decode cX8_init 65 = .ok (.putfield 46, 3) := by decide +kernel
theorem dX8_init_68 : decode cX8_init 68 = .ok (.return_, 1) := by decide +kernel
theorem dX8_stop_0 : decode cX8_stop 0 = .ok (.iload_n 1, 1) := by decide +kernel
theorem dX8_stop_1 : decode cX8_stop 1 = .ok (.iconst 0, 1) := by decide +kernel
theorem dX8_stop_2 : decode cX8_stop 2 = .ok (.bipush 60, 2) := by decide +kernel
theorem dX8_stop_4 : decode cX8_stop 4 = .ok (.invokestatic 50, 3) := by decide +kernel
theorem dX8_stop_7 : decode cX8_stop 7 = .ok (.aload_n 0, 1) := by decide +kernel
theorem dX8_stop_8 : decode cX8_stop 8 = .ok (.getfield 10, 3) := by decide +kernel
theorem dX8_stop_11 : decode cX8_stop 11 = .ok (.getfield 54, 3) := by decide +kernel
theorem dX8_stop_14 : decode cX8_stop 14 = .ok (.bipush 10, 2) := by decide +kernel
theorem dX8_stop_16 : decode cX8_stop 16 = .ok (.if_icmp .lt 13, 3) := by decide +kernel
theorem dX8_stop_19 : decode cX8_stop 19 = .ok (.new 57, 3) := by decide +kernel
theorem dX8_stop_22 : decode cX8_stop 22 = .ok (.dup, 1) := by decide +kernel
theorem dX8_stop_23 : decode cX8_stop 23 = .ok (.ldc 59, 2) := by decide +kernel
theorem dX8_stop_25 : decode cX8_stop 25 = .ok (.invokespecial 61, 3) := by decide +kernel
theorem dX8_stop_28 : decode cX8_stop 28 = .ok (.athrow, 1) := by decide +kernel
theorem dX8_stop_29 : decode cX8_stop 29 = .ok (.aload_n 0, 1) := by decide +kernel
theorem dX8_stop_30 : decode cX8_stop 30 = .ok (.getfield 10, 3) := by decide +kernel
theorem dX8_stop_33 : decode cX8_stop 33 = .ok (.iload_n 1, 1) := by decide +kernel
theorem dX8_stop_34 : decode cX8_stop 34 = .ok (.invokevirtual 64, 3) := by decide +kernel
theorem dX8_stop_37 : decode cX8_stop 37 = .ok (.ireturn, 1) := by decide +kernel
theorem dX8_footway_0 : decode cX8_footway 0 = .ok (.aload_n 0, 1) := by decide +kernel
theorem dX8_footway_1 : decode cX8_footway 1 = .ok (.iload_n 1, 1) := by decide +kernel
theorem dX8_footway_2 : decode cX8_footway 2 = .ok (.invokevirtual 68, 3) := by decide +kernel
theorem dX8_footway_5 : decode cX8_footway 5 = .ok (.aload_n 0, 1) := by decide +kernel
theorem dX8_footway_6 : decode cX8_footway 6 = .ok (.iload_n 2, 1) := by decide +kernel
theorem dX8_footway_7 : decode cX8_footway 7 = .ok (.invokevirtual 68, 3) := by decide +kernel
theorem dX8_footway_10 : decode cX8_footway 10 = .ok (.iload_n 1, 1) := by decide +kernel
theorem dX8_footway_11 : decode cX8_footway 11 = .ok (.iload_n 2, 1) := by decide +kernel
theorem dX8_footway_12 : decode cX8_footway 12 = .ok (.if_icmp .eq 7, 3) := by decide +kernel
theorem dX8_footway_15 : decode cX8_footway 15 = .ok (.iload_n 3, 1) := by decide +kernel
theorem dX8_footway_16 : decode cX8_footway 16 = .ok (.ifCond .ne 13, 3) := by decide +kernel
theorem dX8_footway_19 : decode cX8_footway 19 = .ok (.new 72, 3) := by decide +kernel
theorem dX8_footway_22 : decode cX8_footway 22 = .ok (.dup, 1) := by decide +kernel
theorem dX8_footway_23 : decode cX8_footway 23 = .ok (.ldc 74, 2) := by decide +kernel
theorem dX8_footway_25 : decode cX8_footway 25 = .ok (.invokespecial 76, 3) := by decide +kernel
theorem dX8_footway_28 : decode cX8_footway 28 = .ok (.athrow, 1) := by decide +kernel
theorem dX8_footway_29 : decode cX8_footway 29 = .ok (.iload_n 3, 1) := by decide +kernel
theorem dX8_footway_30 : decode cX8_footway 30 = .ok (.iconst (-1), 1) := by decide +kernel
theorem dX8_footway_31 : decode cX8_footway 31 = .ok (.bipush 120, 2) := by decide +kernel
theorem dX8_footway_33 : decode cX8_footway 33 = .ok (.invokestatic 50, 3) := by decide +kernel
theorem dX8_footway_36 : decode cX8_footway 36 = .ok (.aload_n 0, 1) := by decide +kernel
theorem dX8_footway_37 : decode cX8_footway 37 = .ok (.getfield 10, 3) := by decide +kernel
theorem dX8_footway_40 : decode cX8_footway 40 = .ok (.iload_n 1, 1) := by decide +kernel
theorem dX8_footway_41 : decode cX8_footway 41 = .ok (.iload_n 2, 1) := by decide +kernel
theorem dX8_footway_42 : decode cX8_footway 42 = .ok (.invokevirtual 77, 3) := by decide +kernel
theorem dX8_footway_45 : decode cX8_footway 45 = .ok (.istore 4, 2) := by decide +kernel
theorem dX8_footway_47 : decode cX8_footway 47 = .ok (.aload_n 0, 1) := by decide +kernel
theorem dX8_footway_48 : decode cX8_footway 48 = .ok (.getfield 10, 3) := by decide +kernel
theorem dX8_footway_51 : decode cX8_footway 51 = .ok (.iload_n 1, 1) := by decide +kernel
theorem dX8_footway_52 : decode cX8_footway 52 = .ok (.iload_n 2, 1) := by decide +kernel
theorem dX8_footway_53 : decode cX8_footway 53 = .ok (.iload_n 3, 1) := by decide +kernel
theorem dX8_footway_54 : decode cX8_footway 54 = .ok (.invokevirtual 81, 3) := by decide +kernel
theorem dX8_footway_57 : decode cX8_footway 57 = .ok (.iload 4, 2) := by decide +kernel
theorem dX8_footway_59 : decode cX8_footway 59 = .ok (.ireturn, 1) := by decide +kernel
theorem dX8_trip_0 : decode cX8_trip 0 = .ok (.iload_n 2, 1) := by decide +kernel
theorem dX8_trip_1 : decode cX8_trip 1 = .ok (.invokestatic 84, 3) := by decide +kernel
theorem dX8_trip_4 : decode cX8_trip 4 = .ok (.aload_n 0, 1) := by decide +kernel
theorem dX8_trip_5 : decode cX8_trip 5 = .ok (.iload 5, 2) := by decide +kernel
theorem dX8_trip_7 : decode cX8_trip 7 = .ok (.invokevirtual 68, 3) := by decide +kernel
theorem dX8_trip_10 : decode cX8_trip 10 = .ok (.iload_n 1, 1) := by decide +kernel
theorem dX8_trip_11 : decode cX8_trip 11 = .ok (.iconst 0, 1) := by decide +kernel
theorem dX8_trip_12 : decode cX8_trip 12 = .ok (.iconst 2, 1) := by decide +kernel
theorem dX8_trip_13 : decode cX8_trip 13 = .ok (.invokestatic 50, 3) := by decide +kernel
theorem dX8_trip_16 : decode cX8_trip 16 = .ok (.iload_n 3, 1) := by decide +kernel
theorem dX8_trip_17 : decode cX8_trip 17 = .ok (.iconst 1, 1) := by decide +kernel
theorem dX8_trip_18 : decode cX8_trip 18 = .ok (.bipush 100, 2) := by decide +kernel
theorem dX8_trip_20 : decode cX8_trip 20 = .ok (.invokestatic 50, 3) := by decide +kernel
theorem dX8_trip_23 : decode cX8_trip 23 = .ok (.iload 4, 2) := by decide +kernel
theorem dX8_trip_25 : decode cX8_trip 25 = .ok (.iconst 1, 1) := by decide +kernel
theorem dX8_trip_26 : decode cX8_trip 26 = .ok (.bipush 127, 2) := by decide +kernel
theorem dX8_trip_28 : decode cX8_trip 28 = .ok (.invokestatic 50, 3) := by decide +kernel
theorem dX8_trip_31 : decode cX8_trip 31 = .ok (.iload 6, 2) := by decide +kernel
theorem dX8_trip_33 : decode cX8_trip 33 = .ok (.iconst 0, 1) := by decide +kernel
theorem dX8_trip_34 : decode cX8_trip 34 = .ok (.sipush 1439, 3) := by decide +kernel
theorem dX8_trip_37 : decode cX8_trip 37 = .ok (.invokestatic 50, 3) := by decide +kernel
theorem dX8_trip_40 : decode cX8_trip 40 = .ok (.aload_n 0, 1) := by decide +kernel
theorem dX8_trip_41 : decode cX8_trip 41 = .ok (.getfield 10, 3) := by decide +kernel
theorem dX8_trip_44 : decode cX8_trip 44 = .ok (.getfield 87, 3) := by decide +kernel
theorem dX8_trip_47 : decode cX8_trip 47 = .ok (.invokevirtual 90, 3) := by decide +kernel
theorem dX8_trip_50 : decode cX8_trip 50 = .ok (.istore 7, 2) := by decide +kernel
theorem dX8_trip_52 : decode cX8_trip 52 = .ok (.iload 7, 2) := by decide +kernel
theorem dX8_trip_54 : decode cX8_trip 54 = .ok (.bipush 20, 2) := by decide +kernel
theorem dX8_trip_56 : decode cX8_trip 56 = .ok (.if_icmp .lt 13, 3) := by decide +kernel
theorem dX8_trip_59 : decode cX8_trip 59 = .ok (.new 57, 3) := by decide +kernel
theorem dX8_trip_62 : decode cX8_trip 62 = .ok (.dup, 1) := by decide +kernel
theorem dX8_trip_63 : decode cX8_trip 63 = .ok (.ldc 94, 2) := by decide +kernel
theorem dX8_trip_65 : decode cX8_trip 65 = .ok (.invokespecial 61, 3) := by decide +kernel
theorem dX8_trip_68 : decode cX8_trip 68 = .ok (.athrow, 1) := by decide +kernel
theorem dX8_trip_69 : decode cX8_trip 69 = .ok (.new 96, 3) := by decide +kernel
theorem dX8_trip_72 : decode cX8_trip 72 = .ok (.dup, 1) := by decide +kernel
theorem dX8_trip_73 : decode cX8_trip 73 = .ok (.iload 7, 2) := by decide +kernel
theorem dX8_trip_75 : decode cX8_trip 75 = .ok (.iload_n 1, 1) := by decide +kernel
theorem dX8_trip_76 : decode cX8_trip 76 = .ok (.iload_n 2, 1) := by decide +kernel
theorem dX8_trip_77 : decode cX8_trip 77 = .ok (.iload_n 3, 1) := by decide +kernel
theorem dX8_trip_78 : decode cX8_trip 78 = .ok (.invokespecial 98, 3) := by decide +kernel
theorem dX8_trip_81 : decode cX8_trip 81 = .ok (.astore 8, 2) := by decide +kernel
theorem dX8_trip_83 : decode cX8_trip 83 = .ok (.aload 8, 2) := by decide +kernel
theorem dX8_trip_85 : decode cX8_trip 85 = .ok (.iload 4, 2) := by decide +kernel
theorem dX8_trip_87 : decode cX8_trip 87 = .ok (.invokevirtual 101, 3) := by decide +kernel
theorem dX8_trip_90 : decode cX8_trip 90 = .ok (.aload 8, 2) := by decide +kernel
theorem dX8_trip_92 : decode cX8_trip 92 = .ok (.iload 5, 2) := by decide +kernel
theorem dX8_trip_94 : decode cX8_trip 94 = .ok (.iload 6, 2) := by decide +kernel
theorem dX8_trip_96 : decode cX8_trip 96 = .ok (.invokevirtual 104, 3) := by decide +kernel
theorem dX8_trip_99 : decode cX8_trip 99 = .ok (.aload_n 0, 1) := by decide +kernel
theorem dX8_trip_100 : decode cX8_trip 100 = .ok (.getfield 10, 3) := by decide +kernel
theorem dX8_trip_103 : decode cX8_trip 103 = .ok (.getfield 87, 3) := by decide +kernel
theorem dX8_trip_106 : decode cX8_trip 106 = .ok (.aload 8, 2) := by decide +kernel
theorem dX8_trip_108 : decode cX8_trip 108 = .ok (.invokevirtual 108, 3) := by decide +kernel
theorem dX8_trip_111 : decode cX8_trip 111 = .ok (.pop, 1) := by decide +kernel
theorem dX8_trip_112 : decode cX8_trip 112 = .ok (.iload 7, 2) := by decide +kernel
theorem dX8_trip_114 : decode cX8_trip 114 = .ok (.ireturn, 1) := by decide +kernel
theorem dX8_calls_0 : decode cX8_calls 0 = .ok (.aload_n 0, 1) := by decide +kernel
theorem dX8_calls_1 : decode cX8_calls 1 = .ok (.iload_n 1, 1) := by decide +kernel
theorem dX8_calls_2 : decode cX8_calls 2 = .ok (.invokevirtual 112, 3) := by decide +kernel
theorem dX8_calls_5 : decode cX8_calls 5 = .ok (.astore 5, 2) := by decide +kernel
theorem dX8_calls_7 : decode cX8_calls 7 = .ok (.aload_n 0, 1) := by decide +kernel
theorem dX8_calls_8 : decode cX8_calls 8 = .ok (.iload_n 2, 1) := by decide +kernel
theorem dX8_calls_9 : decode cX8_calls 9 = .ok (.invokevirtual 68, 3) := by decide +kernel
theorem dX8_calls_12 : decode cX8_calls 12 = .ok (.iload_n 3, 1) := by decide +kernel
theorem dX8_calls_13 : decode cX8_calls 13 = .ok (.iconst 1, 1) := by decide +kernel
theorem dX8_calls_14 : decode cX8_calls 14 = .ok (.sipush 300, 3) := by decide +kernel
theorem dX8_calls_17 : decode cX8_calls 17 = .ok (.invokestatic 50, 3) := by decide +kernel
theorem dX8_calls_20 : decode cX8_calls 20 = .ok (.iload 4, 2) := by decide +kernel
theorem dX8_calls_22 : decode cX8_calls 22 = .ok (.iconst 0, 1) := by decide +kernel
theorem dX8_calls_23 : decode cX8_calls 23 = .ok (.bipush 60, 2) := by decide +kernel
theorem dX8_calls_25 : decode cX8_calls 25 = .ok (.invokestatic 50, 3) := by decide +kernel
theorem dX8_calls_28 : decode cX8_calls 28 = .ok (.aload 5, 2) := by decide +kernel
theorem dX8_calls_30 : decode cX8_calls 30 = .ok (.getfield 116, 3) := by decide +kernel
theorem dX8_calls_33 : decode cX8_calls 33 = .ok (.bipush 6, 2) := by decide +kernel
theorem dX8_calls_35 : decode cX8_calls 35 = .ok (.if_icmp .ge 12, 3) := by decide +kernel
theorem dX8_calls_38 : decode cX8_calls 38 = .ok (.aload_n 0, 1) := by decide +kernel
theorem dX8_calls_39 : decode cX8_calls 39 = .ok (.aload 5, 2) := by decide +kernel
theorem dX8_calls_41 : decode cX8_calls 41 = .ok (.invokevirtual 118, 3) := by decide +kernel
theorem dX8_calls_44 : decode cX8_calls 44 = .ok (.ifCond .eq 13, 3) := by decide +kernel
theorem dX8_calls_47 : decode cX8_calls 47 = .ok (.new 57, 3) := by decide +kernel
theorem dX8_calls_50 : decode cX8_calls 50 = .ok (.dup, 1) := by decide +kernel
theorem dX8_calls_51 : decode cX8_calls 51 = .ok (.ldc 122, 2) := by decide +kernel
theorem dX8_calls_53 : decode cX8_calls 53 = .ok (.invokespecial 61, 3) := by decide +kernel
theorem dX8_calls_56 : decode cX8_calls 56 = .ok (.athrow, 1) := by decide +kernel
theorem dX8_calls_57 : decode cX8_calls 57 = .ok (.aload 5, 2) := by decide +kernel
theorem dX8_calls_59 : decode cX8_calls 59 = .ok (.iload_n 2, 1) := by decide +kernel
theorem dX8_calls_60 : decode cX8_calls 60 = .ok (.iload_n 3, 1) := by decide +kernel
theorem dX8_calls_61 : decode cX8_calls 61 = .ok (.iload 4, 2) := by decide +kernel
theorem dX8_calls_63 : decode cX8_calls 63 = .ok (.invokevirtual 124, 3) := by decide +kernel
theorem dX8_calls_66 : decode cX8_calls 66 = .ok (.aload 5, 2) := by decide +kernel
theorem dX8_calls_68 : decode cX8_calls 68 = .ok (.getfield 116, 3) := by decide +kernel
theorem dX8_calls_71 : decode cX8_calls 71 = .ok (.ireturn, 1) := by decide +kernel
theorem dX8_runs_0 : decode cX8_runs 0 = .ok (.aload_n 0, 1) := by decide +kernel
theorem dX8_runs_1 : decode cX8_runs 1 = .ok (.iload_n 1, 1) := by decide +kernel
theorem dX8_runs_2 : decode cX8_runs 2 = .ok (.invokevirtual 112, 3) := by decide +kernel
theorem dX8_runs_5 : decode cX8_runs 5 = .ok (.astore 4, 2) := by decide +kernel
theorem dX8_runs_7 : decode cX8_runs 7 = .ok (.iload_n 2, 1) := by decide +kernel
theorem dX8_runs_8 : decode cX8_runs 8 = .ok (.iconst 0, 1) := by decide +kernel
theorem dX8_runs_9 : decode cX8_runs 9 = .ok (.bipush 99, 2) := by decide +kernel
theorem dX8_runs_11 : decode cX8_runs 11 = .ok (.invokestatic 50, 3) := by decide +kernel
theorem dX8_runs_14 : decode cX8_runs 14 = .ok (.aload 4, 2) := by decide +kernel
theorem dX8_runs_16 : decode cX8_runs 16 = .ok (.iload_n 2, 1) := by decide +kernel
theorem dX8_runs_17 : decode cX8_runs 17 = .ok (.invokevirtual 127, 3) := by decide +kernel
theorem dX8_runs_20 : decode cX8_runs 20 = .ok (.istore 5, 2) := by decide +kernel
theorem dX8_runs_22 : decode cX8_runs 22 = .ok (.aload 4, 2) := by decide +kernel
theorem dX8_runs_24 : decode cX8_runs 24 = .ok (.iload_n 2, 1) := by decide +kernel
theorem dX8_runs_25 : decode cX8_runs 25 = .ok (.iload_n 3, 1) := by decide +kernel
theorem dX8_runs_26 : decode cX8_runs 26 = .ok (.invokevirtual 131, 3) := by decide +kernel
theorem dX8_runs_29 : decode cX8_runs 29 = .ok (.iload 5, 2) := by decide +kernel
theorem dX8_runs_31 : decode cX8_runs 31 = .ok (.ireturn, 1) := by decide +kernel
theorem dX8_delay_0 : decode cX8_delay 0 = .ok (.aload_n 0, 1) := by decide +kernel
theorem dX8_delay_1 : decode cX8_delay 1 = .ok (.iload_n 1, 1) := by decide +kernel
theorem dX8_delay_2 : decode cX8_delay 2 = .ok (.invokevirtual 112, 3) := by decide +kernel
theorem dX8_delay_5 : decode cX8_delay 5 = .ok (.astore 4, 2) := by decide +kernel
theorem dX8_delay_7 : decode cX8_delay 7 = .ok (.iload_n 2, 1) := by decide +kernel
theorem dX8_delay_8 : decode cX8_delay 8 = .ok (.iconst 0, 1) := by decide +kernel
theorem dX8_delay_9 : decode cX8_delay 9 = .ok (.bipush 99, 2) := by decide +kernel
theorem dX8_delay_11 : decode cX8_delay 11 = .ok (.invokestatic 50, 3) := by decide +kernel
theorem dX8_delay_14 : decode cX8_delay 14 = .ok (.iload_n 3, 1) := by decide +kernel
theorem dX8_delay_15 : decode cX8_delay 15 = .ok (.iconst (-1), 1) := by decide +kernel
theorem dX8_delay_16 : decode cX8_delay 16 = .ok (.sipush 600, 3) := by decide +kernel
theorem dX8_delay_19 : decode cX8_delay 19 = .ok (.invokestatic 50, 3) := by decide +kernel
theorem dX8_delay_22 : decode cX8_delay 22 = .ok (.aload 4, 2) := by decide +kernel
theorem dX8_delay_24 : decode cX8_delay 24 = .ok (.getfield 135, 3) := by decide +kernel
theorem dX8_delay_27 : decode cX8_delay 27 = .ok (.iload_n 2, 1) := by decide +kernel
theorem dX8_delay_28 : decode cX8_delay 28 = .ok (.invokestatic 139, 3) := by decide +kernel
theorem dX8_delay_31 : decode cX8_delay 31 = .ok (.istore 5, 2) := by decide +kernel
theorem dX8_delay_33 : decode cX8_delay 33 = .ok (.aload 4, 2) := by decide +kernel
theorem dX8_delay_35 : decode cX8_delay 35 = .ok (.getfield 135, 3) := by decide +kernel
theorem dX8_delay_38 : decode cX8_delay 38 = .ok (.iload_n 2, 1) := by decide +kernel
theorem dX8_delay_39 : decode cX8_delay 39 = .ok (.iload_n 3, 1) := by decide +kernel
theorem dX8_delay_40 : decode cX8_delay 40 = .ok (.invokestatic 143, 3) := by decide +kernel
theorem dX8_delay_43 : decode cX8_delay 43 = .ok (.iload 5, 2) := by decide +kernel
theorem dX8_delay_45 : decode cX8_delay 45 = .ok (.ireturn, 1) := by decide +kernel
theorem dX8_note_0 : decode cX8_note 0 = .ok (.aload_n 0, 1) := by decide +kernel
theorem dX8_note_1 : decode cX8_note 1 = .ok (.iload_n 1, 1) := by decide +kernel
theorem dX8_note_2 : decode cX8_note 2 = .ok (.invokevirtual 112, 3) := by decide +kernel
theorem dX8_note_5 : decode cX8_note 5 = .ok (.astore_n 3, 1) := by decide +kernel
theorem dX8_note_6 : decode cX8_note 6 = .ok (.iload_n 2, 1) := by decide +kernel
theorem dX8_note_7 : decode cX8_note 7 = .ok (.iconst 0, 1) := by decide +kernel
theorem dX8_note_8 : decode cX8_note 8 = .ok (.sipush 600, 3) := by decide +kernel
theorem dX8_note_11 : decode cX8_note 11 = .ok (.invokestatic 50, 3) := by decide +kernel
theorem dX8_note_14 : decode cX8_note 14 = .ok (.aload_n 3, 1) := by decide +kernel
theorem dX8_note_15 : decode cX8_note 15 = .ok (.getfield 147, 3) := by decide +kernel
theorem dX8_note_18 : decode cX8_note 18 = .ok (.bipush 30, 2) := by decide +kernel
theorem dX8_note_20 : decode cX8_note 20 = .ok (.if_icmp .lt 13, 3) := by decide +kernel
theorem dX8_note_23 : decode cX8_note 23 = .ok (.new 57, 3) := by decide +kernel
theorem dX8_note_26 : decode cX8_note 26 = .ok (.dup, 1) := by decide +kernel
theorem dX8_note_27 : decode cX8_note 27 = .ok (.ldc 150, 2) := by decide +kernel
theorem dX8_note_29 : decode cX8_note 29 = .ok (.invokespecial 61, 3) := by decide +kernel
theorem dX8_note_32 : decode cX8_note 32 = .ok (.athrow, 1) := by decide +kernel
theorem dX8_note_33 : decode cX8_note 33 = .ok (.aload_n 3, 1) := by decide +kernel
theorem dX8_note_34 : decode cX8_note 34 = .ok (.getfield 152, 3) := by decide +kernel
theorem dX8_note_37 : decode cX8_note 37 = .ok (.aload_n 3, 1) := by decide +kernel
theorem dX8_note_38 : decode cX8_note 38 = .ok (.getfield 147, 3) := by decide +kernel
theorem dX8_note_41 : decode cX8_note 41 = .ok (.iload_n 2, 1) := by decide +kernel
theorem dX8_note_42 : decode cX8_note 42 = .ok (.invokestatic 143, 3) := by decide +kernel
theorem dX8_note_45 : decode cX8_note 45 = .ok (.aload_n 3, 1) := by decide +kernel
theorem dX8_note_46 : decode cX8_note 46 = .ok (.dup, 1) := by decide +kernel
theorem dX8_note_47 : decode cX8_note 47 = .ok (.getfield 147, 3) := by decide +kernel
theorem dX8_note_50 : decode cX8_note 50 = .ok (.iconst 1, 1) := by decide +kernel
theorem dX8_note_51 : decode cX8_note 51 = .ok (.iadd, 1) := by decide +kernel
theorem dX8_note_52 : decode cX8_note 52 = .ok (.putfield 147, 3) := by decide +kernel
theorem dX8_note_55 : decode cX8_note 55 = .ok (.aload_n 3, 1) := by decide +kernel
theorem dX8_note_56 : decode cX8_note 56 = .ok (.getfield 147, 3) := by decide +kernel
theorem dX8_note_59 : decode cX8_note 59 = .ok (.ireturn, 1) := by decide +kernel
theorem dX8_prices_0 : decode cX8_prices 0 = .ok (.iload_n 1, 1) := by decide +kernel
theorem dX8_prices_1 : decode cX8_prices 1 = .ok (.invokestatic 84, 3) := by decide +kernel
theorem dX8_prices_4 : decode cX8_prices 4 = .ok (.iload_n 2, 1) := by decide +kernel
theorem dX8_prices_5 : decode cX8_prices 5 = .ok (.iconst 0, 1) := by decide +kernel
theorem dX8_prices_6 : decode cX8_prices 6 = .ok (.sipush 10000, 3) := by decide +kernel
theorem dX8_prices_9 : decode cX8_prices 9 = .ok (.invokestatic 50, 3) := by decide +kernel
theorem dX8_prices_12 : decode cX8_prices 12 = .ok (.iload_n 3, 1) := by decide +kernel
theorem dX8_prices_13 : decode cX8_prices 13 = .ok (.iconst 0, 1) := by decide +kernel
theorem dX8_prices_14 : decode cX8_prices 14 = .ok (.sipush 1000, 3) := by decide +kernel
theorem dX8_prices_17 : decode cX8_prices 17 = .ok (.invokestatic 50, 3) := by decide +kernel
theorem dX8_prices_20 : decode cX8_prices 20 = .ok (.iload 4, 2) := by decide +kernel
theorem dX8_prices_22 : decode cX8_prices 22 = .ok (.iconst 0, 1) := by decide +kernel
theorem dX8_prices_23 : decode cX8_prices 23 = .ok (.sipush 10000, 3) := by decide +kernel
theorem dX8_prices_26 : decode cX8_prices 26 = .ok (.invokestatic 50, 3) := by decide +kernel
theorem dX8_prices_29 : decode cX8_prices 29 = .ok (.aload_n 0, 1) := by decide +kernel
theorem dX8_prices_30 : decode cX8_prices 30 = .ok (.getfield 35, 3) := by decide +kernel
theorem dX8_prices_33 : decode cX8_prices 33 = .ok (.iload_n 1, 1) := by decide +kernel
theorem dX8_prices_34 : decode cX8_prices 34 = .ok (.iload_n 2, 1) := by decide +kernel
theorem dX8_prices_35 : decode cX8_prices 35 = .ok (.iload_n 3, 1) := by decide +kernel
theorem dX8_prices_36 : decode cX8_prices 36 = .ok (.iload 4, 2) := by decide +kernel
theorem dX8_prices_38 : decode cX8_prices 38 = .ok (.invokevirtual 155, 3) := by decide +kernel
theorem dX8_prices_41 : decode cX8_prices 41 = .ok (.return_, 1) := by decide +kernel
theorem dX8_arrival_0 : decode cX8_arrival 0 = .ok (.aload_n 0, 1) := by decide +kernel
theorem dX8_arrival_1 : decode cX8_arrival 1 = .ok (.iload_n 1, 1) := by decide +kernel
theorem dX8_arrival_2 : decode cX8_arrival 2 = .ok (.iload_n 2, 1) := by decide +kernel
theorem dX8_arrival_3 : decode cX8_arrival 3 = .ok (.iload_n 3, 1) := by decide +kernel
theorem dX8_arrival_4 : decode cX8_arrival 4 = .ok (.invokevirtual 158, 3) := by decide +kernel
theorem dX8_arrival_7 : decode cX8_arrival 7 = .ok (.iload 4, 2) := by decide +kernel
theorem dX8_arrival_9 : decode cX8_arrival 9 = .ok (.iconst 1, 1) := by decide +kernel
theorem dX8_arrival_10 : decode cX8_arrival 10 = .ok (.iconst 4, 1) := by decide +kernel
theorem dX8_arrival_11 : decode cX8_arrival 11 = .ok (.invokestatic 50, 3) := by decide +kernel
theorem dX8_arrival_14 : decode cX8_arrival 14 = .ok (.aload_n 0, 1) := by decide +kernel
theorem dX8_arrival_15 : decode cX8_arrival 15 = .ok (.getfield 21, 3) := by decide +kernel
theorem dX8_arrival_18 : decode cX8_arrival 18 = .ok (.iload_n 1, 1) := by decide +kernel
theorem dX8_arrival_19 : decode cX8_arrival 19 = .ok (.iload_n 2, 1) := by decide +kernel
theorem dX8_arrival_20 : decode cX8_arrival 20 = .ok (.iload_n 3, 1) := by decide +kernel
theorem dX8_arrival_21 : decode cX8_arrival 21 = .ok (.iload 4, 2) := by decide +kernel
theorem dX8_arrival_23 : decode cX8_arrival 23 = .ok (.invokevirtual 161, 3) := by decide +kernel
theorem dX8_arrival_26 : decode cX8_arrival 26 = .ok (.aload_n 0, 1) := by decide +kernel
theorem dX8_arrival_27 : decode cX8_arrival 27 = .ok (.getfield 21, 3) := by decide +kernel
theorem dX8_arrival_30 : decode cX8_arrival 30 = .ok (.iload 4, 2) := by decide +kernel
theorem dX8_arrival_32 : decode cX8_arrival 32 = .ok (.invokevirtual 164, 3) := by decide +kernel
theorem dX8_arrival_35 : decode cX8_arrival 35 = .ok (.invokestatic 167, 3) := by decide +kernel
theorem dX8_arrival_38 : decode cX8_arrival 38 = .ok (.ireturn, 1) := by decide +kernel
theorem dX8_arrivalAnew_0 : decode cX8_arrivalAnew 0 = .ok (.aload_n 0, 1) := by decide +kernel
theorem dX8_arrivalAnew_1 : decode cX8_arrivalAnew 1 = .ok (.iload_n 1, 1) := by decide +kernel
theorem dX8_arrivalAnew_2 : decode cX8_arrivalAnew 2 = .ok (.iload_n 2, 1) := by decide +kernel
theorem dX8_arrivalAnew_3 : decode cX8_arrivalAnew 3 = .ok (.iload_n 3, 1) := by decide +kernel
theorem dX8_arrivalAnew_4 : decode cX8_arrivalAnew 4 = .ok (.invokevirtual 158, 3) := by decide +kernel
theorem dX8_arrivalAnew_7 : decode cX8_arrivalAnew 7 = .ok (.iload 4, 2) := by decide +kernel
theorem dX8_arrivalAnew_9 : decode cX8_arrivalAnew 9 = .ok (.iconst 1, 1) := by decide +kernel
theorem dX8_arrivalAnew_10 : decode cX8_arrivalAnew 10 = .ok (.iconst 2, 1) := by decide +kernel
theorem dX8_arrivalAnew_11 : decode cX8_arrivalAnew 11 = .ok (.invokestatic 50, 3) := by decide +kernel
theorem dX8_arrivalAnew_14 : decode cX8_arrivalAnew 14 = .ok (.aload_n 0, 1) := by decide +kernel
theorem dX8_arrivalAnew_15 : decode cX8_arrivalAnew 15 = .ok (.getfield 28, 3) := by decide +kernel
theorem dX8_arrivalAnew_18 : decode cX8_arrivalAnew 18 = .ok (.iload_n 1, 1) := by decide +kernel
theorem dX8_arrivalAnew_19 : decode cX8_arrivalAnew 19 = .ok (.iload_n 2, 1) := by decide +kernel
theorem dX8_arrivalAnew_20 : decode cX8_arrivalAnew 20 = .ok (.iload_n 3, 1) := by decide +kernel
theorem dX8_arrivalAnew_21 : decode cX8_arrivalAnew 21 = .ok (.iload 4, 2) := by decide +kernel
theorem dX8_arrivalAnew_23 : decode cX8_arrivalAnew 23 = .ok (.invokevirtual 170, 3) := by decide +kernel
theorem dX8_arrivalAnew_26 : decode cX8_arrivalAnew 26 = .ok (.invokestatic 167, 3) := by decide +kernel
theorem dX8_arrivalAnew_29 : decode cX8_arrivalAnew 29 = .ok (.ireturn, 1) := by decide +kernel
theorem dX8_front_0 : decode cX8_front 0 = .ok (.aload_n 0, 1) := by decide +kernel
theorem dX8_front_1 : decode cX8_front 1 = .ok (.iload_n 1, 1) := by decide +kernel
theorem dX8_front_2 : decode cX8_front 2 = .ok (.iload_n 2, 1) := by decide +kernel
theorem dX8_front_3 : decode cX8_front 3 = .ok (.iload_n 3, 1) := by decide +kernel
theorem dX8_front_4 : decode cX8_front 4 = .ok (.invokevirtual 158, 3) := by decide +kernel
theorem dX8_front_7 : decode cX8_front 7 = .ok (.aload_n 0, 1) := by decide +kernel
theorem dX8_front_8 : decode cX8_front 8 = .ok (.getfield 21, 3) := by decide +kernel
theorem dX8_front_11 : decode cX8_front 11 = .ok (.iload_n 1, 1) := by decide +kernel
theorem dX8_front_12 : decode cX8_front 12 = .ok (.iload_n 2, 1) := by decide +kernel
theorem dX8_front_13 : decode cX8_front 13 = .ok (.iload_n 3, 1) := by decide +kernel
theorem dX8_front_14 : decode cX8_front 14 = .ok (.iconst 4, 1) := by decide +kernel
theorem dX8_front_15 : decode cX8_front 15 = .ok (.invokevirtual 161, 3) := by decide +kernel
theorem dX8_front_18 : decode cX8_front 18 = .ok (.ldc 174, 2) := by decide +kernel
theorem dX8_front_20 : decode cX8_front 20 = .ok (.istore 4, 2) := by decide +kernel
theorem dX8_front_22 : decode cX8_front 22 = .ok (.iconst 0, 1) := by decide +kernel
theorem dX8_front_23 : decode cX8_front 23 = .ok (.istore 5, 2) := by decide +kernel
theorem dX8_front_25 : decode cX8_front 25 = .ok (.iconst 1, 1) := by decide +kernel
theorem dX8_front_26 : decode cX8_front 26 = .ok (.istore 6, 2) := by decide +kernel
theorem dX8_front_28 : decode cX8_front 28 = .ok (.iload 6, 2) := by decide +kernel
theorem dX8_front_30 : decode cX8_front 30 = .ok (.iconst 4, 1) := by decide +kernel
theorem dX8_front_31 : decode cX8_front 31 = .ok (.if_icmp .gt 40, 3) := by decide +kernel
theorem dX8_front_34 : decode cX8_front 34 = .ok (.aload_n 0, 1) := by decide +kernel
theorem dX8_front_35 : decode cX8_front 35 = .ok (.getfield 21, 3) := by decide +kernel
theorem dX8_front_38 : decode cX8_front 38 = .ok (.iload 6, 2) := by decide +kernel
theorem dX8_front_40 : decode cX8_front 40 = .ok (.invokevirtual 164, 3) := by decide +kernel
theorem dX8_front_43 : decode cX8_front 43 = .ok (.istore 7, 2) := by decide +kernel
theorem dX8_front_45 : decode cX8_front 45 = .ok (.iload 7, 2) := by decide +kernel
theorem dX8_front_47 : decode cX8_front 47 = .ok (.iload 4, 2) := by decide +kernel
theorem dX8_front_49 : decode cX8_front 49 = .ok (.if_icmp .ge 16, 3) := by decide +kernel
theorem dX8_front_52 : decode cX8_front 52 = .ok (.iload 7, 2) := by decide +kernel
theorem dX8_front_54 : decode cX8_front 54 = .ok (.istore 4, 2) := by decide +kernel
theorem dX8_front_56 : decode cX8_front 56 = .ok (.iload 5, 2) := by decide +kernel
theorem dX8_front_58 : decode cX8_front 58 = .ok (.iconst 1, 1) := by decide +kernel
theorem dX8_front_59 : decode cX8_front 59 = .ok (.iload 6, 2) := by decide +kernel
theorem dX8_front_61 : decode cX8_front 61 = .ok (.ishl, 1) := by decide +kernel
theorem dX8_front_62 : decode cX8_front 62 = .ok (.iadd, 1) := by decide +kernel
theorem dX8_front_63 : decode cX8_front 63 = .ok (.istore 5, 2) := by decide +kernel
theorem dX8_front_65 : decode cX8_front 65 = .ok (.iinc 6 1, 3) := by decide +kernel
theorem dX8_front_68 : decode cX8_front 68 = .ok (.goto (-40), 3) := by decide +kernel
theorem dX8_front_71 : decode cX8_front 71 = .ok (.iload 5, 2) := by decide +kernel
theorem dX8_front_73 : decode cX8_front 73 = .ok (.ireturn, 1) := by decide +kernel
theorem dX8_ride_0 : decode cX8_ride 0 = .ok (.aload_n 0, 1) := by decide +kernel
theorem dX8_ride_1 : decode cX8_ride 1 = .ok (.iload_n 1, 1) := by decide +kernel
theorem dX8_ride_2 : decode cX8_ride 2 = .ok (.iload_n 2, 1) := by decide +kernel
theorem dX8_ride_3 : decode cX8_ride 3 = .ok (.iload_n 3, 1) := by decide +kernel
theorem dX8_ride_4 : decode cX8_ride 4 = .ok (.invokevirtual 158, 3) := by decide +kernel
theorem dX8_ride_7 : decode cX8_ride 7 = .ok (.iload 4, 2) := by decide +kernel
theorem dX8_ride_9 : decode cX8_ride 9 = .ok (.iconst 1, 1) := by decide +kernel
theorem dX8_ride_10 : decode cX8_ride 10 = .ok (.iconst 4, 1) := by decide +kernel
theorem dX8_ride_11 : decode cX8_ride 11 = .ok (.invokestatic 50, 3) := by decide +kernel
theorem dX8_ride_14 : decode cX8_ride 14 = .ok (.iload 6, 2) := by decide +kernel
theorem dX8_ride_16 : decode cX8_ride 16 = .ok (.iconst 0, 1) := by decide +kernel
theorem dX8_ride_17 : decode cX8_ride 17 = .ok (.iconst 5, 1) := by decide +kernel
theorem dX8_ride_18 : decode cX8_ride 18 = .ok (.invokestatic 50, 3) := by decide +kernel
theorem dX8_ride_21 : decode cX8_ride 21 = .ok (.iload 5, 2) := by decide +kernel
theorem dX8_ride_23 : decode cX8_ride 23 = .ok (.ifCond .ge 13, 3) := by decide +kernel
theorem dX8_ride_26 : decode cX8_ride 26 = .ok (.new 72, 3) := by decide +kernel
theorem dX8_ride_29 : decode cX8_ride 29 = .ok (.dup, 1) := by decide +kernel
theorem dX8_ride_30 : decode cX8_ride 30 = .ok (.ldc 175, 2) := by decide +kernel
theorem dX8_ride_32 : decode cX8_ride 32 = .ok (.invokespecial 76, 3) := by decide +kernel
theorem dX8_ride_35 : decode cX8_ride 35 = .ok (.athrow, 1) := by decide +kernel
theorem dX8_ride_36 : decode cX8_ride 36 = .ok (.aload_n 0, 1) := by decide +kernel
theorem dX8_ride_37 : decode cX8_ride 37 = .ok (.getfield 21, 3) := by decide +kernel
theorem dX8_ride_40 : decode cX8_ride 40 = .ok (.iload_n 1, 1) := by decide +kernel
theorem dX8_ride_41 : decode cX8_ride 41 = .ok (.iload_n 2, 1) := by decide +kernel
theorem dX8_ride_42 : decode cX8_ride 42 = .ok (.iload_n 3, 1) := by decide +kernel
theorem dX8_ride_43 : decode cX8_ride 43 = .ok (.iload 4, 2) := by decide +kernel
theorem dX8_ride_45 : decode cX8_ride 45 = .ok (.invokevirtual 161, 3) := by decide +kernel
theorem dX8_ride_48 : decode cX8_ride 48 = .ok (.aload_n 0, 1) := by decide +kernel
theorem dX8_ride_49 : decode cX8_ride 49 = .ok (.getfield 21, 3) := by decide +kernel
theorem dX8_ride_52 : decode cX8_ride 52 = .ok (.iload 4, 2) := by decide +kernel
theorem dX8_ride_54 : decode cX8_ride 54 = .ok (.invokevirtual 177, 3) := by decide +kernel
theorem dX8_ride_57 : decode cX8_ride 57 = .ok (.astore 7, 2) := by decide +kernel
theorem dX8_ride_59 : decode cX8_ride 59 = .ok (.aload 7, 2) := by decide +kernel
theorem dX8_ride_61 : decode cX8_ride 61 = .ok (.ifnonnull 7, 3) := by decide +kernel
theorem dX8_ride_64 : decode cX8_ride 64 = .ok (.aconst_null, 1) := by decide +kernel
theorem dX8_ride_65 : decode cX8_ride 65 = .ok (.goto 10, 3) := by decide +kernel
theorem dX8_ride_68 : decode cX8_ride 68 = .ok (.aload 7, 2) := by decide +kernel
theorem dX8_ride_70 : decode cX8_ride 70 = .ok (.iload 5, 2) := by decide +kernel
theorem dX8_ride_72 : decode cX8_ride 72 = .ok (.invokevirtual 181, 3) := by decide +kernel
theorem dX8_ride_75 : decode cX8_ride 75 = .ok (.astore 8, 2) := by decide +kernel
theorem dX8_ride_77 : decode cX8_ride 77 = .ok (.aload 8, 2) := by decide +kernel
theorem dX8_ride_79 : decode cX8_ride 79 = .ok (.ifnonnull 7, 3) := by decide +kernel
theorem dX8_ride_82 : decode cX8_ride 82 = .ok (.iconst (-1), 1) := by decide +kernel
theorem dX8_ride_83 : decode cX8_ride 83 = .ok (.goto 10, 3) := by decide +kernel
theorem dX8_ride_86 : decode cX8_ride 86 = .ok (.aload 8, 2) := by decide +kernel
theorem dX8_ride_88 : decode cX8_ride 88 = .ok (.iload 6, 2) := by decide +kernel
theorem dX8_ride_90 : decode cX8_ride 90 = .ok (.invokevirtual 187, 3) := by decide +kernel
theorem dX8_ride_93 : decode cX8_ride 93 = .ok (.ireturn, 1) := by decide +kernel
theorem dX8_journey_0 : decode cX8_journey 0 = .ok (.aload_n 0, 1) := by decide +kernel
theorem dX8_journey_1 : decode cX8_journey 1 = .ok (.iload_n 1, 1) := by decide +kernel
theorem dX8_journey_2 : decode cX8_journey 2 = .ok (.iload_n 2, 1) := by decide +kernel
theorem dX8_journey_3 : decode cX8_journey 3 = .ok (.iload_n 3, 1) := by decide +kernel
theorem dX8_journey_4 : decode cX8_journey 4 = .ok (.invokevirtual 158, 3) := by decide +kernel
theorem dX8_journey_7 : decode cX8_journey 7 = .ok (.iload 4, 2) := by decide +kernel
theorem dX8_journey_9 : decode cX8_journey 9 = .ok (.iconst 1, 1) := by decide +kernel
theorem dX8_journey_10 : decode cX8_journey 10 = .ok (.iconst 4, 1) := by decide +kernel
theorem dX8_journey_11 : decode cX8_journey 11 = .ok (.invokestatic 50, 3) := by decide +kernel
theorem dX8_journey_14 : decode cX8_journey 14 = .ok (.iload 5, 2) := by decide +kernel
theorem dX8_journey_16 : decode cX8_journey 16 = .ok (.iconst 0, 1) := by decide +kernel
theorem dX8_journey_17 : decode cX8_journey 17 = .ok (.iconst 3, 1) := by decide +kernel
theorem dX8_journey_18 : decode cX8_journey 18 = .ok (.invokestatic 50, 3) := by decide +kernel
theorem dX8_journey_21 : decode cX8_journey 21 = .ok (.aload_n 0, 1) := by decide +kernel
theorem dX8_journey_22 : decode cX8_journey 22 = .ok (.getfield 21, 3) := by decide +kernel
theorem dX8_journey_25 : decode cX8_journey 25 = .ok (.iload_n 1, 1) := by decide +kernel
theorem dX8_journey_26 : decode cX8_journey 26 = .ok (.iload_n 2, 1) := by decide +kernel
theorem dX8_journey_27 : decode cX8_journey 27 = .ok (.iload_n 3, 1) := by decide +kernel
theorem dX8_journey_28 : decode cX8_journey 28 = .ok (.iload 4, 2) := by decide +kernel
theorem dX8_journey_30 : decode cX8_journey 30 = .ok (.invokevirtual 161, 3) := by decide +kernel
theorem dX8_journey_33 : decode cX8_journey 33 = .ok (.aload_n 0, 1) := by decide +kernel
theorem dX8_journey_34 : decode cX8_journey 34 = .ok (.getfield 21, 3) := by decide +kernel
theorem dX8_journey_37 : decode cX8_journey 37 = .ok (.iload 4, 2) := by decide +kernel
theorem dX8_journey_39 : decode cX8_journey 39 = .ok (.invokevirtual 177, 3) := by decide +kernel
theorem dX8_journey_42 : decode cX8_journey 42 = .ok (.astore 6, 2) := by decide +kernel
theorem dX8_journey_44 : decode cX8_journey 44 = .ok (.aload 6, 2) := by decide +kernel
theorem dX8_journey_46 : decode cX8_journey 46 = .ok (.ifnonnull 7, 3) := by decide +kernel
theorem dX8_journey_49 : decode cX8_journey 49 = .ok (.ldc2_w 191, 3) := by decide +kernel
theorem dX8_journey_52 : decode cX8_journey 52 = .ok (.dreturn, 1) := by decide +kernel
theorem dX8_journey_53 : decode cX8_journey 53 = .ok (.iload 5, 2) := by decide +kernel
theorem dX8_journey_55 : decode cX8_journey 55 = .ok (.tableswitch 43 0 2 #[25, 31, 37], 25) := by decide +kernel
theorem dX8_journey_80 : decode cX8_journey 80 = .ok (.aload 6, 2) := by decide +kernel
theorem dX8_journey_82 : decode cX8_journey 82 = .ok (.invokevirtual 193, 3) := by decide +kernel
theorem dX8_journey_85 : decode cX8_journey 85 = .ok (.dreturn, 1) := by decide +kernel
theorem dX8_journey_86 : decode cX8_journey 86 = .ok (.aload 6, 2) := by decide +kernel
theorem dX8_journey_88 : decode cX8_journey 88 = .ok (.invokevirtual 197, 3) := by decide +kernel
theorem dX8_journey_91 : decode cX8_journey 91 = .ok (.dreturn, 1) := by decide +kernel
theorem dX8_journey_92 : decode cX8_journey 92 = .ok (.aload 6, 2) := by decide +kernel
theorem dX8_journey_94 : decode cX8_journey 94 = .ok (.invokevirtual 200, 3) := by decide +kernel
theorem dX8_journey_97 : decode cX8_journey 97 = .ok (.dreturn, 1) := by decide +kernel
theorem dX8_journey_98 : decode cX8_journey 98 = .ok (.aload_n 0, 1) := by decide +kernel
theorem dX8_journey_99 : decode cX8_journey 99 = .ok (.getfield 35, 3) := by decide +kernel
theorem dX8_journey_102 : decode cX8_journey 102 = .ok (.aload 6, 2) := by decide +kernel
theorem dX8_journey_104 : decode cX8_journey 104 = .ok (.invokevirtual 203, 3) := by decide +kernel
theorem dX8_journey_107 : decode cX8_journey 107 = .ok (.i2d, 1) := by decide +kernel
theorem dX8_journey_108 : decode cX8_journey 108 = .ok (.dreturn, 1) := by decide +kernel
theorem dX8_best_0 : decode cX8_best 0 = .ok (.aload_n 0, 1) := by decide +kernel
theorem dX8_best_1 : decode cX8_best 1 = .ok (.iload_n 1, 1) := by decide +kernel
theorem dX8_best_2 : decode cX8_best 2 = .ok (.iload_n 2, 1) := by decide +kernel
theorem dX8_best_3 : decode cX8_best 3 = .ok (.iload_n 3, 1) := by decide +kernel
theorem dX8_best_4 : decode cX8_best 4 = .ok (.invokevirtual 158, 3) := by decide +kernel
theorem dX8_best_7 : decode cX8_best 7 = .ok (.aload_n 0, 1) := by decide +kernel
theorem dX8_best_8 : decode cX8_best 8 = .ok (.getfield 21, 3) := by decide +kernel
theorem dX8_best_11 : decode cX8_best 11 = .ok (.iload_n 1, 1) := by decide +kernel
theorem dX8_best_12 : decode cX8_best 12 = .ok (.iload_n 2, 1) := by decide +kernel
theorem dX8_best_13 : decode cX8_best 13 = .ok (.iload_n 3, 1) := by decide +kernel
theorem dX8_best_14 : decode cX8_best 14 = .ok (.iconst 4, 1) := by decide +kernel
theorem dX8_best_15 : decode cX8_best 15 = .ok (.invokevirtual 161, 3) := by decide +kernel
theorem dX8_best_18 : decode cX8_best 18 = .ok (.iconst (-1), 1) := by decide +kernel
theorem dX8_best_19 : decode cX8_best 19 = .ok (.istore 4, 2) := by decide +kernel
theorem dX8_best_21 : decode cX8_best 21 = .ok (.dconst 0, 1) := by decide +kernel
theorem dX8_best_22 : decode cX8_best 22 = .ok (.dstore 5, 2) := by decide +kernel
theorem dX8_best_24 : decode cX8_best 24 = .ok (.iconst 1, 1) := by decide +kernel
theorem dX8_best_25 : decode cX8_best 25 = .ok (.istore 7, 2) := by decide +kernel
theorem dX8_best_27 : decode cX8_best 27 = .ok (.iload 7, 2) := by decide +kernel
theorem dX8_best_29 : decode cX8_best 29 = .ok (.iconst 4, 1) := by decide +kernel
theorem dX8_best_30 : decode cX8_best 30 = .ok (.if_icmp .gt 53, 3) := by decide +kernel
theorem dX8_best_33 : decode cX8_best 33 = .ok (.aload_n 0, 1) := by decide +kernel
theorem dX8_best_34 : decode cX8_best 34 = .ok (.getfield 21, 3) := by decide +kernel
theorem dX8_best_37 : decode cX8_best 37 = .ok (.iload 7, 2) := by decide +kernel
theorem dX8_best_39 : decode cX8_best 39 = .ok (.invokevirtual 177, 3) := by decide +kernel
theorem dX8_best_42 : decode cX8_best 42 = .ok (.astore 8, 2) := by decide +kernel
theorem dX8_best_44 : decode cX8_best 44 = .ok (.aload 8, 2) := by decide +kernel
theorem dX8_best_46 : decode cX8_best 46 = .ok (.ifnull 31, 3) := by decide +kernel
theorem dX8_best_49 : decode cX8_best 49 = .ok (.iload 4, 2) := by decide +kernel
theorem dX8_best_51 : decode cX8_best 51 = .ok (.iconst (-1), 1) := by decide +kernel
theorem dX8_best_52 : decode cX8_best 52 = .ok (.if_icmp .eq 14, 3) := by decide +kernel
theorem dX8_best_55 : decode cX8_best 55 = .ok (.aload 8, 2) := by decide +kernel
theorem dX8_best_57 : decode cX8_best 57 = .ok (.invokevirtual 200, 3) := by decide +kernel
theorem dX8_best_60 : decode cX8_best 60 = .ok (.dload 5, 2) := by decide +kernel
theorem dX8_best_62 : decode cX8_best 62 = .ok (.dcmp .g, 1) := by decide +kernel
theorem dX8_best_63 : decode cX8_best 63 = .ok (.ifCond .ge 14, 3) := by decide +kernel
theorem dX8_best_66 : decode cX8_best 66 = .ok (.iload 7, 2) := by decide +kernel
theorem dX8_best_68 : decode cX8_best 68 = .ok (.istore 4, 2) := by decide +kernel
theorem dX8_best_70 : decode cX8_best 70 = .ok (.aload 8, 2) := by decide +kernel
theorem dX8_best_72 : decode cX8_best 72 = .ok (.invokevirtual 200, 3) := by decide +kernel
theorem dX8_best_75 : decode cX8_best 75 = .ok (.dstore 5, 2) := by decide +kernel
theorem dX8_best_77 : decode cX8_best 77 = .ok (.iinc 7 1, 3) := by decide +kernel
theorem dX8_best_80 : decode cX8_best 80 = .ok (.goto (-53), 3) := by decide +kernel
theorem dX8_best_83 : decode cX8_best 83 = .ok (.iload 4, 2) := by decide +kernel
theorem dX8_best_85 : decode cX8_best 85 = .ok (.ireturn, 1) := by decide +kernel
theorem dX8_book_0 : decode cX8_book 0 = .ok (.aload_n 0, 1) := by decide +kernel
theorem dX8_book_1 : decode cX8_book 1 = .ok (.iload_n 1, 1) := by decide +kernel
theorem dX8_book_2 : decode cX8_book 2 = .ok (.iload_n 2, 1) := by decide +kernel
theorem dX8_book_3 : decode cX8_book 3 = .ok (.iload_n 3, 1) := by decide +kernel
theorem dX8_book_4 : decode cX8_book 4 = .ok (.invokevirtual 158, 3) := by decide +kernel
theorem dX8_book_7 : decode cX8_book 7 = .ok (.iload 4, 2) := by decide +kernel
theorem dX8_book_9 : decode cX8_book 9 = .ok (.iconst 1, 1) := by decide +kernel
theorem dX8_book_10 : decode cX8_book 10 = .ok (.iconst 4, 1) := by decide +kernel
theorem dX8_book_11 : decode cX8_book 11 = .ok (.invokestatic 50, 3) := by decide +kernel
theorem dX8_book_14 : decode cX8_book 14 = .ok (.aload_n 0, 1) := by decide +kernel
theorem dX8_book_15 : decode cX8_book 15 = .ok (.getfield 21, 3) := by decide +kernel
theorem dX8_book_18 : decode cX8_book 18 = .ok (.iload_n 1, 1) := by decide +kernel
theorem dX8_book_19 : decode cX8_book 19 = .ok (.iload_n 2, 1) := by decide +kernel
theorem dX8_book_20 : decode cX8_book 20 = .ok (.iload_n 3, 1) := by decide +kernel
theorem dX8_book_21 : decode cX8_book 21 = .ok (.iload 4, 2) := by decide +kernel
theorem dX8_book_23 : decode cX8_book 23 = .ok (.invokevirtual 161, 3) := by decide +kernel
theorem dX8_book_26 : decode cX8_book 26 = .ok (.aload_n 0, 1) := by decide +kernel
theorem dX8_book_27 : decode cX8_book 27 = .ok (.getfield 21, 3) := by decide +kernel
theorem dX8_book_30 : decode cX8_book 30 = .ok (.iload 4, 2) := by decide +kernel
theorem dX8_book_32 : decode cX8_book 32 = .ok (.invokevirtual 177, 3) := by decide +kernel
theorem dX8_book_35 : decode cX8_book 35 = .ok (.astore 5, 2) := by decide +kernel
theorem dX8_book_37 : decode cX8_book 37 = .ok (.aload_n 0, 1) := by decide +kernel
theorem dX8_book_38 : decode cX8_book 38 = .ok (.getfield 42, 3) := by decide +kernel
theorem dX8_book_41 : decode cX8_book 41 = .ok (.invokevirtual 90, 3) := by decide +kernel
theorem dX8_book_44 : decode cX8_book 44 = .ok (.istore 6, 2) := by decide +kernel
theorem dX8_book_46 : decode cX8_book 46 = .ok (.aload 5, 2) := by decide +kernel
theorem dX8_book_48 : decode cX8_book 48 = .ok (.ifnull 19, 3) := by decide +kernel
theorem dX8_book_51 : decode cX8_book 51 = .ok (.iload 6, 2) := by decide +kernel
theorem dX8_book_53 : decode cX8_book 53 = .ok (.bipush 30, 2) := by decide +kernel
theorem dX8_book_55 : decode cX8_book 55 = .ok (.if_icmp .ge 12, 3) := by decide +kernel
theorem dX8_book_58 : decode cX8_book 58 = .ok (.aload_n 0, 1) := by decide +kernel
theorem dX8_book_59 : decode cX8_book 59 = .ok (.aload 5, 2) := by decide +kernel
theorem dX8_book_61 : decode cX8_book 61 = .ok (.invokevirtual 207, 3) := by decide +kernel
theorem dX8_book_64 : decode cX8_book 64 = .ok (.ifCond .ne 13, 3) := by decide +kernel
theorem dX8_book_67 : decode cX8_book 67 = .ok (.new 57, 3) := by decide +kernel
theorem dX8_book_70 : decode cX8_book 70 = .ok (.dup, 1) := by decide +kernel
theorem dX8_book_71 : decode cX8_book 71 = .ok (.ldc 211, 2) := by decide +kernel
theorem dX8_book_73 : decode cX8_book 73 = .ok (.invokespecial 61, 3) := by decide +kernel
theorem dX8_book_76 : decode cX8_book 76 = .ok (.athrow, 1) := by decide +kernel
theorem dX8_book_77 : decode cX8_book 77 = .ok (.aload_n 0, 1) := by decide +kernel
theorem dX8_book_78 : decode cX8_book 78 = .ok (.getfield 42, 3) := by decide +kernel
theorem dX8_book_81 : decode cX8_book 81 = .ok (.new 213, 3) := by decide +kernel
theorem dX8_book_84 : decode cX8_book 84 = .ok (.dup, 1) := by decide +kernel
theorem dX8_book_85 : decode cX8_book 85 = .ok (.aload 5, 2) := by decide +kernel
theorem dX8_book_87 : decode cX8_book 87 = .ok (.aload_n 0, 1) := by decide +kernel
theorem dX8_book_88 : decode cX8_book 88 = .ok (.getfield 35, 3) := by decide +kernel
theorem dX8_book_91 : decode cX8_book 91 = .ok (.aload 5, 2) := by decide +kernel
theorem dX8_book_93 : decode cX8_book 93 = .ok (.invokevirtual 203, 3) := by decide +kernel
theorem dX8_book_96 : decode cX8_book 96 = .ok (.aload_n 0, 1) := by decide +kernel
theorem dX8_book_97 : decode cX8_book 97 = .ok (.getfield 46, 3) := by decide +kernel
theorem dX8_book_100 : decode cX8_book 100 = .ok (.invokespecial 215, 3) := by decide +kernel
theorem dX8_book_103 : decode cX8_book 103 = .ok (.invokevirtual 108, 3) := by decide +kernel
theorem dX8_book_106 : decode cX8_book 106 = .ok (.pop, 1) := by decide +kernel
theorem dX8_book_107 : decode cX8_book 107 = .ok (.iload 6, 2) := by decide +kernel
theorem dX8_book_109 : decode cX8_book 109 = .ok (.ireturn, 1) := by decide +kernel
theorem dX8_buy_0 : decode cX8_buy 0 = .ok (.aload_n 0, 1) := by decide +kernel
theorem dX8_buy_1 : decode cX8_buy 1 = .ok (.iload_n 1, 1) := by decide +kernel
theorem dX8_buy_2 : decode cX8_buy 2 = .ok (.invokevirtual 218, 3) := by decide +kernel
theorem dX8_buy_5 : decode cX8_buy 5 = .ok (.astore_n 2, 1) := by decide +kernel
theorem dX8_buy_6 : decode cX8_buy 6 = .ok (.aload_n 2, 1) := by decide +kernel
theorem dX8_buy_7 : decode cX8_buy 7 = .ok (.getfield 222, 3) := by decide +kernel
theorem dX8_buy_10 : decode cX8_buy 10 = .ok (.ifCond .eq 13, 3) := by decide +kernel
theorem dX8_buy_13 : decode cX8_buy 13 = .ok (.new 57, 3) := by decide +kernel
theorem dX8_buy_16 : decode cX8_buy 16 = .ok (.dup, 1) := by decide +kernel
theorem dX8_buy_17 : decode cX8_buy 17 = .ok (.ldc 225, 2) := by decide +kernel
theorem dX8_buy_19 : decode cX8_buy 19 = .ok (.invokespecial 61, 3) := by decide +kernel
theorem dX8_buy_22 : decode cX8_buy 22 = .ok (.athrow, 1) := by decide +kernel
theorem dX8_buy_23 : decode cX8_buy 23 = .ok (.aload_n 2, 1) := by decide +kernel
theorem dX8_buy_24 : decode cX8_buy 24 = .ok (.iconst 1, 1) := by decide +kernel
theorem dX8_buy_25 : decode cX8_buy 25 = .ok (.putfield 222, 3) := by decide +kernel
theorem dX8_buy_28 : decode cX8_buy 28 = .ok (.aload_n 2, 1) := by decide +kernel
theorem dX8_buy_29 : decode cX8_buy 29 = .ok (.getfield 227, 3) := by decide +kernel
theorem dX8_buy_32 : decode cX8_buy 32 = .ok (.ireturn, 1) := by decide +kernel
theorem dX8_right_0 : decode cX8_right 0 = .ok (.aload_n 0, 1) := by decide +kernel
theorem dX8_right_1 : decode cX8_right 1 = .ok (.iload_n 1, 1) := by decide +kernel
theorem dX8_right_2 : decode cX8_right 2 = .ok (.invokevirtual 218, 3) := by decide +kernel
theorem dX8_right_5 : decode cX8_right 5 = .ok (.invokevirtual 230, 3) := by decide +kernel
theorem dX8_right_8 : decode cX8_right 8 = .ok (.ireturn, 1) := by decide +kernel
theorem dX8_claim_0 : decode cX8_claim 0 = .ok (.aload_n 0, 1) := by decide +kernel
theorem dX8_claim_1 : decode cX8_claim 1 = .ok (.iload_n 1, 1) := by decide +kernel
theorem dX8_claim_2 : decode cX8_claim 2 = .ok (.invokevirtual 218, 3) := by decide +kernel
theorem dX8_claim_5 : decode cX8_claim 5 = .ok (.astore_n 2, 1) := by decide +kernel
theorem dX8_claim_6 : decode cX8_claim 6 = .ok (.aload_n 2, 1) := by decide +kernel
theorem dX8_claim_7 : decode cX8_claim 7 = .ok (.invokevirtual 230, 3) := by decide +kernel
theorem dX8_claim_10 : decode cX8_claim 10 = .ok (.istore_n 3, 1) := by decide +kernel
theorem dX8_claim_11 : decode cX8_claim 11 = .ok (.iload_n 3, 1) := by decide +kernel
theorem dX8_claim_12 : decode cX8_claim 12 = .ok (.ifCond .ne 13, 3) := by decide +kernel
theorem dX8_claim_15 : decode cX8_claim 15 = .ok (.new 57, 3) := by decide +kernel
theorem dX8_claim_18 : decode cX8_claim 18 = .ok (.dup, 1) := by decide +kernel
theorem dX8_claim_19 : decode cX8_claim 19 = .ok (.ldc 233, 2) := by decide +kernel
theorem dX8_claim_21 : decode cX8_claim 21 = .ok (.invokespecial 61, 3) := by decide +kernel
theorem dX8_claim_24 : decode cX8_claim 24 = .ok (.athrow, 1) := by decide +kernel
theorem dX8_claim_25 : decode cX8_claim 25 = .ok (.aload_n 2, 1) := by decide +kernel
theorem dX8_claim_26 : decode cX8_claim 26 = .ok (.iconst 3, 1) := by decide +kernel
theorem dX8_claim_27 : decode cX8_claim 27 = .ok (.putfield 222, 3) := by decide +kernel
theorem dX8_claim_30 : decode cX8_claim 30 = .ok (.iload_n 3, 1) := by decide +kernel
theorem dX8_claim_31 : decode cX8_claim 31 = .ok (.ireturn, 1) := by decide +kernel
theorem dX8_concerned_0 : decode cX8_concerned 0 = .ok (.aload_n 0, 1) := by decide +kernel
theorem dX8_concerned_1 : decode cX8_concerned 1 = .ok (.iload_n 1, 1) := by decide +kernel
theorem dX8_concerned_2 : decode cX8_concerned 2 = .ok (.invokevirtual 112, 3) := by decide +kernel
theorem dX8_concerned_5 : decode cX8_concerned 5 = .ok (.astore_n 3, 1) := by decide +kernel
theorem dX8_concerned_6 : decode cX8_concerned 6 = .ok (.iload_n 2, 1) := by decide +kernel
theorem dX8_concerned_7 : decode cX8_concerned 7 = .ok (.iconst 0, 1) := by decide +kernel
theorem dX8_concerned_8 : decode cX8_concerned 8 = .ok (.bipush 99, 2) := by decide +kernel
theorem dX8_concerned_10 : decode cX8_concerned 10 = .ok (.invokestatic 50, 3) := by decide +kernel
theorem dX8_concerned_13 : decode cX8_concerned 13 = .ok (.iconst 0, 1) := by decide +kernel
theorem dX8_concerned_14 : decode cX8_concerned 14 = .ok (.istore 4, 2) := by decide +kernel
theorem dX8_concerned_16 : decode cX8_concerned 16 = .ok (.iconst 0, 1) := by decide +kernel
theorem dX8_concerned_17 : decode cX8_concerned 17 = .ok (.istore 5, 2) := by decide +kernel
theorem dX8_concerned_19 : decode cX8_concerned 19 = .ok (.iload 5, 2) := by decide +kernel
theorem dX8_concerned_21 : decode cX8_concerned 21 = .ok (.aload_n 0, 1) := by decide +kernel
theorem dX8_concerned_22 : decode cX8_concerned 22 = .ok (.getfield 42, 3) := by decide +kernel
theorem dX8_concerned_25 : decode cX8_concerned 25 = .ok (.invokevirtual 90, 3) := by decide +kernel
theorem dX8_concerned_28 : decode cX8_concerned 28 = .ok (.if_icmp .ge 53, 3) := by decide +kernel
theorem dX8_concerned_31 : decode cX8_concerned 31 = .ok (.aload_n 0, 1) := by decide +kernel
theorem dX8_concerned_32 : decode cX8_concerned 32 = .ok (.getfield 42, 3) := by decide +kernel
theorem dX8_concerned_35 : decode cX8_concerned 35 = .ok (.iload 5, 2) := by decide +kernel
theorem dX8_concerned_37 : decode cX8_concerned 37 = .ok (.invokevirtual 235, 3) := by decide +kernel
theorem dX8_concerned_40 : decode cX8_concerned 40 = .ok (.checkcast 213, 3) := by decide +kernel
theorem dX8_concerned_43 : decode cX8_concerned 43 = .ok (.astore 6, 2) := by decide +kernel
theorem dX8_concerned_45 : decode cX8_concerned 45 = .ok (.aload 6, 2) := by decide +kernel
theorem dX8_concerned_47 : decode cX8_concerned 47 = .ok (.invokevirtual 239, 3) := by decide +kernel
theorem dX8_concerned_50 : decode cX8_concerned 50 = .ok (.ifCond .eq 25, 3) := by decide +kernel
theorem dX8_concerned_53 : decode cX8_concerned 53 = .ok (.aload 6, 2) := by decide +kernel
theorem dX8_concerned_55 : decode cX8_concerned 55 = .ok (.getfield 243, 3) := by decide +kernel
theorem dX8_concerned_58 : decode cX8_concerned 58 = .ok (.aload_n 3, 1) := by decide +kernel
theorem dX8_concerned_59 : decode cX8_concerned 59 = .ok (.iload_n 2, 1) := by decide +kernel
theorem dX8_concerned_60 : decode cX8_concerned 60 = .ok (.invokevirtual 247, 3) := by decide +kernel
theorem dX8_concerned_63 : decode cX8_concerned 63 = .ok (.ifCond .eq 12, 3) := by decide +kernel
theorem dX8_concerned_66 : decode cX8_concerned 66 = .ok (.iload 4, 2) := by decide +kernel
theorem dX8_concerned_68 : decode cX8_concerned 68 = .ok (.iconst 1, 1) := by decide +kernel
theorem dX8_concerned_69 : decode cX8_concerned 69 = .ok (.iload 5, 2) := by decide +kernel
theorem dX8_concerned_71 : decode cX8_concerned 71 = .ok (.ishl, 1) := by decide +kernel
theorem dX8_concerned_72 : decode cX8_concerned 72 = .ok (.iadd, 1) := by decide +kernel
theorem dX8_concerned_73 : decode cX8_concerned 73 = .ok (.istore 4, 2) := by decide +kernel
theorem dX8_concerned_75 : decode cX8_concerned 75 = .ok (.iinc 5 1, 3) := by decide +kernel
theorem dX8_concerned_78 : decode cX8_concerned 78 = .ok (.goto (-59), 3) := by decide +kernel
theorem dX8_concerned_81 : decode cX8_concerned 81 = .ok (.iload 4, 2) := by decide +kernel
theorem dX8_concerned_83 : decode cX8_concerned 83 = .ok (.ireturn, 1) := by decide +kernel
theorem dX8_seats_0 : decode cX8_seats 0 = .ok (.aload_n 0, 1) := by decide +kernel
theorem dX8_seats_1 : decode cX8_seats 1 = .ok (.iload_n 1, 1) := by decide +kernel
theorem dX8_seats_2 : decode cX8_seats 2 = .ok (.invokevirtual 112, 3) := by decide +kernel
theorem dX8_seats_5 : decode cX8_seats 5 = .ok (.astore_n 3, 1) := by decide +kernel
theorem dX8_seats_6 : decode cX8_seats 6 = .ok (.iload_n 2, 1) := by decide +kernel
theorem dX8_seats_7 : decode cX8_seats 7 = .ok (.iconst 0, 1) := by decide +kernel
theorem dX8_seats_8 : decode cX8_seats 8 = .ok (.bipush 99, 2) := by decide +kernel
theorem dX8_seats_10 : decode cX8_seats 10 = .ok (.invokestatic 50, 3) := by decide +kernel
theorem dX8_seats_13 : decode cX8_seats 13 = .ok (.aload_n 0, 1) := by decide +kernel
theorem dX8_seats_14 : decode cX8_seats 14 = .ok (.aload_n 3, 1) := by decide +kernel
theorem dX8_seats_15 : decode cX8_seats 15 = .ok (.iload_n 2, 1) := by decide +kernel
theorem dX8_seats_16 : decode cX8_seats 16 = .ok (.invokevirtual 251, 3) := by decide +kernel
theorem dX8_seats_19 : decode cX8_seats 19 = .ok (.ireturn, 1) := by decide +kernel
theorem dX8_pass_0 : decode cX8_pass 0 = .ok (.iload_n 1, 1) := by decide +kernel
theorem dX8_pass_1 : decode cX8_pass 1 = .ok (.iconst 1, 1) := by decide +kernel
theorem dX8_pass_2 : decode cX8_pass 2 = .ok (.sipush 1440, 3) := by decide +kernel
theorem dX8_pass_5 : decode cX8_pass 5 = .ok (.invokestatic 50, 3) := by decide +kernel
theorem dX8_pass_8 : decode cX8_pass 8 = .ok (.aload_n 0, 1) := by decide +kernel
theorem dX8_pass_9 : decode cX8_pass 9 = .ok (.dup, 1) := by decide +kernel
theorem dX8_pass_10 : decode cX8_pass 10 = .ok (.getfield 46, 3) := by decide +kernel
theorem dX8_pass_13 : decode cX8_pass 13 = .ok (.iload_n 1, 1) := by decide +kernel
theorem dX8_pass_14 : decode cX8_pass 14 = .ok (.iadd, 1) := by decide +kernel
theorem dX8_pass_15 : decode cX8_pass 15 = .ok (.putfield 46, 3) := by decide +kernel
theorem dX8_pass_18 : decode cX8_pass 18 = .ok (.iconst 0, 1) := by decide +kernel
theorem dX8_pass_19 : decode cX8_pass 19 = .ok (.istore_n 2, 1) := by decide +kernel
theorem dX8_pass_20 : decode cX8_pass 20 = .ok (.iconst 0, 1) := by decide +kernel
theorem dX8_pass_21 : decode cX8_pass 21 = .ok (.istore_n 3, 1) := by decide +kernel
theorem dX8_pass_22 : decode cX8_pass 22 = .ok (.iload_n 3, 1) := by decide +kernel
theorem dX8_pass_23 : decode cX8_pass 23 = .ok (.aload_n 0, 1) := by decide +kernel
theorem dX8_pass_24 : decode cX8_pass 24 = .ok (.getfield 42, 3) := by decide +kernel
theorem dX8_pass_27 : decode cX8_pass 27 = .ok (.invokevirtual 90, 3) := by decide +kernel
theorem dX8_pass_30 : decode cX8_pass 30 = .ok (.if_icmp .ge 54, 3) := by decide +kernel
theorem dX8_pass_33 : decode cX8_pass 33 = .ok (.aload_n 0, 1) := by decide +kernel
theorem dX8_pass_34 : decode cX8_pass 34 = .ok (.getfield 42, 3) := by decide +kernel
theorem dX8_pass_37 : decode cX8_pass 37 = .ok (.iload_n 3, 1) := by decide +kernel
theorem dX8_pass_38 : decode cX8_pass 38 = .ok (.invokevirtual 235, 3) := by decide +kernel
theorem dX8_pass_41 : decode cX8_pass 41 = .ok (.checkcast 213, 3) := by decide +kernel
theorem dX8_pass_44 : decode cX8_pass 44 = .ok (.astore 4, 2) := by decide +kernel
theorem dX8_pass_46 : decode cX8_pass 46 = .ok (.aload 4, 2) := by decide +kernel
theorem dX8_pass_48 : decode cX8_pass 48 = .ok (.getfield 222, 3) := by decide +kernel
theorem dX8_pass_51 : decode cX8_pass 51 = .ok (.ifCond .ne 27, 3) := by decide +kernel
theorem dX8_pass_54 : decode cX8_pass 54 = .ok (.aload_n 0, 1) := by decide +kernel
theorem dX8_pass_55 : decode cX8_pass 55 = .ok (.getfield 46, 3) := by decide +kernel
theorem dX8_pass_58 : decode cX8_pass 58 = .ok (.aload 4, 2) := by decide +kernel
theorem dX8_pass_60 : decode cX8_pass 60 = .ok (.getfield 255, 3) := by decide +kernel
theorem dX8_pass_63 : decode cX8_pass 63 = .ok (.isub, 1) := by decide +kernel
theorem dX8_pass_64 : decode cX8_pass 64 = .ok (.bipush 30, 2) := by decide +kernel
theorem dX8_pass_66 : decode cX8_pass 66 = .ok (.if_icmp .le 12, 3) := by decide +kernel
theorem dX8_pass_69 : decode cX8_pass 69 = .ok (.aload 4, 2) := by decide +kernel
theorem dX8_pass_71 : decode cX8_pass 71 = .ok (.iconst 2, 1) := by decide +kernel
theorem dX8_pass_72 : decode cX8_pass 72 = .ok (.putfield 222, 3) := by decide +kernel
theorem dX8_pass_75 : decode cX8_pass 75 = .ok (.iinc 2 1, 3) := by decide +kernel
theorem dX8_pass_78 : decode cX8_pass 78 = .ok (.iinc 3 1, 3) := by decide +kernel
theorem dX8_pass_81 : decode cX8_pass 81 = .ok (.goto (-59), 3) := by decide +kernel
theorem dX8_pass_84 : decode cX8_pass 84 = .ok (.iload_n 2, 1) := by decide +kernel
theorem dX8_pass_85 : decode cX8_pass 85 = .ok (.ireturn, 1) := by decide +kernel
theorem dX8_ofBooking_0 : decode cX8_ofBooking 0 = .ok (.aload_n 0, 1) := by decide +kernel
theorem dX8_ofBooking_1 : decode cX8_ofBooking 1 = .ok (.iload_n 1, 1) := by decide +kernel
theorem dX8_ofBooking_2 : decode cX8_ofBooking 2 = .ok (.invokevirtual 218, 3) := by decide +kernel
theorem dX8_ofBooking_5 : decode cX8_ofBooking 5 = .ok (.astore_n 3, 1) := by decide +kernel
theorem dX8_ofBooking_6 : decode cX8_ofBooking 6 = .ok (.iload_n 2, 1) := by decide +kernel
theorem dX8_ofBooking_7 : decode cX8_ofBooking 7 = .ok (.iconst 0, 1) := by decide +kernel
theorem dX8_ofBooking_8 : decode cX8_ofBooking 8 = .ok (.iconst 3, 1) := by decide +kernel
theorem dX8_ofBooking_9 : decode cX8_ofBooking 9 = .ok (.invokestatic 50, 3) := by decide +kernel
theorem dX8_ofBooking_12 : decode cX8_ofBooking 12 = .ok (.iload_n 2, 1) := by decide +kernel
theorem dX8_ofBooking_13 : decode cX8_ofBooking 13 = .ok (.tableswitch 45 0 2 #[27, 32, 37], 27) := by decide +kernel
theorem dX8_ofBooking_40 : decode cX8_ofBooking 40 = .ok (.aload_n 3, 1) := by decide +kernel
theorem dX8_ofBooking_41 : decode cX8_ofBooking 41 = .ok (.getfield 222, 3) := by decide +kernel
theorem dX8_ofBooking_44 : decode cX8_ofBooking 44 = .ok (.ireturn, 1) := by decide +kernel
theorem dX8_ofBooking_45 : decode cX8_ofBooking 45 = .ok (.aload_n 3, 1) := by decide +kernel
theorem dX8_ofBooking_46 : decode cX8_ofBooking 46 = .ok (.getfield 227, 3) := by decide +kernel
theorem dX8_ofBooking_49 : decode cX8_ofBooking 49 = .ok (.ireturn, 1) := by decide +kernel
theorem dX8_ofBooking_50 : decode cX8_ofBooking 50 = .ok (.aload_n 3, 1) := by decide +kernel
theorem dX8_ofBooking_51 : decode cX8_ofBooking 51 = .ok (.getfield 243, 3) := by decide +kernel
theorem dX8_ofBooking_54 : decode cX8_ofBooking 54 = .ok (.getfield 258, 3) := by decide +kernel
theorem dX8_ofBooking_57 : decode cX8_ofBooking 57 = .ok (.ireturn, 1) := by decide +kernel
theorem dX8_ofBooking_58 : decode cX8_ofBooking 58 = .ok (.aload_n 3, 1) := by decide +kernel
theorem dX8_ofBooking_59 : decode cX8_ofBooking 59 = .ok (.getfield 243, 3) := by decide +kernel
theorem dX8_ofBooking_62 : decode cX8_ofBooking 62 = .ok (.getfield 259, 3) := by decide +kernel
theorem dX8_ofBooking_65 : decode cX8_ofBooking 65 = .ok (.ireturn, 1) := by decide +kernel
theorem dX8_needRange_0 : decode cX8_needRange 0 = .ok (.iload_n 0, 1) := by decide +kernel
theorem dX8_needRange_1 : decode cX8_needRange 1 = .ok (.iload_n 1, 1) := by decide +kernel
theorem dX8_needRange_2 : decode cX8_needRange 2 = .ok (.if_icmp .lt 8, 3) := by decide +kernel
theorem dX8_needRange_5 : decode cX8_needRange 5 = .ok (.iload_n 0, 1) := by decide +kernel
theorem dX8_needRange_6 : decode cX8_needRange 6 = .ok (.iload_n 2, 1) := by decide +kernel
theorem dX8_needRange_7 : decode cX8_needRange 7 = .ok (.if_icmp .le 13, 3) := by decide +kernel
theorem dX8_needRange_10 : decode cX8_needRange 10 = .ok (.new 72, 3) := by decide +kernel
theorem dX8_needRange_13 : decode cX8_needRange 13 = .ok (.dup, 1) := by decide +kernel
theorem dX8_needRange_14 : decode cX8_needRange 14 = .ok (.ldc 175, 2) := by decide +kernel
theorem dX8_needRange_16 : decode cX8_needRange 16 = .ok (.invokespecial 76, 3) := by decide +kernel
theorem dX8_needRange_19 : decode cX8_needRange 19 = .ok (.athrow, 1) := by decide +kernel
theorem dX8_needRange_20 : decode cX8_needRange 20 = .ok (.return_, 1) := by decide +kernel
theorem dX8_needFirm_0 : decode cX8_needFirm 0 = .ok (.iload_n 0, 1) := by decide +kernel
theorem dX8_needFirm_1 : decode cX8_needFirm 1 = .ok (.ifCond .lt 8, 3) := by decide +kernel
theorem dX8_needFirm_4 : decode cX8_needFirm 4 = .ok (.iload_n 0, 1) := by decide +kernel
theorem dX8_needFirm_5 : decode cX8_needFirm 5 = .ok (.iconst 3, 1) := by decide +kernel
theorem dX8_needFirm_6 : decode cX8_needFirm 6 = .ok (.if_icmp .lt 14, 3) := by decide +kernel
theorem dX8_needFirm_9 : decode cX8_needFirm 9 = .ok (.new 261, 3) := by decide +kernel
theorem dX8_needFirm_12 : decode cX8_needFirm 12 = .ok (.dup, 1) := by decide +kernel
theorem dX8_needFirm_13 : decode cX8_needFirm 13 = .ok (.ldc_w 263, 3) := by decide +kernel
theorem dX8_needFirm_16 : decode cX8_needFirm 16 = .ok (.invokespecial 265, 3) := by decide +kernel
theorem dX8_needFirm_19 : decode cX8_needFirm 19 = .ok (.athrow, 1) := by decide +kernel
theorem dX8_needFirm_20 : decode cX8_needFirm 20 = .ok (.return_, 1) := by decide +kernel
theorem dX8_needStop_0 : decode cX8_needStop 0 = .ok (.iload_n 1, 1) := by decide +kernel
theorem dX8_needStop_1 : decode cX8_needStop 1 = .ok (.ifCond .lt 14, 3) := by decide +kernel
theorem dX8_needStop_4 : decode cX8_needStop 4 = .ok (.iload_n 1, 1) := by decide +kernel
theorem dX8_needStop_5 : decode cX8_needStop 5 = .ok (.aload_n 0, 1) := by decide +kernel
theorem dX8_needStop_6 : decode cX8_needStop 6 = .ok (.getfield 10, 3) := by decide +kernel
theorem dX8_needStop_9 : decode cX8_needStop 9 = .ok (.getfield 54, 3) := by decide +kernel
theorem dX8_needStop_12 : decode cX8_needStop 12 = .ok (.if_icmp .lt 14, 3) := by decide +kernel
theorem dX8_needStop_15 : decode cX8_needStop 15 = .ok (.new 261, 3) := by decide +kernel
theorem dX8_needStop_18 : decode cX8_needStop 18 = .ok (.dup, 1) := by decide +kernel
theorem dX8_needStop_19 : decode cX8_needStop 19 = .ok (.ldc_w 266, 3) := by decide +kernel
theorem dX8_needStop_22 : decode cX8_needStop 22 = .ok (.invokespecial 265, 3) := by decide +kernel
theorem dX8_needStop_25 : decode cX8_needStop 25 = .ok (.athrow, 1) := by decide +kernel
theorem dX8_needStop_26 : decode cX8_needStop 26 = .ok (.return_, 1) := by decide +kernel
theorem dX8_needWay_0 : decode cX8_needWay 0 = .ok (.aload_n 0, 1) := by decide +kernel
theorem dX8_needWay_1 : decode cX8_needWay 1 = .ok (.iload_n 1, 1) := by decide +kernel
theorem dX8_needWay_2 : decode cX8_needWay 2 = .ok (.invokevirtual 68, 3) := by decide +kernel
theorem dX8_needWay_5 : decode cX8_needWay 5 = .ok (.aload_n 0, 1) := by decide +kernel
theorem dX8_needWay_6 : decode cX8_needWay 6 = .ok (.iload_n 2, 1) := by decide +kernel
theorem dX8_needWay_7 : decode cX8_needWay 7 = .ok (.invokevirtual 68, 3) := by decide +kernel
theorem dX8_needWay_10 : decode cX8_needWay 10 = .ok (.iload_n 1, 1) := by decide +kernel
theorem dX8_needWay_11 : decode cX8_needWay 11 = .ok (.iload_n 2, 1) := by decide +kernel
theorem dX8_needWay_12 : decode cX8_needWay 12 = .ok (.if_icmp .ne 14, 3) := by decide +kernel
theorem dX8_needWay_15 : decode cX8_needWay 15 = .ok (.new 72, 3) := by decide +kernel
theorem dX8_needWay_18 : decode cX8_needWay 18 = .ok (.dup, 1) := by decide +kernel
theorem dX8_needWay_19 : decode cX8_needWay 19 = .ok (.ldc_w 268, 3) := by decide +kernel
theorem dX8_needWay_22 : decode cX8_needWay 22 = .ok (.invokespecial 76, 3) := by decide +kernel
theorem dX8_needWay_25 : decode cX8_needWay 25 = .ok (.athrow, 1) := by decide +kernel
theorem dX8_needWay_26 : decode cX8_needWay 26 = .ok (.iload_n 3, 1) := by decide +kernel
theorem dX8_needWay_27 : decode cX8_needWay 27 = .ok (.iconst 0, 1) := by decide +kernel
theorem dX8_needWay_28 : decode cX8_needWay 28 = .ok (.ldc_w 270, 3) := by decide +kernel
theorem dX8_needWay_31 : decode cX8_needWay 31 = .ok (.invokestatic 50, 3) := by decide +kernel
theorem dX8_needWay_34 : decode cX8_needWay 34 = .ok (.return_, 1) := by decide +kernel
theorem dX8_tripOf_0 : decode cX8_tripOf 0 = .ok (.iload_n 1, 1) := by decide +kernel
theorem dX8_tripOf_1 : decode cX8_tripOf 1 = .ok (.ifCond .lt 17, 3) := by decide +kernel
theorem dX8_tripOf_4 : decode cX8_tripOf 4 = .ok (.iload_n 1, 1) := by decide +kernel
theorem dX8_tripOf_5 : decode cX8_tripOf 5 = .ok (.aload_n 0, 1) := by decide +kernel
theorem dX8_tripOf_6 : decode cX8_tripOf 6 = .ok (.getfield 10, 3) := by decide +kernel
theorem dX8_tripOf_9 : decode cX8_tripOf 9 = .ok (.getfield 87, 3) := by decide +kernel
theorem dX8_tripOf_12 : decode cX8_tripOf 12 = .ok (.invokevirtual 90, 3) := by decide +kernel
theorem dX8_tripOf_15 : decode cX8_tripOf 15 = .ok (.if_icmp .lt 14, 3) := by decide +kernel
theorem dX8_tripOf_18 : decode cX8_tripOf 18 = .ok (.new 261, 3) := by decide +kernel
theorem dX8_tripOf_21 : decode cX8_tripOf 21 = .ok (.dup, 1) := by decide +kernel
theorem dX8_tripOf_22 : decode cX8_tripOf 22 = .ok (.ldc_w 271, 3) := by decide +kernel
theorem dX8_tripOf_25 : decode cX8_tripOf 25 = .ok (.invokespecial 265, 3) := by decide +kernel
theorem dX8_tripOf_28 : decode cX8_tripOf 28 = .ok (.athrow, 1) := by decide +kernel
theorem dX8_tripOf_29 : decode cX8_tripOf 29 = .ok (.aload_n 0, 1) := by decide +kernel
theorem dX8_tripOf_30 : decode cX8_tripOf 30 = .ok (.getfield 10, 3) := by decide +kernel
theorem dX8_tripOf_33 : decode cX8_tripOf 33 = .ok (.getfield 87, 3) := by decide +kernel
theorem dX8_tripOf_36 : decode cX8_tripOf 36 = .ok (.iload_n 1, 1) := by decide +kernel
theorem dX8_tripOf_37 : decode cX8_tripOf 37 = .ok (.invokevirtual 235, 3) := by decide +kernel
theorem dX8_tripOf_40 : decode cX8_tripOf 40 = .ok (.checkcast 96, 3) := by decide +kernel
theorem dX8_tripOf_43 : decode cX8_tripOf 43 = .ok (.areturn, 1) := by decide +kernel
theorem dX8_bookingOf_0 : decode cX8_bookingOf 0 = .ok (.iload_n 1, 1) := by decide +kernel
theorem dX8_bookingOf_1 : decode cX8_bookingOf 1 = .ok (.ifCond .lt 14, 3) := by decide +kernel
theorem dX8_bookingOf_4 : decode cX8_bookingOf 4 = .ok (.iload_n 1, 1) := by decide +kernel
theorem dX8_bookingOf_5 : decode cX8_bookingOf 5 = .ok (.aload_n 0, 1) := by decide +kernel
theorem dX8_bookingOf_6 : decode cX8_bookingOf 6 = .ok (.getfield 42, 3) := by decide +kernel
theorem dX8_bookingOf_9 : decode cX8_bookingOf 9 = .ok (.invokevirtual 90, 3) := by decide +kernel
theorem dX8_bookingOf_12 : decode cX8_bookingOf 12 = .ok (.if_icmp .lt 14, 3) := by decide +kernel
theorem dX8_bookingOf_15 : decode cX8_bookingOf 15 = .ok (.new 261, 3) := by decide +kernel
theorem dX8_bookingOf_18 : decode cX8_bookingOf 18 = .ok (.dup, 1) := by decide +kernel
theorem dX8_bookingOf_19 : decode cX8_bookingOf 19 = .ok (.ldc_w 273, 3) := by decide +kernel
theorem dX8_bookingOf_22 : decode cX8_bookingOf 22 = .ok (.invokespecial 265, 3) := by decide +kernel
theorem dX8_bookingOf_25 : decode cX8_bookingOf 25 = .ok (.athrow, 1) := by decide +kernel
theorem dX8_bookingOf_26 : decode cX8_bookingOf 26 = .ok (.aload_n 0, 1) := by decide +kernel
theorem dX8_bookingOf_27 : decode cX8_bookingOf 27 = .ok (.getfield 42, 3) := by decide +kernel
theorem dX8_bookingOf_30 : decode cX8_bookingOf 30 = .ok (.iload_n 1, 1) := by decide +kernel
theorem dX8_bookingOf_31 : decode cX8_bookingOf 31 = .ok (.invokevirtual 235, 3) := by decide +kernel
theorem dX8_bookingOf_34 : decode cX8_bookingOf 34 = .ok (.checkcast 213, 3) := by decide +kernel
theorem dX8_bookingOf_37 : decode cX8_bookingOf 37 = .ok (.areturn, 1) := by decide +kernel
theorem dX8_timeOrNone_0 : decode cX8_timeOrNone 0 = .ok (.iload_n 0, 1) := by decide +kernel
theorem dX8_timeOrNone_1 : decode cX8_timeOrNone 1 = .ok (.ldc 174, 2) := by decide +kernel
theorem dX8_timeOrNone_3 : decode cX8_timeOrNone 3 = .ok (.if_icmp .ge 7, 3) := by decide +kernel
theorem dX8_timeOrNone_6 : decode cX8_timeOrNone 6 = .ok (.iload_n 0, 1) := by decide +kernel
theorem dX8_timeOrNone_7 : decode cX8_timeOrNone 7 = .ok (.goto 4, 3) := by decide +kernel
theorem dX8_timeOrNone_10 : decode cX8_timeOrNone 10 = .ok (.iconst (-1), 1) := by decide +kernel
theorem dX8_timeOrNone_11 : decode cX8_timeOrNone 11 = .ok (.ireturn, 1) := by decide +kernel
theorem dX8_isBooked_0 : decode cX8_isBooked 0 = .ok (.iconst 0, 1) := by decide +kernel
theorem dX8_isBooked_1 : decode cX8_isBooked 1 = .ok (.istore_n 2, 1) := by decide +kernel
theorem dX8_isBooked_2 : decode cX8_isBooked 2 = .ok (.iload_n 2, 1) := by decide +kernel
theorem dX8_isBooked_3 : decode cX8_isBooked 3 = .ok (.aload_n 0, 1) := by decide +kernel
theorem dX8_isBooked_4 : decode cX8_isBooked 4 = .ok (.getfield 42, 3) := by decide +kernel
theorem dX8_isBooked_7 : decode cX8_isBooked 7 = .ok (.invokevirtual 90, 3) := by decide +kernel
theorem dX8_isBooked_10 : decode cX8_isBooked 10 = .ok (.if_icmp .ge 33, 3) := by decide +kernel
theorem dX8_isBooked_13 : decode cX8_isBooked 13 = .ok (.aload_n 0, 1) := by decide +kernel
theorem dX8_isBooked_14 : decode cX8_isBooked 14 = .ok (.getfield 42, 3) := by decide +kernel
theorem dX8_isBooked_17 : decode cX8_isBooked 17 = .ok (.iload_n 2, 1) := by decide +kernel
theorem dX8_isBooked_18 : decode cX8_isBooked 18 = .ok (.invokevirtual 235, 3) := by decide +kernel
theorem dX8_isBooked_21 : decode cX8_isBooked 21 = .ok (.checkcast 213, 3) := by decide +kernel
theorem dX8_isBooked_24 : decode cX8_isBooked 24 = .ok (.getfield 243, 3) := by decide +kernel
theorem dX8_isBooked_27 : decode cX8_isBooked 27 = .ok (.aload_n 1, 1) := by decide +kernel
theorem dX8_isBooked_28 : decode cX8_isBooked 28 = .ok (.iconst (-1), 1) := by decide +kernel
theorem dX8_isBooked_29 : decode cX8_isBooked 29 = .ok (.invokevirtual 247, 3) := by decide +kernel
theorem dX8_isBooked_32 : decode cX8_isBooked 32 = .ok (.ifCond .eq 5, 3) := by decide +kernel
theorem dX8_isBooked_35 : decode cX8_isBooked 35 = .ok (.iconst 1, 1) := by decide +kernel
theorem dX8_isBooked_36 : decode cX8_isBooked 36 = .ok (.ireturn, 1) := by decide +kernel
theorem dX8_isBooked_37 : decode cX8_isBooked 37 = .ok (.iinc 2 1, 3) := by decide +kernel
theorem dX8_isBooked_40 : decode cX8_isBooked 40 = .ok (.goto (-38), 3) := by decide +kernel
theorem dX8_isBooked_43 : decode cX8_isBooked 43 = .ok (.iconst 0, 1) := by decide +kernel
theorem dX8_isBooked_44 : decode cX8_isBooked 44 = .ok (.ireturn, 1) := by decide +kernel
theorem dX8_hasSeats_0 : decode cX8_hasSeats 0 = .ok (.aload_n 1, 1) := by decide +kernel
theorem dX8_hasSeats_1 : decode cX8_hasSeats 1 = .ok (.getfield 275, 3) := by decide +kernel
theorem dX8_hasSeats_4 : decode cX8_hasSeats 4 = .ok (.astore_n 2, 1) := by decide +kernel
theorem dX8_hasSeats_5 : decode cX8_hasSeats 5 = .ok (.aload_n 2, 1) := by decide +kernel
theorem dX8_hasSeats_6 : decode cX8_hasSeats 6 = .ok (.ifnull 29, 3) := by decide +kernel
theorem dX8_hasSeats_9 : decode cX8_hasSeats 9 = .ok (.aload_n 0, 1) := by decide +kernel
theorem dX8_hasSeats_10 : decode cX8_hasSeats 10 = .ok (.aload_n 2, 1) := by decide +kernel
theorem dX8_hasSeats_11 : decode cX8_hasSeats 11 = .ok (.getfield 279, 3) := by decide +kernel
theorem dX8_hasSeats_14 : decode cX8_hasSeats 14 = .ok (.aload_n 2, 1) := by decide +kernel
theorem dX8_hasSeats_15 : decode cX8_hasSeats 15 = .ok (.getfield 283, 3) := by decide +kernel
theorem dX8_hasSeats_18 : decode cX8_hasSeats 18 = .ok (.invokevirtual 251, 3) := by decide +kernel
theorem dX8_hasSeats_21 : decode cX8_hasSeats 21 = .ok (.iconst 1, 1) := by decide +kernel
theorem dX8_hasSeats_22 : decode cX8_hasSeats 22 = .ok (.if_icmp .ge 5, 3) := by decide +kernel
theorem dX8_hasSeats_25 : decode cX8_hasSeats 25 = .ok (.iconst 0, 1) := by decide +kernel
theorem dX8_hasSeats_26 : decode cX8_hasSeats 26 = .ok (.ireturn, 1) := by decide +kernel
theorem dX8_hasSeats_27 : decode cX8_hasSeats 27 = .ok (.aload_n 2, 1) := by decide +kernel
theorem dX8_hasSeats_28 : decode cX8_hasSeats 28 = .ok (.getfield 286, 3) := by decide +kernel
theorem dX8_hasSeats_31 : decode cX8_hasSeats 31 = .ok (.astore_n 2, 1) := by decide +kernel
theorem dX8_hasSeats_32 : decode cX8_hasSeats 32 = .ok (.goto (-27), 3) := by decide +kernel
theorem dX8_hasSeats_35 : decode cX8_hasSeats 35 = .ok (.iconst 1, 1) := by decide +kernel
theorem dX8_hasSeats_36 : decode cX8_hasSeats 36 = .ok (.ireturn, 1) := by decide +kernel
theorem dX8_freeSeats_0 : decode cX8_freeSeats 0 = .ok (.aload_n 1, 1) := by decide +kernel
theorem dX8_freeSeats_1 : decode cX8_freeSeats 1 = .ok (.getfield 289, 3) := by decide +kernel
theorem dX8_freeSeats_4 : decode cX8_freeSeats 4 = .ok (.istore_n 3, 1) := by decide +kernel
theorem dX8_freeSeats_5 : decode cX8_freeSeats 5 = .ok (.iconst 0, 1) := by decide +kernel
theorem dX8_freeSeats_6 : decode cX8_freeSeats 6 = .ok (.istore 4, 2) := by decide +kernel
theorem dX8_freeSeats_8 : decode cX8_freeSeats 8 = .ok (.iload 4, 2) := by decide +kernel
theorem dX8_freeSeats_10 : decode cX8_freeSeats 10 = .ok (.aload_n 0, 1) := by decide +kernel
theorem dX8_freeSeats_11 : decode cX8_freeSeats 11 = .ok (.getfield 42, 3) := by decide +kernel
theorem dX8_freeSeats_14 : decode cX8_freeSeats 14 = .ok (.invokevirtual 90, 3) := by decide +kernel
theorem dX8_freeSeats_17 : decode cX8_freeSeats 17 = .ok (.if_icmp .ge 48, 3) := by decide +kernel
theorem dX8_freeSeats_20 : decode cX8_freeSeats 20 = .ok (.aload_n 0, 1) := by decide +kernel
theorem dX8_freeSeats_21 : decode cX8_freeSeats 21 = .ok (.getfield 42, 3) := by decide +kernel
theorem dX8_freeSeats_24 : decode cX8_freeSeats 24 = .ok (.iload 4, 2) := by decide +kernel
theorem dX8_freeSeats_26 : decode cX8_freeSeats 26 = .ok (.invokevirtual 235, 3) := by decide +kernel
theorem dX8_freeSeats_29 : decode cX8_freeSeats 29 = .ok (.checkcast 213, 3) := by decide +kernel
theorem dX8_freeSeats_32 : decode cX8_freeSeats 32 = .ok (.astore 5, 2) := by decide +kernel
theorem dX8_freeSeats_34 : decode cX8_freeSeats 34 = .ok (.aload 5, 2) := by decide +kernel
theorem dX8_freeSeats_36 : decode cX8_freeSeats 36 = .ok (.getfield 222, 3) := by decide +kernel
theorem dX8_freeSeats_39 : decode cX8_freeSeats 39 = .ok (.iconst 2, 1) := by decide +kernel
theorem dX8_freeSeats_40 : decode cX8_freeSeats 40 = .ok (.if_icmp .eq 19, 3) := by decide +kernel
theorem dX8_freeSeats_43 : decode cX8_freeSeats 43 = .ok (.aload 5, 2) := by decide +kernel
theorem dX8_freeSeats_45 : decode cX8_freeSeats 45 = .ok (.getfield 243, 3) := by decide +kernel
theorem dX8_freeSeats_48 : decode cX8_freeSeats 48 = .ok (.aload_n 1, 1) := by decide +kernel
theorem dX8_freeSeats_49 : decode cX8_freeSeats 49 = .ok (.iload_n 2, 1) := by decide +kernel
theorem dX8_freeSeats_50 : decode cX8_freeSeats 50 = .ok (.invokevirtual 247, 3) := by decide +kernel
theorem dX8_freeSeats_53 : decode cX8_freeSeats 53 = .ok (.ifCond .eq 6, 3) := by decide +kernel
theorem dX8_freeSeats_56 : decode cX8_freeSeats 56 = .ok (.iinc 3 (-1), 3) := by decide +kernel
theorem dX8_freeSeats_59 : decode cX8_freeSeats 59 = .ok (.iinc 4 1, 3) := by decide +kernel
theorem dX8_freeSeats_62 : decode cX8_freeSeats 62 = .ok (.goto (-54), 3) := by decide +kernel
theorem dX8_freeSeats_65 : decode cX8_freeSeats 65 = .ok (.iload_n 3, 1) := by decide +kernel
theorem dX8_freeSeats_66 : decode cX8_freeSeats 66 = .ok (.ireturn, 1) := by decide +kernel
theorem dX8_at_0 : decode cX8_at 0 = .ok (.iload_n 1, 1) := by decide +kernel
theorem dX8_at_1 : decode cX8_at 1 = .ok (.ifCond .lt 15, 3) := by decide +kernel
theorem dX8_at_4 : decode cX8_at 4 = .ok (.iload_n 1, 1) := by decide +kernel
theorem dX8_at_5 : decode cX8_at 5 = .ok (.aload_n 0, 1) := by decide +kernel
theorem dX8_at_6 : decode cX8_at 6 = .ok (.arraylength, 1) := by decide +kernel
theorem dX8_at_7 : decode cX8_at 7 = .ok (.if_icmp .ge 9, 3) := by decide +kernel
theorem dX8_at_10 : decode cX8_at 10 = .ok (.aload_n 0, 1) := by decide +kernel
theorem dX8_at_11 : decode cX8_at 11 = .ok (.iload_n 1, 1) := by decide +kernel
theorem dX8_at_12 : decode cX8_at 12 = .ok (.iaload, 1) := by decide +kernel
theorem dX8_at_13 : decode cX8_at 13 = .ok (.goto 4, 3) := by decide +kernel
theorem dX8_at_16 : decode cX8_at 16 = .ok (.iconst (-1), 1) := by decide +kernel
theorem dX8_at_17 : decode cX8_at 17 = .ok (.ireturn, 1) := by decide +kernel
theorem dX8_put_0 : decode cX8_put 0 = .ok (.iload_n 1, 1) := by decide +kernel
theorem dX8_put_1 : decode cX8_put 1 = .ok (.ifCond .lt 13, 3) := by decide +kernel
theorem dX8_put_4 : decode cX8_put 4 = .ok (.iload_n 1, 1) := by decide +kernel
theorem dX8_put_5 : decode cX8_put 5 = .ok (.aload_n 0, 1) := by decide +kernel
theorem dX8_put_6 : decode cX8_put 6 = .ok (.arraylength, 1) := by decide +kernel
theorem dX8_put_7 : decode cX8_put 7 = .ok (.if_icmp .ge 7, 3) := by decide +kernel
theorem dX8_put_10 : decode cX8_put 10 = .ok (.aload_n 0, 1) := by decide +kernel
theorem dX8_put_11 : decode cX8_put 11 = .ok (.iload_n 1, 1) := by decide +kernel
theorem dX8_put_12 : decode cX8_put 12 = .ok (.iload_n 2, 1) := by decide +kernel
theorem dX8_put_13 : decode cX8_put 13 = .ok (.iastore, 1) := by decide +kernel
theorem dX8_put_14 : decode cX8_put 14 = .ok (.return_, 1) := by decide +kernel
theorem dX8_firstDayFor_0 : decode cX8_firstDayFor 0 = .ok (.iconst 0, 1) := by decide +kernel
theorem dX8_firstDayFor_1 : decode cX8_firstDayFor 1 = .ok (.iload_n 0, 1) := by decide +kernel
theorem dX8_firstDayFor_2 : decode cX8_firstDayFor 2 = .ok (.sipush 1440, 3) := by decide +kernel
theorem dX8_firstDayFor_5 : decode cX8_firstDayFor 5 = .ok (.idiv, 1) := by decide +kernel
theorem dX8_firstDayFor_6 : decode cX8_firstDayFor 6 = .ok (.iconst 1, 1) := by decide +kernel
theorem dX8_firstDayFor_7 : decode cX8_firstDayFor 7 = .ok (.isub, 1) := by decide +kernel
theorem dX8_firstDayFor_8 : decode cX8_firstDayFor 8 = .ok (.invokestatic 292, 3) := by decide +kernel
theorem dX8_firstDayFor_11 : decode cX8_firstDayFor 11 = .ok (.ireturn, 1) := by decide +kernel
theorem dX8_lastDayFor_0 : decode cX8_lastDayFor 0 = .ok (.bipush 99, 2) := by decide +kernel
theorem dX8_lastDayFor_2 : decode cX8_lastDayFor 2 = .ok (.iload_n 0, 1) := by decide +kernel
theorem dX8_lastDayFor_3 : decode cX8_lastDayFor 3 = .ok (.sipush 1440, 3) := by decide +kernel
theorem dX8_lastDayFor_6 : decode cX8_lastDayFor 6 = .ok (.idiv, 1) := by decide +kernel
theorem dX8_lastDayFor_7 : decode cX8_lastDayFor 7 = .ok (.iconst 1, 1) := by decide +kernel
theorem dX8_lastDayFor_8 : decode cX8_lastDayFor 8 = .ok (.iadd, 1) := by decide +kernel
theorem dX8_lastDayFor_9 : decode cX8_lastDayFor 9 = .ok (.invokestatic 297, 3) := by decide +kernel
theorem dX8_lastDayFor_12 : decode cX8_lastDayFor 12 = .ok (.ireturn, 1) := by decide +kernel
