theorem wq_M_61 : Cond.constantLong R_M 61 255 ∈ bw := bw_t (i := 657) (by decide +kernel) (by decide +kernel)
/-- the pool with the first j bytes of x behind its pn -/
def fd_f (x : Int64) (pn : Nat) : Nat → (Nat → Int32) → Nat → Int32
  | 0, pr => pr
  | j + 1, pr => upd (fd_f x pn j pr) (pn + j) (bI (lb x j))
theorem bx_in {x n : Nat} (h1 : 1 ≤ x) (hx : x ≤ n) (hn : n ≤ 9) : 1 ≤ nI x ∧ nI x ≤ nI n := ⟨by rw [show (1 : Int32) = nI 1 from rfl]; exact nI_le h1 (by omega), nI_le hx (by omega)⟩
theorem sm_e_le (em : Nat → Int32) (b : Nat) : sm_e em b ≤ b := by
  induction b with
  | zero => exact Nat.le_refl _
  | succ b ih =>
    show (if em (b + 1) = 0 then sm_e em b + 1 else sm_e em b) ≤ b + 1
    split <;> omega
theorem sm_s_le (em : Nat → Int32) (mk : Int32) (b : Nat) : sm_s em mk b ≤ b := by
  induction b with
  | zero => exact Nat.le_refl _
  | succ b ih =>
    show (if em (b + 1) = 0 ∧ ((mk >>> (nI (b + 1) &&& 31)) &&& 1) = 1 then sm_s em mk b + 1 else sm_s em mk b) ≤ b + 1
    split <;> omega
/-- the first b bytes of file f as a long -/
def rs_f (co : Nat → Int32) (f : Nat) : Nat → Int64
  | 0 => 0
  | b + 1 => rs_f co f b ||| ((co (9 * (8 * f + b))).toInt64 <<< ((nI 8 * nI b).toInt64 &&& 63))
theorem d_M_feed_0 : decode b_M_feed 0 = .ok (.aload_n 0, 1) := by decide +kernel
theorem d_M_feed_1 : decode b_M_feed 1 = .ok (.iload_n 3, 1) := by decide +kernel
theorem d_M_feed_2 : decode b_M_feed 2 = .ok (.iconst 1, 1) := by decide +kernel
theorem d_M_feed_3 : decode b_M_feed 3 = .ok (.if_icmp .lt 9, 3) := by decide +kernel
theorem d_M_feed_6 : decode b_M_feed 6 = .ok (.iload_n 3, 1) := by decide +kernel
theorem d_M_feed_7 : decode b_M_feed 7 = .ok (.bipush 8, 2) := by decide +kernel
theorem d_M_feed_9 : decode b_M_feed 9 = .ok (.if_icmp .le 7, 3) := by decide +kernel
theorem d_M_feed_12 : decode b_M_feed 12 = .ok (.iconst 1, 1) := by decide +kernel
theorem d_M_feed_13 : decode b_M_feed 13 = .ok (.goto 20, 3) := by decide +kernel
theorem d_M_feed_16 : decode b_M_feed 16 = .ok (.aload_n 0, 1) := by decide +kernel
theorem d_M_feed_17 : decode b_M_feed 17 = .ok (.getfield 58, 3) := by decide +kernel
theorem d_M_feed_20 : decode b_M_feed 20 = .ok (.iload_n 3, 1) := by decide +kernel
theorem d_M_feed_21 : decode b_M_feed 21 = .ok (.iadd, 1) := by decide +kernel
theorem d_M_feed_22 : decode b_M_feed 22 = .ok (.sipush 1000, 3) := by decide +kernel
theorem d_M_feed_25 : decode b_M_feed 25 = .ok (.if_icmp .le 7, 3) := by decide +kernel
theorem d_M_feed_28 : decode b_M_feed 28 = .ok (.iconst 2, 1) := by decide +kernel
theorem d_M_feed_29 : decode b_M_feed 29 = .ok (.goto 4, 3) := by decide +kernel
theorem d_M_feed_32 : decode b_M_feed 32 = .ok (.iconst 0, 1) := by decide +kernel
theorem d_M_feed_33 : decode b_M_feed 33 = .ok (.putfield 51, 3) := by decide +kernel
theorem d_M_feed_36 : decode b_M_feed 36 = .ok (.aload_n 0, 1) := by decide +kernel
theorem d_M_feed_37 : decode b_M_feed 37 = .ok (.getfield 51, 3) := by decide +kernel
theorem d_M_feed_40 : decode b_M_feed 40 = .ok (.ifCond .le 5, 3) := by decide +kernel
theorem d_M_feed_43 : decode b_M_feed 43 = .ok (.iconst 0, 1) := by decide +kernel
theorem d_M_feed_44 : decode b_M_feed 44 = .ok (.ireturn, 1) := by decide +kernel
theorem d_M_feed_45 : decode b_M_feed 45 = .ok (.iconst 0, 1) := by decide +kernel
theorem d_M_feed_46 : decode b_M_feed 46 = .ok (.istore 4, 2) := by decide +kernel
theorem d_M_feed_48 : decode b_M_feed 48 = .ok (.iload 4, 2) := by decide +kernel
theorem d_M_feed_50 : decode b_M_feed 50 = .ok (.iload_n 3, 1) := by decide +kernel
theorem d_M_feed_51 : decode b_M_feed 51 = .ok (.if_icmp .ge 40, 3) := by decide +kernel
theorem d_M_feed_54 : decode b_M_feed 54 = .ok (.aload_n 0, 1) := by decide +kernel
theorem d_M_feed_55 : decode b_M_feed 55 = .ok (.getfield 7, 3) := by decide +kernel
theorem d_M_feed_58 : decode b_M_feed 58 = .ok (.aload_n 0, 1) := by decide +kernel
theorem d_M_feed_59 : decode b_M_feed 59 = .ok (.getfield 58, 3) := by decide +kernel
theorem d_M_feed_62 : decode b_M_feed 62 = .ok (.lload_n 1, 1) := by decide +kernel
theorem d_M_feed_63 : decode b_M_feed 63 = .ok (.bipush 8, 2) := by decide +kernel
theorem d_M_feed_65 : decode b_M_feed 65 = .ok (.iload 4, 2) := by decide +kernel
theorem d_M_feed_67 : decode b_M_feed 67 = .ok (.imul, 1) := by decide +kernel
theorem d_M_feed_68 : decode b_M_feed 68 = .ok (.lshr, 1) := by decide +kernel
theorem d_M_feed_69 : decode b_M_feed 69 = .ok (.ldc2_w 61, 3) := by decide +kernel
theorem d_M_feed_72 : decode b_M_feed 72 = .ok (.land, 1) := by decide +kernel
theorem d_M_feed_73 : decode b_M_feed 73 = .ok (.l2i, 1) := by decide +kernel
theorem d_M_feed_74 : decode b_M_feed 74 = .ok (.iastore, 1) := by decide +kernel
theorem d_M_feed_75 : decode b_M_feed 75 = .ok (.aload_n 0, 1) := by decide +kernel
theorem d_M_feed_76 : decode b_M_feed 76 = .ok (.dup, 1) := by decide +kernel
theorem d_M_feed_77 : decode b_M_feed 77 = .ok (.getfield 58, 3) := by decide +kernel
theorem d_M_feed_80 : decode b_M_feed 80 = .ok (.iconst 1, 1) := by decide +kernel
theorem d_M_feed_81 : decode b_M_feed 81 = .ok (.iadd, 1) := by decide +kernel
theorem d_M_feed_82 : decode b_M_feed 82 = .ok (.putfield 58, 3) := by decide +kernel
theorem d_M_feed_85 : decode b_M_feed 85 = .ok (.iinc 4 1, 3) := by decide +kernel
theorem d_M_feed_88 : decode b_M_feed 88 = .ok (.goto (-40), 3) := by decide +kernel
theorem d_M_feed_91 : decode b_M_feed 91 = .ok (.aload_n 0, 1) := by decide +kernel
theorem d_M_feed_92 : decode b_M_feed 92 = .ok (.getfield 58, 3) := by decide +kernel
theorem d_M_feed_95 : decode b_M_feed 95 = .ok (.ireturn, 1) := by decide +kernel
theorem d_M_empty_0 : decode b_M_empty 0 = .ok (.aload_n 0, 1) := by decide +kernel
theorem d_M_empty_1 : decode b_M_empty 1 = .ok (.aload_n 0, 1) := by decide +kernel
theorem d_M_empty_2 : decode b_M_empty 2 = .ok (.iload_n 1, 1) := by decide +kernel
theorem d_M_empty_3 : decode b_M_empty 3 = .ok (.invokevirtual 145, 3) := by decide +kernel
theorem d_M_empty_6 : decode b_M_empty 6 = .ok (.ifCond .ne 7, 3) := by decide +kernel
theorem d_M_empty_9 : decode b_M_empty 9 = .ok (.iconst 1, 1) := by decide +kernel
theorem d_M_empty_10 : decode b_M_empty 10 = .ok (.goto 35, 3) := by decide +kernel
theorem d_M_empty_13 : decode b_M_empty 13 = .ok (.aload_n 0, 1) := by decide +kernel
theorem d_M_empty_14 : decode b_M_empty 14 = .ok (.getfield 25, 3) := by decide +kernel
theorem d_M_empty_17 : decode b_M_empty 17 = .ok (.iload_n 1, 1) := by decide +kernel
theorem d_M_empty_18 : decode b_M_empty 18 = .ok (.baload, 1) := by decide +kernel
theorem d_M_empty_19 : decode b_M_empty 19 = .ok (.ifCond .ne 21, 3) := by decide +kernel
theorem d_M_empty_22 : decode b_M_empty 22 = .ok (.aload_n 0, 1) := by decide +kernel
theorem d_M_empty_23 : decode b_M_empty 23 = .ok (.invokevirtual 133, 3) := by decide +kernel
theorem d_M_empty_26 : decode b_M_empty 26 = .ok (.aload_n 0, 1) := by decide +kernel
theorem d_M_empty_27 : decode b_M_empty 27 = .ok (.getfield 48, 3) := by decide +kernel
theorem d_M_empty_30 : decode b_M_empty 30 = .ok (.if_icmp .le 10, 3) := by decide +kernel
theorem d_M_empty_33 : decode b_M_empty 33 = .ok (.aload_n 0, 1) := by decide +kernel
theorem d_M_empty_34 : decode b_M_empty 34 = .ok (.getfield 100, 3) := by decide +kernel
theorem d_M_empty_37 : decode b_M_empty 37 = .ok (.ifCond .le 7, 3) := by decide +kernel
theorem d_M_empty_40 : decode b_M_empty 40 = .ok (.iconst 2, 1) := by decide +kernel
theorem d_M_empty_41 : decode b_M_empty 41 = .ok (.goto 4, 3) := by decide +kernel
theorem d_M_empty_44 : decode b_M_empty 44 = .ok (.iconst 0, 1) := by decide +kernel
theorem d_M_empty_45 : decode b_M_empty 45 = .ok (.putfield 51, 3) := by decide +kernel
theorem d_M_empty_48 : decode b_M_empty 48 = .ok (.aload_n 0, 1) := by decide +kernel
theorem d_M_empty_49 : decode b_M_empty 49 = .ok (.getfield 51, 3) := by decide +kernel
theorem d_M_empty_52 : decode b_M_empty 52 = .ok (.ifCond .le 5, 3) := by decide +kernel
theorem d_M_empty_55 : decode b_M_empty 55 = .ok (.iconst 0, 1) := by decide +kernel
theorem d_M_empty_56 : decode b_M_empty 56 = .ok (.ireturn, 1) := by decide +kernel
theorem d_M_empty_57 : decode b_M_empty 57 = .ok (.aload_n 0, 1) := by decide +kernel
theorem d_M_empty_58 : decode b_M_empty 58 = .ok (.getfield 25, 3) := by decide +kernel
theorem d_M_empty_61 : decode b_M_empty 61 = .ok (.iload_n 1, 1) := by decide +kernel
theorem d_M_empty_62 : decode b_M_empty 62 = .ok (.iconst 1, 1) := by decide +kernel
theorem d_M_empty_63 : decode b_M_empty 63 = .ok (.bastore, 1) := by decide +kernel
theorem d_M_empty_64 : decode b_M_empty 64 = .ok (.aload_n 0, 1) := by decide +kernel
theorem d_M_empty_65 : decode b_M_empty 65 = .ok (.invokevirtual 133, 3) := by decide +kernel
theorem d_M_empty_68 : decode b_M_empty 68 = .ok (.ireturn, 1) := by decide +kernel
theorem d_M_share_0 : decode b_M_share 0 = .ok (.aload_n 0, 1) := by decide +kernel
theorem d_M_share_1 : decode b_M_share 1 = .ok (.aload_n 0, 1) := by decide +kernel
theorem d_M_share_2 : decode b_M_share 2 = .ok (.iload_n 1, 1) := by decide +kernel
theorem d_M_share_3 : decode b_M_share 3 = .ok (.invokevirtual 145, 3) := by decide +kernel
theorem d_M_share_6 : decode b_M_share 6 = .ok (.ifCond .eq 10, 3) := by decide +kernel
theorem d_M_share_9 : decode b_M_share 9 = .ok (.iload_n 2, 1) := by decide +kernel
theorem d_M_share_10 : decode b_M_share 10 = .ok (.invokestatic 129, 3) := by decide +kernel
theorem d_M_share_13 : decode b_M_share 13 = .ok (.ifCond .ne 7, 3) := by decide +kernel
theorem d_M_share_16 : decode b_M_share 16 = .ok (.iconst 1, 1) := by decide +kernel
theorem d_M_share_17 : decode b_M_share 17 = .ok (.goto 35, 3) := by decide +kernel
theorem d_M_share_20 : decode b_M_share 20 = .ok (.aload_n 0, 1) := by decide +kernel
theorem d_M_share_21 : decode b_M_share 21 = .ok (.getfield 16, 3) := by decide +kernel
theorem d_M_share_24 : decode b_M_share 24 = .ok (.iload_n 2, 1) := by decide +kernel
theorem d_M_share_25 : decode b_M_share 25 = .ok (.iaload, 1) := by decide +kernel
theorem d_M_share_26 : decode b_M_share 26 = .ok (.ifCond .ne 7, 3) := by decide +kernel
theorem d_M_share_29 : decode b_M_share 29 = .ok (.iconst 2, 1) := by decide +kernel
theorem d_M_share_30 : decode b_M_share 30 = .ok (.goto 22, 3) := by decide +kernel
theorem d_M_share_33 : decode b_M_share 33 = .ok (.iload_n 3, 1) := by decide +kernel
theorem d_M_share_34 : decode b_M_share 34 = .ok (.ifCond .lt 13, 3) := by decide +kernel
theorem d_M_share_37 : decode b_M_share 37 = .ok (.iload_n 3, 1) := by decide +kernel
theorem d_M_share_38 : decode b_M_share 38 = .ok (.aload_n 0, 1) := by decide +kernel
theorem d_M_share_39 : decode b_M_share 39 = .ok (.getfield 16, 3) := by decide +kernel
theorem d_M_share_42 : decode b_M_share 42 = .ok (.iload_n 2, 1) := by decide +kernel
theorem d_M_share_43 : decode b_M_share 43 = .ok (.iaload, 1) := by decide +kernel
theorem d_M_share_44 : decode b_M_share 44 = .ok (.if_icmp .lt 7, 3) := by decide +kernel
theorem d_M_share_47 : decode b_M_share 47 = .ok (.iconst 3, 1) := by decide +kernel
theorem d_M_share_48 : decode b_M_share 48 = .ok (.goto 4, 3) := by decide +kernel
theorem d_M_share_51 : decode b_M_share 51 = .ok (.iconst 0, 1) := by decide +kernel
theorem d_M_share_52 : decode b_M_share 52 = .ok (.putfield 51, 3) := by decide +kernel
theorem d_M_share_55 : decode b_M_share 55 = .ok (.aload_n 0, 1) := by decide +kernel
theorem d_M_share_56 : decode b_M_share 56 = .ok (.getfield 51, 3) := by decide +kernel
theorem d_M_share_59 : decode b_M_share 59 = .ok (.ifCond .le 5, 3) := by decide +kernel
theorem d_M_share_62 : decode b_M_share 62 = .ok (.iconst 0, 1) := by decide +kernel
theorem d_M_share_63 : decode b_M_share 63 = .ok (.ireturn, 1) := by decide +kernel
theorem d_M_share_64 : decode b_M_share 64 = .ok (.aload_n 0, 1) := by decide +kernel
theorem d_M_share_65 : decode b_M_share 65 = .ok (.getfield 25, 3) := by decide +kernel
theorem d_M_share_68 : decode b_M_share 68 = .ok (.iload_n 1, 1) := by decide +kernel
theorem d_M_share_69 : decode b_M_share 69 = .ok (.baload, 1) := by decide +kernel
theorem d_M_share_70 : decode b_M_share 70 = .ok (.ifCond .eq 7, 3) := by decide +kernel
theorem d_M_share_73 : decode b_M_share 73 = .ok (.iconst (-1), 1) := by decide +kernel
theorem d_M_share_74 : decode b_M_share 74 = .ok (.goto 21, 3) := by decide +kernel
theorem d_M_share_77 : decode b_M_share 77 = .ok (.aload_n 0, 1) := by decide +kernel
theorem d_M_share_78 : decode b_M_share 78 = .ok (.aload_n 0, 1) := by decide +kernel
theorem d_M_share_79 : decode b_M_share 79 = .ok (.getfield 19, 3) := by decide +kernel
theorem d_M_share_82 : decode b_M_share 82 = .ok (.bipush 9, 2) := by decide +kernel
theorem d_M_share_84 : decode b_M_share 84 = .ok (.bipush 8, 2) := by decide +kernel
theorem d_M_share_86 : decode b_M_share 86 = .ok (.iload_n 2, 1) := by decide +kernel
theorem d_M_share_87 : decode b_M_share 87 = .ok (.imul, 1) := by decide +kernel
theorem d_M_share_88 : decode b_M_share 88 = .ok (.iload_n 3, 1) := by decide +kernel
theorem d_M_share_89 : decode b_M_share 89 = .ok (.iadd, 1) := by decide +kernel
theorem d_M_share_90 : decode b_M_share 90 = .ok (.imul, 1) := by decide +kernel
theorem d_M_share_91 : decode b_M_share 91 = .ok (.iload_n 1, 1) := by decide +kernel
theorem d_M_share_92 : decode b_M_share 92 = .ok (.invokevirtual 77, 3) := by decide +kernel
theorem d_M_share_95 : decode b_M_share 95 = .ok (.ireturn, 1) := by decide +kernel
theorem d_M_restore_0 : decode b_M_restore 0 = .ok (.aload_n 0, 1) := by decide +kernel
theorem d_M_restore_1 : decode b_M_restore 1 = .ok (.iload_n 1, 1) := by decide +kernel
theorem d_M_restore_2 : decode b_M_restore 2 = .ok (.invokestatic 129, 3) := by decide +kernel
theorem d_M_restore_5 : decode b_M_restore 5 = .ok (.ifCond .ne 7, 3) := by decide +kernel
theorem d_M_restore_8 : decode b_M_restore 8 = .ok (.iconst 1, 1) := by decide +kernel
theorem d_M_restore_9 : decode b_M_restore 9 = .ok (.goto 33, 3) := by decide +kernel
theorem d_M_restore_12 : decode b_M_restore 12 = .ok (.aload_n 0, 1) := by decide +kernel
theorem d_M_restore_13 : decode b_M_restore 13 = .ok (.getfield 16, 3) := by decide +kernel
theorem d_M_restore_16 : decode b_M_restore 16 = .ok (.iload_n 1, 1) := by decide +kernel
theorem d_M_restore_17 : decode b_M_restore 17 = .ok (.iaload, 1) := by decide +kernel
theorem d_M_restore_18 : decode b_M_restore 18 = .ok (.ifCond .ne 7, 3) := by decide +kernel
theorem d_M_restore_21 : decode b_M_restore 21 = .ok (.iconst 2, 1) := by decide +kernel
theorem d_M_restore_22 : decode b_M_restore 22 = .ok (.goto 20, 3) := by decide +kernel
theorem d_M_restore_25 : decode b_M_restore 25 = .ok (.aload_n 0, 1) := by decide +kernel
theorem d_M_restore_26 : decode b_M_restore 26 = .ok (.iload_n 2, 1) := by decide +kernel
theorem d_M_restore_27 : decode b_M_restore 27 = .ok (.invokevirtual 148, 3) := by decide +kernel
theorem d_M_restore_30 : decode b_M_restore 30 = .ok (.aload_n 0, 1) := by decide +kernel
theorem d_M_restore_31 : decode b_M_restore 31 = .ok (.getfield 48, 3) := by decide +kernel
theorem d_M_restore_34 : decode b_M_restore 34 = .ok (.if_icmp .ge 7, 3) := by decide +kernel
theorem d_M_restore_37 : decode b_M_restore 37 = .ok (.iconst 3, 1) := by decide +kernel
theorem d_M_restore_38 : decode b_M_restore 38 = .ok (.goto 4, 3) := by decide +kernel
theorem d_M_restore_41 : decode b_M_restore 41 = .ok (.iconst 0, 1) := by decide +kernel
theorem d_M_restore_42 : decode b_M_restore 42 = .ok (.putfield 51, 3) := by decide +kernel
theorem d_M_restore_45 : decode b_M_restore 45 = .ok (.aload_n 0, 1) := by decide +kernel
theorem d_M_restore_46 : decode b_M_restore 46 = .ok (.getfield 51, 3) := by decide +kernel
theorem d_M_restore_49 : decode b_M_restore 49 = .ok (.ifCond .le 5, 3) := by decide +kernel
theorem d_M_restore_52 : decode b_M_restore 52 = .ok (.lconst 0, 1) := by decide +kernel
theorem d_M_restore_53 : decode b_M_restore 53 = .ok (.lreturn, 1) := by decide +kernel
theorem d_M_restore_54 : decode b_M_restore 54 = .ok (.lconst 0, 1) := by decide +kernel
theorem d_M_restore_55 : decode b_M_restore 55 = .ok (.lstore_n 3, 1) := by decide +kernel
theorem d_M_restore_56 : decode b_M_restore 56 = .ok (.iconst 0, 1) := by decide +kernel
theorem d_M_restore_57 : decode b_M_restore 57 = .ok (.istore 5, 2) := by decide +kernel
theorem d_M_restore_59 : decode b_M_restore 59 = .ok (.iload 5, 2) := by decide +kernel
theorem d_M_restore_61 : decode b_M_restore 61 = .ok (.aload_n 0, 1) := by decide +kernel
theorem d_M_restore_62 : decode b_M_restore 62 = .ok (.getfield 16, 3) := by decide +kernel
theorem d_M_restore_65 : decode b_M_restore 65 = .ok (.iload_n 1, 1) := by decide +kernel
theorem d_M_restore_66 : decode b_M_restore 66 = .ok (.iaload, 1) := by decide +kernel
theorem d_M_restore_67 : decode b_M_restore 67 = .ok (.if_icmp .ge 34, 3) := by decide +kernel
theorem d_M_restore_70 : decode b_M_restore 70 = .ok (.lload_n 3, 1) := by decide +kernel
theorem d_M_restore_71 : decode b_M_restore 71 = .ok (.aload_n 0, 1) := by decide +kernel
theorem d_M_restore_72 : decode b_M_restore 72 = .ok (.getfield 19, 3) := by decide +kernel
theorem d_M_restore_75 : decode b_M_restore 75 = .ok (.bipush 9, 2) := by decide +kernel
theorem d_M_restore_77 : decode b_M_restore 77 = .ok (.bipush 8, 2) := by decide +kernel
theorem d_M_restore_79 : decode b_M_restore 79 = .ok (.iload_n 1, 1) := by decide +kernel
theorem d_M_restore_80 : decode b_M_restore 80 = .ok (.imul, 1) := by decide +kernel
theorem d_M_restore_81 : decode b_M_restore 81 = .ok (.iload 5, 2) := by decide +kernel
theorem d_M_restore_83 : decode b_M_restore 83 = .ok (.iadd, 1) := by decide +kernel
theorem d_M_restore_84 : decode b_M_restore 84 = .ok (.imul, 1) := by decide +kernel
theorem d_M_restore_85 : decode b_M_restore 85 = .ok (.iaload, 1) := by decide +kernel
theorem d_M_restore_86 : decode b_M_restore 86 = .ok (.i2l, 1) := by decide +kernel
theorem d_M_restore_87 : decode b_M_restore 87 = .ok (.bipush 8, 2) := by decide +kernel
theorem d_M_restore_89 : decode b_M_restore 89 = .ok (.iload 5, 2) := by decide +kernel
theorem d_M_restore_91 : decode b_M_restore 91 = .ok (.imul, 1) := by decide +kernel
theorem d_M_restore_92 : decode b_M_restore 92 = .ok (.lshl, 1) := by decide +kernel
theorem d_M_restore_93 : decode b_M_restore 93 = .ok (.lor, 1) := by decide +kernel
theorem d_M_restore_94 : decode b_M_restore 94 = .ok (.lstore_n 3, 1) := by decide +kernel
theorem d_M_restore_95 : decode b_M_restore 95 = .ok (.iinc 5 1, 3) := by decide +kernel
theorem d_M_restore_98 : decode b_M_restore 98 = .ok (.goto (-39), 3) := by decide +kernel
theorem d_M_restore_101 : decode b_M_restore 101 = .ok (.lload_n 3, 1) := by decide +kernel
theorem d_M_restore_102 : decode b_M_restore 102 = .ok (.lreturn, 1) := by decide +kernel
set_option maxHeartbeats 4000000 in
set_option maxRecDepth 100000 in
theorem c_M_feed_1 (l : Launch) (D : va_G) (cI cZ cQ : ClassId) (qm : Nat) (mp : Nat) (mt : Nat) (ml : Nat) (mc : Nat) (mf : Nat) (me : Nat) (mg : Nat) (mh : Nat) (mu : Nat) (k : Nat) (n : Nat) (pn : Nat) (nx : Nat) (cd : Int32) (ep : Int32) (M : mm_T) (wi : Int32) (jb : Int32) (fp : Int32) (tf : Int32) (tt : Int32) (fi : Int32) (ln : Int32) (bx : Int32) (pr : Nat → Int32) (tk : Nat → Int32) (le : Nat → Int32) (co : Nat → Int32) (fr : Nat → Int32) (em : Nat → Int32) (nb : Nat → Int32) (su : Nat → Int32) (x : Int64) (m9 : Int32) (hk : k ≤ 9) (hn : n ≤ 9) (hm : ¬ (1 ≤ m9 ∧ m9 ≤ 8)) : sd_I l D (tyL cI cZ cQ) y_M_feed b_M_feed 5 (.int) ({ frames := 0, cells := 0, slots := 0, locals := 0 }) [.ref qm, .long (x), .int (m9)] (mW cI cZ qm mp mt ml mc mf me mg mh mu (cd) (nI k) (nI n) (nI (pn)) (nI (nx)) (ep) (nI (M.1)) (M.2.2.1) (M.2.2.2) (wi) (jb) (fp) (tf) (tt) (fi) (ln) (bx) (1000) (pr) (1000) (tk) (8) (le) (576) (co) (576) (fr) (10) (em) (192) (M.2.1) (10) (nb) (10) (su)) (0) (mW cI cZ qm mp mt ml mc mf me mg mh mu (1) (nI k) (nI n) (nI (pn)) (nI (nx)) (ep) (nI (M.1)) (M.2.2.1) (M.2.2.2) (wi) (jb) (fp) (tf) (tt) (fi) (ln) (bx) (1000) (pr) (1000) (tk) (8) (le) (576) (co) (576) (fr) (10) (em) (192) (M.2.1) (10) (nb) (10) (su)) := by
  refine sd_ofI (by decide) (Nat.le_of_ble_eq_true rfl) ?_
  intro p e s m below meth c A ls hx hb hr hml hlk hown hts hK hP hD hA hS hl
  have hl : lv_has ls 5 [(0, .ref qm), (1, .long (x)), (3, .int (m9))] := hl
  refine lv_aload_n hx hb d_M_feed_0 rfl (lv_at hl 0 rfl) ?_
  refine lv_iload_n hx hb d_M_feed_1 rfl (lv_at hl 2 rfl) ?_
  refine lv_iconst (v := 1) hx hb d_M_feed_2 (by decide) ?_
  refine lv_icmp_lt (tgt := 12) hx hb d_M_feed_3 rfl (fun hc3 => ?_) (fun hc3 => ?_)
  · skip
    refine lv_iconst (v := 1) hx hb d_M_feed_12 (by decide) ?_
    refine lv_goto (tgt := 33) hx hb d_M_feed_13 rfl ?_
    refine va_put (D := D) (ci := 5) (v := .int (1)) (ty := .int) (C := R_M) (T := F_M) (N := 26) hx hb hts wl_M t_M t_M_ok n_M hown hK hP hD hS 0 rfl rfl 0 (by decide) (hts _ wf_M_51) (fun _ h9 => h9) rfl (by decide +kernel) rfl rfl (Nat.le_of_ble_eq_true rfl) d_M_feed_33 (fun H locs hP hD hS => ?_)
    have hP : va_P D cls (mW cI cZ qm mp mt ml mc mf me mg mh mu (1) (nI k) (nI n) (nI (pn)) (nI (nx)) (ep) (nI (M.1)) (M.2.2.1) (M.2.2.2) (wi) (jb) (fp) (tf) (tt) (fi) (ln) (bx) (1000) (pr) (1000) (tk) (8) (le) (576) (co) (576) (fr) (10) (em) (192) (M.2.1) (10) (nb) (10) (su)) H := hP
    have hD : va_D A (mW cI cZ qm mp mt ml mc mf me mg mh mu (1) (nI k) (nI n) (nI (pn)) (nI (nx)) (ep) (nI (M.1)) (M.2.2.1) (M.2.2.2) (wi) (jb) (fp) (tf) (tt) (fi) (ln) (bx) (1000) (pr) (1000) (tk) (8) (le) (576) (co) (576) (fr) (10) (em) (192) (M.2.1) (10) (nb) (10) (su)) := hD
    refine lv_aload_n hx hb d_M_feed_36 rfl (lv_at hl 0 rfl) ?_
    refine va_get (D := D) (ci := 5) (v := .int (1)) (C := R_M) (T := F_M) (N := 26) hx hb hts wl_M hown hK hP 0 rfl rfl 0 (by decide) (hts _ wf_M_51) (fun _ h9 => h9) rfl d_M_feed_37 ?_
    refine lv_if_le (tgt := 45) hx hb d_M_feed_40 rfl (fun hc40 => ?_) (fun hc40 => ?_)
    · skip
      exact False.elim (by revert hc40; decide)
    · skip
      refine lv_iconst (v := 0) hx hb d_M_feed_43 (by decide) ?_
      exact sd_iret hx hb hr hlk hP hS (Nat.le_of_ble_eq_true rfl) (Nat.le_of_ble_eq_true rfl) (rfl) d_M_feed_44
  · skip
    refine lv_iload_n hx hb d_M_feed_6 rfl (lv_at hl 2 rfl) ?_
    refine lv_bipush (v := 8) hx hb d_M_feed_7 (by decide) ?_
    refine lv_icmp_le (tgt := 16) hx hb d_M_feed_9 rfl (fun hc9 => ?_) (fun hc9 => ?_)
    · skip
      exact absurd ⟨Int32.not_lt.mp hc3, hc9⟩ hm
    · skip
      refine lv_iconst (v := 1) hx hb d_M_feed_12 (by decide) ?_
      refine lv_goto (tgt := 33) hx hb d_M_feed_13 rfl ?_
      refine va_put (D := D) (ci := 5) (v := .int (1)) (ty := .int) (C := R_M) (T := F_M) (N := 26) hx hb hts wl_M t_M t_M_ok n_M hown hK hP hD hS 0 rfl rfl 0 (by decide) (hts _ wf_M_51) (fun _ h9 => h9) rfl (by decide +kernel) rfl rfl (Nat.le_of_ble_eq_true rfl) d_M_feed_33 (fun H locs hP hD hS => ?_)
      have hP : va_P D cls (mW cI cZ qm mp mt ml mc mf me mg mh mu (1) (nI k) (nI n) (nI (pn)) (nI (nx)) (ep) (nI (M.1)) (M.2.2.1) (M.2.2.2) (wi) (jb) (fp) (tf) (tt) (fi) (ln) (bx) (1000) (pr) (1000) (tk) (8) (le) (576) (co) (576) (fr) (10) (em) (192) (M.2.1) (10) (nb) (10) (su)) H := hP
      have hD : va_D A (mW cI cZ qm mp mt ml mc mf me mg mh mu (1) (nI k) (nI n) (nI (pn)) (nI (nx)) (ep) (nI (M.1)) (M.2.2.1) (M.2.2.2) (wi) (jb) (fp) (tf) (tt) (fi) (ln) (bx) (1000) (pr) (1000) (tk) (8) (le) (576) (co) (576) (fr) (10) (em) (192) (M.2.1) (10) (nb) (10) (su)) := hD
      refine lv_aload_n hx hb d_M_feed_36 rfl (lv_at hl 0 rfl) ?_
      refine va_get (D := D) (ci := 5) (v := .int (1)) (C := R_M) (T := F_M) (N := 26) hx hb hts wl_M hown hK hP 0 rfl rfl 0 (by decide) (hts _ wf_M_51) (fun _ h9 => h9) rfl d_M_feed_37 ?_
      refine lv_if_le (tgt := 45) hx hb d_M_feed_40 rfl (fun hc40 => ?_) (fun hc40 => ?_)
      · skip
        exact False.elim (by revert hc40; decide)
      · skip
        refine lv_iconst (v := 0) hx hb d_M_feed_43 (by decide) ?_
        exact sd_iret hx hb hr hlk hP hS (Nat.le_of_ble_eq_true rfl) (Nat.le_of_ble_eq_true rfl) (rfl) d_M_feed_44
set_option maxHeartbeats 4000000 in
set_option maxRecDepth 100000 in
theorem c_M_feed_2 (l : Launch) (D : va_G) (cI cZ cQ : ClassId) (qm : Nat) (mp : Nat) (mt : Nat) (ml : Nat) (mc : Nat) (mf : Nat) (me : Nat) (mg : Nat) (mh : Nat) (mu : Nat) (k : Nat) (n : Nat) (pn : Nat) (nx : Nat) (cd : Int32) (ep : Int32) (M : mm_T) (wi : Int32) (jb : Int32) (fp : Int32) (tf : Int32) (tt : Int32) (fi : Int32) (ln : Int32) (bx : Int32) (pr : Nat → Int32) (tk : Nat → Int32) (le : Nat → Int32) (co : Nat → Int32) (fr : Nat → Int32) (em : Nat → Int32) (nb : Nat → Int32) (su : Nat → Int32) (x : Int64) (mm : Nat) (hk : k ≤ 9) (hn : n ≤ 9) (hm1 : 1 ≤ mm) (hm8 : mm ≤ 8) (hpn : pn ≤ 1000) (hp : 1000 < pn + mm) : sd_I l D (tyL cI cZ cQ) y_M_feed b_M_feed 5 (.int) ({ frames := 0, cells := 0, slots := 0, locals := 0 }) [.ref qm, .long (x), .int (nI mm)] (mW cI cZ qm mp mt ml mc mf me mg mh mu (cd) (nI k) (nI n) (nI (pn)) (nI (nx)) (ep) (nI (M.1)) (M.2.2.1) (M.2.2.2) (wi) (jb) (fp) (tf) (tt) (fi) (ln) (bx) (1000) (pr) (1000) (tk) (8) (le) (576) (co) (576) (fr) (10) (em) (192) (M.2.1) (10) (nb) (10) (su)) (0) (mW cI cZ qm mp mt ml mc mf me mg mh mu (2) (nI k) (nI n) (nI (pn)) (nI (nx)) (ep) (nI (M.1)) (M.2.2.1) (M.2.2.2) (wi) (jb) (fp) (tf) (tt) (fi) (ln) (bx) (1000) (pr) (1000) (tk) (8) (le) (576) (co) (576) (fr) (10) (em) (192) (M.2.1) (10) (nb) (10) (su)) := by
  refine sd_ofI (by decide) (Nat.le_of_ble_eq_true rfl) ?_
  intro p e s m below meth c A ls hx hb hr hml hlk hown hts hK hP hD hA hS hl
  have hl : lv_has ls 5 [(0, .ref qm), (1, .long (x)), (3, .int (nI mm))] := hl
  refine lv_aload_n hx hb d_M_feed_0 rfl (lv_at hl 0 rfl) ?_
  refine lv_iload_n hx hb d_M_feed_1 rfl (lv_at hl 2 rfl) ?_
  refine lv_iconst (v := nI 1) hx hb d_M_feed_2 (by decide) ?_
  refine lv_icmp_lt (tgt := 12) hx hb d_M_feed_3 rfl (fun hc3 => ?_) (fun hc3 => ?_)
  · skip
    exact absurd hc3 (nI_nlt (by omega) (by omega))
  · skip
    refine lv_iload_n hx hb d_M_feed_6 rfl (lv_at hl 2 rfl) ?_
    refine lv_bipush (v := nI 8) hx hb d_M_feed_7 (by decide) ?_
    refine lv_icmp_le (tgt := 16) hx hb d_M_feed_9 rfl (fun hc9 => ?_) (fun hc9 => ?_)
    · skip
      refine lv_aload_n hx hb d_M_feed_16 rfl (lv_at hl 0 rfl) ?_
      refine va_get (D := D) (ci := 5) (v := .int (nI (pn))) (C := R_M) (T := F_M) (N := 26) hx hb hts wl_M hown hK hP 0 rfl rfl 3 (by decide) (hts _ wf_M_58) (fun _ h9 => h9) rfl d_M_feed_17 ?_
      refine lv_iload_n hx hb d_M_feed_20 rfl (lv_at hl 2 rfl) ?_
      refine lv_iadd hx hb d_M_feed_21 ?_
      refine sd_top (y := nI (pn + mm)) (nI_add _ _) ?_
      refine lv_sipush (v := nI 1000) hx hb d_M_feed_22 (by decide) ?_
      refine lv_icmp_le (tgt := 32) hx hb d_M_feed_25 rfl (fun hc25 => ?_) (fun hc25 => ?_)
      · skip
        exact absurd hc25 (nI_ge (by omega) (by omega))
      · skip
        refine lv_iconst (v := 2) hx hb d_M_feed_28 (by decide) ?_
        refine lv_goto (tgt := 33) hx hb d_M_feed_29 rfl ?_
        refine va_put (D := D) (ci := 5) (v := .int (2)) (ty := .int) (C := R_M) (T := F_M) (N := 26) hx hb hts wl_M t_M t_M_ok n_M hown hK hP hD hS 0 rfl rfl 0 (by decide) (hts _ wf_M_51) (fun _ h9 => h9) rfl (by decide +kernel) rfl rfl (Nat.le_of_ble_eq_true rfl) d_M_feed_33 (fun H locs hP hD hS => ?_)
        have hP : va_P D cls (mW cI cZ qm mp mt ml mc mf me mg mh mu (2) (nI k) (nI n) (nI (pn)) (nI (nx)) (ep) (nI (M.1)) (M.2.2.1) (M.2.2.2) (wi) (jb) (fp) (tf) (tt) (fi) (ln) (bx) (1000) (pr) (1000) (tk) (8) (le) (576) (co) (576) (fr) (10) (em) (192) (M.2.1) (10) (nb) (10) (su)) H := hP
        have hD : va_D A (mW cI cZ qm mp mt ml mc mf me mg mh mu (2) (nI k) (nI n) (nI (pn)) (nI (nx)) (ep) (nI (M.1)) (M.2.2.1) (M.2.2.2) (wi) (jb) (fp) (tf) (tt) (fi) (ln) (bx) (1000) (pr) (1000) (tk) (8) (le) (576) (co) (576) (fr) (10) (em) (192) (M.2.1) (10) (nb) (10) (su)) := hD
        refine lv_aload_n hx hb d_M_feed_36 rfl (lv_at hl 0 rfl) ?_
        refine va_get (D := D) (ci := 5) (v := .int (2)) (C := R_M) (T := F_M) (N := 26) hx hb hts wl_M hown hK hP 0 rfl rfl 0 (by decide) (hts _ wf_M_51) (fun _ h9 => h9) rfl d_M_feed_37 ?_
        refine lv_if_le (tgt := 45) hx hb d_M_feed_40 rfl (fun hc40 => ?_) (fun hc40 => ?_)
        · skip
          exact False.elim (by revert hc40; decide)
        · skip
          refine lv_iconst (v := 0) hx hb d_M_feed_43 (by decide) ?_
          exact sd_iret hx hb hr hlk hP hS (Nat.le_of_ble_eq_true rfl) (Nat.le_of_ble_eq_true rfl) (rfl) d_M_feed_44
    · skip
      exact absurd (nI_le (by omega) (by omega)) hc9
set_option maxHeartbeats 4000000 in
set_option maxRecDepth 100000 in
theorem c_M_feed_0 (l : Launch) (D : va_G) (cI cZ cQ : ClassId) (qm : Nat) (mp : Nat) (mt : Nat) (ml : Nat) (mc : Nat) (mf : Nat) (me : Nat) (mg : Nat) (mh : Nat) (mu : Nat) (k : Nat) (n : Nat) (pn : Nat) (nx : Nat) (cd : Int32) (ep : Int32) (M : mm_T) (wi : Int32) (jb : Int32) (fp : Int32) (tf : Int32) (tt : Int32) (fi : Int32) (ln : Int32) (bx : Int32) (pr : Nat → Int32) (tk : Nat → Int32) (le : Nat → Int32) (co : Nat → Int32) (fr : Nat → Int32) (em : Nat → Int32) (nb : Nat → Int32) (su : Nat → Int32) (x : Int64) (mm : Nat) (hk : k ≤ 9) (hn : n ≤ 9) (hm1 : 1 ≤ mm) (hm8 : mm ≤ 8) (hp : pn + mm ≤ 1000) : sd_I l D (tyL cI cZ cQ) y_M_feed b_M_feed 5 (.int) ({ frames := 0, cells := 0, slots := 0, locals := 0 }) [.ref qm, .long (x), .int (nI mm)] (mW cI cZ qm mp mt ml mc mf me mg mh mu (cd) (nI k) (nI n) (nI (pn)) (nI (nx)) (ep) (nI (M.1)) (M.2.2.1) (M.2.2.2) (wi) (jb) (fp) (tf) (tt) (fi) (ln) (bx) (1000) (pr) (1000) (tk) (8) (le) (576) (co) (576) (fr) (10) (em) (192) (M.2.1) (10) (nb) (10) (su)) (nI (pn + mm)) (mW cI cZ qm mp mt ml mc mf me mg mh mu (0) (nI k) (nI n) (nI (pn + mm)) (nI (nx)) (ep) (nI (M.1)) (M.2.2.1) (M.2.2.2) (wi) (jb) (fp) (tf) (tt) (fi) (ln) (bx) (1000) (fd_f x pn mm pr) (1000) (tk) (8) (le) (576) (co) (576) (fr) (10) (em) (192) (M.2.1) (10) (nb) (10) (su)) := by
  refine sd_ofI (by decide) (Nat.le_of_ble_eq_true rfl) ?_
  intro p e s m below meth c A ls hx hb hr hml hlk hown hts hK hP hD hA hS hl
  have hl : lv_has ls 5 [(0, .ref qm), (1, .long (x)), (3, .int (nI mm))] := hl
  refine lv_aload_n hx hb d_M_feed_0 rfl (lv_at hl 0 rfl) ?_
  refine lv_iload_n hx hb d_M_feed_1 rfl (lv_at hl 2 rfl) ?_
  refine lv_iconst (v := nI 1) hx hb d_M_feed_2 (by decide) ?_
  refine lv_icmp_lt (tgt := 12) hx hb d_M_feed_3 rfl (fun hc3 => ?_) (fun hc3 => ?_)
  · skip
    exact absurd hc3 (nI_nlt (by omega) (by omega))
  · skip
    refine lv_iload_n hx hb d_M_feed_6 rfl (lv_at hl 2 rfl) ?_
    refine lv_bipush (v := nI 8) hx hb d_M_feed_7 (by decide) ?_
    refine lv_icmp_le (tgt := 16) hx hb d_M_feed_9 rfl (fun hc9 => ?_) (fun hc9 => ?_)
    · skip
      refine lv_aload_n hx hb d_M_feed_16 rfl (lv_at hl 0 rfl) ?_
      refine va_get (D := D) (ci := 5) (v := .int (nI (pn))) (C := R_M) (T := F_M) (N := 26) hx hb hts wl_M hown hK hP 0 rfl rfl 3 (by decide) (hts _ wf_M_58) (fun _ h9 => h9) rfl d_M_feed_17 ?_
      refine lv_iload_n hx hb d_M_feed_20 rfl (lv_at hl 2 rfl) ?_
      refine lv_iadd hx hb d_M_feed_21 ?_
      refine sd_top (y := nI (pn + mm)) (nI_add _ _) ?_
      refine lv_sipush (v := nI 1000) hx hb d_M_feed_22 (by decide) ?_
      refine lv_icmp_le (tgt := 32) hx hb d_M_feed_25 rfl (fun hc25 => ?_) (fun hc25 => ?_)
      · skip
        refine lv_iconst (v := 0) hx hb d_M_feed_32 (by decide) ?_
        refine va_put (D := D) (ci := 5) (v := .int (0)) (ty := .int) (C := R_M) (T := F_M) (N := 26) hx hb hts wl_M t_M t_M_ok n_M hown hK hP hD hS 0 rfl rfl 0 (by decide) (hts _ wf_M_51) (fun _ h9 => h9) rfl (by decide +kernel) rfl rfl (Nat.le_of_ble_eq_true rfl) d_M_feed_33 (fun H locs hP hD hS => ?_)
        have hP : va_P D cls (mW cI cZ qm mp mt ml mc mf me mg mh mu (0) (nI k) (nI n) (nI (pn)) (nI (nx)) (ep) (nI (M.1)) (M.2.2.1) (M.2.2.2) (wi) (jb) (fp) (tf) (tt) (fi) (ln) (bx) (1000) (pr) (1000) (tk) (8) (le) (576) (co) (576) (fr) (10) (em) (192) (M.2.1) (10) (nb) (10) (su)) H := hP
        have hD : va_D A (mW cI cZ qm mp mt ml mc mf me mg mh mu (0) (nI k) (nI n) (nI (pn)) (nI (nx)) (ep) (nI (M.1)) (M.2.2.1) (M.2.2.2) (wi) (jb) (fp) (tf) (tt) (fi) (ln) (bx) (1000) (pr) (1000) (tk) (8) (le) (576) (co) (576) (fr) (10) (em) (192) (M.2.1) (10) (nb) (10) (su)) := hD
        refine lv_aload_n hx hb d_M_feed_36 rfl (lv_at hl 0 rfl) ?_
        refine va_get (D := D) (ci := 5) (v := .int (0)) (C := R_M) (T := F_M) (N := 26) hx hb hts wl_M hown hK hP 0 rfl rfl 0 (by decide) (hts _ wf_M_51) (fun _ h9 => h9) rfl d_M_feed_37 ?_
        refine lv_if_le (tgt := 45) hx hb d_M_feed_40 rfl (fun hc40 => ?_) (fun hc40 => ?_)
        · skip
          refine lv_iconst (v := 0) hx hb d_M_feed_45 (by decide) ?_
          refine sd_top (y := nI 0) (rfl) ?_
          refine lv_istore hx hb d_M_feed_46 hl (Nat.le_of_ble_eq_true rfl) (lv' := [(4, .int (nI 0)), (0, .ref qm), (1, .long (x)), (3, .int (nI mm))]) rfl (fun ls hl => ?_)
          have hl := lv_sub hl (l' := [(0, .ref qm), (1, .long (x)), (3, .int (nI mm)), (4, .int (nI 0))]) [1, 2, 3, 0] rfl
          have loop48 : ∀ (d : Nat) (j : Nat) (ls : Array Slot) (H : Heap) (locs : List Loc), mm - j = d → (j ≤ mm) → lv_has ls 5 [(0, .ref qm), (1, .long (x)), (3, .int (nI mm)), (4, .int (nI (j)))] → va_P D cls (mW cI cZ qm mp mt ml mc mf me mg mh mu (0) (nI k) (nI n) (nI (pn + j)) (nI (nx)) (ep) (nI (M.1)) (M.2.2.1) (M.2.2.2) (wi) (jb) (fp) (tf) (tt) (fi) (ln) (bx) (1000) (fd_f x pn j pr) (1000) (tk) (8) (le) (576) (co) (576) (fr) (10) (em) (192) (M.2.1) (10) (nb) (10) (su)) H → va_D A (mW cI cZ qm mp mt ml mc mf me mg mh mu (0) (nI k) (nI n) (nI (pn + j)) (nI (nx)) (ep) (nI (M.1)) (M.2.2.1) (M.2.2.2) (wi) (jb) (fp) (tf) (tt) (fi) (ln) (bx) (1000) (fd_f x pn j pr) (1000) (tk) (8) (le) (576) (co) (576) (fr) (10) (em) (192) (M.2.1) (10) (nb) (10) (su)) → va_S A s.heap H locs → W p l e ({ frames := 0, cells := 0, slots := 0, locals := 0 }) s m ([.ref qm, .long (x), .int (nI mm)] : List Value).toArray below meth c H locs 0 0 (MQ below (sd_qi D (nI (pn + mm)) (mW cI cZ qm mp mt ml mc mf me mg mh mu (0) (nI k) (nI n) (nI (pn + mm)) (nI (nx)) (ep) (nI (M.1)) (M.2.2.1) (M.2.2.2) (wi) (jb) (fp) (tf) (tt) (fi) (ln) (bx) (1000) (fd_f x pn mm pr) (1000) (tk) (8) (le) (576) (co) (576) (fr) (10) (em) (192) (M.2.1) (10) (nb) (10) (su)) A) ([.ref qm, .long (x), .int (nI mm)] : List Value).toArray s 0 0 A) (F0 m 48 ls []) := by
            intro d
            induction d using Nat.strongRecOn with
            | _ d ih48 =>
            intro j ls H locs hd hj hl hP hD hS
            subst hd
            refine lv_iload hx hb d_M_feed_48 (lv_at hl 3 rfl) ?_
            refine lv_iload_n hx hb d_M_feed_50 rfl (lv_at hl 2 rfl) ?_
            refine lv_icmp_ge (tgt := 91) hx hb d_M_feed_51 rfl (fun hc51 => ?_) (fun hc51 => ?_)
            · skip
              rw [nI_leI (by omega) (by omega)] at hc51
              refine lv_aload_n hx hb d_M_feed_91 rfl (lv_at hl 0 rfl) ?_
              refine va_get (D := D) (ci := 5) (v := .int (nI (pn + j))) (C := R_M) (T := F_M) (N := 26) hx hb hts wl_M hown hK hP 0 rfl rfl 3 (by decide) (hts _ wf_M_58) (fun _ h9 => h9) rfl d_M_feed_92 ?_
              have hjm : mm = j := by omega
              subst hjm
              exact sd_iret hx hb hr hlk hP hS (Nat.le_of_ble_eq_true rfl) (Nat.le_of_ble_eq_true rfl) (rfl) d_M_feed_95
            · skip
              rw [nI_leI (by omega) (by omega)] at hc51
              refine lv_aload_n hx hb d_M_feed_54 rfl (lv_at hl 0 rfl) ?_
              refine va_get (D := D) (ci := 5) (v := .ref mp) (C := R_M) (T := F_M) (N := 26) hx hb hts wl_M hown hK hP 0 rfl rfl 4 (by decide) (hts _ wf_M_7) (fun _ h9 => h9) rfl d_M_feed_55 ?_
              refine lv_aload_n hx hb d_M_feed_58 rfl (lv_at hl 0 rfl) ?_
              refine va_get (D := D) (ci := 5) (v := .int (nI (pn + j))) (C := R_M) (T := F_M) (N := 26) hx hb hts wl_M hown hK hP 0 rfl rfl 3 (by decide) (hts _ wf_M_58) (fun _ h9 => h9) rfl d_M_feed_59 ?_
              refine lv_lload_n hx hb d_M_feed_62 rfl (lv_at hl 1 rfl) ?_
              refine lv_bipush (v := nI 8) hx hb d_M_feed_63 (by decide) ?_
              refine lv_iload hx hb d_M_feed_65 (lv_at hl 3 rfl) ?_
              refine lv_imul hx hb d_M_feed_67 ?_
              refine lv_lshr hx hb d_M_feed_68 rfl ?_
              refine lv_ldc2 (v := 255) hx hb hown (hts _ wq_M_61) d_M_feed_69 ?_
              refine lv_land hx hb d_M_feed_72 ?_
              refine lv_l2i hx hb d_M_feed_73 rfl ?_
              refine sd_top (y := bI (lb x j)) (lb_B x (by omega)) ?_
              refine sd_iast (j := pn + j) hx hb hK hP hD hS 1 0 rfl rfl (by omega) (by omega) d_M_feed_74 (fun H locs hP hD hS => ?_)
              have hP : va_P D cls (mW cI cZ qm mp mt ml mc mf me mg mh mu (0) (nI k) (nI n) (nI (pn + j)) (nI (nx)) (ep) (nI (M.1)) (M.2.2.1) (M.2.2.2) (wi) (jb) (fp) (tf) (tt) (fi) (ln) (bx) (1000) (upd (fd_f x pn j pr) (pn + j) (bI (lb x j))) (1000) (tk) (8) (le) (576) (co) (576) (fr) (10) (em) (192) (M.2.1) (10) (nb) (10) (su)) H := hP
              have hD : va_D A (mW cI cZ qm mp mt ml mc mf me mg mh mu (0) (nI k) (nI n) (nI (pn + j)) (nI (nx)) (ep) (nI (M.1)) (M.2.2.1) (M.2.2.2) (wi) (jb) (fp) (tf) (tt) (fi) (ln) (bx) (1000) (upd (fd_f x pn j pr) (pn + j) (bI (lb x j))) (1000) (tk) (8) (le) (576) (co) (576) (fr) (10) (em) (192) (M.2.1) (10) (nb) (10) (su)) := hD
              refine lv_aload_n hx hb d_M_feed_75 rfl (lv_at hl 0 rfl) ?_
              refine lv_dup hx hb d_M_feed_76 rfl ?_
              refine va_get (D := D) (ci := 5) (v := .int (nI (pn + j))) (C := R_M) (T := F_M) (N := 26) hx hb hts wl_M hown hK hP 0 rfl rfl 3 (by decide) (hts _ wf_M_58) (fun _ h9 => h9) rfl d_M_feed_77 ?_
              refine lv_iconst (v := 1) hx hb d_M_feed_80 (by decide) ?_
              refine lv_iadd hx hb d_M_feed_81 ?_
              refine sd_top (y := nI (pn + j + 1)) (nI_1 _) ?_
              refine va_put (D := D) (ci := 5) (v := .int (nI (pn + j + 1))) (ty := .int) (C := R_M) (T := F_M) (N := 26) hx hb hts wl_M t_M t_M_ok n_M hown hK hP hD hS 0 rfl rfl 3 (by decide) (hts _ wf_M_58) (fun _ h9 => h9) rfl (by decide +kernel) rfl rfl (Nat.le_of_ble_eq_true rfl) d_M_feed_82 (fun H locs hP hD hS => ?_)
              have hP : va_P D cls (mW cI cZ qm mp mt ml mc mf me mg mh mu (0) (nI k) (nI n) (nI (pn + j + 1)) (nI (nx)) (ep) (nI (M.1)) (M.2.2.1) (M.2.2.2) (wi) (jb) (fp) (tf) (tt) (fi) (ln) (bx) (1000) (upd (fd_f x pn j pr) (pn + j) (bI (lb x j))) (1000) (tk) (8) (le) (576) (co) (576) (fr) (10) (em) (192) (M.2.1) (10) (nb) (10) (su)) H := hP
              have hD : va_D A (mW cI cZ qm mp mt ml mc mf me mg mh mu (0) (nI k) (nI n) (nI (pn + j + 1)) (nI (nx)) (ep) (nI (M.1)) (M.2.2.1) (M.2.2.2) (wi) (jb) (fp) (tf) (tt) (fi) (ln) (bx) (1000) (upd (fd_f x pn j pr) (pn + j) (bI (lb x j))) (1000) (tk) (8) (le) (576) (co) (576) (fr) (10) (em) (192) (M.2.1) (10) (nb) (10) (su)) := hD
              refine lv_iinc hx hb d_M_feed_85 hl (k := 3) rfl (v := nI (j + 1)) (ii_1 _) (Nat.le_of_ble_eq_true rfl) (lv' := [(4, .int (nI (j + 1))), (0, .ref qm), (1, .long (x)), (3, .int (nI mm))]) rfl (fun ls hl => ?_)
              refine lv_goto (tgt := 48) hx hb d_M_feed_88 rfl ?_
              have hl := lv_sub hl (l' := [(0, .ref qm), (1, .long (x)), (3, .int (nI mm)), (4, .int (nI (j + 1)))]) [1, 2, 3, 0] rfl
              exact ih48 _ (by omega) (j + 1) ls _ _ rfl (by omega) hl hP hD hS
          exact loop48 _ (0) ls _ _ rfl (Nat.zero_le _) hl hP hD hS
        · skip
          exact False.elim (by revert hc40; decide)
      · skip
        exact absurd (nI_le (by omega) (by omega)) hc25
    · skip
      exact absurd (nI_le (by omega) (by omega)) hc9
set_option maxHeartbeats 4000000 in
set_option maxRecDepth 100000 in
theorem c_M_empty_1 (l : Launch) (D : va_G) (cI cZ cQ : ClassId) (qm : Nat) (mp : Nat) (mt : Nat) (ml : Nat) (mc : Nat) (mf : Nat) (me : Nat) (mg : Nat) (mh : Nat) (mu : Nat) (k : Nat) (n : Nat) (pn : Nat) (nx : Nat) (cd : Int32) (ep : Int32) (M : mm_T) (wi : Int32) (jb : Int32) (fp : Int32) (tf : Int32) (tt : Int32) (fi : Int32) (ln : Int32) (bx : Int32) (pr : Nat → Int32) (tk : Nat → Int32) (le : Nat → Int32) (co : Nat → Int32) (fr : Nat → Int32) (em : Nat → Int32) (nb : Nat → Int32) (su : Nat → Int32) (b : Int32) (hk : k ≤ 9) (hn : n ≤ 9) (hbx : ¬ (1 ≤ b ∧ b ≤ nI n)) : sd_I l D (tyL cI cZ cQ) y_M_empty b_M_empty 2 (.int) ({ frames := 1, cells := 0, slots := 0, locals := 21 }) [.ref qm, .int (b)] (mW cI cZ qm mp mt ml mc mf me mg mh mu (cd) (nI k) (nI n) (nI (pn)) (nI (nx)) (ep) (nI (M.1)) (M.2.2.1) (M.2.2.2) (wi) (jb) (fp) (tf) (tt) (fi) (ln) (bx) (1000) (pr) (1000) (tk) (8) (le) (576) (co) (576) (fr) (10) (em) (192) (M.2.1) (10) (nb) (10) (su)) (0) (mW cI cZ qm mp mt ml mc mf me mg mh mu (1) (nI k) (nI n) (nI (pn)) (nI (nx)) (ep) (nI (M.1)) (M.2.2.1) (M.2.2.2) (wi) (jb) (fp) (tf) (tt) (fi) (ln) (bx) (1000) (pr) (1000) (tk) (8) (le) (576) (co) (576) (fr) (10) (em) (192) (M.2.1) (10) (nb) (10) (su)) := by
  refine sd_ofI (by decide) (Nat.le_of_ble_eq_true rfl) ?_
  intro p e s m below meth c A ls hx hb hr hml hlk hown hts hK hP hD hA hS hl
  have hl : lv_has ls 2 [(0, .ref qm), (1, .int (b))] := hl
  refine lv_aload_n hx hb d_M_empty_0 rfl (lv_at hl 0 rfl) ?_
  refine lv_aload_n hx hb d_M_empty_1 rfl (lv_at hl 0 rfl) ?_
  refine lv_iload_n hx hb d_M_empty_2 rfl (lv_at hl 1 rfl) ?_
  refine sd_allVI (As := [.int (b)]) (rest := [.ref qm]) (w1 := (mW cI cZ qm mp mt ml mc mf me mg mh mu (cd) (nI k) (nI n) (nI (pn)) (nI (nx)) (ep) (nI (M.1)) (M.2.2.1) (M.2.2.2) (wi) (jb) (fp) (tf) (tt) (fi) (ln) (bx) (1000) (pr) (1000) (tk) (8) (le) (576) (co) (576) (fr) (10) (em) (192) (M.2.1) (10) (nb) (10) (su))) (c_M_isBox_0 l D cI cZ cQ (qm) (mp) (mt) (ml) (mc) (mf) (me) (mg) (mh) (mu) (k) (n) (pn) (nx) (cd) (ep) (M) (wi) (jb) (fp) (tf) (tt) (fi) (ln) (bx) (pr) (tk) (le) (co) (fr) (em) (nb) (su) (b) (hk) (hn) (hbx)) ⟨wc_M_isBox, wm_M_145, wi_M, by decide, by decide, show (parseMethodDescriptor y_M_isBox.desc).map (fun d => d.parameters.length) = some 1 by decide +kernel⟩ wo_M_isBox wz_M_isBox hx hb hml hown hts hl.1 ⟨Nat.le_of_ble_eq_true rfl, Nat.le_of_ble_eq_true rfl⟩ ⟨Nat.le_of_ble_eq_true rfl, Nat.le_of_ble_eq_true rfl⟩ hK hP hD hS hA (rfl) (q0 := 0) rfl rfl rfl (Nat.le_of_ble_eq_true rfl) d_M_empty_3 (fun H locs hP hD hS => ?_)
  have hP : va_P D cls (mW cI cZ qm mp mt ml mc mf me mg mh mu (cd) (nI k) (nI n) (nI (pn)) (nI (nx)) (ep) (nI (M.1)) (M.2.2.1) (M.2.2.2) (wi) (jb) (fp) (tf) (tt) (fi) (ln) (bx) (1000) (pr) (1000) (tk) (8) (le) (576) (co) (576) (fr) (10) (em) (192) (M.2.1) (10) (nb) (10) (su)) H := hP
  have hD : va_D A (mW cI cZ qm mp mt ml mc mf me mg mh mu (cd) (nI k) (nI n) (nI (pn)) (nI (nx)) (ep) (nI (M.1)) (M.2.2.1) (M.2.2.2) (wi) (jb) (fp) (tf) (tt) (fi) (ln) (bx) (1000) (pr) (1000) (tk) (8) (le) (576) (co) (576) (fr) (10) (em) (192) (M.2.1) (10) (nb) (10) (su)) := hD
  refine lv_if_ne (tgt := 13) hx hb d_M_empty_6 rfl (fun hc6 => ?_) (fun hc6 => ?_)
  · skip
    exact False.elim (by revert hc6; decide)
  · skip
    refine lv_iconst (v := 1) hx hb d_M_empty_9 (by decide) ?_
    refine lv_goto (tgt := 45) hx hb d_M_empty_10 rfl ?_
    refine va_put (D := D) (ci := 5) (v := .int (1)) (ty := .int) (C := R_M) (T := F_M) (N := 26) hx hb hts wl_M t_M t_M_ok n_M hown hK hP hD hS 0 rfl rfl 0 (by decide) (hts _ wf_M_51) (fun _ h9 => h9) rfl (by decide +kernel) rfl rfl (Nat.le_of_ble_eq_true rfl) d_M_empty_45 (fun H locs hP hD hS => ?_)
    have hP : va_P D cls (mW cI cZ qm mp mt ml mc mf me mg mh mu (1) (nI k) (nI n) (nI (pn)) (nI (nx)) (ep) (nI (M.1)) (M.2.2.1) (M.2.2.2) (wi) (jb) (fp) (tf) (tt) (fi) (ln) (bx) (1000) (pr) (1000) (tk) (8) (le) (576) (co) (576) (fr) (10) (em) (192) (M.2.1) (10) (nb) (10) (su)) H := hP
    have hD : va_D A (mW cI cZ qm mp mt ml mc mf me mg mh mu (1) (nI k) (nI n) (nI (pn)) (nI (nx)) (ep) (nI (M.1)) (M.2.2.1) (M.2.2.2) (wi) (jb) (fp) (tf) (tt) (fi) (ln) (bx) (1000) (pr) (1000) (tk) (8) (le) (576) (co) (576) (fr) (10) (em) (192) (M.2.1) (10) (nb) (10) (su)) := hD
    refine lv_aload_n hx hb d_M_empty_48 rfl (lv_at hl 0 rfl) ?_
    refine va_get (D := D) (ci := 5) (v := .int (1)) (C := R_M) (T := F_M) (N := 26) hx hb hts wl_M hown hK hP 0 rfl rfl 0 (by decide) (hts _ wf_M_51) (fun _ h9 => h9) rfl d_M_empty_49 ?_
    refine lv_if_le (tgt := 57) hx hb d_M_empty_52 rfl (fun hc52 => ?_) (fun hc52 => ?_)
    · skip
      exact False.elim (by revert hc52; decide)
    · skip
      refine lv_iconst (v := 0) hx hb d_M_empty_55 (by decide) ?_
      exact sd_iret hx hb hr hlk hP hS (Nat.le_of_ble_eq_true rfl) (Nat.le_of_ble_eq_true rfl) (rfl) d_M_empty_56
set_option maxHeartbeats 4000000 in
set_option maxRecDepth 100000 in
theorem c_M_empty_2 (l : Launch) (D : va_G) (cI cZ cQ : ClassId) (qm : Nat) (mp : Nat) (mt : Nat) (ml : Nat) (mc : Nat) (mf : Nat) (me : Nat) (mg : Nat) (mh : Nat) (mu : Nat) (k : Nat) (n : Nat) (pn : Nat) (nx : Nat) (cd : Int32) (ep : Int32) (M : mm_T) (wi : Int32) (jb : Int32) (fp : Int32) (tf : Int32) (tt : Int32) (fi : Int32) (ln : Int32) (bx : Int32) (pr : Nat → Int32) (tk : Nat → Int32) (le : Nat → Int32) (co : Nat → Int32) (fr : Nat → Int32) (em : Nat → Int32) (nb : Nat → Int32) (su : Nat → Int32) (x : Nat) (hk : k ≤ 9) (hn : n ≤ 9) (hx1 : 1 ≤ x) (hxn : x ≤ n) (hE : ¬ em x = 0 ∨ sm_e em n ≤ k ∨ ¬ jb ≤ 0) : sd_I l D (tyL cI cZ cQ) y_M_empty b_M_empty 2 (.int) ({ frames := 1, cells := 0, slots := 0, locals := 22 }) [.ref qm, .int (nI x)] (mW cI cZ qm mp mt ml mc mf me mg mh mu (cd) (nI k) (nI n) (nI (pn)) (nI (nx)) (ep) (nI (M.1)) (M.2.2.1) (M.2.2.2) (wi) (jb) (fp) (tf) (tt) (fi) (ln) (bx) (1000) (pr) (1000) (tk) (8) (le) (576) (co) (576) (fr) (10) (em) (192) (M.2.1) (10) (nb) (10) (su)) (0) (mW cI cZ qm mp mt ml mc mf me mg mh mu (2) (nI k) (nI n) (nI (pn)) (nI (nx)) (ep) (nI (M.1)) (M.2.2.1) (M.2.2.2) (wi) (jb) (fp) (tf) (tt) (fi) (ln) (bx) (1000) (pr) (1000) (tk) (8) (le) (576) (co) (576) (fr) (10) (em) (192) (M.2.1) (10) (nb) (10) (su)) := by
  refine sd_ofI (by decide) (Nat.le_of_ble_eq_true rfl) ?_
  intro p e s m below meth c A ls hx hb hr hml hlk hown hts hK hP hD hA hS hl
  have hl : lv_has ls 2 [(0, .ref qm), (1, .int (nI x))] := hl
  have hse := sm_e_le em n
  refine lv_aload_n hx hb d_M_empty_0 rfl (lv_at hl 0 rfl) ?_
  refine lv_aload_n hx hb d_M_empty_1 rfl (lv_at hl 0 rfl) ?_
  refine lv_iload_n hx hb d_M_empty_2 rfl (lv_at hl 1 rfl) ?_
  refine sd_allVI (As := [.int (nI x)]) (rest := [.ref qm]) (w1 := (mW cI cZ qm mp mt ml mc mf me mg mh mu (cd) (nI k) (nI n) (nI (pn)) (nI (nx)) (ep) (nI (M.1)) (M.2.2.1) (M.2.2.2) (wi) (jb) (fp) (tf) (tt) (fi) (ln) (bx) (1000) (pr) (1000) (tk) (8) (le) (576) (co) (576) (fr) (10) (em) (192) (M.2.1) (10) (nb) (10) (su))) (c_M_isBox_1 l D cI cZ cQ (qm) (mp) (mt) (ml) (mc) (mf) (me) (mg) (mh) (mu) (k) (n) (pn) (nx) (cd) (ep) (M) (wi) (jb) (fp) (tf) (tt) (fi) (ln) (bx) (pr) (tk) (le) (co) (fr) (em) (nb) (su) (nI x) (hk) (hn) (bx_in hx1 hxn hn)) ⟨wc_M_isBox, wm_M_145, wi_M, by decide, by decide, show (parseMethodDescriptor y_M_isBox.desc).map (fun d => d.parameters.length) = some 1 by decide +kernel⟩ wo_M_isBox wz_M_isBox hx hb hml hown hts hl.1 ⟨Nat.le_of_ble_eq_true rfl, Nat.le_of_ble_eq_true rfl⟩ ⟨Nat.le_of_ble_eq_true rfl, Nat.le_of_ble_eq_true rfl⟩ hK hP hD hS hA (rfl) (q0 := 0) rfl rfl rfl (Nat.le_of_ble_eq_true rfl) d_M_empty_3 (fun H locs hP hD hS => ?_)
  have hP : va_P D cls (mW cI cZ qm mp mt ml mc mf me mg mh mu (cd) (nI k) (nI n) (nI (pn)) (nI (nx)) (ep) (nI (M.1)) (M.2.2.1) (M.2.2.2) (wi) (jb) (fp) (tf) (tt) (fi) (ln) (bx) (1000) (pr) (1000) (tk) (8) (le) (576) (co) (576) (fr) (10) (em) (192) (M.2.1) (10) (nb) (10) (su)) H := hP
  have hD : va_D A (mW cI cZ qm mp mt ml mc mf me mg mh mu (cd) (nI k) (nI n) (nI (pn)) (nI (nx)) (ep) (nI (M.1)) (M.2.2.1) (M.2.2.2) (wi) (jb) (fp) (tf) (tt) (fi) (ln) (bx) (1000) (pr) (1000) (tk) (8) (le) (576) (co) (576) (fr) (10) (em) (192) (M.2.1) (10) (nb) (10) (su)) := hD
  refine lv_if_ne (tgt := 13) hx hb d_M_empty_6 rfl (fun hc6 => ?_) (fun hc6 => ?_)
  · skip
    refine lv_aload_n hx hb d_M_empty_13 rfl (lv_at hl 0 rfl) ?_
    refine va_get (D := D) (ci := 5) (v := .ref me) (C := R_M) (T := F_M) (N := 26) hx hb hts wl_M hown hK hP 0 rfl rfl 11 (by decide) (hts _ wf_M_25) (fun _ h9 => h9) rfl d_M_empty_14 ?_
    refine lv_iload_n hx hb d_M_empty_17 rfl (lv_at hl 1 rfl) ?_
    refine sd_zald (j := x) hx hb hK hP 6 1 rfl rfl (by omega) (by omega) d_M_empty_18 ?_
    refine lv_if_ne (tgt := 40) hx hb d_M_empty_19 rfl (fun hc19 => ?_) (fun hc19 => ?_)
    · skip
      refine lv_iconst (v := 2) hx hb d_M_empty_40 (by decide) ?_
      refine lv_goto (tgt := 45) hx hb d_M_empty_41 rfl ?_
      refine va_put (D := D) (ci := 5) (v := .int (2)) (ty := .int) (C := R_M) (T := F_M) (N := 26) hx hb hts wl_M t_M t_M_ok n_M hown hK hP hD hS 0 rfl rfl 0 (by decide) (hts _ wf_M_51) (fun _ h9 => h9) rfl (by decide +kernel) rfl rfl (Nat.le_of_ble_eq_true rfl) d_M_empty_45 (fun H locs hP hD hS => ?_)
      have hP : va_P D cls (mW cI cZ qm mp mt ml mc mf me mg mh mu (2) (nI k) (nI n) (nI (pn)) (nI (nx)) (ep) (nI (M.1)) (M.2.2.1) (M.2.2.2) (wi) (jb) (fp) (tf) (tt) (fi) (ln) (bx) (1000) (pr) (1000) (tk) (8) (le) (576) (co) (576) (fr) (10) (em) (192) (M.2.1) (10) (nb) (10) (su)) H := hP
      have hD : va_D A (mW cI cZ qm mp mt ml mc mf me mg mh mu (2) (nI k) (nI n) (nI (pn)) (nI (nx)) (ep) (nI (M.1)) (M.2.2.1) (M.2.2.2) (wi) (jb) (fp) (tf) (tt) (fi) (ln) (bx) (1000) (pr) (1000) (tk) (8) (le) (576) (co) (576) (fr) (10) (em) (192) (M.2.1) (10) (nb) (10) (su)) := hD
      refine lv_aload_n hx hb d_M_empty_48 rfl (lv_at hl 0 rfl) ?_
      refine va_get (D := D) (ci := 5) (v := .int (2)) (C := R_M) (T := F_M) (N := 26) hx hb hts wl_M hown hK hP 0 rfl rfl 0 (by decide) (hts _ wf_M_51) (fun _ h9 => h9) rfl d_M_empty_49 ?_
      refine lv_if_le (tgt := 57) hx hb d_M_empty_52 rfl (fun hc52 => ?_) (fun hc52 => ?_)
      · skip
        exact False.elim (by revert hc52; decide)
      · skip
        refine lv_iconst (v := 0) hx hb d_M_empty_55 (by decide) ?_
        exact sd_iret hx hb hr hlk hP hS (Nat.le_of_ble_eq_true rfl) (Nat.le_of_ble_eq_true rfl) (rfl) d_M_empty_56
    · skip
      refine lv_aload_n hx hb d_M_empty_22 rfl (lv_at hl 0 rfl) ?_
      refine sd_allVI (As := []) (rest := [.ref qm]) (w1 := (mW cI cZ qm mp mt ml mc mf me mg mh mu (cd) (nI k) (nI n) (nI (pn)) (nI (nx)) (ep) (nI (M.1)) (M.2.2.1) (M.2.2.2) (wi) (jb) (fp) (tf) (tt) (fi) (ln) (bx) (1000) (pr) (1000) (tk) (8) (le) (576) (co) (576) (fr) (10) (em) (192) (M.2.1) (10) (nb) (10) (su))) (c_M_filled l D cI cZ cQ (qm) (mp) (mt) (ml) (mc) (mf) (me) (mg) (mh) (mu) (k) (n) (pn) (nx) (cd) (ep) (M) (wi) (jb) (fp) (tf) (tt) (fi) (ln) (bx) (pr) (tk) (le) (co) (fr) (em) (nb) (su) (hk) (hn)) ⟨wc_M_filled, wm_M_133, wi_M, by decide, by decide, show (parseMethodDescriptor y_M_filled.desc).map (fun d => d.parameters.length) = some 0 by decide +kernel⟩ wo_M_filled wz_M_filled hx hb hml hown hts hl.1 ⟨Nat.le_of_ble_eq_true rfl, Nat.le_of_ble_eq_true rfl⟩ ⟨Nat.le_of_ble_eq_true rfl, Nat.le_of_ble_eq_true rfl⟩ hK hP hD hS hA (rfl) (q0 := 0) rfl rfl rfl (Nat.le_of_ble_eq_true rfl) d_M_empty_23 (fun H locs hP hD hS => ?_)
      have hP : va_P D cls (mW cI cZ qm mp mt ml mc mf me mg mh mu (cd) (nI k) (nI n) (nI (pn)) (nI (nx)) (ep) (nI (M.1)) (M.2.2.1) (M.2.2.2) (wi) (jb) (fp) (tf) (tt) (fi) (ln) (bx) (1000) (pr) (1000) (tk) (8) (le) (576) (co) (576) (fr) (10) (em) (192) (M.2.1) (10) (nb) (10) (su)) H := hP
      have hD : va_D A (mW cI cZ qm mp mt ml mc mf me mg mh mu (cd) (nI k) (nI n) (nI (pn)) (nI (nx)) (ep) (nI (M.1)) (M.2.2.1) (M.2.2.2) (wi) (jb) (fp) (tf) (tt) (fi) (ln) (bx) (1000) (pr) (1000) (tk) (8) (le) (576) (co) (576) (fr) (10) (em) (192) (M.2.1) (10) (nb) (10) (su)) := hD
      refine lv_aload_n hx hb d_M_empty_26 rfl (lv_at hl 0 rfl) ?_
      refine va_get (D := D) (ci := 5) (v := .int (nI k)) (C := R_M) (T := F_M) (N := 26) hx hb hts wl_M hown hK hP 0 rfl rfl 1 (by decide) (hts _ wf_M_48) (fun _ h9 => h9) rfl d_M_empty_27 ?_
      refine lv_icmp_le (tgt := 40) hx hb d_M_empty_30 rfl (fun hc30 => ?_) (fun hc30 => ?_)
      · skip
        refine lv_iconst (v := 2) hx hb d_M_empty_40 (by decide) ?_
        refine lv_goto (tgt := 45) hx hb d_M_empty_41 rfl ?_
        refine va_put (D := D) (ci := 5) (v := .int (2)) (ty := .int) (C := R_M) (T := F_M) (N := 26) hx hb hts wl_M t_M t_M_ok n_M hown hK hP hD hS 0 rfl rfl 0 (by decide) (hts _ wf_M_51) (fun _ h9 => h9) rfl (by decide +kernel) rfl rfl (Nat.le_of_ble_eq_true rfl) d_M_empty_45 (fun H locs hP hD hS => ?_)
        have hP : va_P D cls (mW cI cZ qm mp mt ml mc mf me mg mh mu (2) (nI k) (nI n) (nI (pn)) (nI (nx)) (ep) (nI (M.1)) (M.2.2.1) (M.2.2.2) (wi) (jb) (fp) (tf) (tt) (fi) (ln) (bx) (1000) (pr) (1000) (tk) (8) (le) (576) (co) (576) (fr) (10) (em) (192) (M.2.1) (10) (nb) (10) (su)) H := hP
        have hD : va_D A (mW cI cZ qm mp mt ml mc mf me mg mh mu (2) (nI k) (nI n) (nI (pn)) (nI (nx)) (ep) (nI (M.1)) (M.2.2.1) (M.2.2.2) (wi) (jb) (fp) (tf) (tt) (fi) (ln) (bx) (1000) (pr) (1000) (tk) (8) (le) (576) (co) (576) (fr) (10) (em) (192) (M.2.1) (10) (nb) (10) (su)) := hD
        refine lv_aload_n hx hb d_M_empty_48 rfl (lv_at hl 0 rfl) ?_
        refine va_get (D := D) (ci := 5) (v := .int (2)) (C := R_M) (T := F_M) (N := 26) hx hb hts wl_M hown hK hP 0 rfl rfl 0 (by decide) (hts _ wf_M_51) (fun _ h9 => h9) rfl d_M_empty_49 ?_
        refine lv_if_le (tgt := 57) hx hb d_M_empty_52 rfl (fun hc52 => ?_) (fun hc52 => ?_)
        · skip
          exact False.elim (by revert hc52; decide)
        · skip
          refine lv_iconst (v := 0) hx hb d_M_empty_55 (by decide) ?_
          exact sd_iret hx hb hr hlk hP hS (Nat.le_of_ble_eq_true rfl) (Nat.le_of_ble_eq_true rfl) (rfl) d_M_empty_56
      · skip
        rw [nI_leI (by omega) (by omega)] at hc30
        refine lv_aload_n hx hb d_M_empty_33 rfl (lv_at hl 0 rfl) ?_
        refine va_get (D := D) (ci := 5) (v := .int (jb)) (C := R_M) (T := F_M) (N := 26) hx hb hts wl_M hown hK hP 0 rfl rfl 17 (by decide) (hts _ wf_M_100) (fun _ h9 => h9) rfl d_M_empty_34 ?_
        refine lv_if_le (tgt := 44) hx hb d_M_empty_37 rfl (fun hc37 => ?_) (fun hc37 => ?_)
        · skip
          exact (hE.elim (fun h => absurd hc19 h) (fun h => h.elim (fun h => absurd h hc30) (fun h => absurd hc37 h)))
        · skip
          refine lv_iconst (v := 2) hx hb d_M_empty_40 (by decide) ?_
          refine lv_goto (tgt := 45) hx hb d_M_empty_41 rfl ?_
          refine va_put (D := D) (ci := 5) (v := .int (2)) (ty := .int) (C := R_M) (T := F_M) (N := 26) hx hb hts wl_M t_M t_M_ok n_M hown hK hP hD hS 0 rfl rfl 0 (by decide) (hts _ wf_M_51) (fun _ h9 => h9) rfl (by decide +kernel) rfl rfl (Nat.le_of_ble_eq_true rfl) d_M_empty_45 (fun H locs hP hD hS => ?_)
          have hP : va_P D cls (mW cI cZ qm mp mt ml mc mf me mg mh mu (2) (nI k) (nI n) (nI (pn)) (nI (nx)) (ep) (nI (M.1)) (M.2.2.1) (M.2.2.2) (wi) (jb) (fp) (tf) (tt) (fi) (ln) (bx) (1000) (pr) (1000) (tk) (8) (le) (576) (co) (576) (fr) (10) (em) (192) (M.2.1) (10) (nb) (10) (su)) H := hP
          have hD : va_D A (mW cI cZ qm mp mt ml mc mf me mg mh mu (2) (nI k) (nI n) (nI (pn)) (nI (nx)) (ep) (nI (M.1)) (M.2.2.1) (M.2.2.2) (wi) (jb) (fp) (tf) (tt) (fi) (ln) (bx) (1000) (pr) (1000) (tk) (8) (le) (576) (co) (576) (fr) (10) (em) (192) (M.2.1) (10) (nb) (10) (su)) := hD
          refine lv_aload_n hx hb d_M_empty_48 rfl (lv_at hl 0 rfl) ?_
          refine va_get (D := D) (ci := 5) (v := .int (2)) (C := R_M) (T := F_M) (N := 26) hx hb hts wl_M hown hK hP 0 rfl rfl 0 (by decide) (hts _ wf_M_51) (fun _ h9 => h9) rfl d_M_empty_49 ?_
          refine lv_if_le (tgt := 57) hx hb d_M_empty_52 rfl (fun hc52 => ?_) (fun hc52 => ?_)
          · skip
            exact False.elim (by revert hc52; decide)
          · skip
            refine lv_iconst (v := 0) hx hb d_M_empty_55 (by decide) ?_
            exact sd_iret hx hb hr hlk hP hS (Nat.le_of_ble_eq_true rfl) (Nat.le_of_ble_eq_true rfl) (rfl) d_M_empty_56
  · skip
    exact False.elim (by revert hc6; decide)
set_option maxHeartbeats 4000000 in
set_option maxRecDepth 100000 in
theorem c_M_empty_0 (l : Launch) (D : va_G) (cI cZ cQ : ClassId) (qm : Nat) (mp : Nat) (mt : Nat) (ml : Nat) (mc : Nat) (mf : Nat) (me : Nat) (mg : Nat) (mh : Nat) (mu : Nat) (k : Nat) (n : Nat) (pn : Nat) (nx : Nat) (cd : Int32) (ep : Int32) (M : mm_T) (wi : Int32) (jb : Int32) (fp : Int32) (tf : Int32) (tt : Int32) (fi : Int32) (ln : Int32) (bx : Int32) (pr : Nat → Int32) (tk : Nat → Int32) (le : Nat → Int32) (co : Nat → Int32) (fr : Nat → Int32) (em : Nat → Int32) (nb : Nat → Int32) (su : Nat → Int32) (x : Nat) (hk : k ≤ 9) (hn : n ≤ 9) (hx1 : 1 ≤ x) (hxn : x ≤ n) (hE1 : em x = 0) (hE2 : ¬ sm_e em n ≤ k) (hE3 : jb ≤ 0) : sd_I l D (tyL cI cZ cQ) y_M_empty b_M_empty 2 (.int) ({ frames := 1, cells := 0, slots := 0, locals := 22 }) [.ref qm, .int (nI x)] (mW cI cZ qm mp mt ml mc mf me mg mh mu (cd) (nI k) (nI n) (nI (pn)) (nI (nx)) (ep) (nI (M.1)) (M.2.2.1) (M.2.2.2) (wi) (jb) (fp) (tf) (tt) (fi) (ln) (bx) (1000) (pr) (1000) (tk) (8) (le) (576) (co) (576) (fr) (10) (em) (192) (M.2.1) (10) (nb) (10) (su)) (nI (sm_e (upd em x 1) n)) (mW cI cZ qm mp mt ml mc mf me mg mh mu (0) (nI k) (nI n) (nI (pn)) (nI (nx)) (ep) (nI (M.1)) (M.2.2.1) (M.2.2.2) (wi) (jb) (fp) (tf) (tt) (fi) (ln) (bx) (1000) (pr) (1000) (tk) (8) (le) (576) (co) (576) (fr) (10) (upd em x 1) (192) (M.2.1) (10) (nb) (10) (su)) := by
  refine sd_ofI (by decide) (Nat.le_of_ble_eq_true rfl) ?_
  intro p e s m below meth c A ls hx hb hr hml hlk hown hts hK hP hD hA hS hl
  have hl : lv_has ls 2 [(0, .ref qm), (1, .int (nI x))] := hl
  have hse := sm_e_le em n
  refine lv_aload_n hx hb d_M_empty_0 rfl (lv_at hl 0 rfl) ?_
  refine lv_aload_n hx hb d_M_empty_1 rfl (lv_at hl 0 rfl) ?_
  refine lv_iload_n hx hb d_M_empty_2 rfl (lv_at hl 1 rfl) ?_
  refine sd_allVI (As := [.int (nI x)]) (rest := [.ref qm]) (w1 := (mW cI cZ qm mp mt ml mc mf me mg mh mu (cd) (nI k) (nI n) (nI (pn)) (nI (nx)) (ep) (nI (M.1)) (M.2.2.1) (M.2.2.2) (wi) (jb) (fp) (tf) (tt) (fi) (ln) (bx) (1000) (pr) (1000) (tk) (8) (le) (576) (co) (576) (fr) (10) (em) (192) (M.2.1) (10) (nb) (10) (su))) (c_M_isBox_1 l D cI cZ cQ (qm) (mp) (mt) (ml) (mc) (mf) (me) (mg) (mh) (mu) (k) (n) (pn) (nx) (cd) (ep) (M) (wi) (jb) (fp) (tf) (tt) (fi) (ln) (bx) (pr) (tk) (le) (co) (fr) (em) (nb) (su) (nI x) (hk) (hn) (bx_in hx1 hxn hn)) ⟨wc_M_isBox, wm_M_145, wi_M, by decide, by decide, show (parseMethodDescriptor y_M_isBox.desc).map (fun d => d.parameters.length) = some 1 by decide +kernel⟩ wo_M_isBox wz_M_isBox hx hb hml hown hts hl.1 ⟨Nat.le_of_ble_eq_true rfl, Nat.le_of_ble_eq_true rfl⟩ ⟨Nat.le_of_ble_eq_true rfl, Nat.le_of_ble_eq_true rfl⟩ hK hP hD hS hA (rfl) (q0 := 0) rfl rfl rfl (Nat.le_of_ble_eq_true rfl) d_M_empty_3 (fun H locs hP hD hS => ?_)
  have hP : va_P D cls (mW cI cZ qm mp mt ml mc mf me mg mh mu (cd) (nI k) (nI n) (nI (pn)) (nI (nx)) (ep) (nI (M.1)) (M.2.2.1) (M.2.2.2) (wi) (jb) (fp) (tf) (tt) (fi) (ln) (bx) (1000) (pr) (1000) (tk) (8) (le) (576) (co) (576) (fr) (10) (em) (192) (M.2.1) (10) (nb) (10) (su)) H := hP
  have hD : va_D A (mW cI cZ qm mp mt ml mc mf me mg mh mu (cd) (nI k) (nI n) (nI (pn)) (nI (nx)) (ep) (nI (M.1)) (M.2.2.1) (M.2.2.2) (wi) (jb) (fp) (tf) (tt) (fi) (ln) (bx) (1000) (pr) (1000) (tk) (8) (le) (576) (co) (576) (fr) (10) (em) (192) (M.2.1) (10) (nb) (10) (su)) := hD
  refine lv_if_ne (tgt := 13) hx hb d_M_empty_6 rfl (fun hc6 => ?_) (fun hc6 => ?_)
  · skip
    refine lv_aload_n hx hb d_M_empty_13 rfl (lv_at hl 0 rfl) ?_
    refine va_get (D := D) (ci := 5) (v := .ref me) (C := R_M) (T := F_M) (N := 26) hx hb hts wl_M hown hK hP 0 rfl rfl 11 (by decide) (hts _ wf_M_25) (fun _ h9 => h9) rfl d_M_empty_14 ?_
    refine lv_iload_n hx hb d_M_empty_17 rfl (lv_at hl 1 rfl) ?_
    refine sd_zald (j := x) hx hb hK hP 6 1 rfl rfl (by omega) (by omega) d_M_empty_18 ?_
    refine lv_if_ne (tgt := 40) hx hb d_M_empty_19 rfl (fun hc19 => ?_) (fun hc19 => ?_)
    · skip
      exact absurd hE1 hc19
    · skip
      refine lv_aload_n hx hb d_M_empty_22 rfl (lv_at hl 0 rfl) ?_
      refine sd_allVI (As := []) (rest := [.ref qm]) (w1 := (mW cI cZ qm mp mt ml mc mf me mg mh mu (cd) (nI k) (nI n) (nI (pn)) (nI (nx)) (ep) (nI (M.1)) (M.2.2.1) (M.2.2.2) (wi) (jb) (fp) (tf) (tt) (fi) (ln) (bx) (1000) (pr) (1000) (tk) (8) (le) (576) (co) (576) (fr) (10) (em) (192) (M.2.1) (10) (nb) (10) (su))) (c_M_filled l D cI cZ cQ (qm) (mp) (mt) (ml) (mc) (mf) (me) (mg) (mh) (mu) (k) (n) (pn) (nx) (cd) (ep) (M) (wi) (jb) (fp) (tf) (tt) (fi) (ln) (bx) (pr) (tk) (le) (co) (fr) (em) (nb) (su) (hk) (hn)) ⟨wc_M_filled, wm_M_133, wi_M, by decide, by decide, show (parseMethodDescriptor y_M_filled.desc).map (fun d => d.parameters.length) = some 0 by decide +kernel⟩ wo_M_filled wz_M_filled hx hb hml hown hts hl.1 ⟨Nat.le_of_ble_eq_true rfl, Nat.le_of_ble_eq_true rfl⟩ ⟨Nat.le_of_ble_eq_true rfl, Nat.le_of_ble_eq_true rfl⟩ hK hP hD hS hA (rfl) (q0 := 0) rfl rfl rfl (Nat.le_of_ble_eq_true rfl) d_M_empty_23 (fun H locs hP hD hS => ?_)
      have hP : va_P D cls (mW cI cZ qm mp mt ml mc mf me mg mh mu (cd) (nI k) (nI n) (nI (pn)) (nI (nx)) (ep) (nI (M.1)) (M.2.2.1) (M.2.2.2) (wi) (jb) (fp) (tf) (tt) (fi) (ln) (bx) (1000) (pr) (1000) (tk) (8) (le) (576) (co) (576) (fr) (10) (em) (192) (M.2.1) (10) (nb) (10) (su)) H := hP
      have hD : va_D A (mW cI cZ qm mp mt ml mc mf me mg mh mu (cd) (nI k) (nI n) (nI (pn)) (nI (nx)) (ep) (nI (M.1)) (M.2.2.1) (M.2.2.2) (wi) (jb) (fp) (tf) (tt) (fi) (ln) (bx) (1000) (pr) (1000) (tk) (8) (le) (576) (co) (576) (fr) (10) (em) (192) (M.2.1) (10) (nb) (10) (su)) := hD
      refine lv_aload_n hx hb d_M_empty_26 rfl (lv_at hl 0 rfl) ?_
      refine va_get (D := D) (ci := 5) (v := .int (nI k)) (C := R_M) (T := F_M) (N := 26) hx hb hts wl_M hown hK hP 0 rfl rfl 1 (by decide) (hts _ wf_M_48) (fun _ h9 => h9) rfl d_M_empty_27 ?_
      refine lv_icmp_le (tgt := 40) hx hb d_M_empty_30 rfl (fun hc30 => ?_) (fun hc30 => ?_)
      · skip
        exact absurd ((nI_leI (by omega) (by omega)).mp hc30) hE2
      · skip
        refine lv_aload_n hx hb d_M_empty_33 rfl (lv_at hl 0 rfl) ?_
        refine va_get (D := D) (ci := 5) (v := .int (jb)) (C := R_M) (T := F_M) (N := 26) hx hb hts wl_M hown hK hP 0 rfl rfl 17 (by decide) (hts _ wf_M_100) (fun _ h9 => h9) rfl d_M_empty_34 ?_
        refine lv_if_le (tgt := 44) hx hb d_M_empty_37 rfl (fun hc37 => ?_) (fun hc37 => ?_)
        · skip
          refine lv_iconst (v := 0) hx hb d_M_empty_44 (by decide) ?_
          refine va_put (D := D) (ci := 5) (v := .int (0)) (ty := .int) (C := R_M) (T := F_M) (N := 26) hx hb hts wl_M t_M t_M_ok n_M hown hK hP hD hS 0 rfl rfl 0 (by decide) (hts _ wf_M_51) (fun _ h9 => h9) rfl (by decide +kernel) rfl rfl (Nat.le_of_ble_eq_true rfl) d_M_empty_45 (fun H locs hP hD hS => ?_)
          have hP : va_P D cls (mW cI cZ qm mp mt ml mc mf me mg mh mu (0) (nI k) (nI n) (nI (pn)) (nI (nx)) (ep) (nI (M.1)) (M.2.2.1) (M.2.2.2) (wi) (jb) (fp) (tf) (tt) (fi) (ln) (bx) (1000) (pr) (1000) (tk) (8) (le) (576) (co) (576) (fr) (10) (em) (192) (M.2.1) (10) (nb) (10) (su)) H := hP
          have hD : va_D A (mW cI cZ qm mp mt ml mc mf me mg mh mu (0) (nI k) (nI n) (nI (pn)) (nI (nx)) (ep) (nI (M.1)) (M.2.2.1) (M.2.2.2) (wi) (jb) (fp) (tf) (tt) (fi) (ln) (bx) (1000) (pr) (1000) (tk) (8) (le) (576) (co) (576) (fr) (10) (em) (192) (M.2.1) (10) (nb) (10) (su)) := hD
          refine lv_aload_n hx hb d_M_empty_48 rfl (lv_at hl 0 rfl) ?_
          refine va_get (D := D) (ci := 5) (v := .int (0)) (C := R_M) (T := F_M) (N := 26) hx hb hts wl_M hown hK hP 0 rfl rfl 0 (by decide) (hts _ wf_M_51) (fun _ h9 => h9) rfl d_M_empty_49 ?_
          refine lv_if_le (tgt := 57) hx hb d_M_empty_52 rfl (fun hc52 => ?_) (fun hc52 => ?_)
          · skip
            refine lv_aload_n hx hb d_M_empty_57 rfl (lv_at hl 0 rfl) ?_
            refine va_get (D := D) (ci := 5) (v := .ref me) (C := R_M) (T := F_M) (N := 26) hx hb hts wl_M hown hK hP 0 rfl rfl 11 (by decide) (hts _ wf_M_25) (fun _ h9 => h9) rfl d_M_empty_58 ?_
            refine lv_iload_n hx hb d_M_empty_61 rfl (lv_at hl 1 rfl) ?_
            refine lv_iconst (v := 1) hx hb d_M_empty_62 (by decide) ?_
            refine sd_zast (j := x) hx hb hK hP hD hS 6 1 rfl rfl (by decide) (by omega) (by omega) d_M_empty_63 (fun H locs hP hD hS => ?_)
            have hP : va_P D cls (mW cI cZ qm mp mt ml mc mf me mg mh mu (0) (nI k) (nI n) (nI (pn)) (nI (nx)) (ep) (nI (M.1)) (M.2.2.1) (M.2.2.2) (wi) (jb) (fp) (tf) (tt) (fi) (ln) (bx) (1000) (pr) (1000) (tk) (8) (le) (576) (co) (576) (fr) (10) (upd (em) (x) (1)) (192) (M.2.1) (10) (nb) (10) (su)) H := hP
            have hD : va_D A (mW cI cZ qm mp mt ml mc mf me mg mh mu (0) (nI k) (nI n) (nI (pn)) (nI (nx)) (ep) (nI (M.1)) (M.2.2.1) (M.2.2.2) (wi) (jb) (fp) (tf) (tt) (fi) (ln) (bx) (1000) (pr) (1000) (tk) (8) (le) (576) (co) (576) (fr) (10) (upd (em) (x) (1)) (192) (M.2.1) (10) (nb) (10) (su)) := hD
            refine lv_aload_n hx hb d_M_empty_64 rfl (lv_at hl 0 rfl) ?_
            refine sd_allVI (As := []) (rest := []) (w1 := (mW cI cZ qm mp mt ml mc mf me mg mh mu (0) (nI k) (nI n) (nI (pn)) (nI (nx)) (ep) (nI (M.1)) (M.2.2.1) (M.2.2.2) (wi) (jb) (fp) (tf) (tt) (fi) (ln) (bx) (1000) (pr) (1000) (tk) (8) (le) (576) (co) (576) (fr) (10) (upd (em) (x) (1)) (192) (M.2.1) (10) (nb) (10) (su))) (c_M_filled l D cI cZ cQ (qm) (mp) (mt) (ml) (mc) (mf) (me) (mg) (mh) (mu) (k) (n) (pn) (nx) (0) (ep) (M) (wi) (jb) (fp) (tf) (tt) (fi) (ln) (bx) (pr) (tk) (le) (co) (fr) (upd (em) (x) (1)) (nb) (su) (hk) (hn)) ⟨wc_M_filled, wm_M_133, wi_M, by decide, by decide, show (parseMethodDescriptor y_M_filled.desc).map (fun d => d.parameters.length) = some 0 by decide +kernel⟩ wo_M_filled wz_M_filled hx hb hml hown hts hl.1 ⟨Nat.le_of_ble_eq_true rfl, Nat.le_of_ble_eq_true rfl⟩ ⟨Nat.le_of_ble_eq_true rfl, Nat.le_of_ble_eq_true rfl⟩ hK hP hD hS hA (rfl) (q0 := 0) rfl rfl rfl (Nat.le_of_ble_eq_true rfl) d_M_empty_65 (fun H locs hP hD hS => ?_)
            have hP : va_P D cls (mW cI cZ qm mp mt ml mc mf me mg mh mu (0) (nI k) (nI n) (nI (pn)) (nI (nx)) (ep) (nI (M.1)) (M.2.2.1) (M.2.2.2) (wi) (jb) (fp) (tf) (tt) (fi) (ln) (bx) (1000) (pr) (1000) (tk) (8) (le) (576) (co) (576) (fr) (10) (upd (em) (x) (1)) (192) (M.2.1) (10) (nb) (10) (su)) H := hP
            have hD : va_D A (mW cI cZ qm mp mt ml mc mf me mg mh mu (0) (nI k) (nI n) (nI (pn)) (nI (nx)) (ep) (nI (M.1)) (M.2.2.1) (M.2.2.2) (wi) (jb) (fp) (tf) (tt) (fi) (ln) (bx) (1000) (pr) (1000) (tk) (8) (le) (576) (co) (576) (fr) (10) (upd (em) (x) (1)) (192) (M.2.1) (10) (nb) (10) (su)) := hD
            exact sd_iret hx hb hr hlk hP hS (Nat.le_of_ble_eq_true rfl) (Nat.le_of_ble_eq_true rfl) (rfl) d_M_empty_68
          · skip
            exact False.elim (by revert hc52; decide)
        · skip
          exact absurd hE3 hc37
  · skip
    exact False.elim (by revert hc6; decide)
set_option maxHeartbeats 4000000 in
set_option maxRecDepth 100000 in
theorem c_M_share_1a (l : Launch) (D : va_G) (cI cZ cQ : ClassId) (qm : Nat) (mp : Nat) (mt : Nat) (ml : Nat) (mc : Nat) (mf : Nat) (me : Nat) (mg : Nat) (mh : Nat) (mu : Nat) (k : Nat) (n : Nat) (pn : Nat) (nx : Nat) (cd : Int32) (ep : Int32) (M : mm_T) (wi : Int32) (jb : Int32) (fp : Int32) (tf : Int32) (tt : Int32) (fi : Int32) (ln : Int32) (bx : Int32) (pr : Nat → Int32) (tk : Nat → Int32) (le : Nat → Int32) (co : Nat → Int32) (fr : Nat → Int32) (em : Nat → Int32) (nb : Nat → Int32) (su : Nat → Int32) (i : Int32) (f : Int32) (b : Int32) (hk : k ≤ 9) (hn : n ≤ 9) (hbx : ¬ (1 ≤ i ∧ i ≤ nI n)) : sd_I l D (tyL cI cZ cQ) y_M_share b_M_share 4 (.int) ({ frames := 1, cells := 0, slots := 0, locals := 40 }) [.ref qm, .int (i), .int (f), .int (b)] (mW cI cZ qm mp mt ml mc mf me mg mh mu (cd) (nI k) (nI n) (nI (pn)) (nI (nx)) (ep) (nI (M.1)) (M.2.2.1) (M.2.2.2) (wi) (jb) (fp) (tf) (tt) (fi) (ln) (bx) (1000) (pr) (1000) (tk) (8) (le) (576) (co) (576) (fr) (10) (em) (192) (M.2.1) (10) (nb) (10) (su)) (0) (mW cI cZ qm mp mt ml mc mf me mg mh mu (1) (nI k) (nI n) (nI (pn)) (nI (nx)) (ep) (nI (M.1)) (M.2.2.1) (M.2.2.2) (wi) (jb) (fp) (tf) (tt) (fi) (ln) (bx) (1000) (pr) (1000) (tk) (8) (le) (576) (co) (576) (fr) (10) (em) (192) (M.2.1) (10) (nb) (10) (su)) := by
  refine sd_ofI (by decide) (Nat.le_of_ble_eq_true rfl) ?_
  intro p e s m below meth c A ls hx hb hr hml hlk hown hts hK hP hD hA hS hl
  have hl : lv_has ls 4 [(0, .ref qm), (1, .int (i)), (2, .int (f)), (3, .int (b))] := hl
  refine lv_aload_n hx hb d_M_share_0 rfl (lv_at hl 0 rfl) ?_
  refine lv_aload_n hx hb d_M_share_1 rfl (lv_at hl 0 rfl) ?_
  refine lv_iload_n hx hb d_M_share_2 rfl (lv_at hl 1 rfl) ?_
  refine sd_allVI (As := [.int (i)]) (rest := [.ref qm]) (w1 := (mW cI cZ qm mp mt ml mc mf me mg mh mu (cd) (nI k) (nI n) (nI (pn)) (nI (nx)) (ep) (nI (M.1)) (M.2.2.1) (M.2.2.2) (wi) (jb) (fp) (tf) (tt) (fi) (ln) (bx) (1000) (pr) (1000) (tk) (8) (le) (576) (co) (576) (fr) (10) (em) (192) (M.2.1) (10) (nb) (10) (su))) (c_M_isBox_0 l D cI cZ cQ (qm) (mp) (mt) (ml) (mc) (mf) (me) (mg) (mh) (mu) (k) (n) (pn) (nx) (cd) (ep) (M) (wi) (jb) (fp) (tf) (tt) (fi) (ln) (bx) (pr) (tk) (le) (co) (fr) (em) (nb) (su) (i) (hk) (hn) (hbx)) ⟨wc_M_isBox, wm_M_145, wi_M, by decide, by decide, show (parseMethodDescriptor y_M_isBox.desc).map (fun d => d.parameters.length) = some 1 by decide +kernel⟩ wo_M_isBox wz_M_isBox hx hb hml hown hts hl.1 ⟨Nat.le_of_ble_eq_true rfl, Nat.le_of_ble_eq_true rfl⟩ ⟨Nat.le_of_ble_eq_true rfl, Nat.le_of_ble_eq_true rfl⟩ hK hP hD hS hA (rfl) (q0 := 0) rfl rfl rfl (Nat.le_of_ble_eq_true rfl) d_M_share_3 (fun H locs hP hD hS => ?_)
  have hP : va_P D cls (mW cI cZ qm mp mt ml mc mf me mg mh mu (cd) (nI k) (nI n) (nI (pn)) (nI (nx)) (ep) (nI (M.1)) (M.2.2.1) (M.2.2.2) (wi) (jb) (fp) (tf) (tt) (fi) (ln) (bx) (1000) (pr) (1000) (tk) (8) (le) (576) (co) (576) (fr) (10) (em) (192) (M.2.1) (10) (nb) (10) (su)) H := hP
  have hD : va_D A (mW cI cZ qm mp mt ml mc mf me mg mh mu (cd) (nI k) (nI n) (nI (pn)) (nI (nx)) (ep) (nI (M.1)) (M.2.2.1) (M.2.2.2) (wi) (jb) (fp) (tf) (tt) (fi) (ln) (bx) (1000) (pr) (1000) (tk) (8) (le) (576) (co) (576) (fr) (10) (em) (192) (M.2.1) (10) (nb) (10) (su)) := hD
  refine lv_if_eq (tgt := 16) hx hb d_M_share_6 rfl (fun hc6 => ?_) (fun hc6 => ?_)
  · skip
    refine lv_iconst (v := 1) hx hb d_M_share_16 (by decide) ?_
    refine lv_goto (tgt := 52) hx hb d_M_share_17 rfl ?_
    refine va_put (D := D) (ci := 5) (v := .int (1)) (ty := .int) (C := R_M) (T := F_M) (N := 26) hx hb hts wl_M t_M t_M_ok n_M hown hK hP hD hS 0 rfl rfl 0 (by decide) (hts _ wf_M_51) (fun _ h9 => h9) rfl (by decide +kernel) rfl rfl (Nat.le_of_ble_eq_true rfl) d_M_share_52 (fun H locs hP hD hS => ?_)
    have hP : va_P D cls (mW cI cZ qm mp mt ml mc mf me mg mh mu (1) (nI k) (nI n) (nI (pn)) (nI (nx)) (ep) (nI (M.1)) (M.2.2.1) (M.2.2.2) (wi) (jb) (fp) (tf) (tt) (fi) (ln) (bx) (1000) (pr) (1000) (tk) (8) (le) (576) (co) (576) (fr) (10) (em) (192) (M.2.1) (10) (nb) (10) (su)) H := hP
    have hD : va_D A (mW cI cZ qm mp mt ml mc mf me mg mh mu (1) (nI k) (nI n) (nI (pn)) (nI (nx)) (ep) (nI (M.1)) (M.2.2.1) (M.2.2.2) (wi) (jb) (fp) (tf) (tt) (fi) (ln) (bx) (1000) (pr) (1000) (tk) (8) (le) (576) (co) (576) (fr) (10) (em) (192) (M.2.1) (10) (nb) (10) (su)) := hD
    refine lv_aload_n hx hb d_M_share_55 rfl (lv_at hl 0 rfl) ?_
    refine va_get (D := D) (ci := 5) (v := .int (1)) (C := R_M) (T := F_M) (N := 26) hx hb hts wl_M hown hK hP 0 rfl rfl 0 (by decide) (hts _ wf_M_51) (fun _ h9 => h9) rfl d_M_share_56 ?_
    refine lv_if_le (tgt := 64) hx hb d_M_share_59 rfl (fun hc59 => ?_) (fun hc59 => ?_)
    · skip
      exact False.elim (by revert hc59; decide)
    · skip
      refine lv_iconst (v := 0) hx hb d_M_share_62 (by decide) ?_
      exact sd_iret hx hb hr hlk hP hS (Nat.le_of_ble_eq_true rfl) (Nat.le_of_ble_eq_true rfl) (rfl) d_M_share_63
  · skip
    exact False.elim (by revert hc6; decide)
set_option maxHeartbeats 4000000 in
set_option maxRecDepth 100000 in
theorem c_M_share_1b (l : Launch) (D : va_G) (cI cZ cQ : ClassId) (qm : Nat) (mp : Nat) (mt : Nat) (ml : Nat) (mc : Nat) (mf : Nat) (me : Nat) (mg : Nat) (mh : Nat) (mu : Nat) (k : Nat) (n : Nat) (pn : Nat) (nx : Nat) (cd : Int32) (ep : Int32) (M : mm_T) (wi : Int32) (jb : Int32) (fp : Int32) (tf : Int32) (tt : Int32) (fi : Int32) (ln : Int32) (bx : Int32) (pr : Nat → Int32) (tk : Nat → Int32) (le : Nat → Int32) (co : Nat → Int32) (fr : Nat → Int32) (em : Nat → Int32) (nb : Nat → Int32) (su : Nat → Int32) (i : Int32) (f : Int32) (b : Int32) (hk : k ≤ 9) (hn : n ≤ 9) (hbx : 1 ≤ i ∧ i ≤ nI n) (hfx : ¬ (0 ≤ f ∧ f ≤ 7)) : sd_I l D (tyL cI cZ cQ) y_M_share b_M_share 4 (.int) ({ frames := 1, cells := 0, slots := 0, locals := 21 }) [.ref qm, .int (i), .int (f), .int (b)] (mW cI cZ qm mp mt ml mc mf me mg mh mu (cd) (nI k) (nI n) (nI (pn)) (nI (nx)) (ep) (nI (M.1)) (M.2.2.1) (M.2.2.2) (wi) (jb) (fp) (tf) (tt) (fi) (ln) (bx) (1000) (pr) (1000) (tk) (8) (le) (576) (co) (576) (fr) (10) (em) (192) (M.2.1) (10) (nb) (10) (su)) (0) (mW cI cZ qm mp mt ml mc mf me mg mh mu (1) (nI k) (nI n) (nI (pn)) (nI (nx)) (ep) (nI (M.1)) (M.2.2.1) (M.2.2.2) (wi) (jb) (fp) (tf) (tt) (fi) (ln) (bx) (1000) (pr) (1000) (tk) (8) (le) (576) (co) (576) (fr) (10) (em) (192) (M.2.1) (10) (nb) (10) (su)) := by
  refine sd_ofI (by decide) (Nat.le_of_ble_eq_true rfl) ?_
  intro p e s m below meth c A ls hx hb hr hml hlk hown hts hK hP hD hA hS hl
  have hl : lv_has ls 4 [(0, .ref qm), (1, .int (i)), (2, .int (f)), (3, .int (b))] := hl
  refine lv_aload_n hx hb d_M_share_0 rfl (lv_at hl 0 rfl) ?_
  refine lv_aload_n hx hb d_M_share_1 rfl (lv_at hl 0 rfl) ?_
  refine lv_iload_n hx hb d_M_share_2 rfl (lv_at hl 1 rfl) ?_
  refine sd_allVI (As := [.int (i)]) (rest := [.ref qm]) (w1 := (mW cI cZ qm mp mt ml mc mf me mg mh mu (cd) (nI k) (nI n) (nI (pn)) (nI (nx)) (ep) (nI (M.1)) (M.2.2.1) (M.2.2.2) (wi) (jb) (fp) (tf) (tt) (fi) (ln) (bx) (1000) (pr) (1000) (tk) (8) (le) (576) (co) (576) (fr) (10) (em) (192) (M.2.1) (10) (nb) (10) (su))) (c_M_isBox_1 l D cI cZ cQ (qm) (mp) (mt) (ml) (mc) (mf) (me) (mg) (mh) (mu) (k) (n) (pn) (nx) (cd) (ep) (M) (wi) (jb) (fp) (tf) (tt) (fi) (ln) (bx) (pr) (tk) (le) (co) (fr) (em) (nb) (su) (i) (hk) (hn) (hbx)) ⟨wc_M_isBox, wm_M_145, wi_M, by decide, by decide, show (parseMethodDescriptor y_M_isBox.desc).map (fun d => d.parameters.length) = some 1 by decide +kernel⟩ wo_M_isBox wz_M_isBox hx hb hml hown hts hl.1 ⟨Nat.le_of_ble_eq_true rfl, Nat.le_of_ble_eq_true rfl⟩ ⟨Nat.le_of_ble_eq_true rfl, Nat.le_of_ble_eq_true rfl⟩ hK hP hD hS hA (rfl) (q0 := 0) rfl rfl rfl (Nat.le_of_ble_eq_true rfl) d_M_share_3 (fun H locs hP hD hS => ?_)
  have hP : va_P D cls (mW cI cZ qm mp mt ml mc mf me mg mh mu (cd) (nI k) (nI n) (nI (pn)) (nI (nx)) (ep) (nI (M.1)) (M.2.2.1) (M.2.2.2) (wi) (jb) (fp) (tf) (tt) (fi) (ln) (bx) (1000) (pr) (1000) (tk) (8) (le) (576) (co) (576) (fr) (10) (em) (192) (M.2.1) (10) (nb) (10) (su)) H := hP
  have hD : va_D A (mW cI cZ qm mp mt ml mc mf me mg mh mu (cd) (nI k) (nI n) (nI (pn)) (nI (nx)) (ep) (nI (M.1)) (M.2.2.1) (M.2.2.2) (wi) (jb) (fp) (tf) (tt) (fi) (ln) (bx) (1000) (pr) (1000) (tk) (8) (le) (576) (co) (576) (fr) (10) (em) (192) (M.2.1) (10) (nb) (10) (su)) := hD
  refine lv_if_eq (tgt := 16) hx hb d_M_share_6 rfl (fun hc6 => ?_) (fun hc6 => ?_)
  · skip
    exact False.elim (by revert hc6; decide)
  · skip
    refine lv_iload_n hx hb d_M_share_9 rfl (lv_at hl 2 rfl) ?_
    refine sd_callSI (As := [.int (f)]) (rest := [.ref qm]) (cx := []) (w1 := []) (c_M_isFile_0 l D cI cZ cQ (f) (hfx)) ⟨wc_M_isFile, wm_M_129, wi_M, by decide, by decide, show (parseMethodDescriptor y_M_isFile.desc).map (fun d => d.parameters.length) = some 1 by decide +kernel⟩ ws_M_isFile hx hb hml hown hts hl.1 ⟨Nat.le_of_ble_eq_true rfl, Nat.le_of_ble_eq_true rfl⟩ ⟨Nat.le_of_ble_eq_true rfl, Nat.le_of_ble_eq_true rfl⟩ hK hP hD hS hA [] rfl (by decide) rfl rfl rfl (Nat.le_of_ble_eq_true rfl) d_M_share_10 (fun H locs hP hD hS => ?_)
    have hP : va_P D cls (mW cI cZ qm mp mt ml mc mf me mg mh mu (cd) (nI k) (nI n) (nI (pn)) (nI (nx)) (ep) (nI (M.1)) (M.2.2.1) (M.2.2.2) (wi) (jb) (fp) (tf) (tt) (fi) (ln) (bx) (1000) (pr) (1000) (tk) (8) (le) (576) (co) (576) (fr) (10) (em) (192) (M.2.1) (10) (nb) (10) (su)) H := hP
    have hD : va_D A (mW cI cZ qm mp mt ml mc mf me mg mh mu (cd) (nI k) (nI n) (nI (pn)) (nI (nx)) (ep) (nI (M.1)) (M.2.2.1) (M.2.2.2) (wi) (jb) (fp) (tf) (tt) (fi) (ln) (bx) (1000) (pr) (1000) (tk) (8) (le) (576) (co) (576) (fr) (10) (em) (192) (M.2.1) (10) (nb) (10) (su)) := hD
    refine lv_if_ne (tgt := 20) hx hb d_M_share_13 rfl (fun hc13 => ?_) (fun hc13 => ?_)
    · skip
      exact False.elim (by revert hc13; decide)
    · skip
      refine lv_iconst (v := 1) hx hb d_M_share_16 (by decide) ?_
      refine lv_goto (tgt := 52) hx hb d_M_share_17 rfl ?_
      refine va_put (D := D) (ci := 5) (v := .int (1)) (ty := .int) (C := R_M) (T := F_M) (N := 26) hx hb hts wl_M t_M t_M_ok n_M hown hK hP hD hS 0 rfl rfl 0 (by decide) (hts _ wf_M_51) (fun _ h9 => h9) rfl (by decide +kernel) rfl rfl (Nat.le_of_ble_eq_true rfl) d_M_share_52 (fun H locs hP hD hS => ?_)
      have hP : va_P D cls (mW cI cZ qm mp mt ml mc mf me mg mh mu (1) (nI k) (nI n) (nI (pn)) (nI (nx)) (ep) (nI (M.1)) (M.2.2.1) (M.2.2.2) (wi) (jb) (fp) (tf) (tt) (fi) (ln) (bx) (1000) (pr) (1000) (tk) (8) (le) (576) (co) (576) (fr) (10) (em) (192) (M.2.1) (10) (nb) (10) (su)) H := hP
      have hD : va_D A (mW cI cZ qm mp mt ml mc mf me mg mh mu (1) (nI k) (nI n) (nI (pn)) (nI (nx)) (ep) (nI (M.1)) (M.2.2.1) (M.2.2.2) (wi) (jb) (fp) (tf) (tt) (fi) (ln) (bx) (1000) (pr) (1000) (tk) (8) (le) (576) (co) (576) (fr) (10) (em) (192) (M.2.1) (10) (nb) (10) (su)) := hD
      refine lv_aload_n hx hb d_M_share_55 rfl (lv_at hl 0 rfl) ?_
      refine va_get (D := D) (ci := 5) (v := .int (1)) (C := R_M) (T := F_M) (N := 26) hx hb hts wl_M hown hK hP 0 rfl rfl 0 (by decide) (hts _ wf_M_51) (fun _ h9 => h9) rfl d_M_share_56 ?_
      refine lv_if_le (tgt := 64) hx hb d_M_share_59 rfl (fun hc59 => ?_) (fun hc59 => ?_)
      · skip
        exact False.elim (by revert hc59; decide)
      · skip
        refine lv_iconst (v := 0) hx hb d_M_share_62 (by decide) ?_
        exact sd_iret hx hb hr hlk hP hS (Nat.le_of_ble_eq_true rfl) (Nat.le_of_ble_eq_true rfl) (rfl) d_M_share_63
set_option maxHeartbeats 4000000 in
set_option maxRecDepth 100000 in
theorem c_M_share_2 (l : Launch) (D : va_G) (cI cZ cQ : ClassId) (qm : Nat) (mp : Nat) (mt : Nat) (ml : Nat) (mc : Nat) (mf : Nat) (me : Nat) (mg : Nat) (mh : Nat) (mu : Nat) (k : Nat) (n : Nat) (pn : Nat) (nx : Nat) (cd : Int32) (ep : Int32) (M : mm_T) (wi : Int32) (jb : Int32) (fp : Int32) (tf : Int32) (tt : Int32) (fi : Int32) (ln : Int32) (bx : Int32) (pr : Nat → Int32) (tk : Nat → Int32) (le : Nat → Int32) (co : Nat → Int32) (fr : Nat → Int32) (em : Nat → Int32) (nb : Nat → Int32) (su : Nat → Int32) (x : Nat) (f : Nat) (b : Int32) (hk : k ≤ 9) (hn : n ≤ 9) (hx1 : 1 ≤ x) (hxn : x ≤ n) (hf8 : f < 8) (hl0 : le f = 0) : sd_I l D (tyL cI cZ cQ) y_M_share b_M_share 4 (.int) ({ frames := 1, cells := 0, slots := 0, locals := 21 }) [.ref qm, .int (nI x), .int (nI f), .int (b)] (mW cI cZ qm mp mt ml mc mf me mg mh mu (cd) (nI k) (nI n) (nI (pn)) (nI (nx)) (ep) (nI (M.1)) (M.2.2.1) (M.2.2.2) (wi) (jb) (fp) (tf) (tt) (fi) (ln) (bx) (1000) (pr) (1000) (tk) (8) (le) (576) (co) (576) (fr) (10) (em) (192) (M.2.1) (10) (nb) (10) (su)) (0) (mW cI cZ qm mp mt ml mc mf me mg mh mu (2) (nI k) (nI n) (nI (pn)) (nI (nx)) (ep) (nI (M.1)) (M.2.2.1) (M.2.2.2) (wi) (jb) (fp) (tf) (tt) (fi) (ln) (bx) (1000) (pr) (1000) (tk) (8) (le) (576) (co) (576) (fr) (10) (em) (192) (M.2.1) (10) (nb) (10) (su)) := by
  refine sd_ofI (by decide) (Nat.le_of_ble_eq_true rfl) ?_
  intro p e s m below meth c A ls hx hb hr hml hlk hown hts hK hP hD hA hS hl
  have hl : lv_has ls 4 [(0, .ref qm), (1, .int (nI x)), (2, .int (nI f)), (3, .int (b))] := hl
  refine lv_aload_n hx hb d_M_share_0 rfl (lv_at hl 0 rfl) ?_
  refine lv_aload_n hx hb d_M_share_1 rfl (lv_at hl 0 rfl) ?_
  refine lv_iload_n hx hb d_M_share_2 rfl (lv_at hl 1 rfl) ?_
  refine sd_allVI (As := [.int (nI x)]) (rest := [.ref qm]) (w1 := (mW cI cZ qm mp mt ml mc mf me mg mh mu (cd) (nI k) (nI n) (nI (pn)) (nI (nx)) (ep) (nI (M.1)) (M.2.2.1) (M.2.2.2) (wi) (jb) (fp) (tf) (tt) (fi) (ln) (bx) (1000) (pr) (1000) (tk) (8) (le) (576) (co) (576) (fr) (10) (em) (192) (M.2.1) (10) (nb) (10) (su))) (c_M_isBox_1 l D cI cZ cQ (qm) (mp) (mt) (ml) (mc) (mf) (me) (mg) (mh) (mu) (k) (n) (pn) (nx) (cd) (ep) (M) (wi) (jb) (fp) (tf) (tt) (fi) (ln) (bx) (pr) (tk) (le) (co) (fr) (em) (nb) (su) (nI x) (hk) (hn) (bx_in hx1 hxn hn)) ⟨wc_M_isBox, wm_M_145, wi_M, by decide, by decide, show (parseMethodDescriptor y_M_isBox.desc).map (fun d => d.parameters.length) = some 1 by decide +kernel⟩ wo_M_isBox wz_M_isBox hx hb hml hown hts hl.1 ⟨Nat.le_of_ble_eq_true rfl, Nat.le_of_ble_eq_true rfl⟩ ⟨Nat.le_of_ble_eq_true rfl, Nat.le_of_ble_eq_true rfl⟩ hK hP hD hS hA (rfl) (q0 := 0) rfl rfl rfl (Nat.le_of_ble_eq_true rfl) d_M_share_3 (fun H locs hP hD hS => ?_)
  have hP : va_P D cls (mW cI cZ qm mp mt ml mc mf me mg mh mu (cd) (nI k) (nI n) (nI (pn)) (nI (nx)) (ep) (nI (M.1)) (M.2.2.1) (M.2.2.2) (wi) (jb) (fp) (tf) (tt) (fi) (ln) (bx) (1000) (pr) (1000) (tk) (8) (le) (576) (co) (576) (fr) (10) (em) (192) (M.2.1) (10) (nb) (10) (su)) H := hP
  have hD : va_D A (mW cI cZ qm mp mt ml mc mf me mg mh mu (cd) (nI k) (nI n) (nI (pn)) (nI (nx)) (ep) (nI (M.1)) (M.2.2.1) (M.2.2.2) (wi) (jb) (fp) (tf) (tt) (fi) (ln) (bx) (1000) (pr) (1000) (tk) (8) (le) (576) (co) (576) (fr) (10) (em) (192) (M.2.1) (10) (nb) (10) (su)) := hD
  refine lv_if_eq (tgt := 16) hx hb d_M_share_6 rfl (fun hc6 => ?_) (fun hc6 => ?_)
  · skip
    exact False.elim (by revert hc6; decide)
  · skip
    refine lv_iload_n hx hb d_M_share_9 rfl (lv_at hl 2 rfl) ?_
    refine sd_callSI (As := [.int (nI f)]) (rest := [.ref qm]) (cx := []) (w1 := []) (c_M_isFile_1 l D cI cZ cQ (nI f) (fl_in hf8)) ⟨wc_M_isFile, wm_M_129, wi_M, by decide, by decide, show (parseMethodDescriptor y_M_isFile.desc).map (fun d => d.parameters.length) = some 1 by decide +kernel⟩ ws_M_isFile hx hb hml hown hts hl.1 ⟨Nat.le_of_ble_eq_true rfl, Nat.le_of_ble_eq_true rfl⟩ ⟨Nat.le_of_ble_eq_true rfl, Nat.le_of_ble_eq_true rfl⟩ hK hP hD hS hA [] rfl (by decide) rfl rfl rfl (Nat.le_of_ble_eq_true rfl) d_M_share_10 (fun H locs hP hD hS => ?_)
    have hP : va_P D cls (mW cI cZ qm mp mt ml mc mf me mg mh mu (cd) (nI k) (nI n) (nI (pn)) (nI (nx)) (ep) (nI (M.1)) (M.2.2.1) (M.2.2.2) (wi) (jb) (fp) (tf) (tt) (fi) (ln) (bx) (1000) (pr) (1000) (tk) (8) (le) (576) (co) (576) (fr) (10) (em) (192) (M.2.1) (10) (nb) (10) (su)) H := hP
    have hD : va_D A (mW cI cZ qm mp mt ml mc mf me mg mh mu (cd) (nI k) (nI n) (nI (pn)) (nI (nx)) (ep) (nI (M.1)) (M.2.2.1) (M.2.2.2) (wi) (jb) (fp) (tf) (tt) (fi) (ln) (bx) (1000) (pr) (1000) (tk) (8) (le) (576) (co) (576) (fr) (10) (em) (192) (M.2.1) (10) (nb) (10) (su)) := hD
    refine lv_if_ne (tgt := 20) hx hb d_M_share_13 rfl (fun hc13 => ?_) (fun hc13 => ?_)
    · skip
      refine lv_aload_n hx hb d_M_share_20 rfl (lv_at hl 0 rfl) ?_
      refine va_get (D := D) (ci := 5) (v := .ref ml) (C := R_M) (T := F_M) (N := 26) hx hb hts wl_M hown hK hP 0 rfl rfl 7 (by decide) (hts _ wf_M_16) (fun _ h9 => h9) rfl d_M_share_21 ?_
      refine lv_iload_n hx hb d_M_share_24 rfl (lv_at hl 2 rfl) ?_
      refine sd_iald (j := f) hx hb hK hP 3 0 rfl rfl (by omega) (by omega) d_M_share_25 ?_
      refine lv_if_ne (tgt := 33) hx hb d_M_share_26 rfl (fun hc26 => ?_) (fun hc26 => ?_)
      · skip
        exact absurd hl0 hc26
      · skip
        refine lv_iconst (v := 2) hx hb d_M_share_29 (by decide) ?_
        refine lv_goto (tgt := 52) hx hb d_M_share_30 rfl ?_
        refine va_put (D := D) (ci := 5) (v := .int (2)) (ty := .int) (C := R_M) (T := F_M) (N := 26) hx hb hts wl_M t_M t_M_ok n_M hown hK hP hD hS 0 rfl rfl 0 (by decide) (hts _ wf_M_51) (fun _ h9 => h9) rfl (by decide +kernel) rfl rfl (Nat.le_of_ble_eq_true rfl) d_M_share_52 (fun H locs hP hD hS => ?_)
        have hP : va_P D cls (mW cI cZ qm mp mt ml mc mf me mg mh mu (2) (nI k) (nI n) (nI (pn)) (nI (nx)) (ep) (nI (M.1)) (M.2.2.1) (M.2.2.2) (wi) (jb) (fp) (tf) (tt) (fi) (ln) (bx) (1000) (pr) (1000) (tk) (8) (le) (576) (co) (576) (fr) (10) (em) (192) (M.2.1) (10) (nb) (10) (su)) H := hP
        have hD : va_D A (mW cI cZ qm mp mt ml mc mf me mg mh mu (2) (nI k) (nI n) (nI (pn)) (nI (nx)) (ep) (nI (M.1)) (M.2.2.1) (M.2.2.2) (wi) (jb) (fp) (tf) (tt) (fi) (ln) (bx) (1000) (pr) (1000) (tk) (8) (le) (576) (co) (576) (fr) (10) (em) (192) (M.2.1) (10) (nb) (10) (su)) := hD
        refine lv_aload_n hx hb d_M_share_55 rfl (lv_at hl 0 rfl) ?_
        refine va_get (D := D) (ci := 5) (v := .int (2)) (C := R_M) (T := F_M) (N := 26) hx hb hts wl_M hown hK hP 0 rfl rfl 0 (by decide) (hts _ wf_M_51) (fun _ h9 => h9) rfl d_M_share_56 ?_
        refine lv_if_le (tgt := 64) hx hb d_M_share_59 rfl (fun hc59 => ?_) (fun hc59 => ?_)
        · skip
          exact False.elim (by revert hc59; decide)
        · skip
          refine lv_iconst (v := 0) hx hb d_M_share_62 (by decide) ?_
          exact sd_iret hx hb hr hlk hP hS (Nat.le_of_ble_eq_true rfl) (Nat.le_of_ble_eq_true rfl) (rfl) d_M_share_63
    · skip
      exact False.elim (by revert hc13; decide)
set_option maxHeartbeats 4000000 in
set_option maxRecDepth 100000 in
theorem c_M_share_3 (l : Launch) (D : va_G) (cI cZ cQ : ClassId) (qm : Nat) (mp : Nat) (mt : Nat) (ml : Nat) (mc : Nat) (mf : Nat) (me : Nat) (mg : Nat) (mh : Nat) (mu : Nat) (k : Nat) (n : Nat) (pn : Nat) (nx : Nat) (cd : Int32) (ep : Int32) (M : mm_T) (wi : Int32) (jb : Int32) (fp : Int32) (tf : Int32) (tt : Int32) (fi : Int32) (ln : Int32) (bx : Int32) (pr : Nat → Int32) (tk : Nat → Int32) (le : Nat → Int32) (co : Nat → Int32) (fr : Nat → Int32) (em : Nat → Int32) (nb : Nat → Int32) (su : Nat → Int32) (x : Nat) (f : Nat) (b : Int32) (hk : k ≤ 9) (hn : n ≤ 9) (hx1 : 1 ≤ x) (hxn : x ≤ n) (hf8 : f < 8) (hl0 : ¬ le f = 0) (hbb : ¬ (0 ≤ b ∧ b < le f)) : sd_I l D (tyL cI cZ cQ) y_M_share b_M_share 4 (.int) ({ frames := 1, cells := 0, slots := 0, locals := 21 }) [.ref qm, .int (nI x), .int (nI f), .int (b)] (mW cI cZ qm mp mt ml mc mf me mg mh mu (cd) (nI k) (nI n) (nI (pn)) (nI (nx)) (ep) (nI (M.1)) (M.2.2.1) (M.2.2.2) (wi) (jb) (fp) (tf) (tt) (fi) (ln) (bx) (1000) (pr) (1000) (tk) (8) (le) (576) (co) (576) (fr) (10) (em) (192) (M.2.1) (10) (nb) (10) (su)) (0) (mW cI cZ qm mp mt ml mc mf me mg mh mu (3) (nI k) (nI n) (nI (pn)) (nI (nx)) (ep) (nI (M.1)) (M.2.2.1) (M.2.2.2) (wi) (jb) (fp) (tf) (tt) (fi) (ln) (bx) (1000) (pr) (1000) (tk) (8) (le) (576) (co) (576) (fr) (10) (em) (192) (M.2.1) (10) (nb) (10) (su)) := by
  refine sd_ofI (by decide) (Nat.le_of_ble_eq_true rfl) ?_
  intro p e s m below meth c A ls hx hb hr hml hlk hown hts hK hP hD hA hS hl
  have hl : lv_has ls 4 [(0, .ref qm), (1, .int (nI x)), (2, .int (nI f)), (3, .int (b))] := hl
  refine lv_aload_n hx hb d_M_share_0 rfl (lv_at hl 0 rfl) ?_
  refine lv_aload_n hx hb d_M_share_1 rfl (lv_at hl 0 rfl) ?_
  refine lv_iload_n hx hb d_M_share_2 rfl (lv_at hl 1 rfl) ?_
  refine sd_allVI (As := [.int (nI x)]) (rest := [.ref qm]) (w1 := (mW cI cZ qm mp mt ml mc mf me mg mh mu (cd) (nI k) (nI n) (nI (pn)) (nI (nx)) (ep) (nI (M.1)) (M.2.2.1) (M.2.2.2) (wi) (jb) (fp) (tf) (tt) (fi) (ln) (bx) (1000) (pr) (1000) (tk) (8) (le) (576) (co) (576) (fr) (10) (em) (192) (M.2.1) (10) (nb) (10) (su))) (c_M_isBox_1 l D cI cZ cQ (qm) (mp) (mt) (ml) (mc) (mf) (me) (mg) (mh) (mu) (k) (n) (pn) (nx) (cd) (ep) (M) (wi) (jb) (fp) (tf) (tt) (fi) (ln) (bx) (pr) (tk) (le) (co) (fr) (em) (nb) (su) (nI x) (hk) (hn) (bx_in hx1 hxn hn)) ⟨wc_M_isBox, wm_M_145, wi_M, by decide, by decide, show (parseMethodDescriptor y_M_isBox.desc).map (fun d => d.parameters.length) = some 1 by decide +kernel⟩ wo_M_isBox wz_M_isBox hx hb hml hown hts hl.1 ⟨Nat.le_of_ble_eq_true rfl, Nat.le_of_ble_eq_true rfl⟩ ⟨Nat.le_of_ble_eq_true rfl, Nat.le_of_ble_eq_true rfl⟩ hK hP hD hS hA (rfl) (q0 := 0) rfl rfl rfl (Nat.le_of_ble_eq_true rfl) d_M_share_3 (fun H locs hP hD hS => ?_)
  have hP : va_P D cls (mW cI cZ qm mp mt ml mc mf me mg mh mu (cd) (nI k) (nI n) (nI (pn)) (nI (nx)) (ep) (nI (M.1)) (M.2.2.1) (M.2.2.2) (wi) (jb) (fp) (tf) (tt) (fi) (ln) (bx) (1000) (pr) (1000) (tk) (8) (le) (576) (co) (576) (fr) (10) (em) (192) (M.2.1) (10) (nb) (10) (su)) H := hP
  have hD : va_D A (mW cI cZ qm mp mt ml mc mf me mg mh mu (cd) (nI k) (nI n) (nI (pn)) (nI (nx)) (ep) (nI (M.1)) (M.2.2.1) (M.2.2.2) (wi) (jb) (fp) (tf) (tt) (fi) (ln) (bx) (1000) (pr) (1000) (tk) (8) (le) (576) (co) (576) (fr) (10) (em) (192) (M.2.1) (10) (nb) (10) (su)) := hD
  refine lv_if_eq (tgt := 16) hx hb d_M_share_6 rfl (fun hc6 => ?_) (fun hc6 => ?_)
  · skip
    exact False.elim (by revert hc6; decide)
  · skip
    refine lv_iload_n hx hb d_M_share_9 rfl (lv_at hl 2 rfl) ?_
    refine sd_callSI (As := [.int (nI f)]) (rest := [.ref qm]) (cx := []) (w1 := []) (c_M_isFile_1 l D cI cZ cQ (nI f) (fl_in hf8)) ⟨wc_M_isFile, wm_M_129, wi_M, by decide, by decide, show (parseMethodDescriptor y_M_isFile.desc).map (fun d => d.parameters.length) = some 1 by decide +kernel⟩ ws_M_isFile hx hb hml hown hts hl.1 ⟨Nat.le_of_ble_eq_true rfl, Nat.le_of_ble_eq_true rfl⟩ ⟨Nat.le_of_ble_eq_true rfl, Nat.le_of_ble_eq_true rfl⟩ hK hP hD hS hA [] rfl (by decide) rfl rfl rfl (Nat.le_of_ble_eq_true rfl) d_M_share_10 (fun H locs hP hD hS => ?_)
    have hP : va_P D cls (mW cI cZ qm mp mt ml mc mf me mg mh mu (cd) (nI k) (nI n) (nI (pn)) (nI (nx)) (ep) (nI (M.1)) (M.2.2.1) (M.2.2.2) (wi) (jb) (fp) (tf) (tt) (fi) (ln) (bx) (1000) (pr) (1000) (tk) (8) (le) (576) (co) (576) (fr) (10) (em) (192) (M.2.1) (10) (nb) (10) (su)) H := hP
    have hD : va_D A (mW cI cZ qm mp mt ml mc mf me mg mh mu (cd) (nI k) (nI n) (nI (pn)) (nI (nx)) (ep) (nI (M.1)) (M.2.2.1) (M.2.2.2) (wi) (jb) (fp) (tf) (tt) (fi) (ln) (bx) (1000) (pr) (1000) (tk) (8) (le) (576) (co) (576) (fr) (10) (em) (192) (M.2.1) (10) (nb) (10) (su)) := hD
    refine lv_if_ne (tgt := 20) hx hb d_M_share_13 rfl (fun hc13 => ?_) (fun hc13 => ?_)
    · skip
      refine lv_aload_n hx hb d_M_share_20 rfl (lv_at hl 0 rfl) ?_
      refine va_get (D := D) (ci := 5) (v := .ref ml) (C := R_M) (T := F_M) (N := 26) hx hb hts wl_M hown hK hP 0 rfl rfl 7 (by decide) (hts _ wf_M_16) (fun _ h9 => h9) rfl d_M_share_21 ?_
      refine lv_iload_n hx hb d_M_share_24 rfl (lv_at hl 2 rfl) ?_
      refine sd_iald (j := f) hx hb hK hP 3 0 rfl rfl (by omega) (by omega) d_M_share_25 ?_
      refine lv_if_ne (tgt := 33) hx hb d_M_share_26 rfl (fun hc26 => ?_) (fun hc26 => ?_)
      · skip
        refine lv_iload_n hx hb d_M_share_33 rfl (lv_at hl 3 rfl) ?_
        refine lv_if_lt (tgt := 47) hx hb d_M_share_34 rfl (fun hc34 => ?_) (fun hc34 => ?_)
        · skip
          refine lv_iconst (v := 3) hx hb d_M_share_47 (by decide) ?_
          refine lv_goto (tgt := 52) hx hb d_M_share_48 rfl ?_
          refine va_put (D := D) (ci := 5) (v := .int (3)) (ty := .int) (C := R_M) (T := F_M) (N := 26) hx hb hts wl_M t_M t_M_ok n_M hown hK hP hD hS 0 rfl rfl 0 (by decide) (hts _ wf_M_51) (fun _ h9 => h9) rfl (by decide +kernel) rfl rfl (Nat.le_of_ble_eq_true rfl) d_M_share_52 (fun H locs hP hD hS => ?_)
          have hP : va_P D cls (mW cI cZ qm mp mt ml mc mf me mg mh mu (3) (nI k) (nI n) (nI (pn)) (nI (nx)) (ep) (nI (M.1)) (M.2.2.1) (M.2.2.2) (wi) (jb) (fp) (tf) (tt) (fi) (ln) (bx) (1000) (pr) (1000) (tk) (8) (le) (576) (co) (576) (fr) (10) (em) (192) (M.2.1) (10) (nb) (10) (su)) H := hP
          have hD : va_D A (mW cI cZ qm mp mt ml mc mf me mg mh mu (3) (nI k) (nI n) (nI (pn)) (nI (nx)) (ep) (nI (M.1)) (M.2.2.1) (M.2.2.2) (wi) (jb) (fp) (tf) (tt) (fi) (ln) (bx) (1000) (pr) (1000) (tk) (8) (le) (576) (co) (576) (fr) (10) (em) (192) (M.2.1) (10) (nb) (10) (su)) := hD
          refine lv_aload_n hx hb d_M_share_55 rfl (lv_at hl 0 rfl) ?_
          refine va_get (D := D) (ci := 5) (v := .int (3)) (C := R_M) (T := F_M) (N := 26) hx hb hts wl_M hown hK hP 0 rfl rfl 0 (by decide) (hts _ wf_M_51) (fun _ h9 => h9) rfl d_M_share_56 ?_
          refine lv_if_le (tgt := 64) hx hb d_M_share_59 rfl (fun hc59 => ?_) (fun hc59 => ?_)
          · skip
            exact False.elim (by revert hc59; decide)
          · skip
            refine lv_iconst (v := 0) hx hb d_M_share_62 (by decide) ?_
            exact sd_iret hx hb hr hlk hP hS (Nat.le_of_ble_eq_true rfl) (Nat.le_of_ble_eq_true rfl) (rfl) d_M_share_63
        · skip
          refine lv_iload_n hx hb d_M_share_37 rfl (lv_at hl 3 rfl) ?_
          refine lv_aload_n hx hb d_M_share_38 rfl (lv_at hl 0 rfl) ?_
          refine va_get (D := D) (ci := 5) (v := .ref ml) (C := R_M) (T := F_M) (N := 26) hx hb hts wl_M hown hK hP 0 rfl rfl 7 (by decide) (hts _ wf_M_16) (fun _ h9 => h9) rfl d_M_share_39 ?_
          refine lv_iload_n hx hb d_M_share_42 rfl (lv_at hl 2 rfl) ?_
          refine sd_iald (j := f) hx hb hK hP 3 0 rfl rfl (by omega) (by omega) d_M_share_43 ?_
          refine lv_icmp_lt (tgt := 51) hx hb d_M_share_44 rfl (fun hc44 => ?_) (fun hc44 => ?_)
          · skip
            exact absurd ⟨Int32.not_lt.mp hc34, hc44⟩ hbb
          · skip
            refine lv_iconst (v := 3) hx hb d_M_share_47 (by decide) ?_
            refine lv_goto (tgt := 52) hx hb d_M_share_48 rfl ?_
            refine va_put (D := D) (ci := 5) (v := .int (3)) (ty := .int) (C := R_M) (T := F_M) (N := 26) hx hb hts wl_M t_M t_M_ok n_M hown hK hP hD hS 0 rfl rfl 0 (by decide) (hts _ wf_M_51) (fun _ h9 => h9) rfl (by decide +kernel) rfl rfl (Nat.le_of_ble_eq_true rfl) d_M_share_52 (fun H locs hP hD hS => ?_)
            have hP : va_P D cls (mW cI cZ qm mp mt ml mc mf me mg mh mu (3) (nI k) (nI n) (nI (pn)) (nI (nx)) (ep) (nI (M.1)) (M.2.2.1) (M.2.2.2) (wi) (jb) (fp) (tf) (tt) (fi) (ln) (bx) (1000) (pr) (1000) (tk) (8) (le) (576) (co) (576) (fr) (10) (em) (192) (M.2.1) (10) (nb) (10) (su)) H := hP
            have hD : va_D A (mW cI cZ qm mp mt ml mc mf me mg mh mu (3) (nI k) (nI n) (nI (pn)) (nI (nx)) (ep) (nI (M.1)) (M.2.2.1) (M.2.2.2) (wi) (jb) (fp) (tf) (tt) (fi) (ln) (bx) (1000) (pr) (1000) (tk) (8) (le) (576) (co) (576) (fr) (10) (em) (192) (M.2.1) (10) (nb) (10) (su)) := hD
            refine lv_aload_n hx hb d_M_share_55 rfl (lv_at hl 0 rfl) ?_
            refine va_get (D := D) (ci := 5) (v := .int (3)) (C := R_M) (T := F_M) (N := 26) hx hb hts wl_M hown hK hP 0 rfl rfl 0 (by decide) (hts _ wf_M_51) (fun _ h9 => h9) rfl d_M_share_56 ?_
            refine lv_if_le (tgt := 64) hx hb d_M_share_59 rfl (fun hc59 => ?_) (fun hc59 => ?_)
            · skip
              exact False.elim (by revert hc59; decide)
            · skip
              refine lv_iconst (v := 0) hx hb d_M_share_62 (by decide) ?_
              exact sd_iret hx hb hr hlk hP hS (Nat.le_of_ble_eq_true rfl) (Nat.le_of_ble_eq_true rfl) (rfl) d_M_share_63
      · skip
        exact absurd hc26 hl0
    · skip
      exact False.elim (by revert hc13; decide)
set_option maxHeartbeats 4000000 in
set_option maxRecDepth 100000 in
theorem c_M_share_0e (l : Launch) (D : va_G) (cI cZ cQ : ClassId) (qm : Nat) (mp : Nat) (mt : Nat) (ml : Nat) (mc : Nat) (mf : Nat) (me : Nat) (mg : Nat) (mh : Nat) (mu : Nat) (k : Nat) (n : Nat) (pn : Nat) (nx : Nat) (cd : Int32) (ep : Int32) (M : mm_T) (wi : Int32) (jb : Int32) (fp : Int32) (tf : Int32) (tt : Int32) (fi : Int32) (ln : Int32) (bx : Int32) (pr : Nat → Int32) (tk : Nat → Int32) (le : Nat → Int32) (co : Nat → Int32) (fr : Nat → Int32) (em : Nat → Int32) (nb : Nat → Int32) (su : Nat → Int32) (x : Nat) (f : Nat) (b : Nat) (hk : k ≤ 9) (hn : n ≤ 9) (hx1 : 1 ≤ x) (hxn : x ≤ n) (hf8 : f < 8) (hl0 : ¬ le f = 0) (hb8 : b < 8) (hbb : nI b < le f) (hem : ¬ em x = 0) : sd_I l D (tyL cI cZ cQ) y_M_share b_M_share 4 (.int) ({ frames := 1, cells := 0, slots := 0, locals := 21 }) [.ref qm, .int (nI x), .int (nI f), .int (nI b)] (mW cI cZ qm mp mt ml mc mf me mg mh mu (cd) (nI k) (nI n) (nI (pn)) (nI (nx)) (ep) (nI (M.1)) (M.2.2.1) (M.2.2.2) (wi) (jb) (fp) (tf) (tt) (fi) (ln) (bx) (1000) (pr) (1000) (tk) (8) (le) (576) (co) (576) (fr) (10) (em) (192) (M.2.1) (10) (nb) (10) (su)) ((-1)) (mW cI cZ qm mp mt ml mc mf me mg mh mu (0) (nI k) (nI n) (nI (pn)) (nI (nx)) (ep) (nI (M.1)) (M.2.2.1) (M.2.2.2) (wi) (jb) (fp) (tf) (tt) (fi) (ln) (bx) (1000) (pr) (1000) (tk) (8) (le) (576) (co) (576) (fr) (10) (em) (192) (M.2.1) (10) (nb) (10) (su)) := by
  refine sd_ofI (by decide) (Nat.le_of_ble_eq_true rfl) ?_
  intro p e s m below meth c A ls hx hb hr hml hlk hown hts hK hP hD hA hS hl
  have hl : lv_has ls 4 [(0, .ref qm), (1, .int (nI x)), (2, .int (nI f)), (3, .int (nI b))] := hl
  refine lv_aload_n hx hb d_M_share_0 rfl (lv_at hl 0 rfl) ?_
  refine lv_aload_n hx hb d_M_share_1 rfl (lv_at hl 0 rfl) ?_
  refine lv_iload_n hx hb d_M_share_2 rfl (lv_at hl 1 rfl) ?_
  refine sd_allVI (As := [.int (nI x)]) (rest := [.ref qm]) (w1 := (mW cI cZ qm mp mt ml mc mf me mg mh mu (cd) (nI k) (nI n) (nI (pn)) (nI (nx)) (ep) (nI (M.1)) (M.2.2.1) (M.2.2.2) (wi) (jb) (fp) (tf) (tt) (fi) (ln) (bx) (1000) (pr) (1000) (tk) (8) (le) (576) (co) (576) (fr) (10) (em) (192) (M.2.1) (10) (nb) (10) (su))) (c_M_isBox_1 l D cI cZ cQ (qm) (mp) (mt) (ml) (mc) (mf) (me) (mg) (mh) (mu) (k) (n) (pn) (nx) (cd) (ep) (M) (wi) (jb) (fp) (tf) (tt) (fi) (ln) (bx) (pr) (tk) (le) (co) (fr) (em) (nb) (su) (nI x) (hk) (hn) (bx_in hx1 hxn hn)) ⟨wc_M_isBox, wm_M_145, wi_M, by decide, by decide, show (parseMethodDescriptor y_M_isBox.desc).map (fun d => d.parameters.length) = some 1 by decide +kernel⟩ wo_M_isBox wz_M_isBox hx hb hml hown hts hl.1 ⟨Nat.le_of_ble_eq_true rfl, Nat.le_of_ble_eq_true rfl⟩ ⟨Nat.le_of_ble_eq_true rfl, Nat.le_of_ble_eq_true rfl⟩ hK hP hD hS hA (rfl) (q0 := 0) rfl rfl rfl (Nat.le_of_ble_eq_true rfl) d_M_share_3 (fun H locs hP hD hS => ?_)
  have hP : va_P D cls (mW cI cZ qm mp mt ml mc mf me mg mh mu (cd) (nI k) (nI n) (nI (pn)) (nI (nx)) (ep) (nI (M.1)) (M.2.2.1) (M.2.2.2) (wi) (jb) (fp) (tf) (tt) (fi) (ln) (bx) (1000) (pr) (1000) (tk) (8) (le) (576) (co) (576) (fr) (10) (em) (192) (M.2.1) (10) (nb) (10) (su)) H := hP
  have hD : va_D A (mW cI cZ qm mp mt ml mc mf me mg mh mu (cd) (nI k) (nI n) (nI (pn)) (nI (nx)) (ep) (nI (M.1)) (M.2.2.1) (M.2.2.2) (wi) (jb) (fp) (tf) (tt) (fi) (ln) (bx) (1000) (pr) (1000) (tk) (8) (le) (576) (co) (576) (fr) (10) (em) (192) (M.2.1) (10) (nb) (10) (su)) := hD
  refine lv_if_eq (tgt := 16) hx hb d_M_share_6 rfl (fun hc6 => ?_) (fun hc6 => ?_)
  · skip
    exact False.elim (by revert hc6; decide)
  · skip
    refine lv_iload_n hx hb d_M_share_9 rfl (lv_at hl 2 rfl) ?_
    refine sd_callSI (As := [.int (nI f)]) (rest := [.ref qm]) (cx := []) (w1 := []) (c_M_isFile_1 l D cI cZ cQ (nI f) (fl_in hf8)) ⟨wc_M_isFile, wm_M_129, wi_M, by decide, by decide, show (parseMethodDescriptor y_M_isFile.desc).map (fun d => d.parameters.length) = some 1 by decide +kernel⟩ ws_M_isFile hx hb hml hown hts hl.1 ⟨Nat.le_of_ble_eq_true rfl, Nat.le_of_ble_eq_true rfl⟩ ⟨Nat.le_of_ble_eq_true rfl, Nat.le_of_ble_eq_true rfl⟩ hK hP hD hS hA [] rfl (by decide) rfl rfl rfl (Nat.le_of_ble_eq_true rfl) d_M_share_10 (fun H locs hP hD hS => ?_)
    have hP : va_P D cls (mW cI cZ qm mp mt ml mc mf me mg mh mu (cd) (nI k) (nI n) (nI (pn)) (nI (nx)) (ep) (nI (M.1)) (M.2.2.1) (M.2.2.2) (wi) (jb) (fp) (tf) (tt) (fi) (ln) (bx) (1000) (pr) (1000) (tk) (8) (le) (576) (co) (576) (fr) (10) (em) (192) (M.2.1) (10) (nb) (10) (su)) H := hP
    have hD : va_D A (mW cI cZ qm mp mt ml mc mf me mg mh mu (cd) (nI k) (nI n) (nI (pn)) (nI (nx)) (ep) (nI (M.1)) (M.2.2.1) (M.2.2.2) (wi) (jb) (fp) (tf) (tt) (fi) (ln) (bx) (1000) (pr) (1000) (tk) (8) (le) (576) (co) (576) (fr) (10) (em) (192) (M.2.1) (10) (nb) (10) (su)) := hD
    refine lv_if_ne (tgt := 20) hx hb d_M_share_13 rfl (fun hc13 => ?_) (fun hc13 => ?_)
    · skip
      refine lv_aload_n hx hb d_M_share_20 rfl (lv_at hl 0 rfl) ?_
      refine va_get (D := D) (ci := 5) (v := .ref ml) (C := R_M) (T := F_M) (N := 26) hx hb hts wl_M hown hK hP 0 rfl rfl 7 (by decide) (hts _ wf_M_16) (fun _ h9 => h9) rfl d_M_share_21 ?_
      refine lv_iload_n hx hb d_M_share_24 rfl (lv_at hl 2 rfl) ?_
      refine sd_iald (j := f) hx hb hK hP 3 0 rfl rfl (by omega) (by omega) d_M_share_25 ?_
      refine lv_if_ne (tgt := 33) hx hb d_M_share_26 rfl (fun hc26 => ?_) (fun hc26 => ?_)
      · skip
        refine lv_iload_n hx hb d_M_share_33 rfl (lv_at hl 3 rfl) ?_
        refine lv_if_lt (tgt := 47) hx hb d_M_share_34 rfl (fun hc34 => ?_) (fun hc34 => ?_)
        · skip
          exact absurd hc34 (nI_pos (by omega))
        · skip
          refine lv_iload_n hx hb d_M_share_37 rfl (lv_at hl 3 rfl) ?_
          refine lv_aload_n hx hb d_M_share_38 rfl (lv_at hl 0 rfl) ?_
          refine va_get (D := D) (ci := 5) (v := .ref ml) (C := R_M) (T := F_M) (N := 26) hx hb hts wl_M hown hK hP 0 rfl rfl 7 (by decide) (hts _ wf_M_16) (fun _ h9 => h9) rfl d_M_share_39 ?_
          refine lv_iload_n hx hb d_M_share_42 rfl (lv_at hl 2 rfl) ?_
          refine sd_iald (j := f) hx hb hK hP 3 0 rfl rfl (by omega) (by omega) d_M_share_43 ?_
          refine lv_icmp_lt (tgt := 51) hx hb d_M_share_44 rfl (fun hc44 => ?_) (fun hc44 => ?_)
          · skip
            refine lv_iconst (v := 0) hx hb d_M_share_51 (by decide) ?_
            refine va_put (D := D) (ci := 5) (v := .int (0)) (ty := .int) (C := R_M) (T := F_M) (N := 26) hx hb hts wl_M t_M t_M_ok n_M hown hK hP hD hS 0 rfl rfl 0 (by decide) (hts _ wf_M_51) (fun _ h9 => h9) rfl (by decide +kernel) rfl rfl (Nat.le_of_ble_eq_true rfl) d_M_share_52 (fun H locs hP hD hS => ?_)
            have hP : va_P D cls (mW cI cZ qm mp mt ml mc mf me mg mh mu (0) (nI k) (nI n) (nI (pn)) (nI (nx)) (ep) (nI (M.1)) (M.2.2.1) (M.2.2.2) (wi) (jb) (fp) (tf) (tt) (fi) (ln) (bx) (1000) (pr) (1000) (tk) (8) (le) (576) (co) (576) (fr) (10) (em) (192) (M.2.1) (10) (nb) (10) (su)) H := hP
            have hD : va_D A (mW cI cZ qm mp mt ml mc mf me mg mh mu (0) (nI k) (nI n) (nI (pn)) (nI (nx)) (ep) (nI (M.1)) (M.2.2.1) (M.2.2.2) (wi) (jb) (fp) (tf) (tt) (fi) (ln) (bx) (1000) (pr) (1000) (tk) (8) (le) (576) (co) (576) (fr) (10) (em) (192) (M.2.1) (10) (nb) (10) (su)) := hD
            refine lv_aload_n hx hb d_M_share_55 rfl (lv_at hl 0 rfl) ?_
            refine va_get (D := D) (ci := 5) (v := .int (0)) (C := R_M) (T := F_M) (N := 26) hx hb hts wl_M hown hK hP 0 rfl rfl 0 (by decide) (hts _ wf_M_51) (fun _ h9 => h9) rfl d_M_share_56 ?_
            refine lv_if_le (tgt := 64) hx hb d_M_share_59 rfl (fun hc59 => ?_) (fun hc59 => ?_)
            · skip
              refine lv_aload_n hx hb d_M_share_64 rfl (lv_at hl 0 rfl) ?_
              refine va_get (D := D) (ci := 5) (v := .ref me) (C := R_M) (T := F_M) (N := 26) hx hb hts wl_M hown hK hP 0 rfl rfl 11 (by decide) (hts _ wf_M_25) (fun _ h9 => h9) rfl d_M_share_65 ?_
              refine lv_iload_n hx hb d_M_share_68 rfl (lv_at hl 1 rfl) ?_
              refine sd_zald (j := x) hx hb hK hP 6 1 rfl rfl (by omega) (by omega) d_M_share_69 ?_
              refine lv_if_eq (tgt := 77) hx hb d_M_share_70 rfl (fun hc70 => ?_) (fun hc70 => ?_)
              · skip
                exact absurd hc70 hem
              · skip
                refine lv_iconst (v := (-1)) hx hb d_M_share_73 (by decide) ?_
                refine lv_goto (tgt := 95) hx hb d_M_share_74 rfl ?_
                exact sd_iret hx hb hr hlk hP hS (Nat.le_of_ble_eq_true rfl) (Nat.le_of_ble_eq_true rfl) (rfl) d_M_share_95
            · skip
              exact False.elim (by revert hc59; decide)
          · skip
            exact absurd hbb hc44
      · skip
        exact absurd hc26 hl0
    · skip
      exact False.elim (by revert hc13; decide)
set_option maxHeartbeats 4000000 in
set_option maxRecDepth 100000 in
theorem c_M_share_0v (l : Launch) (D : va_G) (cI cZ cQ : ClassId) (qm : Nat) (mp : Nat) (mt : Nat) (ml : Nat) (mc : Nat) (mf : Nat) (me : Nat) (mg : Nat) (mh : Nat) (mu : Nat) (k : Nat) (n : Nat) (pn : Nat) (nx : Nat) (cd : Int32) (ep : Int32) (M : mm_T) (wi : Int32) (jb : Int32) (fp : Int32) (tf : Int32) (tt : Int32) (fi : Int32) (ln : Int32) (bx : Int32) (pr : Nat → Int32) (tk : Nat → Int32) (le : Nat → Int32) (co : Nat → Int32) (fr : Nat → Int32) (em : Nat → Int32) (nb : Nat → Int32) (su : Nat → Int32) (x : Nat) (f : Nat) (b : Nat) (cb : Nat → BitVec 8) (hk : k ≤ 9) (hn : n ≤ 9) (hx1 : 1 ≤ x) (hxn : x ≤ n) (hf8 : f < 8) (hl0 : ¬ le f = 0) (hb8 : b < 8) (hbb : nI b < le f) (hem : em x = 0) (hco : ∀ j, j < k → co (9 * (8 * f + b) + j) = bI (cb j)) : sd_I l D (tyL cI cZ cQ) y_M_share b_M_share 4 (.int) ({ frames := 2, cells := 0, slots := 0, locals := 48 }) [.ref qm, .int (nI x), .int (nI f), .int (nI b)] (mW cI cZ qm mp mt ml mc mf me mg mh mu (cd) (nI k) (nI n) (nI (pn)) (nI (nx)) (ep) (nI (M.1)) (M.2.2.1) (M.2.2.2) (wi) (jb) (fp) (tf) (tt) (fi) (ln) (bx) (1000) (pr) (1000) (tk) (8) (le) (576) (co) (576) (fr) (10) (em) (192) (M.2.1) (10) (nb) (10) (su)) (bI (gf_h cb (BitVec.ofNat 8 x) k 0#8)) (mW cI cZ qm mp mt ml mc mf me mg mh mu (0) (nI k) (nI n) (nI (pn)) (nI (nx)) (ep) (nI (M.1)) (M.2.2.1) (M.2.2.2) (wi) (jb) (fp) (tf) (tt) (fi) (ln) (bx) (1000) (pr) (1000) (tk) (8) (le) (576) (co) (576) (fr) (10) (em) (192) (M.2.1) (10) (nb) (10) (su)) := by
  refine sd_ofI (by decide) (Nat.le_of_ble_eq_true rfl) ?_
  intro p e s m below meth c A ls hx hb hr hml hlk hown hts hK hP hD hA hS hl
  have hl : lv_has ls 4 [(0, .ref qm), (1, .int (nI x)), (2, .int (nI f)), (3, .int (nI b))] := hl
  refine lv_aload_n hx hb d_M_share_0 rfl (lv_at hl 0 rfl) ?_
  refine lv_aload_n hx hb d_M_share_1 rfl (lv_at hl 0 rfl) ?_
  refine lv_iload_n hx hb d_M_share_2 rfl (lv_at hl 1 rfl) ?_
  refine sd_allVI (As := [.int (nI x)]) (rest := [.ref qm]) (w1 := (mW cI cZ qm mp mt ml mc mf me mg mh mu (cd) (nI k) (nI n) (nI (pn)) (nI (nx)) (ep) (nI (M.1)) (M.2.2.1) (M.2.2.2) (wi) (jb) (fp) (tf) (tt) (fi) (ln) (bx) (1000) (pr) (1000) (tk) (8) (le) (576) (co) (576) (fr) (10) (em) (192) (M.2.1) (10) (nb) (10) (su))) (c_M_isBox_1 l D cI cZ cQ (qm) (mp) (mt) (ml) (mc) (mf) (me) (mg) (mh) (mu) (k) (n) (pn) (nx) (cd) (ep) (M) (wi) (jb) (fp) (tf) (tt) (fi) (ln) (bx) (pr) (tk) (le) (co) (fr) (em) (nb) (su) (nI x) (hk) (hn) (bx_in hx1 hxn hn)) ⟨wc_M_isBox, wm_M_145, wi_M, by decide, by decide, show (parseMethodDescriptor y_M_isBox.desc).map (fun d => d.parameters.length) = some 1 by decide +kernel⟩ wo_M_isBox wz_M_isBox hx hb hml hown hts hl.1 ⟨Nat.le_of_ble_eq_true rfl, Nat.le_of_ble_eq_true rfl⟩ ⟨Nat.le_of_ble_eq_true rfl, Nat.le_of_ble_eq_true rfl⟩ hK hP hD hS hA (rfl) (q0 := 0) rfl rfl rfl (Nat.le_of_ble_eq_true rfl) d_M_share_3 (fun H locs hP hD hS => ?_)
  have hP : va_P D cls (mW cI cZ qm mp mt ml mc mf me mg mh mu (cd) (nI k) (nI n) (nI (pn)) (nI (nx)) (ep) (nI (M.1)) (M.2.2.1) (M.2.2.2) (wi) (jb) (fp) (tf) (tt) (fi) (ln) (bx) (1000) (pr) (1000) (tk) (8) (le) (576) (co) (576) (fr) (10) (em) (192) (M.2.1) (10) (nb) (10) (su)) H := hP
  have hD : va_D A (mW cI cZ qm mp mt ml mc mf me mg mh mu (cd) (nI k) (nI n) (nI (pn)) (nI (nx)) (ep) (nI (M.1)) (M.2.2.1) (M.2.2.2) (wi) (jb) (fp) (tf) (tt) (fi) (ln) (bx) (1000) (pr) (1000) (tk) (8) (le) (576) (co) (576) (fr) (10) (em) (192) (M.2.1) (10) (nb) (10) (su)) := hD
  refine lv_if_eq (tgt := 16) hx hb d_M_share_6 rfl (fun hc6 => ?_) (fun hc6 => ?_)
  · skip
    exact False.elim (by revert hc6; decide)
  · skip
    refine lv_iload_n hx hb d_M_share_9 rfl (lv_at hl 2 rfl) ?_
    refine sd_callSI (As := [.int (nI f)]) (rest := [.ref qm]) (cx := []) (w1 := []) (c_M_isFile_1 l D cI cZ cQ (nI f) (fl_in hf8)) ⟨wc_M_isFile, wm_M_129, wi_M, by decide, by decide, show (parseMethodDescriptor y_M_isFile.desc).map (fun d => d.parameters.length) = some 1 by decide +kernel⟩ ws_M_isFile hx hb hml hown hts hl.1 ⟨Nat.le_of_ble_eq_true rfl, Nat.le_of_ble_eq_true rfl⟩ ⟨Nat.le_of_ble_eq_true rfl, Nat.le_of_ble_eq_true rfl⟩ hK hP hD hS hA [] rfl (by decide) rfl rfl rfl (Nat.le_of_ble_eq_true rfl) d_M_share_10 (fun H locs hP hD hS => ?_)
    have hP : va_P D cls (mW cI cZ qm mp mt ml mc mf me mg mh mu (cd) (nI k) (nI n) (nI (pn)) (nI (nx)) (ep) (nI (M.1)) (M.2.2.1) (M.2.2.2) (wi) (jb) (fp) (tf) (tt) (fi) (ln) (bx) (1000) (pr) (1000) (tk) (8) (le) (576) (co) (576) (fr) (10) (em) (192) (M.2.1) (10) (nb) (10) (su)) H := hP
    have hD : va_D A (mW cI cZ qm mp mt ml mc mf me mg mh mu (cd) (nI k) (nI n) (nI (pn)) (nI (nx)) (ep) (nI (M.1)) (M.2.2.1) (M.2.2.2) (wi) (jb) (fp) (tf) (tt) (fi) (ln) (bx) (1000) (pr) (1000) (tk) (8) (le) (576) (co) (576) (fr) (10) (em) (192) (M.2.1) (10) (nb) (10) (su)) := hD
    refine lv_if_ne (tgt := 20) hx hb d_M_share_13 rfl (fun hc13 => ?_) (fun hc13 => ?_)
    · skip
      refine lv_aload_n hx hb d_M_share_20 rfl (lv_at hl 0 rfl) ?_
      refine va_get (D := D) (ci := 5) (v := .ref ml) (C := R_M) (T := F_M) (N := 26) hx hb hts wl_M hown hK hP 0 rfl rfl 7 (by decide) (hts _ wf_M_16) (fun _ h9 => h9) rfl d_M_share_21 ?_
      refine lv_iload_n hx hb d_M_share_24 rfl (lv_at hl 2 rfl) ?_
      refine sd_iald (j := f) hx hb hK hP 3 0 rfl rfl (by omega) (by omega) d_M_share_25 ?_
      refine lv_if_ne (tgt := 33) hx hb d_M_share_26 rfl (fun hc26 => ?_) (fun hc26 => ?_)
      · skip
        refine lv_iload_n hx hb d_M_share_33 rfl (lv_at hl 3 rfl) ?_
        refine lv_if_lt (tgt := 47) hx hb d_M_share_34 rfl (fun hc34 => ?_) (fun hc34 => ?_)
        · skip
          exact absurd hc34 (nI_pos (by omega))
        · skip
          refine lv_iload_n hx hb d_M_share_37 rfl (lv_at hl 3 rfl) ?_
          refine lv_aload_n hx hb d_M_share_38 rfl (lv_at hl 0 rfl) ?_
          refine va_get (D := D) (ci := 5) (v := .ref ml) (C := R_M) (T := F_M) (N := 26) hx hb hts wl_M hown hK hP 0 rfl rfl 7 (by decide) (hts _ wf_M_16) (fun _ h9 => h9) rfl d_M_share_39 ?_
          refine lv_iload_n hx hb d_M_share_42 rfl (lv_at hl 2 rfl) ?_
          refine sd_iald (j := f) hx hb hK hP 3 0 rfl rfl (by omega) (by omega) d_M_share_43 ?_
          refine lv_icmp_lt (tgt := 51) hx hb d_M_share_44 rfl (fun hc44 => ?_) (fun hc44 => ?_)
          · skip
            refine lv_iconst (v := 0) hx hb d_M_share_51 (by decide) ?_
            refine va_put (D := D) (ci := 5) (v := .int (0)) (ty := .int) (C := R_M) (T := F_M) (N := 26) hx hb hts wl_M t_M t_M_ok n_M hown hK hP hD hS 0 rfl rfl 0 (by decide) (hts _ wf_M_51) (fun _ h9 => h9) rfl (by decide +kernel) rfl rfl (Nat.le_of_ble_eq_true rfl) d_M_share_52 (fun H locs hP hD hS => ?_)
            have hP : va_P D cls (mW cI cZ qm mp mt ml mc mf me mg mh mu (0) (nI k) (nI n) (nI (pn)) (nI (nx)) (ep) (nI (M.1)) (M.2.2.1) (M.2.2.2) (wi) (jb) (fp) (tf) (tt) (fi) (ln) (bx) (1000) (pr) (1000) (tk) (8) (le) (576) (co) (576) (fr) (10) (em) (192) (M.2.1) (10) (nb) (10) (su)) H := hP
            have hD : va_D A (mW cI cZ qm mp mt ml mc mf me mg mh mu (0) (nI k) (nI n) (nI (pn)) (nI (nx)) (ep) (nI (M.1)) (M.2.2.1) (M.2.2.2) (wi) (jb) (fp) (tf) (tt) (fi) (ln) (bx) (1000) (pr) (1000) (tk) (8) (le) (576) (co) (576) (fr) (10) (em) (192) (M.2.1) (10) (nb) (10) (su)) := hD
            refine lv_aload_n hx hb d_M_share_55 rfl (lv_at hl 0 rfl) ?_
            refine va_get (D := D) (ci := 5) (v := .int (0)) (C := R_M) (T := F_M) (N := 26) hx hb hts wl_M hown hK hP 0 rfl rfl 0 (by decide) (hts _ wf_M_51) (fun _ h9 => h9) rfl d_M_share_56 ?_
            refine lv_if_le (tgt := 64) hx hb d_M_share_59 rfl (fun hc59 => ?_) (fun hc59 => ?_)
            · skip
              refine lv_aload_n hx hb d_M_share_64 rfl (lv_at hl 0 rfl) ?_
              refine va_get (D := D) (ci := 5) (v := .ref me) (C := R_M) (T := F_M) (N := 26) hx hb hts wl_M hown hK hP 0 rfl rfl 11 (by decide) (hts _ wf_M_25) (fun _ h9 => h9) rfl d_M_share_65 ?_
              refine lv_iload_n hx hb d_M_share_68 rfl (lv_at hl 1 rfl) ?_
              refine sd_zald (j := x) hx hb hK hP 6 1 rfl rfl (by omega) (by omega) d_M_share_69 ?_
              refine lv_if_eq (tgt := 77) hx hb d_M_share_70 rfl (fun hc70 => ?_) (fun hc70 => ?_)
              · skip
                refine lv_aload_n hx hb d_M_share_77 rfl (lv_at hl 0 rfl) ?_
                refine lv_aload_n hx hb d_M_share_78 rfl (lv_at hl 0 rfl) ?_
                refine va_get (D := D) (ci := 5) (v := .ref mc) (C := R_M) (T := F_M) (N := 26) hx hb hts wl_M hown hK hP 0 rfl rfl 8 (by decide) (hts _ wf_M_19) (fun _ h9 => h9) rfl d_M_share_79 ?_
                refine lv_bipush (v := nI 9) hx hb d_M_share_82 (by decide) ?_
                refine lv_bipush (v := nI 8) hx hb d_M_share_84 (by decide) ?_
                refine lv_iload_n hx hb d_M_share_86 rfl (lv_at hl 2 rfl) ?_
                refine lv_imul hx hb d_M_share_87 ?_
                refine sd_top (y := nI (8 * f)) (pk_mul _ _) ?_
                refine lv_iload_n hx hb d_M_share_88 rfl (lv_at hl 3 rfl) ?_
                refine lv_iadd hx hb d_M_share_89 ?_
                refine sd_top (y := nI (8 * f + b)) (nI_add _ _) ?_
                refine lv_imul hx hb d_M_share_90 ?_
                refine sd_top (y := nI (9 * (8 * f + b))) (pk_mul _ _) ?_
                refine lv_iload_n hx hb d_M_share_91 rfl (lv_at hl 1 rfl) ?_
                refine sd_top (y := bI (BitVec.ofNat 8 x)) (bI_of (by omega)) ?_
                refine sd_allVI (As := [.ref mc, .int (nI (9 * (8 * f + b))), .int (bI (BitVec.ofNat 8 x))]) (rest := []) (w1 := (mW cI cZ qm mp mt ml mc mf me mg mh mu (0) (nI k) (nI n) (nI (pn)) (nI (nx)) (ep) (nI (M.1)) (M.2.2.1) (M.2.2.2) (wi) (jb) (fp) (tf) (tt) (fi) (ln) (bx) (1000) (pr) (1000) (tk) (8) (le) (576) (co) (576) (fr) (10) (em) (192) (M.2.1) (10) (nb) (10) (su))) (c_M_valueAt_c l D cI cZ cQ (qm) (mp) (mt) (ml) (mc) (mf) (me) (mg) (mh) (mu) (k) (n) (pn) (nx) (0) (ep) (M) (wi) (jb) (fp) (tf) (tt) (fi) (ln) (bx) (pr) (tk) (le) (co) (fr) (em) (nb) (su) (9 * (8 * f + b)) (cb) (BitVec.ofNat 8 x) (hk) (hn) (by omega) (hco)) ⟨wc_M_valueAt, wm_M_77, wi_M, by decide, by decide, show (parseMethodDescriptor y_M_valueAt.desc).map (fun d => d.parameters.length) = some 3 by decide +kernel⟩ wo_M_valueAt wz_M_valueAt hx hb hml hown hts hl.1 ⟨Nat.le_of_ble_eq_true rfl, Nat.le_of_ble_eq_true rfl⟩ ⟨Nat.le_of_ble_eq_true rfl, Nat.le_of_ble_eq_true rfl⟩ hK hP hD hS hA (rfl) (q0 := 0) rfl rfl rfl (Nat.le_of_ble_eq_true rfl) d_M_share_92 (fun H locs hP hD hS => ?_)
                have hP : va_P D cls (mW cI cZ qm mp mt ml mc mf me mg mh mu (0) (nI k) (nI n) (nI (pn)) (nI (nx)) (ep) (nI (M.1)) (M.2.2.1) (M.2.2.2) (wi) (jb) (fp) (tf) (tt) (fi) (ln) (bx) (1000) (pr) (1000) (tk) (8) (le) (576) (co) (576) (fr) (10) (em) (192) (M.2.1) (10) (nb) (10) (su)) H := hP
                have hD : va_D A (mW cI cZ qm mp mt ml mc mf me mg mh mu (0) (nI k) (nI n) (nI (pn)) (nI (nx)) (ep) (nI (M.1)) (M.2.2.1) (M.2.2.2) (wi) (jb) (fp) (tf) (tt) (fi) (ln) (bx) (1000) (pr) (1000) (tk) (8) (le) (576) (co) (576) (fr) (10) (em) (192) (M.2.1) (10) (nb) (10) (su)) := hD
                exact sd_iret hx hb hr hlk hP hS (Nat.le_of_ble_eq_true rfl) (Nat.le_of_ble_eq_true rfl) (rfl) d_M_share_95
              · skip
                exact absurd hem hc70
            · skip
              exact False.elim (by revert hc59; decide)
          · skip
            exact absurd hbb hc44
      · skip
        exact absurd hc26 hl0
    · skip
      exact False.elim (by revert hc13; decide)
set_option maxHeartbeats 4000000 in
set_option maxRecDepth 100000 in
theorem c_M_restore_1 (l : Launch) (D : va_G) (cI cZ cQ : ClassId) (qm : Nat) (mp : Nat) (mt : Nat) (ml : Nat) (mc : Nat) (mf : Nat) (me : Nat) (mg : Nat) (mh : Nat) (mu : Nat) (k : Nat) (n : Nat) (pn : Nat) (nx : Nat) (cd : Int32) (ep : Int32) (M : mm_T) (wi : Int32) (jb : Int32) (fp : Int32) (tf : Int32) (tt : Int32) (fi : Int32) (ln : Int32) (bx : Int32) (pr : Nat → Int32) (tk : Nat → Int32) (le : Nat → Int32) (co : Nat → Int32) (fr : Nat → Int32) (em : Nat → Int32) (nb : Nat → Int32) (su : Nat → Int32) (f : Int32) (mk : Int32) (hk : k ≤ 9) (hn : n ≤ 9) (hfx : ¬ (0 ≤ f ∧ f ≤ 7)) : sd_J l D (tyL cI cZ cQ) y_M_restore b_M_restore 6 ({ frames := 1, cells := 0, slots := 0, locals := 20 }) [.ref qm, .int (f), .int (mk)] (mW cI cZ qm mp mt ml mc mf me mg mh mu (cd) (nI k) (nI n) (nI (pn)) (nI (nx)) (ep) (nI (M.1)) (M.2.2.1) (M.2.2.2) (wi) (jb) (fp) (tf) (tt) (fi) (ln) (bx) (1000) (pr) (1000) (tk) (8) (le) (576) (co) (576) (fr) (10) (em) (192) (M.2.1) (10) (nb) (10) (su)) (0) (mW cI cZ qm mp mt ml mc mf me mg mh mu (1) (nI k) (nI n) (nI (pn)) (nI (nx)) (ep) (nI (M.1)) (M.2.2.1) (M.2.2.2) (wi) (jb) (fp) (tf) (tt) (fi) (ln) (bx) (1000) (pr) (1000) (tk) (8) (le) (576) (co) (576) (fr) (10) (em) (192) (M.2.1) (10) (nb) (10) (su)) := by
  refine sd_ofJ (by decide) (Nat.le_of_ble_eq_true rfl) ?_
  intro p e s m below meth c A ls hx hb hr hml hlk hown hts hK hP hD hA hS hl
  have hl : lv_has ls 6 [(0, .ref qm), (1, .int (f)), (2, .int (mk))] := hl
  refine lv_aload_n hx hb d_M_restore_0 rfl (lv_at hl 0 rfl) ?_
  refine lv_iload_n hx hb d_M_restore_1 rfl (lv_at hl 1 rfl) ?_
  refine sd_callSI (As := [.int (f)]) (rest := [.ref qm]) (cx := []) (w1 := []) (c_M_isFile_0 l D cI cZ cQ (f) (hfx)) ⟨wc_M_isFile, wm_M_129, wi_M, by decide, by decide, show (parseMethodDescriptor y_M_isFile.desc).map (fun d => d.parameters.length) = some 1 by decide +kernel⟩ ws_M_isFile hx hb hml hown hts hl.1 ⟨Nat.le_of_ble_eq_true rfl, Nat.le_of_ble_eq_true rfl⟩ ⟨Nat.le_of_ble_eq_true rfl, Nat.le_of_ble_eq_true rfl⟩ hK hP hD hS hA [] rfl (by decide) rfl rfl rfl (Nat.le_of_ble_eq_true rfl) d_M_restore_2 (fun H locs hP hD hS => ?_)
  have hP : va_P D cls (mW cI cZ qm mp mt ml mc mf me mg mh mu (cd) (nI k) (nI n) (nI (pn)) (nI (nx)) (ep) (nI (M.1)) (M.2.2.1) (M.2.2.2) (wi) (jb) (fp) (tf) (tt) (fi) (ln) (bx) (1000) (pr) (1000) (tk) (8) (le) (576) (co) (576) (fr) (10) (em) (192) (M.2.1) (10) (nb) (10) (su)) H := hP
  have hD : va_D A (mW cI cZ qm mp mt ml mc mf me mg mh mu (cd) (nI k) (nI n) (nI (pn)) (nI (nx)) (ep) (nI (M.1)) (M.2.2.1) (M.2.2.2) (wi) (jb) (fp) (tf) (tt) (fi) (ln) (bx) (1000) (pr) (1000) (tk) (8) (le) (576) (co) (576) (fr) (10) (em) (192) (M.2.1) (10) (nb) (10) (su)) := hD
  refine lv_if_ne (tgt := 12) hx hb d_M_restore_5 rfl (fun hc5 => ?_) (fun hc5 => ?_)
  · skip
    exact False.elim (by revert hc5; decide)
  · skip
    refine lv_iconst (v := 1) hx hb d_M_restore_8 (by decide) ?_
    refine lv_goto (tgt := 42) hx hb d_M_restore_9 rfl ?_
    refine va_put (D := D) (ci := 5) (v := .int (1)) (ty := .int) (C := R_M) (T := F_M) (N := 26) hx hb hts wl_M t_M t_M_ok n_M hown hK hP hD hS 0 rfl rfl 0 (by decide) (hts _ wf_M_51) (fun _ h9 => h9) rfl (by decide +kernel) rfl rfl (Nat.le_of_ble_eq_true rfl) d_M_restore_42 (fun H locs hP hD hS => ?_)
    have hP : va_P D cls (mW cI cZ qm mp mt ml mc mf me mg mh mu (1) (nI k) (nI n) (nI (pn)) (nI (nx)) (ep) (nI (M.1)) (M.2.2.1) (M.2.2.2) (wi) (jb) (fp) (tf) (tt) (fi) (ln) (bx) (1000) (pr) (1000) (tk) (8) (le) (576) (co) (576) (fr) (10) (em) (192) (M.2.1) (10) (nb) (10) (su)) H := hP
    have hD : va_D A (mW cI cZ qm mp mt ml mc mf me mg mh mu (1) (nI k) (nI n) (nI (pn)) (nI (nx)) (ep) (nI (M.1)) (M.2.2.1) (M.2.2.2) (wi) (jb) (fp) (tf) (tt) (fi) (ln) (bx) (1000) (pr) (1000) (tk) (8) (le) (576) (co) (576) (fr) (10) (em) (192) (M.2.1) (10) (nb) (10) (su)) := hD
    refine lv_aload_n hx hb d_M_restore_45 rfl (lv_at hl 0 rfl) ?_
    refine va_get (D := D) (ci := 5) (v := .int (1)) (C := R_M) (T := F_M) (N := 26) hx hb hts wl_M hown hK hP 0 rfl rfl 0 (by decide) (hts _ wf_M_51) (fun _ h9 => h9) rfl d_M_restore_46 ?_
    refine lv_if_le (tgt := 54) hx hb d_M_restore_49 rfl (fun hc49 => ?_) (fun hc49 => ?_)
    · skip
      exact False.elim (by revert hc49; decide)
    · skip
      refine lv_lconst (v := 0) hx hb d_M_restore_52 (by decide) ?_
      exact sd_lret hx hb hr hlk hP hS (Nat.le_of_ble_eq_true rfl) (Nat.le_of_ble_eq_true rfl) (rfl) d_M_restore_53
set_option maxHeartbeats 4000000 in
set_option maxRecDepth 100000 in
theorem c_M_restore_2 (l : Launch) (D : va_G) (cI cZ cQ : ClassId) (qm : Nat) (mp : Nat) (mt : Nat) (ml : Nat) (mc : Nat) (mf : Nat) (me : Nat) (mg : Nat) (mh : Nat) (mu : Nat) (k : Nat) (n : Nat) (pn : Nat) (nx : Nat) (cd : Int32) (ep : Int32) (M : mm_T) (wi : Int32) (jb : Int32) (fp : Int32) (tf : Int32) (tt : Int32) (fi : Int32) (ln : Int32) (bx : Int32) (pr : Nat → Int32) (tk : Nat → Int32) (le : Nat → Int32) (co : Nat → Int32) (fr : Nat → Int32) (em : Nat → Int32) (nb : Nat → Int32) (su : Nat → Int32) (f : Nat) (mk : Int32) (hk : k ≤ 9) (hn : n ≤ 9) (hf8 : f < 8) (hl0 : le f = 0) : sd_J l D (tyL cI cZ cQ) y_M_restore b_M_restore 6 ({ frames := 1, cells := 0, slots := 0, locals := 23 }) [.ref qm, .int (nI f), .int (mk)] (mW cI cZ qm mp mt ml mc mf me mg mh mu (cd) (nI k) (nI n) (nI (pn)) (nI (nx)) (ep) (nI (M.1)) (M.2.2.1) (M.2.2.2) (wi) (jb) (fp) (tf) (tt) (fi) (ln) (bx) (1000) (pr) (1000) (tk) (8) (le) (576) (co) (576) (fr) (10) (em) (192) (M.2.1) (10) (nb) (10) (su)) (0) (mW cI cZ qm mp mt ml mc mf me mg mh mu (2) (nI k) (nI n) (nI (pn)) (nI (nx)) (ep) (nI (M.1)) (M.2.2.1) (M.2.2.2) (wi) (jb) (fp) (tf) (tt) (fi) (ln) (bx) (1000) (pr) (1000) (tk) (8) (le) (576) (co) (576) (fr) (10) (em) (192) (M.2.1) (10) (nb) (10) (su)) := by
  refine sd_ofJ (by decide) (Nat.le_of_ble_eq_true rfl) ?_
  intro p e s m below meth c A ls hx hb hr hml hlk hown hts hK hP hD hA hS hl
  have hl : lv_has ls 6 [(0, .ref qm), (1, .int (nI f)), (2, .int (mk))] := hl
  refine lv_aload_n hx hb d_M_restore_0 rfl (lv_at hl 0 rfl) ?_
  refine lv_iload_n hx hb d_M_restore_1 rfl (lv_at hl 1 rfl) ?_
  refine sd_callSI (As := [.int (nI f)]) (rest := [.ref qm]) (cx := []) (w1 := []) (c_M_isFile_1 l D cI cZ cQ (nI f) (fl_in hf8)) ⟨wc_M_isFile, wm_M_129, wi_M, by decide, by decide, show (parseMethodDescriptor y_M_isFile.desc).map (fun d => d.parameters.length) = some 1 by decide +kernel⟩ ws_M_isFile hx hb hml hown hts hl.1 ⟨Nat.le_of_ble_eq_true rfl, Nat.le_of_ble_eq_true rfl⟩ ⟨Nat.le_of_ble_eq_true rfl, Nat.le_of_ble_eq_true rfl⟩ hK hP hD hS hA [] rfl (by decide) rfl rfl rfl (Nat.le_of_ble_eq_true rfl) d_M_restore_2 (fun H locs hP hD hS => ?_)
  have hP : va_P D cls (mW cI cZ qm mp mt ml mc mf me mg mh mu (cd) (nI k) (nI n) (nI (pn)) (nI (nx)) (ep) (nI (M.1)) (M.2.2.1) (M.2.2.2) (wi) (jb) (fp) (tf) (tt) (fi) (ln) (bx) (1000) (pr) (1000) (tk) (8) (le) (576) (co) (576) (fr) (10) (em) (192) (M.2.1) (10) (nb) (10) (su)) H := hP
  have hD : va_D A (mW cI cZ qm mp mt ml mc mf me mg mh mu (cd) (nI k) (nI n) (nI (pn)) (nI (nx)) (ep) (nI (M.1)) (M.2.2.1) (M.2.2.2) (wi) (jb) (fp) (tf) (tt) (fi) (ln) (bx) (1000) (pr) (1000) (tk) (8) (le) (576) (co) (576) (fr) (10) (em) (192) (M.2.1) (10) (nb) (10) (su)) := hD
  refine lv_if_ne (tgt := 12) hx hb d_M_restore_5 rfl (fun hc5 => ?_) (fun hc5 => ?_)
  · skip
    refine lv_aload_n hx hb d_M_restore_12 rfl (lv_at hl 0 rfl) ?_
    refine va_get (D := D) (ci := 5) (v := .ref ml) (C := R_M) (T := F_M) (N := 26) hx hb hts wl_M hown hK hP 0 rfl rfl 7 (by decide) (hts _ wf_M_16) (fun _ h9 => h9) rfl d_M_restore_13 ?_
    refine lv_iload_n hx hb d_M_restore_16 rfl (lv_at hl 1 rfl) ?_
    refine sd_iald (j := f) hx hb hK hP 3 0 rfl rfl (by omega) (by omega) d_M_restore_17 ?_
    refine lv_if_ne (tgt := 25) hx hb d_M_restore_18 rfl (fun hc18 => ?_) (fun hc18 => ?_)
    · skip
      exact absurd hl0 hc18
    · skip
      refine lv_iconst (v := 2) hx hb d_M_restore_21 (by decide) ?_
      refine lv_goto (tgt := 42) hx hb d_M_restore_22 rfl ?_
      refine va_put (D := D) (ci := 5) (v := .int (2)) (ty := .int) (C := R_M) (T := F_M) (N := 26) hx hb hts wl_M t_M t_M_ok n_M hown hK hP hD hS 0 rfl rfl 0 (by decide) (hts _ wf_M_51) (fun _ h9 => h9) rfl (by decide +kernel) rfl rfl (Nat.le_of_ble_eq_true rfl) d_M_restore_42 (fun H locs hP hD hS => ?_)
      have hP : va_P D cls (mW cI cZ qm mp mt ml mc mf me mg mh mu (2) (nI k) (nI n) (nI (pn)) (nI (nx)) (ep) (nI (M.1)) (M.2.2.1) (M.2.2.2) (wi) (jb) (fp) (tf) (tt) (fi) (ln) (bx) (1000) (pr) (1000) (tk) (8) (le) (576) (co) (576) (fr) (10) (em) (192) (M.2.1) (10) (nb) (10) (su)) H := hP
      have hD : va_D A (mW cI cZ qm mp mt ml mc mf me mg mh mu (2) (nI k) (nI n) (nI (pn)) (nI (nx)) (ep) (nI (M.1)) (M.2.2.1) (M.2.2.2) (wi) (jb) (fp) (tf) (tt) (fi) (ln) (bx) (1000) (pr) (1000) (tk) (8) (le) (576) (co) (576) (fr) (10) (em) (192) (M.2.1) (10) (nb) (10) (su)) := hD
      refine lv_aload_n hx hb d_M_restore_45 rfl (lv_at hl 0 rfl) ?_
      refine va_get (D := D) (ci := 5) (v := .int (2)) (C := R_M) (T := F_M) (N := 26) hx hb hts wl_M hown hK hP 0 rfl rfl 0 (by decide) (hts _ wf_M_51) (fun _ h9 => h9) rfl d_M_restore_46 ?_
      refine lv_if_le (tgt := 54) hx hb d_M_restore_49 rfl (fun hc49 => ?_) (fun hc49 => ?_)
      · skip
        exact False.elim (by revert hc49; decide)
      · skip
        refine lv_lconst (v := 0) hx hb d_M_restore_52 (by decide) ?_
        exact sd_lret hx hb hr hlk hP hS (Nat.le_of_ble_eq_true rfl) (Nat.le_of_ble_eq_true rfl) (rfl) d_M_restore_53
  · skip
    exact False.elim (by revert hc5; decide)
set_option maxHeartbeats 4000000 in
set_option maxRecDepth 100000 in
theorem c_M_restore_3 (l : Launch) (D : va_G) (cI cZ cQ : ClassId) (qm : Nat) (mp : Nat) (mt : Nat) (ml : Nat) (mc : Nat) (mf : Nat) (me : Nat) (mg : Nat) (mh : Nat) (mu : Nat) (k : Nat) (n : Nat) (pn : Nat) (nx : Nat) (cd : Int32) (ep : Int32) (M : mm_T) (wi : Int32) (jb : Int32) (fp : Int32) (tf : Int32) (tt : Int32) (fi : Int32) (ln : Int32) (bx : Int32) (pr : Nat → Int32) (tk : Nat → Int32) (le : Nat → Int32) (co : Nat → Int32) (fr : Nat → Int32) (em : Nat → Int32) (nb : Nat → Int32) (su : Nat → Int32) (f : Nat) (mk : Int32) (hk : k ≤ 9) (hn : n ≤ 9) (hf8 : f < 8) (hl0 : ¬ le f = 0) (hsm : sm_s em mk n < k) : sd_J l D (tyL cI cZ cQ) y_M_restore b_M_restore 6 ({ frames := 1, cells := 0, slots := 0, locals := 23 }) [.ref qm, .int (nI f), .int (mk)] (mW cI cZ qm mp mt ml mc mf me mg mh mu (cd) (nI k) (nI n) (nI (pn)) (nI (nx)) (ep) (nI (M.1)) (M.2.2.1) (M.2.2.2) (wi) (jb) (fp) (tf) (tt) (fi) (ln) (bx) (1000) (pr) (1000) (tk) (8) (le) (576) (co) (576) (fr) (10) (em) (192) (M.2.1) (10) (nb) (10) (su)) (0) (mW cI cZ qm mp mt ml mc mf me mg mh mu (3) (nI k) (nI n) (nI (pn)) (nI (nx)) (ep) (nI (M.1)) (M.2.2.1) (M.2.2.2) (wi) (jb) (fp) (tf) (tt) (fi) (ln) (bx) (1000) (pr) (1000) (tk) (8) (le) (576) (co) (576) (fr) (10) (em) (192) (M.2.1) (10) (nb) (10) (su)) := by
  refine sd_ofJ (by decide) (Nat.le_of_ble_eq_true rfl) ?_
  intro p e s m below meth c A ls hx hb hr hml hlk hown hts hK hP hD hA hS hl
  have hl : lv_has ls 6 [(0, .ref qm), (1, .int (nI f)), (2, .int (mk))] := hl
  have hss := sm_s_le em mk n
  refine lv_aload_n hx hb d_M_restore_0 rfl (lv_at hl 0 rfl) ?_
  refine lv_iload_n hx hb d_M_restore_1 rfl (lv_at hl 1 rfl) ?_
  refine sd_callSI (As := [.int (nI f)]) (rest := [.ref qm]) (cx := []) (w1 := []) (c_M_isFile_1 l D cI cZ cQ (nI f) (fl_in hf8)) ⟨wc_M_isFile, wm_M_129, wi_M, by decide, by decide, show (parseMethodDescriptor y_M_isFile.desc).map (fun d => d.parameters.length) = some 1 by decide +kernel⟩ ws_M_isFile hx hb hml hown hts hl.1 ⟨Nat.le_of_ble_eq_true rfl, Nat.le_of_ble_eq_true rfl⟩ ⟨Nat.le_of_ble_eq_true rfl, Nat.le_of_ble_eq_true rfl⟩ hK hP hD hS hA [] rfl (by decide) rfl rfl rfl (Nat.le_of_ble_eq_true rfl) d_M_restore_2 (fun H locs hP hD hS => ?_)
  have hP : va_P D cls (mW cI cZ qm mp mt ml mc mf me mg mh mu (cd) (nI k) (nI n) (nI (pn)) (nI (nx)) (ep) (nI (M.1)) (M.2.2.1) (M.2.2.2) (wi) (jb) (fp) (tf) (tt) (fi) (ln) (bx) (1000) (pr) (1000) (tk) (8) (le) (576) (co) (576) (fr) (10) (em) (192) (M.2.1) (10) (nb) (10) (su)) H := hP
  have hD : va_D A (mW cI cZ qm mp mt ml mc mf me mg mh mu (cd) (nI k) (nI n) (nI (pn)) (nI (nx)) (ep) (nI (M.1)) (M.2.2.1) (M.2.2.2) (wi) (jb) (fp) (tf) (tt) (fi) (ln) (bx) (1000) (pr) (1000) (tk) (8) (le) (576) (co) (576) (fr) (10) (em) (192) (M.2.1) (10) (nb) (10) (su)) := hD
  refine lv_if_ne (tgt := 12) hx hb d_M_restore_5 rfl (fun hc5 => ?_) (fun hc5 => ?_)
  · skip
    refine lv_aload_n hx hb d_M_restore_12 rfl (lv_at hl 0 rfl) ?_
    refine va_get (D := D) (ci := 5) (v := .ref ml) (C := R_M) (T := F_M) (N := 26) hx hb hts wl_M hown hK hP 0 rfl rfl 7 (by decide) (hts _ wf_M_16) (fun _ h9 => h9) rfl d_M_restore_13 ?_
    refine lv_iload_n hx hb d_M_restore_16 rfl (lv_at hl 1 rfl) ?_
    refine sd_iald (j := f) hx hb hK hP 3 0 rfl rfl (by omega) (by omega) d_M_restore_17 ?_
    refine lv_if_ne (tgt := 25) hx hb d_M_restore_18 rfl (fun hc18 => ?_) (fun hc18 => ?_)
    · skip
      refine lv_aload_n hx hb d_M_restore_25 rfl (lv_at hl 0 rfl) ?_
      refine lv_iload_n hx hb d_M_restore_26 rfl (lv_at hl 2 rfl) ?_
      refine sd_allVI (As := [.int (mk)]) (rest := [.ref qm]) (w1 := (mW cI cZ qm mp mt ml mc mf me mg mh mu (cd) (nI k) (nI n) (nI (pn)) (nI (nx)) (ep) (nI (M.1)) (M.2.2.1) (M.2.2.2) (wi) (jb) (fp) (tf) (tt) (fi) (ln) (bx) (1000) (pr) (1000) (tk) (8) (le) (576) (co) (576) (fr) (10) (em) (192) (M.2.1) (10) (nb) (10) (su))) (c_M_some l D cI cZ cQ (qm) (mp) (mt) (ml) (mc) (mf) (me) (mg) (mh) (mu) (k) (n) (pn) (nx) (cd) (ep) (M) (wi) (jb) (fp) (tf) (tt) (fi) (ln) (bx) (pr) (tk) (le) (co) (fr) (em) (nb) (su) (mk) (hk) (hn)) ⟨wc_M_some, wm_M_148, wi_M, by decide, by decide, show (parseMethodDescriptor y_M_some.desc).map (fun d => d.parameters.length) = some 1 by decide +kernel⟩ wo_M_some wz_M_some hx hb hml hown hts hl.1 ⟨Nat.le_of_ble_eq_true rfl, Nat.le_of_ble_eq_true rfl⟩ ⟨Nat.le_of_ble_eq_true rfl, Nat.le_of_ble_eq_true rfl⟩ hK hP hD hS hA (rfl) (q0 := 0) rfl rfl rfl (Nat.le_of_ble_eq_true rfl) d_M_restore_27 (fun H locs hP hD hS => ?_)
      have hP : va_P D cls (mW cI cZ qm mp mt ml mc mf me mg mh mu (cd) (nI k) (nI n) (nI (pn)) (nI (nx)) (ep) (nI (M.1)) (M.2.2.1) (M.2.2.2) (wi) (jb) (fp) (tf) (tt) (fi) (ln) (bx) (1000) (pr) (1000) (tk) (8) (le) (576) (co) (576) (fr) (10) (em) (192) (M.2.1) (10) (nb) (10) (su)) H := hP
      have hD : va_D A (mW cI cZ qm mp mt ml mc mf me mg mh mu (cd) (nI k) (nI n) (nI (pn)) (nI (nx)) (ep) (nI (M.1)) (M.2.2.1) (M.2.2.2) (wi) (jb) (fp) (tf) (tt) (fi) (ln) (bx) (1000) (pr) (1000) (tk) (8) (le) (576) (co) (576) (fr) (10) (em) (192) (M.2.1) (10) (nb) (10) (su)) := hD
      refine lv_aload_n hx hb d_M_restore_30 rfl (lv_at hl 0 rfl) ?_
      refine va_get (D := D) (ci := 5) (v := .int (nI k)) (C := R_M) (T := F_M) (N := 26) hx hb hts wl_M hown hK hP 0 rfl rfl 1 (by decide) (hts _ wf_M_48) (fun _ h9 => h9) rfl d_M_restore_31 ?_
      refine lv_icmp_ge (tgt := 41) hx hb d_M_restore_34 rfl (fun hc34 => ?_) (fun hc34 => ?_)
      · skip
        exact absurd hc34 (nI_ge hsm (by omega))
      · skip
        refine lv_iconst (v := 3) hx hb d_M_restore_37 (by decide) ?_
        refine lv_goto (tgt := 42) hx hb d_M_restore_38 rfl ?_
        refine va_put (D := D) (ci := 5) (v := .int (3)) (ty := .int) (C := R_M) (T := F_M) (N := 26) hx hb hts wl_M t_M t_M_ok n_M hown hK hP hD hS 0 rfl rfl 0 (by decide) (hts _ wf_M_51) (fun _ h9 => h9) rfl (by decide +kernel) rfl rfl (Nat.le_of_ble_eq_true rfl) d_M_restore_42 (fun H locs hP hD hS => ?_)
        have hP : va_P D cls (mW cI cZ qm mp mt ml mc mf me mg mh mu (3) (nI k) (nI n) (nI (pn)) (nI (nx)) (ep) (nI (M.1)) (M.2.2.1) (M.2.2.2) (wi) (jb) (fp) (tf) (tt) (fi) (ln) (bx) (1000) (pr) (1000) (tk) (8) (le) (576) (co) (576) (fr) (10) (em) (192) (M.2.1) (10) (nb) (10) (su)) H := hP
        have hD : va_D A (mW cI cZ qm mp mt ml mc mf me mg mh mu (3) (nI k) (nI n) (nI (pn)) (nI (nx)) (ep) (nI (M.1)) (M.2.2.1) (M.2.2.2) (wi) (jb) (fp) (tf) (tt) (fi) (ln) (bx) (1000) (pr) (1000) (tk) (8) (le) (576) (co) (576) (fr) (10) (em) (192) (M.2.1) (10) (nb) (10) (su)) := hD
        refine lv_aload_n hx hb d_M_restore_45 rfl (lv_at hl 0 rfl) ?_
        refine va_get (D := D) (ci := 5) (v := .int (3)) (C := R_M) (T := F_M) (N := 26) hx hb hts wl_M hown hK hP 0 rfl rfl 0 (by decide) (hts _ wf_M_51) (fun _ h9 => h9) rfl d_M_restore_46 ?_
        refine lv_if_le (tgt := 54) hx hb d_M_restore_49 rfl (fun hc49 => ?_) (fun hc49 => ?_)
        · skip
          exact False.elim (by revert hc49; decide)
        · skip
          refine lv_lconst (v := 0) hx hb d_M_restore_52 (by decide) ?_
          exact sd_lret hx hb hr hlk hP hS (Nat.le_of_ble_eq_true rfl) (Nat.le_of_ble_eq_true rfl) (rfl) d_M_restore_53
    · skip
      exact absurd hc18 hl0
  · skip
    exact False.elim (by revert hc5; decide)
set_option maxHeartbeats 4000000 in
set_option maxRecDepth 100000 in
theorem c_M_restore_0 (l : Launch) (D : va_G) (cI cZ cQ : ClassId) (qm : Nat) (mp : Nat) (mt : Nat) (ml : Nat) (mc : Nat) (mf : Nat) (me : Nat) (mg : Nat) (mh : Nat) (mu : Nat) (k : Nat) (n : Nat) (pn : Nat) (nx : Nat) (cd : Int32) (ep : Int32) (M : mm_T) (wi : Int32) (jb : Int32) (fp : Int32) (tf : Int32) (tt : Int32) (fi : Int32) (ln : Int32) (bx : Int32) (pr : Nat → Int32) (tk : Nat → Int32) (le : Nat → Int32) (co : Nat → Int32) (fr : Nat → Int32) (em : Nat → Int32) (nb : Nat → Int32) (su : Nat → Int32) (f : Nat) (mk : Int32) (lf : Nat) (hk : k ≤ 9) (hn : n ≤ 9) (hf8 : f < 8) (hlf : le f = nI lf) (hlf1 : 1 ≤ lf) (hlf8 : lf ≤ 8) (hsm : k ≤ sm_s em mk n) : sd_J l D (tyL cI cZ cQ) y_M_restore b_M_restore 6 ({ frames := 1, cells := 0, slots := 0, locals := 23 }) [.ref qm, .int (nI f), .int (mk)] (mW cI cZ qm mp mt ml mc mf me mg mh mu (cd) (nI k) (nI n) (nI (pn)) (nI (nx)) (ep) (nI (M.1)) (M.2.2.1) (M.2.2.2) (wi) (jb) (fp) (tf) (tt) (fi) (ln) (bx) (1000) (pr) (1000) (tk) (8) (le) (576) (co) (576) (fr) (10) (em) (192) (M.2.1) (10) (nb) (10) (su)) (rs_f co f lf) (mW cI cZ qm mp mt ml mc mf me mg mh mu (0) (nI k) (nI n) (nI (pn)) (nI (nx)) (ep) (nI (M.1)) (M.2.2.1) (M.2.2.2) (wi) (jb) (fp) (tf) (tt) (fi) (ln) (bx) (1000) (pr) (1000) (tk) (8) (le) (576) (co) (576) (fr) (10) (em) (192) (M.2.1) (10) (nb) (10) (su)) := by
  refine sd_ofJ (by decide) (Nat.le_of_ble_eq_true rfl) ?_
  intro p e s m below meth c A ls hx hb hr hml hlk hown hts hK hP hD hA hS hl
  have hl : lv_has ls 6 [(0, .ref qm), (1, .int (nI f)), (2, .int (mk))] := hl
  have hss := sm_s_le em mk n
  refine lv_aload_n hx hb d_M_restore_0 rfl (lv_at hl 0 rfl) ?_
  refine lv_iload_n hx hb d_M_restore_1 rfl (lv_at hl 1 rfl) ?_
  refine sd_callSI (As := [.int (nI f)]) (rest := [.ref qm]) (cx := []) (w1 := []) (c_M_isFile_1 l D cI cZ cQ (nI f) (fl_in hf8)) ⟨wc_M_isFile, wm_M_129, wi_M, by decide, by decide, show (parseMethodDescriptor y_M_isFile.desc).map (fun d => d.parameters.length) = some 1 by decide +kernel⟩ ws_M_isFile hx hb hml hown hts hl.1 ⟨Nat.le_of_ble_eq_true rfl, Nat.le_of_ble_eq_true rfl⟩ ⟨Nat.le_of_ble_eq_true rfl, Nat.le_of_ble_eq_true rfl⟩ hK hP hD hS hA [] rfl (by decide) rfl rfl rfl (Nat.le_of_ble_eq_true rfl) d_M_restore_2 (fun H locs hP hD hS => ?_)
  have hP : va_P D cls (mW cI cZ qm mp mt ml mc mf me mg mh mu (cd) (nI k) (nI n) (nI (pn)) (nI (nx)) (ep) (nI (M.1)) (M.2.2.1) (M.2.2.2) (wi) (jb) (fp) (tf) (tt) (fi) (ln) (bx) (1000) (pr) (1000) (tk) (8) (le) (576) (co) (576) (fr) (10) (em) (192) (M.2.1) (10) (nb) (10) (su)) H := hP
  have hD : va_D A (mW cI cZ qm mp mt ml mc mf me mg mh mu (cd) (nI k) (nI n) (nI (pn)) (nI (nx)) (ep) (nI (M.1)) (M.2.2.1) (M.2.2.2) (wi) (jb) (fp) (tf) (tt) (fi) (ln) (bx) (1000) (pr) (1000) (tk) (8) (le) (576) (co) (576) (fr) (10) (em) (192) (M.2.1) (10) (nb) (10) (su)) := hD
  refine lv_if_ne (tgt := 12) hx hb d_M_restore_5 rfl (fun hc5 => ?_) (fun hc5 => ?_)
  · skip
    refine lv_aload_n hx hb d_M_restore_12 rfl (lv_at hl 0 rfl) ?_
    refine va_get (D := D) (ci := 5) (v := .ref ml) (C := R_M) (T := F_M) (N := 26) hx hb hts wl_M hown hK hP 0 rfl rfl 7 (by decide) (hts _ wf_M_16) (fun _ h9 => h9) rfl d_M_restore_13 ?_
    refine lv_iload_n hx hb d_M_restore_16 rfl (lv_at hl 1 rfl) ?_
    refine sd_iald (j := f) hx hb hK hP 3 0 rfl rfl (by omega) (by omega) d_M_restore_17 ?_
    refine lv_if_ne (tgt := 25) hx hb d_M_restore_18 rfl (fun hc18 => ?_) (fun hc18 => ?_)
    · skip
      refine lv_aload_n hx hb d_M_restore_25 rfl (lv_at hl 0 rfl) ?_
      refine lv_iload_n hx hb d_M_restore_26 rfl (lv_at hl 2 rfl) ?_
      refine sd_allVI (As := [.int (mk)]) (rest := [.ref qm]) (w1 := (mW cI cZ qm mp mt ml mc mf me mg mh mu (cd) (nI k) (nI n) (nI (pn)) (nI (nx)) (ep) (nI (M.1)) (M.2.2.1) (M.2.2.2) (wi) (jb) (fp) (tf) (tt) (fi) (ln) (bx) (1000) (pr) (1000) (tk) (8) (le) (576) (co) (576) (fr) (10) (em) (192) (M.2.1) (10) (nb) (10) (su))) (c_M_some l D cI cZ cQ (qm) (mp) (mt) (ml) (mc) (mf) (me) (mg) (mh) (mu) (k) (n) (pn) (nx) (cd) (ep) (M) (wi) (jb) (fp) (tf) (tt) (fi) (ln) (bx) (pr) (tk) (le) (co) (fr) (em) (nb) (su) (mk) (hk) (hn)) ⟨wc_M_some, wm_M_148, wi_M, by decide, by decide, show (parseMethodDescriptor y_M_some.desc).map (fun d => d.parameters.length) = some 1 by decide +kernel⟩ wo_M_some wz_M_some hx hb hml hown hts hl.1 ⟨Nat.le_of_ble_eq_true rfl, Nat.le_of_ble_eq_true rfl⟩ ⟨Nat.le_of_ble_eq_true rfl, Nat.le_of_ble_eq_true rfl⟩ hK hP hD hS hA (rfl) (q0 := 0) rfl rfl rfl (Nat.le_of_ble_eq_true rfl) d_M_restore_27 (fun H locs hP hD hS => ?_)
      have hP : va_P D cls (mW cI cZ qm mp mt ml mc mf me mg mh mu (cd) (nI k) (nI n) (nI (pn)) (nI (nx)) (ep) (nI (M.1)) (M.2.2.1) (M.2.2.2) (wi) (jb) (fp) (tf) (tt) (fi) (ln) (bx) (1000) (pr) (1000) (tk) (8) (le) (576) (co) (576) (fr) (10) (em) (192) (M.2.1) (10) (nb) (10) (su)) H := hP
      have hD : va_D A (mW cI cZ qm mp mt ml mc mf me mg mh mu (cd) (nI k) (nI n) (nI (pn)) (nI (nx)) (ep) (nI (M.1)) (M.2.2.1) (M.2.2.2) (wi) (jb) (fp) (tf) (tt) (fi) (ln) (bx) (1000) (pr) (1000) (tk) (8) (le) (576) (co) (576) (fr) (10) (em) (192) (M.2.1) (10) (nb) (10) (su)) := hD
      refine lv_aload_n hx hb d_M_restore_30 rfl (lv_at hl 0 rfl) ?_
      refine va_get (D := D) (ci := 5) (v := .int (nI k)) (C := R_M) (T := F_M) (N := 26) hx hb hts wl_M hown hK hP 0 rfl rfl 1 (by decide) (hts _ wf_M_48) (fun _ h9 => h9) rfl d_M_restore_31 ?_
      refine lv_icmp_ge (tgt := 41) hx hb d_M_restore_34 rfl (fun hc34 => ?_) (fun hc34 => ?_)
      · skip
        refine lv_iconst (v := 0) hx hb d_M_restore_41 (by decide) ?_
        refine va_put (D := D) (ci := 5) (v := .int (0)) (ty := .int) (C := R_M) (T := F_M) (N := 26) hx hb hts wl_M t_M t_M_ok n_M hown hK hP hD hS 0 rfl rfl 0 (by decide) (hts _ wf_M_51) (fun _ h9 => h9) rfl (by decide +kernel) rfl rfl (Nat.le_of_ble_eq_true rfl) d_M_restore_42 (fun H locs hP hD hS => ?_)
        have hP : va_P D cls (mW cI cZ qm mp mt ml mc mf me mg mh mu (0) (nI k) (nI n) (nI (pn)) (nI (nx)) (ep) (nI (M.1)) (M.2.2.1) (M.2.2.2) (wi) (jb) (fp) (tf) (tt) (fi) (ln) (bx) (1000) (pr) (1000) (tk) (8) (le) (576) (co) (576) (fr) (10) (em) (192) (M.2.1) (10) (nb) (10) (su)) H := hP
        have hD : va_D A (mW cI cZ qm mp mt ml mc mf me mg mh mu (0) (nI k) (nI n) (nI (pn)) (nI (nx)) (ep) (nI (M.1)) (M.2.2.1) (M.2.2.2) (wi) (jb) (fp) (tf) (tt) (fi) (ln) (bx) (1000) (pr) (1000) (tk) (8) (le) (576) (co) (576) (fr) (10) (em) (192) (M.2.1) (10) (nb) (10) (su)) := hD
        refine lv_aload_n hx hb d_M_restore_45 rfl (lv_at hl 0 rfl) ?_
        refine va_get (D := D) (ci := 5) (v := .int (0)) (C := R_M) (T := F_M) (N := 26) hx hb hts wl_M hown hK hP 0 rfl rfl 0 (by decide) (hts _ wf_M_51) (fun _ h9 => h9) rfl d_M_restore_46 ?_
        refine lv_if_le (tgt := 54) hx hb d_M_restore_49 rfl (fun hc49 => ?_) (fun hc49 => ?_)
        · skip
          refine lv_lconst (v := 0) hx hb d_M_restore_54 (by decide) ?_
          refine sd_topl (y := rs_f co f 0) (rfl) ?_
          refine lv_lstore_n hx hb d_M_restore_55 rfl hl (Nat.le_of_ble_eq_true rfl) (lv' := [(3, .long (rs_f co f 0)), (0, .ref qm), (1, .int (nI f)), (2, .int (mk))]) rfl (fun ls hl => ?_)
          refine lv_iconst (v := 0) hx hb d_M_restore_56 (by decide) ?_
          refine sd_top (y := nI 0) (rfl) ?_
          refine lv_istore hx hb d_M_restore_57 hl (Nat.le_of_ble_eq_true rfl) (lv' := [(5, .int (nI 0)), (3, .long (rs_f co f 0)), (0, .ref qm), (1, .int (nI f)), (2, .int (mk))]) rfl (fun ls hl => ?_)
          have hl := lv_sub hl (l' := [(0, .ref qm), (1, .int (nI f)), (2, .int (mk)), (3, .long (rs_f co f 0)), (5, .int (nI 0))]) [2, 3, 4, 1, 0] rfl
          have loop59 : ∀ (d : Nat) (b : Nat) (ls : Array Slot) (H : Heap) (locs : List Loc), lf - b = d → (b ≤ lf) → lv_has ls 6 [(0, .ref qm), (1, .int (nI f)), (2, .int (mk)), (3, .long (rs_f co f b)), (5, .int (nI (b)))] → va_P D cls (mW cI cZ qm mp mt ml mc mf me mg mh mu (0) (nI k) (nI n) (nI (pn)) (nI (nx)) (ep) (nI (M.1)) (M.2.2.1) (M.2.2.2) (wi) (jb) (fp) (tf) (tt) (fi) (ln) (bx) (1000) (pr) (1000) (tk) (8) (le) (576) (co) (576) (fr) (10) (em) (192) (M.2.1) (10) (nb) (10) (su)) H → va_D A (mW cI cZ qm mp mt ml mc mf me mg mh mu (0) (nI k) (nI n) (nI (pn)) (nI (nx)) (ep) (nI (M.1)) (M.2.2.1) (M.2.2.2) (wi) (jb) (fp) (tf) (tt) (fi) (ln) (bx) (1000) (pr) (1000) (tk) (8) (le) (576) (co) (576) (fr) (10) (em) (192) (M.2.1) (10) (nb) (10) (su)) → va_S A s.heap H locs → W p l e ({ frames := 1, cells := 0, slots := 0, locals := 23 }) s m ([.ref qm, .int (nI f), .int (mk)] : List Value).toArray below meth c H locs 0 0 (MQ below (sd_ql D (rs_f co f lf) (mW cI cZ qm mp mt ml mc mf me mg mh mu (0) (nI k) (nI n) (nI (pn)) (nI (nx)) (ep) (nI (M.1)) (M.2.2.1) (M.2.2.2) (wi) (jb) (fp) (tf) (tt) (fi) (ln) (bx) (1000) (pr) (1000) (tk) (8) (le) (576) (co) (576) (fr) (10) (em) (192) (M.2.1) (10) (nb) (10) (su)) A) ([.ref qm, .int (nI f), .int (mk)] : List Value).toArray s 0 0 A) (F0 m 59 ls []) := by
            intro d
            induction d using Nat.strongRecOn with
            | _ d ih59 =>
            intro b ls H locs hd hbl hl hP hD hS
            subst hd
            refine lv_iload hx hb d_M_restore_59 (lv_at hl 4 rfl) ?_
            refine lv_aload_n hx hb d_M_restore_61 rfl (lv_at hl 0 rfl) ?_
            refine va_get (D := D) (ci := 5) (v := .ref ml) (C := R_M) (T := F_M) (N := 26) hx hb hts wl_M hown hK hP 0 rfl rfl 7 (by decide) (hts _ wf_M_16) (fun _ h9 => h9) rfl d_M_restore_62 ?_
            refine lv_iload_n hx hb d_M_restore_65 rfl (lv_at hl 1 rfl) ?_
            refine sd_iald (j := f) hx hb hK hP 3 0 rfl rfl (by omega) (by omega) d_M_restore_66 ?_
            refine sd_top (y := nI (lf)) (hlf) ?_
            refine lv_icmp_ge (tgt := 101) hx hb d_M_restore_67 rfl (fun hc67 => ?_) (fun hc67 => ?_)
            · skip
              rw [nI_leI (by omega) (by omega)] at hc67
              refine lv_lload_n hx hb d_M_restore_101 rfl (lv_at hl 3 rfl) ?_
              have hbl : lf = b := by omega
              subst hbl
              exact sd_lret hx hb hr hlk hP hS (Nat.le_of_ble_eq_true rfl) (Nat.le_of_ble_eq_true rfl) (rfl) d_M_restore_102
            · skip
              rw [nI_leI (by omega) (by omega)] at hc67
              refine lv_lload_n hx hb d_M_restore_70 rfl (lv_at hl 3 rfl) ?_
              refine lv_aload_n hx hb d_M_restore_71 rfl (lv_at hl 0 rfl) ?_
              refine va_get (D := D) (ci := 5) (v := .ref mc) (C := R_M) (T := F_M) (N := 26) hx hb hts wl_M hown hK hP 0 rfl rfl 8 (by decide) (hts _ wf_M_19) (fun _ h9 => h9) rfl d_M_restore_72 ?_
              refine lv_bipush (v := nI 9) hx hb d_M_restore_75 (by decide) ?_
              refine lv_bipush (v := nI 8) hx hb d_M_restore_77 (by decide) ?_
              refine lv_iload_n hx hb d_M_restore_79 rfl (lv_at hl 1 rfl) ?_
              refine lv_imul hx hb d_M_restore_80 ?_
              refine sd_top (y := nI (8 * f)) (pk_mul _ _) ?_
              refine lv_iload hx hb d_M_restore_81 (lv_at hl 4 rfl) ?_
              refine lv_iadd hx hb d_M_restore_83 ?_
              refine sd_top (y := nI (8 * f + b)) (nI_add _ _) ?_
              refine lv_imul hx hb d_M_restore_84 ?_
              refine sd_top (y := nI (9 * (8 * f + b))) (pk_mul _ _) ?_
              refine sd_iald (j := 9 * (8 * f + b)) hx hb hK hP 4 0 rfl rfl (by omega) (by omega) d_M_restore_85 ?_
              refine lv_i2l hx hb d_M_restore_86 rfl ?_
              refine lv_bipush (v := nI 8) hx hb d_M_restore_87 (by decide) ?_
              refine lv_iload hx hb d_M_restore_89 (lv_at hl 4 rfl) ?_
              refine lv_imul hx hb d_M_restore_91 ?_
              refine lv_lshl hx hb d_M_restore_92 rfl ?_
              refine lv_lor hx hb d_M_restore_93 ?_
              refine lv_lstore_n hx hb d_M_restore_94 rfl hl (Nat.le_of_ble_eq_true rfl) (lv' := [(3, .long ((rs_f co f b) ||| (((co (9 * (8 * f + b))).toInt64) <<< (((nI 8) * (nI (b))).toInt64 &&& 63)))), (0, .ref qm), (1, .int (nI f)), (2, .int (mk)), (5, .int (nI (b)))]) rfl (fun ls hl => ?_)
              refine lv_iinc hx hb d_M_restore_95 hl (k := 4) rfl (v := nI (b + 1)) (ii_1 _) (Nat.le_of_ble_eq_true rfl) (lv' := [(5, .int (nI (b + 1))), (3, .long ((rs_f co f b) ||| (((co (9 * (8 * f + b))).toInt64) <<< (((nI 8) * (nI (b))).toInt64 &&& 63)))), (0, .ref qm), (1, .int (nI f)), (2, .int (mk))]) rfl (fun ls hl => ?_)
              refine lv_goto (tgt := 59) hx hb d_M_restore_98 rfl ?_
              have hl := lv_sub hl (l' := [(0, .ref qm), (1, .int (nI f)), (2, .int (mk)), (3, .long ((rs_f co f b) ||| (((co (9 * (8 * f + b))).toInt64) <<< (((nI 8) * (nI (b))).toInt64 &&& 63)))), (5, .int (nI (b + 1)))]) [2, 3, 4, 1, 0] rfl
              exact ih59 _ (by omega) (b + 1) ls _ _ rfl (by omega) hl hP hD hS
          exact loop59 _ (0) ls _ _ rfl (Nat.zero_le _) hl hP hD hS
        · skip
          exact False.elim (by revert hc49; decide)
      · skip
        exact absurd (nI_le hsm (by omega)) hc34
    · skip
      exact absurd (hlf.symm.trans hc18) (nI_ne0 (by omega) (by omega))
  · skip
    exact False.elim (by revert hc5; decide)
