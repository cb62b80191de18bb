/-! the reference's messages: (sent, the ring, left, cut) -/
abbrev mm_T : Type := Nat × (Nat → Int32) × Int32 × Int32
abbrev mW (cI cZ : ClassId) (qm mp mt ml mc mf me mg mh mu : Nat) (x0_0 : Int32) (x0_1 : Int32) (x0_2 : Int32) (x0_3 : Int32) (x0_6 : Int32) (x0_10 : Int32) (x0_12 : Int32) (x0_14 : Int32) (x0_15 : Int32) (x0_16 : Int32) (x0_17 : Int32) (x0_18 : Int32) (x0_19 : Int32) (x0_20 : Int32) (x0_21 : Int32) (x0_22 : Int32) (x0_23 : Int32) (z1 : Nat) (f1 : Nat → Int32) (z2 : Nat) (f2 : Nat → Int32) (z3 : Nat) (f3 : Nat → Int32) (z4 : Nat) (f4 : Nat → Int32) (z5 : Nat) (f5 : Nat → Int32) (z6 : Nat) (f6 : Nat → Int32) (z7 : Nat) (f7 : Nat → Int32) (z8 : Nat) (f8 : Nat → Int32) (z9 : Nat) (f9 : Nat → Int32) : va_W := [(qm, .inr (5, [.int x0_0, .int x0_1, .int x0_2, .int x0_3, .ref mp, .ref mt, .int x0_6, .ref ml, .ref mc, .ref mf, .int x0_10, .ref me, .int x0_12, .ref mg, .int x0_14, .int x0_15, .int x0_16, .int x0_17, .int x0_18, .int x0_19, .int x0_20, .int x0_21, .int x0_22, .int x0_23, .ref mh, .ref mu])), (mp, .inl (cI, z1, .inl (f1))), (mt, .inl (cI, z2, .inl (f2))), (ml, .inl (cI, z3, .inl (f3))), (mc, .inl (cI, z4, .inl (f4))), (mf, .inl (cI, z5, .inl (f5))), (me, .inl (cZ, z6, .inl (f6))), (mg, .inl (cI, z7, .inl (f7))), (mh, .inl (cI, z8, .inl (f8))), (mu, .inl (cI, z9, .inl (f9)))]
def mm_s (M : mm_T) (a b x : Int32) : mm_T := if M.2.2.2 = 0 ∧ ¬ M.2.2.1 = 0 then (M.1 + 1, lg_put M.2.1 M.1 a b x, (if M.2.2.1 ≤ 0 then M.2.2.1 else M.2.2.1 - 1), 0) else (M.1, M.2.1, M.2.2.1, 1)
theorem mm_y {M : mm_T} {a b x : Int32} (h : M.2.2.2 = 0 ∧ ¬ M.2.2.1 = 0) : mm_s M a b x = (M.1 + 1, lg_put M.2.1 M.1 a b x, (if M.2.2.1 ≤ 0 then M.2.2.1 else M.2.2.1 - 1), 0) := if_pos h
theorem mm_n {M : mm_T} {a b x : Int32} (h : ¬ (M.2.2.2 = 0 ∧ ¬ M.2.2.1 = 0)) : mm_s M a b x = (M.1, M.2.1, M.2.2.1, 1) := if_neg h
theorem mm_b (M : mm_T) (a b x : Int32) : (mm_s M a b x).1 ≤ M.1 + 1 := by
  unfold mm_s
  split
  · exact Nat.le_refl _
  · exact Nat.le_succ _
theorem qu_inc {q : Nat} (h : q < 255) : bI (BitVec.ofNat 8 q) + Int32.ofInt 1 = bI (BitVec.ofNat 8 (q + 1)) := by
  rw [← bI_of (by omega), ← bI_of (by omega)]; exact ii_1 q
/-- how many of the boxes 1 .. b are not emptied -/
def sm_e (em : Nat → Int32) : Nat → Nat
  | 0 => 0
  | b + 1 => if em (b + 1) = 0 then sm_e em b + 1 else sm_e em b
theorem sm_e0 {em : Nat → Int32} {b : Nat} (h : em (b + 1) = 0) : sm_e em (b + 1) = sm_e em b + 1 := if_pos h
theorem sm_e1 {em : Nat → Int32} {b : Nat} (h : ¬ em (b + 1) = 0) : sm_e em (b + 1) = sm_e em b := if_neg h
/-- the first j places of co, over fr -/
def cp_f (co : Nat → Int32) : Nat → (Nat → Int32) → Nat → Int32
  | 0, fr => fr
  | j + 1, fr => upd (cp_f co j fr) j (co j)
theorem d_M_product_0 : decode b_M_product 0 = .ok (.iconst 0, 1) := by decide +kernel
theorem d_M_product_1 : decode b_M_product 1 = .ok (.istore_n 2, 1) := by decide +kernel
theorem d_M_product_2 : decode b_M_product 2 = .ok (.iconst 0, 1) := by decide +kernel
theorem d_M_product_3 : decode b_M_product 3 = .ok (.istore_n 3, 1) := by decide +kernel
theorem d_M_product_4 : decode b_M_product 4 = .ok (.iload_n 3, 1) := by decide +kernel
theorem d_M_product_5 : decode b_M_product 5 = .ok (.bipush 8, 2) := by decide +kernel
theorem d_M_product_7 : decode b_M_product 7 = .ok (.if_icmp .ge 28, 3) := by decide +kernel
theorem d_M_product_10 : decode b_M_product 10 = .ok (.iload_n 1, 1) := by decide +kernel
theorem d_M_product_11 : decode b_M_product 11 = .ok (.iload_n 3, 1) := by decide +kernel
theorem d_M_product_12 : decode b_M_product 12 = .ok (.ishr, 1) := by decide +kernel
theorem d_M_product_13 : decode b_M_product 13 = .ok (.iconst 1, 1) := by decide +kernel
theorem d_M_product_14 : decode b_M_product 14 = .ok (.iand, 1) := by decide +kernel
theorem d_M_product_15 : decode b_M_product 15 = .ok (.iconst 1, 1) := by decide +kernel
theorem d_M_product_16 : decode b_M_product 16 = .ok (.if_icmp .ne 11, 3) := by decide +kernel
theorem d_M_product_19 : decode b_M_product 19 = .ok (.iload_n 2, 1) := by decide +kernel
theorem d_M_product_20 : decode b_M_product 20 = .ok (.iload_n 0, 1) := by decide +kernel
theorem d_M_product_21 : decode b_M_product 21 = .ok (.iload_n 3, 1) := by decide +kernel
theorem d_M_product_22 : decode b_M_product 22 = .ok (.ishl, 1) := by decide +kernel
theorem d_M_product_23 : decode b_M_product 23 = .ok (.ixor, 1) := by decide +kernel
theorem d_M_product_24 : decode b_M_product 24 = .ok (.goto 4, 3) := by decide +kernel
theorem d_M_product_27 : decode b_M_product 27 = .ok (.iload_n 2, 1) := by decide +kernel
theorem d_M_product_28 : decode b_M_product 28 = .ok (.istore_n 2, 1) := by decide +kernel
theorem d_M_product_29 : decode b_M_product 29 = .ok (.iinc 3 1, 3) := by decide +kernel
theorem d_M_product_32 : decode b_M_product 32 = .ok (.goto (-28), 3) := by decide +kernel
theorem d_M_product_35 : decode b_M_product 35 = .ok (.bipush 14, 2) := by decide +kernel
theorem d_M_product_37 : decode b_M_product 37 = .ok (.istore_n 3, 1) := by decide +kernel
theorem d_M_product_38 : decode b_M_product 38 = .ok (.iload_n 3, 1) := by decide +kernel
theorem d_M_product_39 : decode b_M_product 39 = .ok (.bipush 8, 2) := by decide +kernel
theorem d_M_product_41 : decode b_M_product 41 = .ok (.if_icmp .lt 33, 3) := by decide +kernel
theorem d_M_product_44 : decode b_M_product 44 = .ok (.iload_n 2, 1) := by decide +kernel
theorem d_M_product_45 : decode b_M_product 45 = .ok (.iload_n 3, 1) := by decide +kernel
theorem d_M_product_46 : decode b_M_product 46 = .ok (.ishr, 1) := by decide +kernel
theorem d_M_product_47 : decode b_M_product 47 = .ok (.iconst 1, 1) := by decide +kernel
theorem d_M_product_48 : decode b_M_product 48 = .ok (.iand, 1) := by decide +kernel
theorem d_M_product_49 : decode b_M_product 49 = .ok (.iconst 1, 1) := by decide +kernel
theorem d_M_product_50 : decode b_M_product 50 = .ok (.if_icmp .ne 16, 3) := by decide +kernel
theorem d_M_product_53 : decode b_M_product 53 = .ok (.iload_n 2, 1) := by decide +kernel
theorem d_M_product_54 : decode b_M_product 54 = .ok (.sipush 283, 3) := by decide +kernel
theorem d_M_product_57 : decode b_M_product 57 = .ok (.iload_n 3, 1) := by decide +kernel
theorem d_M_product_58 : decode b_M_product 58 = .ok (.bipush 8, 2) := by decide +kernel
theorem d_M_product_60 : decode b_M_product 60 = .ok (.isub, 1) := by decide +kernel
theorem d_M_product_61 : decode b_M_product 61 = .ok (.ishl, 1) := by decide +kernel
theorem d_M_product_62 : decode b_M_product 62 = .ok (.ixor, 1) := by decide +kernel
theorem d_M_product_63 : decode b_M_product 63 = .ok (.goto 4, 3) := by decide +kernel
theorem d_M_product_66 : decode b_M_product 66 = .ok (.iload_n 2, 1) := by decide +kernel
theorem d_M_product_67 : decode b_M_product 67 = .ok (.istore_n 2, 1) := by decide +kernel
theorem d_M_product_68 : decode b_M_product 68 = .ok (.iinc 3 (-1), 3) := by decide +kernel
theorem d_M_product_71 : decode b_M_product 71 = .ok (.goto (-33), 3) := by decide +kernel
theorem d_M_product_74 : decode b_M_product 74 = .ok (.iload_n 2, 1) := by decide +kernel
theorem d_M_product_75 : decode b_M_product 75 = .ok (.ireturn, 1) := by decide +kernel
theorem d_M_quotient_0 : decode b_M_quotient 0 = .ok (.iconst 0, 1) := by decide +kernel
theorem d_M_quotient_1 : decode b_M_quotient 1 = .ok (.istore_n 2, 1) := by decide +kernel
theorem d_M_quotient_2 : decode b_M_quotient 2 = .ok (.iload_n 2, 1) := by decide +kernel
theorem d_M_quotient_3 : decode b_M_quotient 3 = .ok (.sipush 255, 3) := by decide +kernel
theorem d_M_quotient_6 : decode b_M_quotient 6 = .ok (.if_icmp .ge 18, 3) := by decide +kernel
theorem d_M_quotient_9 : decode b_M_quotient 9 = .ok (.iload_n 2, 1) := by decide +kernel
theorem d_M_quotient_10 : decode b_M_quotient 10 = .ok (.iload_n 1, 1) := by decide +kernel
theorem d_M_quotient_11 : decode b_M_quotient 11 = .ok (.invokestatic 54, 3) := by decide +kernel
theorem d_M_quotient_14 : decode b_M_quotient 14 = .ok (.iload_n 0, 1) := by decide +kernel
theorem d_M_quotient_15 : decode b_M_quotient 15 = .ok (.if_icmp .eq 9, 3) := by decide +kernel
theorem d_M_quotient_18 : decode b_M_quotient 18 = .ok (.iinc 2 1, 3) := by decide +kernel
theorem d_M_quotient_21 : decode b_M_quotient 21 = .ok (.goto (-19), 3) := by decide +kernel
theorem d_M_quotient_24 : decode b_M_quotient 24 = .ok (.iload_n 2, 1) := by decide +kernel
theorem d_M_quotient_25 : decode b_M_quotient 25 = .ok (.ireturn, 1) := by decide +kernel
theorem d_M_thrown_0 : decode b_M_thrown 0 = .ok (.aload_n 0, 1) := by decide +kernel
theorem d_M_thrown_1 : decode b_M_thrown 1 = .ok (.getfield 51, 3) := by decide +kernel
theorem d_M_thrown_4 : decode b_M_thrown 4 = .ok (.ireturn, 1) := by decide +kernel
theorem d_M_pool_0 : decode b_M_pool 0 = .ok (.aload_n 0, 1) := by decide +kernel
theorem d_M_pool_1 : decode b_M_pool 1 = .ok (.iconst 0, 1) := by decide +kernel
theorem d_M_pool_2 : decode b_M_pool 2 = .ok (.putfield 51, 3) := by decide +kernel
theorem d_M_pool_5 : decode b_M_pool 5 = .ok (.aload_n 0, 1) := by decide +kernel
theorem d_M_pool_6 : decode b_M_pool 6 = .ok (.getfield 58, 3) := by decide +kernel
theorem d_M_pool_9 : decode b_M_pool 9 = .ok (.ireturn, 1) := by decide +kernel
theorem d_M_epoch_0 : decode b_M_epoch 0 = .ok (.aload_n 0, 1) := by decide +kernel
theorem d_M_epoch_1 : decode b_M_epoch 1 = .ok (.iconst 0, 1) := by decide +kernel
theorem d_M_epoch_2 : decode b_M_epoch 2 = .ok (.putfield 51, 3) := by decide +kernel
theorem d_M_epoch_5 : decode b_M_epoch 5 = .ok (.aload_n 0, 1) := by decide +kernel
theorem d_M_epoch_6 : decode b_M_epoch 6 = .ok (.getfield 109, 3) := by decide +kernel
theorem d_M_epoch_9 : decode b_M_epoch 9 = .ok (.ireturn, 1) := by decide +kernel
theorem d_M_sent_0 : decode b_M_sent 0 = .ok (.aload_n 0, 1) := by decide +kernel
theorem d_M_sent_1 : decode b_M_sent 1 = .ok (.iconst 0, 1) := by decide +kernel
theorem d_M_sent_2 : decode b_M_sent 2 = .ok (.putfield 51, 3) := by decide +kernel
theorem d_M_sent_5 : decode b_M_sent 5 = .ok (.aload_n 0, 1) := by decide +kernel
theorem d_M_sent_6 : decode b_M_sent 6 = .ok (.getfield 70, 3) := by decide +kernel
theorem d_M_sent_9 : decode b_M_sent 9 = .ok (.ireturn, 1) := by decide +kernel
theorem d_M_total_0 : decode b_M_total 0 = .ok (.iconst 0, 1) := by decide +kernel
theorem d_M_total_1 : decode b_M_total 1 = .ok (.istore_n 1, 1) := by decide +kernel
theorem d_M_total_2 : decode b_M_total 2 = .ok (.iconst 0, 1) := by decide +kernel
theorem d_M_total_3 : decode b_M_total 3 = .ok (.istore_n 2, 1) := by decide +kernel
theorem d_M_total_4 : decode b_M_total 4 = .ok (.iload_n 2, 1) := by decide +kernel
theorem d_M_total_5 : decode b_M_total 5 = .ok (.bipush 8, 2) := by decide +kernel
theorem d_M_total_7 : decode b_M_total 7 = .ok (.if_icmp .ge 18, 3) := by decide +kernel
theorem d_M_total_10 : decode b_M_total 10 = .ok (.iload_n 1, 1) := by decide +kernel
theorem d_M_total_11 : decode b_M_total 11 = .ok (.aload_n 0, 1) := by decide +kernel
theorem d_M_total_12 : decode b_M_total 12 = .ok (.getfield 16, 3) := by decide +kernel
theorem d_M_total_15 : decode b_M_total 15 = .ok (.iload_n 2, 1) := by decide +kernel
theorem d_M_total_16 : decode b_M_total 16 = .ok (.iaload, 1) := by decide +kernel
theorem d_M_total_17 : decode b_M_total 17 = .ok (.iadd, 1) := by decide +kernel
theorem d_M_total_18 : decode b_M_total 18 = .ok (.istore_n 1, 1) := by decide +kernel
theorem d_M_total_19 : decode b_M_total 19 = .ok (.iinc 2 1, 3) := by decide +kernel
theorem d_M_total_22 : decode b_M_total 22 = .ok (.goto (-18), 3) := by decide +kernel
theorem d_M_total_25 : decode b_M_total 25 = .ok (.iload_n 1, 1) := by decide +kernel
theorem d_M_total_26 : decode b_M_total 26 = .ok (.ireturn, 1) := by decide +kernel
theorem d_M_kept_0 : decode b_M_kept 0 = .ok (.iconst 0, 1) := by decide +kernel
theorem d_M_kept_1 : decode b_M_kept 1 = .ok (.istore_n 1, 1) := by decide +kernel
theorem d_M_kept_2 : decode b_M_kept 2 = .ok (.iconst 0, 1) := by decide +kernel
theorem d_M_kept_3 : decode b_M_kept 3 = .ok (.istore_n 2, 1) := by decide +kernel
theorem d_M_kept_4 : decode b_M_kept 4 = .ok (.iload_n 2, 1) := by decide +kernel
theorem d_M_kept_5 : decode b_M_kept 5 = .ok (.bipush 8, 2) := by decide +kernel
theorem d_M_kept_7 : decode b_M_kept 7 = .ok (.if_icmp .ge 26, 3) := by decide +kernel
theorem d_M_kept_10 : decode b_M_kept 10 = .ok (.aload_n 0, 1) := by decide +kernel
theorem d_M_kept_11 : decode b_M_kept 11 = .ok (.getfield 16, 3) := by decide +kernel
theorem d_M_kept_14 : decode b_M_kept 14 = .ok (.iload_n 2, 1) := by decide +kernel
theorem d_M_kept_15 : decode b_M_kept 15 = .ok (.iaload, 1) := by decide +kernel
theorem d_M_kept_16 : decode b_M_kept 16 = .ok (.ifCond .le 9, 3) := by decide +kernel
theorem d_M_kept_19 : decode b_M_kept 19 = .ok (.iload_n 1, 1) := by decide +kernel
theorem d_M_kept_20 : decode b_M_kept 20 = .ok (.iconst 1, 1) := by decide +kernel
theorem d_M_kept_21 : decode b_M_kept 21 = .ok (.iadd, 1) := by decide +kernel
theorem d_M_kept_22 : decode b_M_kept 22 = .ok (.goto 4, 3) := by decide +kernel
theorem d_M_kept_25 : decode b_M_kept 25 = .ok (.iload_n 1, 1) := by decide +kernel
theorem d_M_kept_26 : decode b_M_kept 26 = .ok (.istore_n 1, 1) := by decide +kernel
theorem d_M_kept_27 : decode b_M_kept 27 = .ok (.iinc 2 1, 3) := by decide +kernel
theorem d_M_kept_30 : decode b_M_kept 30 = .ok (.goto (-26), 3) := by decide +kernel
theorem d_M_kept_33 : decode b_M_kept 33 = .ok (.iload_n 1, 1) := by decide +kernel
theorem d_M_kept_34 : decode b_M_kept 34 = .ok (.ireturn, 1) := by decide +kernel
theorem d_M_files_0 : decode b_M_files 0 = .ok (.aload_n 0, 1) := by decide +kernel
theorem d_M_files_1 : decode b_M_files 1 = .ok (.iconst 0, 1) := by decide +kernel
theorem d_M_files_2 : decode b_M_files 2 = .ok (.putfield 51, 3) := by decide +kernel
theorem d_M_files_5 : decode b_M_files 5 = .ok (.aload_n 0, 1) := by decide +kernel
theorem d_M_files_6 : decode b_M_files 6 = .ok (.invokevirtual 152, 3) := by decide +kernel
theorem d_M_files_9 : decode b_M_files 9 = .ok (.ireturn, 1) := by decide +kernel
theorem d_M_filled_0 : decode b_M_filled 0 = .ok (.iconst 0, 1) := by decide +kernel
theorem d_M_filled_1 : decode b_M_filled 1 = .ok (.istore_n 1, 1) := by decide +kernel
theorem d_M_filled_2 : decode b_M_filled 2 = .ok (.iconst 1, 1) := by decide +kernel
theorem d_M_filled_3 : decode b_M_filled 3 = .ok (.istore_n 2, 1) := by decide +kernel
theorem d_M_filled_4 : decode b_M_filled 4 = .ok (.iload_n 2, 1) := by decide +kernel
theorem d_M_filled_5 : decode b_M_filled 5 = .ok (.aload_n 0, 1) := by decide +kernel
theorem d_M_filled_6 : decode b_M_filled 6 = .ok (.getfield 45, 3) := by decide +kernel
theorem d_M_filled_9 : decode b_M_filled 9 = .ok (.if_icmp .gt 26, 3) := by decide +kernel
theorem d_M_filled_12 : decode b_M_filled 12 = .ok (.aload_n 0, 1) := by decide +kernel
theorem d_M_filled_13 : decode b_M_filled 13 = .ok (.getfield 25, 3) := by decide +kernel
theorem d_M_filled_16 : decode b_M_filled 16 = .ok (.iload_n 2, 1) := by decide +kernel
theorem d_M_filled_17 : decode b_M_filled 17 = .ok (.baload, 1) := by decide +kernel
theorem d_M_filled_18 : decode b_M_filled 18 = .ok (.ifCond .eq 7, 3) := by decide +kernel
theorem d_M_filled_21 : decode b_M_filled 21 = .ok (.iload_n 1, 1) := by decide +kernel
theorem d_M_filled_22 : decode b_M_filled 22 = .ok (.goto 6, 3) := by decide +kernel
theorem d_M_filled_25 : decode b_M_filled 25 = .ok (.iload_n 1, 1) := by decide +kernel
theorem d_M_filled_26 : decode b_M_filled 26 = .ok (.iconst 1, 1) := by decide +kernel
theorem d_M_filled_27 : decode b_M_filled 27 = .ok (.iadd, 1) := by decide +kernel
theorem d_M_filled_28 : decode b_M_filled 28 = .ok (.istore_n 1, 1) := by decide +kernel
theorem d_M_filled_29 : decode b_M_filled 29 = .ok (.iinc 2 1, 3) := by decide +kernel
theorem d_M_filled_32 : decode b_M_filled 32 = .ok (.goto (-28), 3) := by decide +kernel
theorem d_M_filled_35 : decode b_M_filled 35 = .ok (.iload_n 1, 1) := by decide +kernel
theorem d_M_filled_36 : decode b_M_filled 36 = .ok (.ireturn, 1) := by decide +kernel
theorem d_M_nextTaken_0 : decode b_M_nextTaken 0 = .ok (.aload_n 0, 1) := by decide +kernel
theorem d_M_nextTaken_1 : decode b_M_nextTaken 1 = .ok (.dup, 1) := by decide +kernel
theorem d_M_nextTaken_2 : decode b_M_nextTaken 2 = .ok (.getfield 63, 3) := by decide +kernel
theorem d_M_nextTaken_5 : decode b_M_nextTaken 5 = .ok (.iconst 1, 1) := by decide +kernel
theorem d_M_nextTaken_6 : decode b_M_nextTaken 6 = .ok (.iadd, 1) := by decide +kernel
theorem d_M_nextTaken_7 : decode b_M_nextTaken 7 = .ok (.putfield 63, 3) := by decide +kernel
theorem d_M_nextTaken_10 : decode b_M_nextTaken 10 = .ok (.aload_n 0, 1) := by decide +kernel
theorem d_M_nextTaken_11 : decode b_M_nextTaken 11 = .ok (.getfield 13, 3) := by decide +kernel
theorem d_M_nextTaken_14 : decode b_M_nextTaken 14 = .ok (.aload_n 0, 1) := by decide +kernel
theorem d_M_nextTaken_15 : decode b_M_nextTaken 15 = .ok (.getfield 63, 3) := by decide +kernel
theorem d_M_nextTaken_18 : decode b_M_nextTaken 18 = .ok (.iconst 1, 1) := by decide +kernel
theorem d_M_nextTaken_19 : decode b_M_nextTaken 19 = .ok (.isub, 1) := by decide +kernel
theorem d_M_nextTaken_20 : decode b_M_nextTaken 20 = .ok (.iaload, 1) := by decide +kernel
theorem d_M_nextTaken_21 : decode b_M_nextTaken 21 = .ok (.ireturn, 1) := by decide +kernel
theorem d_M_copyFresh_0 : decode b_M_copyFresh 0 = .ok (.iconst 0, 1) := by decide +kernel
theorem d_M_copyFresh_1 : decode b_M_copyFresh 1 = .ok (.istore_n 1, 1) := by decide +kernel
theorem d_M_copyFresh_2 : decode b_M_copyFresh 2 = .ok (.iload_n 1, 1) := by decide +kernel
theorem d_M_copyFresh_3 : decode b_M_copyFresh 3 = .ok (.sipush 576, 3) := by decide +kernel
theorem d_M_copyFresh_6 : decode b_M_copyFresh 6 = .ok (.if_icmp .ge 21, 3) := by decide +kernel
theorem d_M_copyFresh_9 : decode b_M_copyFresh 9 = .ok (.aload_n 0, 1) := by decide +kernel
theorem d_M_copyFresh_10 : decode b_M_copyFresh 10 = .ok (.getfield 22, 3) := by decide +kernel
theorem d_M_copyFresh_13 : decode b_M_copyFresh 13 = .ok (.iload_n 1, 1) := by decide +kernel
theorem d_M_copyFresh_14 : decode b_M_copyFresh 14 = .ok (.aload_n 0, 1) := by decide +kernel
theorem d_M_copyFresh_15 : decode b_M_copyFresh 15 = .ok (.getfield 19, 3) := by decide +kernel
theorem d_M_copyFresh_18 : decode b_M_copyFresh 18 = .ok (.iload_n 1, 1) := by decide +kernel
theorem d_M_copyFresh_19 : decode b_M_copyFresh 19 = .ok (.iaload, 1) := by decide +kernel
theorem d_M_copyFresh_20 : decode b_M_copyFresh 20 = .ok (.iastore, 1) := by decide +kernel
theorem d_M_copyFresh_21 : decode b_M_copyFresh 21 = .ok (.iinc 1 1, 3) := by decide +kernel
theorem d_M_copyFresh_24 : decode b_M_copyFresh 24 = .ok (.goto (-22), 3) := by decide +kernel
theorem d_M_copyFresh_27 : decode b_M_copyFresh 27 = .ok (.return_, 1) := by decide +kernel
theorem d_M_send_0 : decode b_M_send 0 = .ok (.aload_n 0, 1) := by decide +kernel
theorem d_M_send_1 : decode b_M_send 1 = .ok (.aload_n 0, 1) := by decide +kernel
theorem d_M_send_2 : decode b_M_send 2 = .ok (.getfield 66, 3) := by decide +kernel
theorem d_M_send_5 : decode b_M_send 5 = .ok (.ifCond .ne 10, 3) := by decide +kernel
theorem d_M_send_8 : decode b_M_send 8 = .ok (.aload_n 0, 1) := by decide +kernel
theorem d_M_send_9 : decode b_M_send 9 = .ok (.getfield 32, 3) := by decide +kernel
theorem d_M_send_12 : decode b_M_send 12 = .ok (.ifCond .ne 7, 3) := by decide +kernel
theorem d_M_send_15 : decode b_M_send 15 = .ok (.iconst 1, 1) := by decide +kernel
theorem d_M_send_16 : decode b_M_send 16 = .ok (.goto 4, 3) := by decide +kernel
theorem d_M_send_19 : decode b_M_send 19 = .ok (.iconst 0, 1) := by decide +kernel
theorem d_M_send_20 : decode b_M_send 20 = .ok (.putfield 66, 3) := by decide +kernel
theorem d_M_send_23 : decode b_M_send 23 = .ok (.aload_n 0, 1) := by decide +kernel
theorem d_M_send_24 : decode b_M_send 24 = .ok (.getfield 66, 3) := by decide +kernel
theorem d_M_send_27 : decode b_M_send 27 = .ok (.ifCond .eq 4, 3) := by decide +kernel
theorem d_M_send_30 : decode b_M_send 30 = .ok (.return_, 1) := by decide +kernel
theorem d_M_send_31 : decode b_M_send 31 = .ok (.aload_n 0, 1) := by decide +kernel
theorem d_M_send_32 : decode b_M_send 32 = .ok (.aload_n 0, 1) := by decide +kernel
theorem d_M_send_33 : decode b_M_send 33 = .ok (.getfield 32, 3) := by decide +kernel
theorem d_M_send_36 : decode b_M_send 36 = .ok (.ifCond .le 12, 3) := by decide +kernel
theorem d_M_send_39 : decode b_M_send 39 = .ok (.aload_n 0, 1) := by decide +kernel
theorem d_M_send_40 : decode b_M_send 40 = .ok (.getfield 32, 3) := by decide +kernel
theorem d_M_send_43 : decode b_M_send 43 = .ok (.iconst 1, 1) := by decide +kernel
theorem d_M_send_44 : decode b_M_send 44 = .ok (.isub, 1) := by decide +kernel
theorem d_M_send_45 : decode b_M_send 45 = .ok (.goto 7, 3) := by decide +kernel
theorem d_M_send_48 : decode b_M_send 48 = .ok (.aload_n 0, 1) := by decide +kernel
theorem d_M_send_49 : decode b_M_send 49 = .ok (.getfield 32, 3) := by decide +kernel
theorem d_M_send_52 : decode b_M_send 52 = .ok (.putfield 32, 3) := by decide +kernel
theorem d_M_send_55 : decode b_M_send 55 = .ok (.aload_n 0, 1) := by decide +kernel
theorem d_M_send_56 : decode b_M_send 56 = .ok (.getfield 70, 3) := by decide +kernel
theorem d_M_send_59 : decode b_M_send 59 = .ok (.bipush 64, 2) := by decide +kernel
theorem d_M_send_61 : decode b_M_send 61 = .ok (.irem, 1) := by decide +kernel
theorem d_M_send_62 : decode b_M_send 62 = .ok (.iconst 3, 1) := by decide +kernel
theorem d_M_send_63 : decode b_M_send 63 = .ok (.imul, 1) := by decide +kernel
theorem d_M_send_64 : decode b_M_send 64 = .ok (.istore 4, 2) := by decide +kernel
theorem d_M_send_66 : decode b_M_send 66 = .ok (.aload_n 0, 1) := by decide +kernel
theorem d_M_send_67 : decode b_M_send 67 = .ok (.getfield 29, 3) := by decide +kernel
theorem d_M_send_70 : decode b_M_send 70 = .ok (.iload 4, 2) := by decide +kernel
theorem d_M_send_72 : decode b_M_send 72 = .ok (.iload_n 1, 1) := by decide +kernel
theorem d_M_send_73 : decode b_M_send 73 = .ok (.iastore, 1) := by decide +kernel
theorem d_M_send_74 : decode b_M_send 74 = .ok (.aload_n 0, 1) := by decide +kernel
theorem d_M_send_75 : decode b_M_send 75 = .ok (.getfield 29, 3) := by decide +kernel
theorem d_M_send_78 : decode b_M_send 78 = .ok (.iload 4, 2) := by decide +kernel
theorem d_M_send_80 : decode b_M_send 80 = .ok (.iconst 1, 1) := by decide +kernel
theorem d_M_send_81 : decode b_M_send 81 = .ok (.iadd, 1) := by decide +kernel
theorem d_M_send_82 : decode b_M_send 82 = .ok (.iload_n 2, 1) := by decide +kernel
theorem d_M_send_83 : decode b_M_send 83 = .ok (.iastore, 1) := by decide +kernel
theorem d_M_send_84 : decode b_M_send 84 = .ok (.aload_n 0, 1) := by decide +kernel
theorem d_M_send_85 : decode b_M_send 85 = .ok (.getfield 29, 3) := by decide +kernel
theorem d_M_send_88 : decode b_M_send 88 = .ok (.iload 4, 2) := by decide +kernel
theorem d_M_send_90 : decode b_M_send 90 = .ok (.iconst 2, 1) := by decide +kernel
theorem d_M_send_91 : decode b_M_send 91 = .ok (.iadd, 1) := by decide +kernel
theorem d_M_send_92 : decode b_M_send 92 = .ok (.iload_n 3, 1) := by decide +kernel
theorem d_M_send_93 : decode b_M_send 93 = .ok (.iastore, 1) := by decide +kernel
theorem d_M_send_94 : decode b_M_send 94 = .ok (.aload_n 0, 1) := by decide +kernel
theorem d_M_send_95 : decode b_M_send 95 = .ok (.dup, 1) := by decide +kernel
theorem d_M_send_96 : decode b_M_send 96 = .ok (.getfield 70, 3) := by decide +kernel
theorem d_M_send_99 : decode b_M_send 99 = .ok (.iconst 1, 1) := by decide +kernel
theorem d_M_send_100 : decode b_M_send 100 = .ok (.iadd, 1) := by decide +kernel
theorem d_M_send_101 : decode b_M_send 101 = .ok (.putfield 70, 3) := by decide +kernel
theorem d_M_send_104 : decode b_M_send 104 = .ok (.return_, 1) := by decide +kernel
set_option maxHeartbeats 4000000 in
set_option maxRecDepth 100000 in
theorem c_M_product (l : Launch) (D : va_G) (cI cZ cQ : ClassId) (a : BitVec 8) (b : BitVec 8) : sd_I l D (tyL cI cZ cQ) y_M_product b_M_product 4 (.int) ({ frames := 0, cells := 0, slots := 0, locals := 0 }) [.int (bI a), .int (bI b)] [] (bI (gf_m a b)) [] := by
  refine sd_ofI (by decide) (Nat.le_of_ble_eq_true rfl) ?_
  intro p e s m below meth c A ls hx hb hr hml hlk hown hts hK hP hD hA hS hl
  have hl : lv_has ls 4 [(0, .int (bI a)), (1, .int (bI b))] := hl
  refine lv_iconst (v := 0) hx hb d_M_product_0 (by decide) ?_
  refine sd_top (y := iB (mp_1 a b 0)) (rfl) ?_
  refine lv_istore_n hx hb d_M_product_1 rfl hl (Nat.le_of_ble_eq_true rfl) (lv' := [(2, .int (iB (mp_1 a b 0))), (0, .int (bI a)), (1, .int (bI b))]) rfl (fun ls hl => ?_)
  refine lv_iconst (v := 0) hx hb d_M_product_2 (by decide) ?_
  refine sd_top (y := nI 0) (rfl) ?_
  refine lv_istore_n hx hb d_M_product_3 rfl hl (Nat.le_of_ble_eq_true rfl) (lv' := [(3, .int (nI 0)), (2, .int (iB (mp_1 a b 0))), (0, .int (bI a)), (1, .int (bI b))]) rfl (fun ls hl => ?_)
  have hl := lv_sub hl (l' := [(0, .int (bI a)), (1, .int (bI b)), (2, .int (iB (mp_1 a b 0))), (3, .int (nI 0))]) [2, 3, 1, 0] rfl
  have loop4 : ∀ (d : Nat) (j : Nat) (ls : Array Slot) (H : Heap) (locs : List Loc), 8 - j = d → (j ≤ 8) → lv_has ls 4 [(0, .int (bI a)), (1, .int (bI b)), (2, .int (iB (mp_1 a b j))), (3, .int (nI (j)))] → va_P D cls [] H → va_D A [] → va_S A s.heap H locs → W p l e ({ frames := 0, cells := 0, slots := 0, locals := 0 }) s m ([.int (bI a), .int (bI b)] : List Value).toArray below meth c H locs 0 0 (MQ below (sd_qi D (bI (gf_m a b)) [] A) ([.int (bI a), .int (bI b)] : List Value).toArray s 0 0 A) (F0 m 4 ls []) := by
    intro d
    induction d using Nat.strongRecOn with
    | _ d ih4 =>
    intro j ls H locs hd hj hl hP hD hS
    subst hd
    refine lv_iload_n hx hb d_M_product_4 rfl (lv_at hl 3 rfl) ?_
    refine lv_bipush (v := nI 8) hx hb d_M_product_5 (by decide) ?_
    refine lv_icmp_ge (tgt := 35) hx hb d_M_product_7 rfl (fun hc7 => ?_) (fun hc7 => ?_)
    · skip
      rw [nI_leI (by omega) (by omega)] at hc7
      have hj8 : 8 = j := by omega
      subst hj8
      refine lv_bipush (v := nI (7 + 7)) hx hb d_M_product_35 (by decide) ?_
      refine lv_istore_n hx hb d_M_product_37 rfl hl (Nat.le_of_ble_eq_true rfl) (lv' := [(3, .int (nI (7 + 7))), (0, .int (bI a)), (1, .int (bI b)), (2, .int (iB (mp_1 a b 8)))]) rfl (fun ls hl => ?_)
      have hl := lv_sub hl (l' := [(0, .int (bI a)), (1, .int (bI b)), (2, .int (iB (mp_1 a b 8))), (3, .int (nI (7 + 7)))]) [1, 2, 3, 0] rfl
      have loop38 : ∀ (d : Nat) (i : Nat) (r : BitVec 32) (ls : Array Slot) (H : Heap) (locs : List Loc), i = d → (i ≤ 7) → (mp_2 i r = mp_2 7 (mp_1 a b 8)) → lv_has ls 4 [(0, .int (bI a)), (1, .int (bI b)), (2, .int (iB r)), (3, .int (nI (7 + i)))] → va_P D cls [] H → va_D A [] → va_S A s.heap H locs → W p l e ({ frames := 0, cells := 0, slots := 0, locals := 0 }) s m ([.int (bI a), .int (bI b)] : List Value).toArray below meth c H locs 0 0 (MQ below (sd_qi D (bI (gf_m a b)) [] A) ([.int (bI a), .int (bI b)] : List Value).toArray s 0 0 A) (F0 m 38 ls []) := by
        intro d
        induction d using Nat.strongRecOn with
        | _ d ih38 =>
        intro i r ls H locs hd hi hr9 hl hP hD hS
        subst hd
        refine lv_iload_n hx hb d_M_product_38 rfl (lv_at hl 3 rfl) ?_
        refine lv_bipush (v := nI 8) hx hb d_M_product_39 (by decide) ?_
        refine lv_icmp_lt (tgt := 74) hx hb d_M_product_41 rfl (fun hc41 => ?_) (fun hc41 => ?_)
        · skip
          rw [nI_ltI (by omega) (by omega)] at hc41
          have hi0 : 0 = i := by omega
          subst hi0
          refine lv_iload_n hx hb d_M_product_74 rfl (lv_at hl 2 rfl) ?_
          exact sd_iret hx hb hr hlk hP hS (Nat.le_of_ble_eq_true rfl) (Nat.le_of_ble_eq_true rfl) (by rw [← mp_bI, ← hr9]; rfl) d_M_product_75
        · skip
          rw [nI_ltI (by omega) (by omega)] at hc41
          obtain ⟨i, rfl⟩ : ∃ z, i = z + 1 := ⟨i - 1, by omega⟩
          have hm9 : mp_2 i (mp_s i r) = mp_2 7 (mp_1 a b 8) := hr9
          have join67 : ∀ (q : BitVec 32) (ls : Array Slot) (H : Heap) (locs : List Loc), (mp_2 i q = mp_2 7 (mp_1 a b 8)) → lv_has ls 4 [(0, .int (bI a)), (1, .int (bI b)), (3, .int (nI (7 + (i + 1))))] → va_P D cls [] H → va_D A [] → va_S A s.heap H locs → W p l e ({ frames := 0, cells := 0, slots := 0, locals := 0 }) s m ([.int (bI a), .int (bI b)] : List Value).toArray below meth c H locs 0 0 (MQ below (sd_qi D (bI (gf_m a b)) [] A) ([.int (bI a), .int (bI b)] : List Value).toArray s 0 0 A) (F0 m 67 ls [.int (iB q)]) := by
            intro q ls H locs hq hl hP hD hS
            refine lv_istore_n hx hb d_M_product_67 rfl hl (Nat.le_of_ble_eq_true rfl) (lv' := [(2, .int (iB q)), (0, .int (bI a)), (1, .int (bI b)), (3, .int (nI (7 + (i + 1))))]) rfl (fun ls hl => ?_)
            refine lv_iinc hx hb d_M_product_68 hl (k := 3) rfl (v := nI (7 + i)) (ii_m1 _) (Nat.le_of_ble_eq_true rfl) (lv' := [(3, .int (nI (7 + i))), (2, .int (iB q)), (0, .int (bI a)), (1, .int (bI b))]) rfl (fun ls hl => ?_)
            refine lv_goto (tgt := 38) hx hb d_M_product_71 rfl ?_
            have hl := lv_sub hl (l' := [(0, .int (bI a)), (1, .int (bI b)), (2, .int (iB q)), (3, .int (nI (7 + i)))]) [2, 3, 1, 0] rfl
            exact ih38 _ (by omega) (i) _ ls _ _ rfl (by omega) (hq) hl hP hD hS
          refine lv_iload_n hx hb d_M_product_44 rfl (lv_at hl 2 rfl) ?_
          refine lv_iload_n hx hb d_M_product_45 rfl (lv_at hl 3 rfl) ?_
          refine lv_ishr hx hb d_M_product_46 ?_
          refine lv_iconst (v := 1) hx hb d_M_product_47 (by decide) ?_
          refine lv_iand hx hb d_M_product_48 ?_
          refine lv_iconst (v := 1) hx hb d_M_product_49 (by decide) ?_
          refine lv_icmp_ne (tgt := 66) hx hb d_M_product_50 rfl (fun hc50 => ?_) (fun hc50 => ?_)
          · skip
            have hb9 : ¬ r.getLsbD (8 + i) = true := fun h => hc50 ((iB_bit r (by omega)).mpr (by rw [show 7 + (i + 1) = 8 + i by omega]; exact h))
            have hq : mp_2 i r = mp_2 7 (mp_1 a b 8) := by rw [← hm9]; unfold mp_s; rw [if_neg hb9]
            refine lv_iload_n hx hb d_M_product_66 rfl (lv_at hl 2 rfl) ?_
            have hl := lv_sub hl (l' := [(0, .int (bI a)), (1, .int (bI b)), (3, .int (nI (7 + (i + 1))))]) [0, 1, 3] rfl
            exact join67 _ ls _ _ (hq) hl hP hD hS
          · skip
            have hb9 : r.getLsbD (8 + i) = true := by rw [show 8 + i = 7 + (i + 1) by omega]; exact (iB_bit r (by omega)).mp hc50
            have hq : mp_2 i (r ^^^ (283#32 <<< i)) = mp_2 7 (mp_1 a b 8) := by rw [← hm9]; unfold mp_s; rw [if_pos hb9]
            refine lv_iload_n hx hb d_M_product_53 rfl (lv_at hl 2 rfl) ?_
            refine lv_sipush (v := 283) hx hb d_M_product_54 (by decide) ?_
            refine lv_iload_n hx hb d_M_product_57 rfl (lv_at hl 3 rfl) ?_
            refine lv_bipush (v := nI 8) hx hb d_M_product_58 (by decide) ?_
            refine lv_isub hx hb d_M_product_60 ?_
            refine sd_top (y := nI i) (by rw [pk_sub (by omega)]; congr 1; omega) ?_
            refine lv_ishl hx hb d_M_product_61 ?_
            refine lv_ixor hx hb d_M_product_62 ?_
            refine sd_top (y := iB (r ^^^ (283#32 <<< i))) (iB_shlc 283 r (by omega)) ?_
            refine lv_goto (tgt := 67) hx hb d_M_product_63 rfl ?_
            have hl := lv_sub hl (l' := [(0, .int (bI a)), (1, .int (bI b)), (3, .int (nI (7 + (i + 1))))]) [0, 1, 3] rfl
            exact join67 _ ls _ _ (hq) hl hP hD hS
      exact loop38 _ (7) (mp_1 a b 8) ls _ _ rfl (by omega) (rfl) hl hP hD hS
    · skip
      rw [nI_leI (by omega) (by omega)] at hc7
      have hj8 : j < 8 := by omega
      have join28 : ∀ (q : BitVec 32) (ls : Array Slot) (H : Heap) (locs : List Loc), (q = mp_1 a b (j + 1)) → lv_has ls 4 [(0, .int (bI a)), (1, .int (bI b)), (3, .int (nI (j)))] → va_P D cls [] H → va_D A [] → va_S A s.heap H locs → W p l e ({ frames := 0, cells := 0, slots := 0, locals := 0 }) s m ([.int (bI a), .int (bI b)] : List Value).toArray below meth c H locs 0 0 (MQ below (sd_qi D (bI (gf_m a b)) [] A) ([.int (bI a), .int (bI b)] : List Value).toArray s 0 0 A) (F0 m 28 ls [.int (iB q)]) := by
        intro q ls H locs hq hl hP hD hS
        refine lv_istore_n hx hb d_M_product_28 rfl hl (Nat.le_of_ble_eq_true rfl) (lv' := [(2, .int (iB q)), (0, .int (bI a)), (1, .int (bI b)), (3, .int (nI (j)))]) rfl (fun ls hl => ?_)
        refine lv_iinc hx hb d_M_product_29 hl (k := 3) rfl (v := nI (j + 1)) (ii_1 _) (Nat.le_of_ble_eq_true rfl) (lv' := [(3, .int (nI (j + 1))), (2, .int (iB q)), (0, .int (bI a)), (1, .int (bI b))]) rfl (fun ls hl => ?_)
        refine lv_goto (tgt := 4) hx hb d_M_product_32 rfl ?_
        have hl := lv_sub hl (l' := [(0, .int (bI a)), (1, .int (bI b)), (2, .int (iB q)), (3, .int (nI (j + 1)))]) [2, 3, 1, 0] rfl
        subst hq
        exact ih4 _ (by omega) (j + 1) ls _ _ rfl (by omega) hl hP hD hS
      refine lv_iload_n hx hb d_M_product_10 rfl (lv_at hl 1 rfl) ?_
      refine lv_iload_n hx hb d_M_product_11 rfl (lv_at hl 3 rfl) ?_
      refine lv_ishr hx hb d_M_product_12 ?_
      refine lv_iconst (v := 1) hx hb d_M_product_13 (by decide) ?_
      refine lv_iand hx hb d_M_product_14 ?_
      refine lv_iconst (v := 1) hx hb d_M_product_15 (by decide) ?_
      refine lv_icmp_ne (tgt := 27) hx hb d_M_product_16 rfl (fun hc16 => ?_) (fun hc16 => ?_)
      · skip
        have hq : mp_1 a b j = mp_1 a b (j + 1) := (if_neg (fun h => hc16 ((bI_sbit b j hj8).mpr h))).symm
        refine lv_iload_n hx hb d_M_product_27 rfl (lv_at hl 2 rfl) ?_
        have hl := lv_sub hl (l' := [(0, .int (bI a)), (1, .int (bI b)), (3, .int (nI (j)))]) [0, 1, 3] rfl
        exact join28 _ ls _ _ (hq) hl hP hD hS
      · skip
        have hq : mp_1 a b j ^^^ (a.setWidth 32 <<< j) = mp_1 a b (j + 1) := (if_pos ((bI_sbit b j hj8).mp hc16)).symm
        refine lv_iload_n hx hb d_M_product_19 rfl (lv_at hl 2 rfl) ?_
        refine lv_iload_n hx hb d_M_product_20 rfl (lv_at hl 0 rfl) ?_
        refine lv_iload_n hx hb d_M_product_21 rfl (lv_at hl 3 rfl) ?_
        refine lv_ishl hx hb d_M_product_22 ?_
        refine lv_ixor hx hb d_M_product_23 ?_
        refine sd_top (y := iB (mp_1 a b j ^^^ (a.setWidth 32 <<< j))) (iB_shl a _ (by omega)) ?_
        refine lv_goto (tgt := 28) hx hb d_M_product_24 rfl ?_
        have hl := lv_sub hl (l' := [(0, .int (bI a)), (1, .int (bI b)), (3, .int (nI (j)))]) [0, 1, 3] rfl
        exact join28 _ ls _ _ (hq) hl hP hD hS
  exact loop4 _ (0) ls _ _ rfl (by omega) hl hP hD hS
set_option maxHeartbeats 4000000 in
set_option maxRecDepth 100000 in
theorem c_M_quotient (l : Launch) (D : va_G) (cI cZ cQ : ClassId) (a : BitVec 8) (b : BitVec 8) (hb0 : b ≠ 0#8) : sd_I l D (tyL cI cZ cQ) y_M_quotient b_M_quotient 3 (.int) ({ frames := 1, cells := 0, slots := 0, locals := 23 }) [.int (bI a), .int (bI b)] [] (bI (gf_m a (gf_i b))) [] := by
  refine sd_ofI (by decide) (Nat.le_of_ble_eq_true rfl) ?_
  intro p e s m below meth c A ls hx hb hr hml hlk hown hts hK hP hD hA hS hl
  have hl : lv_has ls 3 [(0, .int (bI a)), (1, .int (bI b))] := hl
  refine lv_iconst (v := 0) hx hb d_M_quotient_0 (by decide) ?_
  refine sd_top (y := bI (BitVec.ofNat 8 0)) (rfl) ?_
  refine lv_istore_n hx hb d_M_quotient_1 rfl hl (Nat.le_of_ble_eq_true rfl) (lv' := [(2, .int (bI (BitVec.ofNat 8 0))), (0, .int (bI a)), (1, .int (bI b))]) rfl (fun ls hl => ?_)
  have hl := lv_sub hl (l' := [(0, .int (bI a)), (1, .int (bI b)), (2, .int (bI (BitVec.ofNat 8 0)))]) [1, 2, 0] rfl
  have loop2 : ∀ (d : Nat) (q : Nat) (ls : Array Slot) (H : Heap) (locs : List Loc), 255 - q = d → (q ≤ 255) → (q ≤ (gf_m a (gf_i b)).toNat) → lv_has ls 3 [(0, .int (bI a)), (1, .int (bI b)), (2, .int (bI (BitVec.ofNat 8 q)))] → va_P D cls [] H → va_D A [] → va_S A s.heap H locs → W p l e ({ frames := 1, cells := 0, slots := 0, locals := 23 }) s m ([.int (bI a), .int (bI b)] : List Value).toArray below meth c H locs 0 0 (MQ below (sd_qi D (bI (gf_m a (gf_i b))) [] A) ([.int (bI a), .int (bI b)] : List Value).toArray s 0 0 A) (F0 m 2 ls []) := by
    intro d
    induction d using Nat.strongRecOn with
    | _ d ih2 =>
    intro q ls H locs hd hq hle hl hP hD hS
    subst hd
    refine lv_iload_n hx hb d_M_quotient_2 rfl (lv_at hl 2 rfl) ?_
    refine lv_sipush (v := nI 255) hx hb d_M_quotient_3 (by decide) ?_
    refine lv_icmp_ge (tgt := 24) hx hb d_M_quotient_6 rfl (fun hc6 => ?_) (fun hc6 => ?_)
    · skip
      have hq5 : 255 = q := by
        rw [← bI_of (by omega), nI_leI (by omega) (by omega)] at hc6
        omega
      have hend : bI (BitVec.ofNat 8 q) = bI (gf_m a (gf_i b)) := by
        have := (gf_m a (gf_i b)).isLt
        rw [← bI_of (by omega)]
        unfold bI
        congr 1
        omega
      refine lv_iload_n hx hb d_M_quotient_24 rfl (lv_at hl 2 rfl) ?_
      exact sd_iret hx hb hr hlk hP hS (Nat.le_of_ble_eq_true rfl) (Nat.le_of_ble_eq_true rfl) (hend) d_M_quotient_25
    · skip
      have hq5 : q < 255 := by
        rw [← bI_of (by omega), nI_leI (by omega) (by omega)] at hc6
        omega
      refine lv_iload_n hx hb d_M_quotient_9 rfl (lv_at hl 2 rfl) ?_
      refine lv_iload_n hx hb d_M_quotient_10 rfl (lv_at hl 1 rfl) ?_
      refine sd_callSI (As := [.int (bI (BitVec.ofNat 8 q)), .int (bI b)]) (rest := []) (cx := []) (w1 := []) (c_M_product l D cI cZ cQ (BitVec.ofNat 8 q) (b)) ⟨wc_M_product, wm_M_54, wi_M, by decide, by decide, show (parseMethodDescriptor y_M_product.desc).map (fun d => d.parameters.length) = some 2 by decide +kernel⟩ ws_M_product hx hb hml hown hts hl.1 ⟨Nat.le_of_ble_eq_true rfl, Nat.le_of_ble_eq_true rfl⟩ ⟨Nat.le_of_ble_eq_true rfl, Nat.le_of_ble_eq_true rfl⟩ hK hP hD hS hA [] rfl (by decide) rfl rfl rfl (Nat.le_of_ble_eq_true rfl) d_M_quotient_11 (fun H locs hP hD hS => ?_)
      have hP : va_P D cls [] H := hP
      have hD : va_D A [] := hD
      refine lv_iload_n hx hb d_M_quotient_14 rfl (lv_at hl 0 rfl) ?_
      refine lv_icmp_eq (tgt := 24) hx hb d_M_quotient_15 rfl (fun hc15 => ?_) (fun hc15 => ?_)
      · skip
        have hend : bI (BitVec.ofNat 8 q) = bI (gf_m a (gf_i b)) := congrArg bI ((gf_quo hb0).mp (bI_inj hc15))
        refine lv_iload_n hx hb d_M_quotient_24 rfl (lv_at hl 2 rfl) ?_
        exact sd_iret hx hb hr hlk hP hS (Nat.le_of_ble_eq_true rfl) (Nat.le_of_ble_eq_true rfl) (hend) d_M_quotient_25
      · skip
        have hle2 : q + 1 ≤ (gf_m a (gf_i b)).toNat := by
          rcases Nat.lt_or_eq_of_le hle with h | h
          · exact h
          · refine absurd ?_ hc15
            rw [(gf_quo (c := BitVec.ofNat 8 q) hb0).mpr (BitVec.eq_of_toNat_eq (by rw [BitVec.toNat_ofNat, Nat.mod_eq_of_lt (by omega)]; exact h))]
        refine lv_iinc hx hb d_M_quotient_18 hl (k := 2) rfl (v := bI (BitVec.ofNat 8 (q + 1))) (qu_inc (by omega)) (Nat.le_of_ble_eq_true rfl) (lv' := [(2, .int (bI (BitVec.ofNat 8 (q + 1)))), (0, .int (bI a)), (1, .int (bI b))]) rfl (fun ls hl => ?_)
        refine lv_goto (tgt := 2) hx hb d_M_quotient_21 rfl ?_
        have hl := lv_sub hl (l' := [(0, .int (bI a)), (1, .int (bI b)), (2, .int (bI (BitVec.ofNat 8 (q + 1))))]) [1, 2, 0] rfl
        exact ih2 _ (by omega) (q + 1) ls _ _ rfl (by omega) (hle2) hl hP hD hS
  exact loop2 _ (0) ls _ _ rfl (by omega) (Nat.zero_le _) hl hP hD hS
set_option maxHeartbeats 4000000 in
set_option maxRecDepth 100000 in
theorem c_M_thrown (l : Launch) (D : va_G) (cI cZ cQ : ClassId) (qm : Nat) (mp : Nat) (mt : Nat) (ml : Nat) (mc : Nat) (mf : Nat) (me : Nat) (mg : Nat) (mh : Nat) (mu : Nat) (k : Nat) (n : Nat) (pn : Nat) (nx : Nat) (cd : Int32) (ep : Int32) (M : mm_T) (wi : Int32) (jb : Int32) (fp : Int32) (tf : Int32) (tt : Int32) (fi : Int32) (ln : Int32) (bx : Int32) (pr : Nat → Int32) (tk : Nat → Int32) (le : Nat → Int32) (co : Nat → Int32) (fr : Nat → Int32) (em : Nat → Int32) (nb : Nat → Int32) (su : Nat → Int32) (hk : k ≤ 9) (hn : n ≤ 9) : sd_I l D (tyL cI cZ cQ) y_M_thrown b_M_thrown 1 (.int) ({ frames := 0, cells := 0, slots := 0, locals := 0 }) [.ref qm] (mW cI cZ qm mp mt ml mc mf me mg mh mu (cd) (nI k) (nI n) (nI (pn)) (nI (nx)) (ep) (nI (M.1)) (M.2.2.1) (M.2.2.2) (wi) (jb) (fp) (tf) (tt) (fi) (ln) (bx) (1000) (pr) (1000) (tk) (8) (le) (576) (co) (576) (fr) (10) (em) (192) (M.2.1) (10) (nb) (10) (su)) (cd) (mW cI cZ qm mp mt ml mc mf me mg mh mu (cd) (nI k) (nI n) (nI (pn)) (nI (nx)) (ep) (nI (M.1)) (M.2.2.1) (M.2.2.2) (wi) (jb) (fp) (tf) (tt) (fi) (ln) (bx) (1000) (pr) (1000) (tk) (8) (le) (576) (co) (576) (fr) (10) (em) (192) (M.2.1) (10) (nb) (10) (su)) := by
  refine sd_ofI (by decide) (Nat.le_of_ble_eq_true rfl) ?_
  intro p e s m below meth c A ls hx hb hr hml hlk hown hts hK hP hD hA hS hl
  have hl : lv_has ls 1 [(0, .ref qm)] := hl
  refine lv_aload_n hx hb d_M_thrown_0 rfl (lv_at hl 0 rfl) ?_
  refine va_get (D := D) (ci := 5) (v := .int (cd)) (C := R_M) (T := F_M) (N := 26) hx hb hts wl_M hown hK hP 0 rfl rfl 0 (by decide) (hts _ wf_M_51) (fun _ h9 => h9) rfl d_M_thrown_1 ?_
  exact sd_iret hx hb hr hlk hP hS (Nat.le_of_ble_eq_true rfl) (Nat.le_of_ble_eq_true rfl) (rfl) d_M_thrown_4
set_option maxHeartbeats 4000000 in
set_option maxRecDepth 100000 in
theorem c_M_pool (l : Launch) (D : va_G) (cI cZ cQ : ClassId) (qm : Nat) (mp : Nat) (mt : Nat) (ml : Nat) (mc : Nat) (mf : Nat) (me : Nat) (mg : Nat) (mh : Nat) (mu : Nat) (k : Nat) (n : Nat) (pn : Nat) (nx : Nat) (cd : Int32) (ep : Int32) (M : mm_T) (wi : Int32) (jb : Int32) (fp : Int32) (tf : Int32) (tt : Int32) (fi : Int32) (ln : Int32) (bx : Int32) (pr : Nat → Int32) (tk : Nat → Int32) (le : Nat → Int32) (co : Nat → Int32) (fr : Nat → Int32) (em : Nat → Int32) (nb : Nat → Int32) (su : Nat → Int32) (hk : k ≤ 9) (hn : n ≤ 9) : sd_I l D (tyL cI cZ cQ) y_M_pool b_M_pool 1 (.int) ({ frames := 0, cells := 0, slots := 0, locals := 0 }) [.ref qm] (mW cI cZ qm mp mt ml mc mf me mg mh mu (cd) (nI k) (nI n) (nI (pn)) (nI (nx)) (ep) (nI (M.1)) (M.2.2.1) (M.2.2.2) (wi) (jb) (fp) (tf) (tt) (fi) (ln) (bx) (1000) (pr) (1000) (tk) (8) (le) (576) (co) (576) (fr) (10) (em) (192) (M.2.1) (10) (nb) (10) (su)) (nI pn) (mW cI cZ qm mp mt ml mc mf me mg mh mu (0) (nI k) (nI n) (nI (pn)) (nI (nx)) (ep) (nI (M.1)) (M.2.2.1) (M.2.2.2) (wi) (jb) (fp) (tf) (tt) (fi) (ln) (bx) (1000) (pr) (1000) (tk) (8) (le) (576) (co) (576) (fr) (10) (em) (192) (M.2.1) (10) (nb) (10) (su)) := by
  refine sd_ofI (by decide) (Nat.le_of_ble_eq_true rfl) ?_
  intro p e s m below meth c A ls hx hb hr hml hlk hown hts hK hP hD hA hS hl
  have hl : lv_has ls 1 [(0, .ref qm)] := hl
  refine lv_aload_n hx hb d_M_pool_0 rfl (lv_at hl 0 rfl) ?_
  refine lv_iconst (v := 0) hx hb d_M_pool_1 (by decide) ?_
  refine va_put (D := D) (ci := 5) (v := .int (0)) (ty := .int) (C := R_M) (T := F_M) (N := 26) hx hb hts wl_M t_M t_M_ok n_M hown hK hP hD hS 0 rfl rfl 0 (by decide) (hts _ wf_M_51) (fun _ h9 => h9) rfl (by decide +kernel) rfl rfl (Nat.le_of_ble_eq_true rfl) d_M_pool_2 (fun H locs hP hD hS => ?_)
  have hP : va_P D cls (mW cI cZ qm mp mt ml mc mf me mg mh mu (0) (nI k) (nI n) (nI (pn)) (nI (nx)) (ep) (nI (M.1)) (M.2.2.1) (M.2.2.2) (wi) (jb) (fp) (tf) (tt) (fi) (ln) (bx) (1000) (pr) (1000) (tk) (8) (le) (576) (co) (576) (fr) (10) (em) (192) (M.2.1) (10) (nb) (10) (su)) H := hP
  have hD : va_D A (mW cI cZ qm mp mt ml mc mf me mg mh mu (0) (nI k) (nI n) (nI (pn)) (nI (nx)) (ep) (nI (M.1)) (M.2.2.1) (M.2.2.2) (wi) (jb) (fp) (tf) (tt) (fi) (ln) (bx) (1000) (pr) (1000) (tk) (8) (le) (576) (co) (576) (fr) (10) (em) (192) (M.2.1) (10) (nb) (10) (su)) := hD
  refine lv_aload_n hx hb d_M_pool_5 rfl (lv_at hl 0 rfl) ?_
  refine va_get (D := D) (ci := 5) (v := .int (nI (pn))) (C := R_M) (T := F_M) (N := 26) hx hb hts wl_M hown hK hP 0 rfl rfl 3 (by decide) (hts _ wf_M_58) (fun _ h9 => h9) rfl d_M_pool_6 ?_
  exact sd_iret hx hb hr hlk hP hS (Nat.le_of_ble_eq_true rfl) (Nat.le_of_ble_eq_true rfl) (rfl) d_M_pool_9
set_option maxHeartbeats 4000000 in
set_option maxRecDepth 100000 in
theorem c_M_epoch (l : Launch) (D : va_G) (cI cZ cQ : ClassId) (qm : Nat) (mp : Nat) (mt : Nat) (ml : Nat) (mc : Nat) (mf : Nat) (me : Nat) (mg : Nat) (mh : Nat) (mu : Nat) (k : Nat) (n : Nat) (pn : Nat) (nx : Nat) (cd : Int32) (ep : Int32) (M : mm_T) (wi : Int32) (jb : Int32) (fp : Int32) (tf : Int32) (tt : Int32) (fi : Int32) (ln : Int32) (bx : Int32) (pr : Nat → Int32) (tk : Nat → Int32) (le : Nat → Int32) (co : Nat → Int32) (fr : Nat → Int32) (em : Nat → Int32) (nb : Nat → Int32) (su : Nat → Int32) (hk : k ≤ 9) (hn : n ≤ 9) : sd_I l D (tyL cI cZ cQ) y_M_epoch b_M_epoch 1 (.int) ({ frames := 0, cells := 0, slots := 0, locals := 0 }) [.ref qm] (mW cI cZ qm mp mt ml mc mf me mg mh mu (cd) (nI k) (nI n) (nI (pn)) (nI (nx)) (ep) (nI (M.1)) (M.2.2.1) (M.2.2.2) (wi) (jb) (fp) (tf) (tt) (fi) (ln) (bx) (1000) (pr) (1000) (tk) (8) (le) (576) (co) (576) (fr) (10) (em) (192) (M.2.1) (10) (nb) (10) (su)) (ep) (mW cI cZ qm mp mt ml mc mf me mg mh mu (0) (nI k) (nI n) (nI (pn)) (nI (nx)) (ep) (nI (M.1)) (M.2.2.1) (M.2.2.2) (wi) (jb) (fp) (tf) (tt) (fi) (ln) (bx) (1000) (pr) (1000) (tk) (8) (le) (576) (co) (576) (fr) (10) (em) (192) (M.2.1) (10) (nb) (10) (su)) := by
  refine sd_ofI (by decide) (Nat.le_of_ble_eq_true rfl) ?_
  intro p e s m below meth c A ls hx hb hr hml hlk hown hts hK hP hD hA hS hl
  have hl : lv_has ls 1 [(0, .ref qm)] := hl
  refine lv_aload_n hx hb d_M_epoch_0 rfl (lv_at hl 0 rfl) ?_
  refine lv_iconst (v := 0) hx hb d_M_epoch_1 (by decide) ?_
  refine va_put (D := D) (ci := 5) (v := .int (0)) (ty := .int) (C := R_M) (T := F_M) (N := 26) hx hb hts wl_M t_M t_M_ok n_M hown hK hP hD hS 0 rfl rfl 0 (by decide) (hts _ wf_M_51) (fun _ h9 => h9) rfl (by decide +kernel) rfl rfl (Nat.le_of_ble_eq_true rfl) d_M_epoch_2 (fun H locs hP hD hS => ?_)
  have hP : va_P D cls (mW cI cZ qm mp mt ml mc mf me mg mh mu (0) (nI k) (nI n) (nI (pn)) (nI (nx)) (ep) (nI (M.1)) (M.2.2.1) (M.2.2.2) (wi) (jb) (fp) (tf) (tt) (fi) (ln) (bx) (1000) (pr) (1000) (tk) (8) (le) (576) (co) (576) (fr) (10) (em) (192) (M.2.1) (10) (nb) (10) (su)) H := hP
  have hD : va_D A (mW cI cZ qm mp mt ml mc mf me mg mh mu (0) (nI k) (nI n) (nI (pn)) (nI (nx)) (ep) (nI (M.1)) (M.2.2.1) (M.2.2.2) (wi) (jb) (fp) (tf) (tt) (fi) (ln) (bx) (1000) (pr) (1000) (tk) (8) (le) (576) (co) (576) (fr) (10) (em) (192) (M.2.1) (10) (nb) (10) (su)) := hD
  refine lv_aload_n hx hb d_M_epoch_5 rfl (lv_at hl 0 rfl) ?_
  refine va_get (D := D) (ci := 5) (v := .int (ep)) (C := R_M) (T := F_M) (N := 26) hx hb hts wl_M hown hK hP 0 rfl rfl 10 (by decide) (hts _ wf_M_109) (fun _ h9 => h9) rfl d_M_epoch_6 ?_
  exact sd_iret hx hb hr hlk hP hS (Nat.le_of_ble_eq_true rfl) (Nat.le_of_ble_eq_true rfl) (rfl) d_M_epoch_9
set_option maxHeartbeats 4000000 in
set_option maxRecDepth 100000 in
theorem c_M_sent (l : Launch) (D : va_G) (cI cZ cQ : ClassId) (qm : Nat) (mp : Nat) (mt : Nat) (ml : Nat) (mc : Nat) (mf : Nat) (me : Nat) (mg : Nat) (mh : Nat) (mu : Nat) (k : Nat) (n : Nat) (pn : Nat) (nx : Nat) (cd : Int32) (ep : Int32) (M : mm_T) (wi : Int32) (jb : Int32) (fp : Int32) (tf : Int32) (tt : Int32) (fi : Int32) (ln : Int32) (bx : Int32) (pr : Nat → Int32) (tk : Nat → Int32) (le : Nat → Int32) (co : Nat → Int32) (fr : Nat → Int32) (em : Nat → Int32) (nb : Nat → Int32) (su : Nat → Int32) (hk : k ≤ 9) (hn : n ≤ 9) : sd_I l D (tyL cI cZ cQ) y_M_sent b_M_sent 1 (.int) ({ frames := 0, cells := 0, slots := 0, locals := 0 }) [.ref qm] (mW cI cZ qm mp mt ml mc mf me mg mh mu (cd) (nI k) (nI n) (nI (pn)) (nI (nx)) (ep) (nI (M.1)) (M.2.2.1) (M.2.2.2) (wi) (jb) (fp) (tf) (tt) (fi) (ln) (bx) (1000) (pr) (1000) (tk) (8) (le) (576) (co) (576) (fr) (10) (em) (192) (M.2.1) (10) (nb) (10) (su)) (nI M.1) (mW cI cZ qm mp mt ml mc mf me mg mh mu (0) (nI k) (nI n) (nI (pn)) (nI (nx)) (ep) (nI (M.1)) (M.2.2.1) (M.2.2.2) (wi) (jb) (fp) (tf) (tt) (fi) (ln) (bx) (1000) (pr) (1000) (tk) (8) (le) (576) (co) (576) (fr) (10) (em) (192) (M.2.1) (10) (nb) (10) (su)) := by
  refine sd_ofI (by decide) (Nat.le_of_ble_eq_true rfl) ?_
  intro p e s m below meth c A ls hx hb hr hml hlk hown hts hK hP hD hA hS hl
  have hl : lv_has ls 1 [(0, .ref qm)] := hl
  refine lv_aload_n hx hb d_M_sent_0 rfl (lv_at hl 0 rfl) ?_
  refine lv_iconst (v := 0) hx hb d_M_sent_1 (by decide) ?_
  refine va_put (D := D) (ci := 5) (v := .int (0)) (ty := .int) (C := R_M) (T := F_M) (N := 26) hx hb hts wl_M t_M t_M_ok n_M hown hK hP hD hS 0 rfl rfl 0 (by decide) (hts _ wf_M_51) (fun _ h9 => h9) rfl (by decide +kernel) rfl rfl (Nat.le_of_ble_eq_true rfl) d_M_sent_2 (fun H locs hP hD hS => ?_)
  have hP : va_P D cls (mW cI cZ qm mp mt ml mc mf me mg mh mu (0) (nI k) (nI n) (nI (pn)) (nI (nx)) (ep) (nI (M.1)) (M.2.2.1) (M.2.2.2) (wi) (jb) (fp) (tf) (tt) (fi) (ln) (bx) (1000) (pr) (1000) (tk) (8) (le) (576) (co) (576) (fr) (10) (em) (192) (M.2.1) (10) (nb) (10) (su)) H := hP
  have hD : va_D A (mW cI cZ qm mp mt ml mc mf me mg mh mu (0) (nI k) (nI n) (nI (pn)) (nI (nx)) (ep) (nI (M.1)) (M.2.2.1) (M.2.2.2) (wi) (jb) (fp) (tf) (tt) (fi) (ln) (bx) (1000) (pr) (1000) (tk) (8) (le) (576) (co) (576) (fr) (10) (em) (192) (M.2.1) (10) (nb) (10) (su)) := hD
  refine lv_aload_n hx hb d_M_sent_5 rfl (lv_at hl 0 rfl) ?_
  refine va_get (D := D) (ci := 5) (v := .int (nI (M.1))) (C := R_M) (T := F_M) (N := 26) hx hb hts wl_M hown hK hP 0 rfl rfl 12 (by decide) (hts _ wf_M_70) (fun _ h9 => h9) rfl d_M_sent_6 ?_
  exact sd_iret hx hb hr hlk hP hS (Nat.le_of_ble_eq_true rfl) (Nat.le_of_ble_eq_true rfl) (rfl) d_M_sent_9
set_option maxHeartbeats 4000000 in
set_option maxRecDepth 100000 in
theorem c_M_total (l : Launch) (D : va_G) (cI cZ cQ : ClassId) (qm : Nat) (mp : Nat) (mt : Nat) (ml : Nat) (mc : Nat) (mf : Nat) (me : Nat) (mg : Nat) (mh : Nat) (mu : Nat) (k : Nat) (n : Nat) (pn : Nat) (nx : Nat) (cd : Int32) (ep : Int32) (M : mm_T) (wi : Int32) (jb : Int32) (fp : Int32) (tf : Int32) (tt : Int32) (fi : Int32) (ln : Int32) (bx : Int32) (pr : Nat → Int32) (tk : Nat → Int32) (le : Nat → Int32) (co : Nat → Int32) (fr : Nat → Int32) (em : Nat → Int32) (nb : Nat → Int32) (su : Nat → Int32) (lz : Nat → Nat) (hk : k ≤ 9) (hn : n ≤ 9) (hle : ∀ i, i < 8 → le i = nI (lz i)) : sd_I l D (tyL cI cZ cQ) y_M_total b_M_total 3 (.int) ({ frames := 0, cells := 0, slots := 0, locals := 0 }) [.ref qm] (mW cI cZ qm mp mt ml mc mf me mg mh mu (cd) (nI k) (nI n) (nI (pn)) (nI (nx)) (ep) (nI (M.1)) (M.2.2.1) (M.2.2.2) (wi) (jb) (fp) (tf) (tt) (fi) (ln) (bx) (1000) (pr) (1000) (tk) (8) (le) (576) (co) (576) (fr) (10) (em) (192) (M.2.1) (10) (nb) (10) (su)) (nI (sm_b lz 8)) (mW cI cZ qm mp mt ml mc mf me mg mh mu (cd) (nI k) (nI n) (nI (pn)) (nI (nx)) (ep) (nI (M.1)) (M.2.2.1) (M.2.2.2) (wi) (jb) (fp) (tf) (tt) (fi) (ln) (bx) (1000) (pr) (1000) (tk) (8) (le) (576) (co) (576) (fr) (10) (em) (192) (M.2.1) (10) (nb) (10) (su)) := by
  refine sd_ofI (by decide) (Nat.le_of_ble_eq_true rfl) ?_
  intro p e s m below meth c A ls hx hb hr hml hlk hown hts hK hP hD hA hS hl
  have hl : lv_has ls 3 [(0, .ref qm)] := hl
  refine lv_iconst (v := 0) hx hb d_M_total_0 (by decide) ?_
  refine sd_top (y := nI 0) (rfl) ?_
  refine lv_istore_n hx hb d_M_total_1 rfl hl (Nat.le_of_ble_eq_true rfl) (lv' := [(1, .int (nI 0)), (0, .ref qm)]) rfl (fun ls hl => ?_)
  refine lv_iconst (v := 0) hx hb d_M_total_2 (by decide) ?_
  refine sd_top (y := nI 0) (rfl) ?_
  refine lv_istore_n hx hb d_M_total_3 rfl hl (Nat.le_of_ble_eq_true rfl) (lv' := [(2, .int (nI 0)), (1, .int (nI 0)), (0, .ref qm)]) rfl (fun ls hl => ?_)
  have hl := lv_sub hl (l' := [(0, .ref qm), (1, .int (nI 0)), (2, .int (nI 0))]) [2, 1, 0] rfl
  have loop4 : ∀ (d : Nat) (f : Nat) (ls : Array Slot) (H : Heap) (locs : List Loc), 8 - f = d → (f ≤ 8) → lv_has ls 3 [(0, .ref qm), (1, .int (nI (sm_b lz f))), (2, .int (nI (f)))] → va_P D cls (mW cI cZ qm mp mt ml mc mf me mg mh mu (cd) (nI k) (nI n) (nI (pn)) (nI (nx)) (ep) (nI (M.1)) (M.2.2.1) (M.2.2.2) (wi) (jb) (fp) (tf) (tt) (fi) (ln) (bx) (1000) (pr) (1000) (tk) (8) (le) (576) (co) (576) (fr) (10) (em) (192) (M.2.1) (10) (nb) (10) (su)) H → va_D A (mW cI cZ qm mp mt ml mc mf me mg mh mu (cd) (nI k) (nI n) (nI (pn)) (nI (nx)) (ep) (nI (M.1)) (M.2.2.1) (M.2.2.2) (wi) (jb) (fp) (tf) (tt) (fi) (ln) (bx) (1000) (pr) (1000) (tk) (8) (le) (576) (co) (576) (fr) (10) (em) (192) (M.2.1) (10) (nb) (10) (su)) → va_S A s.heap H locs → W p l e ({ frames := 0, cells := 0, slots := 0, locals := 0 }) s m ([.ref qm] : List Value).toArray below meth c H locs 0 0 (MQ below (sd_qi D (nI (sm_b lz 8)) (mW cI cZ qm mp mt ml mc mf me mg mh mu (cd) (nI k) (nI n) (nI (pn)) (nI (nx)) (ep) (nI (M.1)) (M.2.2.1) (M.2.2.2) (wi) (jb) (fp) (tf) (tt) (fi) (ln) (bx) (1000) (pr) (1000) (tk) (8) (le) (576) (co) (576) (fr) (10) (em) (192) (M.2.1) (10) (nb) (10) (su)) A) ([.ref qm] : List Value).toArray s 0 0 A) (F0 m 4 ls []) := by
    intro d
    induction d using Nat.strongRecOn with
    | _ d ih4 =>
    intro f ls H locs hd hf8 hl hP hD hS
    subst hd
    refine lv_iload_n hx hb d_M_total_4 rfl (lv_at hl 2 rfl) ?_
    refine lv_bipush (v := nI 8) hx hb d_M_total_5 (by decide) ?_
    refine lv_icmp_ge (tgt := 25) hx hb d_M_total_7 rfl (fun hc7 => ?_) (fun hc7 => ?_)
    · skip
      rw [nI_leI (by omega) (by omega)] at hc7
      refine lv_iload_n hx hb d_M_total_25 rfl (lv_at hl 1 rfl) ?_
      have hf8 : 8 = f := by omega
      subst hf8
      exact sd_iret hx hb hr hlk hP hS (Nat.le_of_ble_eq_true rfl) (Nat.le_of_ble_eq_true rfl) (rfl) d_M_total_26
    · skip
      rw [nI_leI (by omega) (by omega)] at hc7
      refine lv_iload_n hx hb d_M_total_10 rfl (lv_at hl 1 rfl) ?_
      refine lv_aload_n hx hb d_M_total_11 rfl (lv_at hl 0 rfl) ?_
      refine va_get (D := D) (ci := 5) (v := .ref ml) (C := R_M) (T := F_M) (N := 26) hx hb hts wl_M hown hK hP 0 rfl rfl 7 (by decide) (hts _ wf_M_16) (fun _ h9 => h9) rfl d_M_total_12 ?_
      refine lv_iload_n hx hb d_M_total_15 rfl (lv_at hl 2 rfl) ?_
      refine sd_iald (j := f) hx hb hK hP 3 0 rfl rfl (by omega) (by omega) d_M_total_16 ?_
      refine sd_top (y := nI (lz f)) (hle f (by omega)) ?_
      refine lv_iadd hx hb d_M_total_17 ?_
      refine sd_top (y := nI (sm_b lz f + lz f)) (nI_add _ _) ?_
      refine lv_istore_n hx hb d_M_total_18 rfl hl (Nat.le_of_ble_eq_true rfl) (lv' := [(1, .int (nI (sm_b lz f + lz f))), (0, .ref qm), (2, .int (nI (f)))]) rfl (fun ls hl => ?_)
      refine lv_iinc hx hb d_M_total_19 hl (k := 2) rfl (v := nI (f + 1)) (ii_1 _) (Nat.le_of_ble_eq_true rfl) (lv' := [(2, .int (nI (f + 1))), (1, .int (nI (sm_b lz f + lz f))), (0, .ref qm)]) rfl (fun ls hl => ?_)
      refine lv_goto (tgt := 4) hx hb d_M_total_22 rfl ?_
      have hl := lv_sub hl (l' := [(0, .ref qm), (1, .int (nI (sm_b lz f + lz f))), (2, .int (nI (f + 1)))]) [2, 1, 0] rfl
      exact ih4 _ (by omega) (f + 1) ls _ _ rfl (by omega) hl hP hD hS
  exact loop4 _ (0) ls _ _ rfl (Nat.zero_le _) hl hP hD hS
set_option maxHeartbeats 4000000 in
set_option maxRecDepth 100000 in
theorem c_M_kept (l : Launch) (D : va_G) (cI cZ cQ : ClassId) (qm : Nat) (mp : Nat) (mt : Nat) (ml : Nat) (mc : Nat) (mf : Nat) (me : Nat) (mg : Nat) (mh : Nat) (mu : Nat) (k : Nat) (n : Nat) (pn : Nat) (nx : Nat) (cd : Int32) (ep : Int32) (M : mm_T) (wi : Int32) (jb : Int32) (fp : Int32) (tf : Int32) (tt : Int32) (fi : Int32) (ln : Int32) (bx : Int32) (pr : Nat → Int32) (tk : Nat → Int32) (le : Nat → Int32) (co : Nat → Int32) (fr : Nat → Int32) (em : Nat → Int32) (nb : Nat → Int32) (su : Nat → Int32) (lz : Nat → Nat) (hk : k ≤ 9) (hn : n ≤ 9) (hle : ∀ i, i < 8 → le i = nI (lz i)) (hln : ∀ i, i < 8 → lz i ≤ 8) : sd_I l D (tyL cI cZ cQ) y_M_kept b_M_kept 3 (.int) ({ frames := 0, cells := 0, slots := 0, locals := 0 }) [.ref qm] (mW cI cZ qm mp mt ml mc mf me mg mh mu (cd) (nI k) (nI n) (nI (pn)) (nI (nx)) (ep) (nI (M.1)) (M.2.2.1) (M.2.2.2) (wi) (jb) (fp) (tf) (tt) (fi) (ln) (bx) (1000) (pr) (1000) (tk) (8) (le) (576) (co) (576) (fr) (10) (em) (192) (M.2.1) (10) (nb) (10) (su)) (nI (sm_k lz 8)) (mW cI cZ qm mp mt ml mc mf me mg mh mu (cd) (nI k) (nI n) (nI (pn)) (nI (nx)) (ep) (nI (M.1)) (M.2.2.1) (M.2.2.2) (wi) (jb) (fp) (tf) (tt) (fi) (ln) (bx) (1000) (pr) (1000) (tk) (8) (le) (576) (co) (576) (fr) (10) (em) (192) (M.2.1) (10) (nb) (10) (su)) := by
  refine sd_ofI (by decide) (Nat.le_of_ble_eq_true rfl) ?_
  intro p e s m below meth c A ls hx hb hr hml hlk hown hts hK hP hD hA hS hl
  have hl : lv_has ls 3 [(0, .ref qm)] := hl
  refine lv_iconst (v := 0) hx hb d_M_kept_0 (by decide) ?_
  refine sd_top (y := nI 0) (rfl) ?_
  refine lv_istore_n hx hb d_M_kept_1 rfl hl (Nat.le_of_ble_eq_true rfl) (lv' := [(1, .int (nI 0)), (0, .ref qm)]) rfl (fun ls hl => ?_)
  refine lv_iconst (v := 0) hx hb d_M_kept_2 (by decide) ?_
  refine sd_top (y := nI 0) (rfl) ?_
  refine lv_istore_n hx hb d_M_kept_3 rfl hl (Nat.le_of_ble_eq_true rfl) (lv' := [(2, .int (nI 0)), (1, .int (nI 0)), (0, .ref qm)]) rfl (fun ls hl => ?_)
  have hl := lv_sub hl (l' := [(0, .ref qm), (1, .int (nI 0)), (2, .int (nI 0))]) [2, 1, 0] rfl
  have loop4 : ∀ (d : Nat) (f : Nat) (ls : Array Slot) (H : Heap) (locs : List Loc), 8 - f = d → (f ≤ 8) → lv_has ls 3 [(0, .ref qm), (1, .int (nI (sm_k lz f))), (2, .int (nI (f)))] → va_P D cls (mW cI cZ qm mp mt ml mc mf me mg mh mu (cd) (nI k) (nI n) (nI (pn)) (nI (nx)) (ep) (nI (M.1)) (M.2.2.1) (M.2.2.2) (wi) (jb) (fp) (tf) (tt) (fi) (ln) (bx) (1000) (pr) (1000) (tk) (8) (le) (576) (co) (576) (fr) (10) (em) (192) (M.2.1) (10) (nb) (10) (su)) H → va_D A (mW cI cZ qm mp mt ml mc mf me mg mh mu (cd) (nI k) (nI n) (nI (pn)) (nI (nx)) (ep) (nI (M.1)) (M.2.2.1) (M.2.2.2) (wi) (jb) (fp) (tf) (tt) (fi) (ln) (bx) (1000) (pr) (1000) (tk) (8) (le) (576) (co) (576) (fr) (10) (em) (192) (M.2.1) (10) (nb) (10) (su)) → va_S A s.heap H locs → W p l e ({ frames := 0, cells := 0, slots := 0, locals := 0 }) s m ([.ref qm] : List Value).toArray below meth c H locs 0 0 (MQ below (sd_qi D (nI (sm_k lz 8)) (mW cI cZ qm mp mt ml mc mf me mg mh mu (cd) (nI k) (nI n) (nI (pn)) (nI (nx)) (ep) (nI (M.1)) (M.2.2.1) (M.2.2.2) (wi) (jb) (fp) (tf) (tt) (fi) (ln) (bx) (1000) (pr) (1000) (tk) (8) (le) (576) (co) (576) (fr) (10) (em) (192) (M.2.1) (10) (nb) (10) (su)) A) ([.ref qm] : List Value).toArray s 0 0 A) (F0 m 4 ls []) := by
    intro d
    induction d using Nat.strongRecOn with
    | _ d ih4 =>
    intro f ls H locs hd hf8 hl hP hD hS
    subst hd
    refine lv_iload_n hx hb d_M_kept_4 rfl (lv_at hl 2 rfl) ?_
    refine lv_bipush (v := nI 8) hx hb d_M_kept_5 (by decide) ?_
    refine lv_icmp_ge (tgt := 33) hx hb d_M_kept_7 rfl (fun hc7 => ?_) (fun hc7 => ?_)
    · skip
      rw [nI_leI (by omega) (by omega)] at hc7
      refine lv_iload_n hx hb d_M_kept_33 rfl (lv_at hl 1 rfl) ?_
      have hf8 : 8 = f := by omega
      subst hf8
      exact sd_iret hx hb hr hlk hP hS (Nat.le_of_ble_eq_true rfl) (Nat.le_of_ble_eq_true rfl) (rfl) d_M_kept_34
    · skip
      rw [nI_leI (by omega) (by omega)] at hc7
      have hl9 := hln f (by omega)
      refine lv_aload_n hx hb d_M_kept_10 rfl (lv_at hl 0 rfl) ?_
      refine va_get (D := D) (ci := 5) (v := .ref ml) (C := R_M) (T := F_M) (N := 26) hx hb hts wl_M hown hK hP 0 rfl rfl 7 (by decide) (hts _ wf_M_16) (fun _ h9 => h9) rfl d_M_kept_11 ?_
      refine lv_iload_n hx hb d_M_kept_14 rfl (lv_at hl 2 rfl) ?_
      refine sd_iald (j := f) hx hb hK hP 3 0 rfl rfl (by omega) (by omega) d_M_kept_15 ?_
      refine sd_top (y := nI (lz f)) (hle f (by omega)) ?_
      refine lv_if_le (tgt := 25) hx hb d_M_kept_16 rfl (fun hc16 => ?_) (fun hc16 => ?_)
      · skip
        have hf1 : ¬ 0 < lz f := by rw [show (0 : Int32) = nI 0 from rfl, nI_leI (by omega) (by omega)] at hc16; omega
        refine lv_iload_n hx hb d_M_kept_25 rfl (lv_at hl 1 rfl) ?_
        refine sd_top (y := nI (sm_k lz (f + 1))) (by rw [sm_k0 hf1]) ?_
        refine lv_istore_n hx hb d_M_kept_26 rfl hl (Nat.le_of_ble_eq_true rfl) (lv' := [(1, .int (nI (sm_k lz (f + 1)))), (0, .ref qm), (2, .int (nI (f)))]) rfl (fun ls hl => ?_)
        refine lv_iinc hx hb d_M_kept_27 hl (k := 2) rfl (v := nI (f + 1)) (ii_1 _) (Nat.le_of_ble_eq_true rfl) (lv' := [(2, .int (nI (f + 1))), (1, .int (nI (sm_k lz (f + 1)))), (0, .ref qm)]) rfl (fun ls hl => ?_)
        refine lv_goto (tgt := 4) hx hb d_M_kept_30 rfl ?_
        have hl := lv_sub hl (l' := [(0, .ref qm), (1, .int (nI (sm_k lz (f + 1)))), (2, .int (nI (f + 1)))]) [2, 1, 0] rfl
        exact ih4 _ (by omega) (f + 1) ls _ _ rfl (by omega) hl hP hD hS
      · skip
        have hf1 : 0 < lz f := by rw [show (0 : Int32) = nI 0 from rfl, nI_leI (by omega) (by omega)] at hc16; omega
        refine lv_iload_n hx hb d_M_kept_19 rfl (lv_at hl 1 rfl) ?_
        refine lv_iconst (v := 1) hx hb d_M_kept_20 (by decide) ?_
        refine lv_iadd hx hb d_M_kept_21 ?_
        refine sd_top (y := nI (sm_k lz (f + 1))) (by rw [nI_1, sm_k1 hf1]) ?_
        refine lv_goto (tgt := 26) hx hb d_M_kept_22 rfl ?_
        refine lv_istore_n hx hb d_M_kept_26 rfl hl (Nat.le_of_ble_eq_true rfl) (lv' := [(1, .int (nI (sm_k lz (f + 1)))), (0, .ref qm), (2, .int (nI (f)))]) rfl (fun ls hl => ?_)
        refine lv_iinc hx hb d_M_kept_27 hl (k := 2) rfl (v := nI (f + 1)) (ii_1 _) (Nat.le_of_ble_eq_true rfl) (lv' := [(2, .int (nI (f + 1))), (1, .int (nI (sm_k lz (f + 1)))), (0, .ref qm)]) rfl (fun ls hl => ?_)
        refine lv_goto (tgt := 4) hx hb d_M_kept_30 rfl ?_
        have hl := lv_sub hl (l' := [(0, .ref qm), (1, .int (nI (sm_k lz (f + 1)))), (2, .int (nI (f + 1)))]) [2, 1, 0] rfl
        exact ih4 _ (by omega) (f + 1) ls _ _ rfl (by omega) hl hP hD hS
  exact loop4 _ (0) ls _ _ rfl (Nat.zero_le _) hl hP hD hS
set_option maxHeartbeats 4000000 in
set_option maxRecDepth 100000 in
theorem c_M_files (l : Launch) (D : va_G) (cI cZ cQ : ClassId) (qm : Nat) (mp : Nat) (mt : Nat) (ml : Nat) (mc : Nat) (mf : Nat) (me : Nat) (mg : Nat) (mh : Nat) (mu : Nat) (k : Nat) (n : Nat) (pn : Nat) (nx : Nat) (cd : Int32) (ep : Int32) (M : mm_T) (wi : Int32) (jb : Int32) (fp : Int32) (tf : Int32) (tt : Int32) (fi : Int32) (ln : Int32) (bx : Int32) (pr : Nat → Int32) (tk : Nat → Int32) (le : Nat → Int32) (co : Nat → Int32) (fr : Nat → Int32) (em : Nat → Int32) (nb : Nat → Int32) (su : Nat → Int32) (lz : Nat → Nat) (hk : k ≤ 9) (hn : n ≤ 9) (hle : ∀ i, i < 8 → le i = nI (lz i)) (hln : ∀ i, i < 8 → lz i ≤ 8) : sd_I l D (tyL cI cZ cQ) y_M_files b_M_files 1 (.int) ({ frames := 1, cells := 0, slots := 0, locals := 22 }) [.ref qm] (mW cI cZ qm mp mt ml mc mf me mg mh mu (cd) (nI k) (nI n) (nI (pn)) (nI (nx)) (ep) (nI (M.1)) (M.2.2.1) (M.2.2.2) (wi) (jb) (fp) (tf) (tt) (fi) (ln) (bx) (1000) (pr) (1000) (tk) (8) (le) (576) (co) (576) (fr) (10) (em) (192) (M.2.1) (10) (nb) (10) (su)) (nI (sm_k lz 8)) (mW cI cZ qm mp mt ml mc mf me mg mh mu (0) (nI k) (nI n) (nI (pn)) (nI (nx)) (ep) (nI (M.1)) (M.2.2.1) (M.2.2.2) (wi) (jb) (fp) (tf) (tt) (fi) (ln) (bx) (1000) (pr) (1000) (tk) (8) (le) (576) (co) (576) (fr) (10) (em) (192) (M.2.1) (10) (nb) (10) (su)) := by
  refine sd_ofI (by decide) (Nat.le_of_ble_eq_true rfl) ?_
  intro p e s m below meth c A ls hx hb hr hml hlk hown hts hK hP hD hA hS hl
  have hl : lv_has ls 1 [(0, .ref qm)] := hl
  refine lv_aload_n hx hb d_M_files_0 rfl (lv_at hl 0 rfl) ?_
  refine lv_iconst (v := 0) hx hb d_M_files_1 (by decide) ?_
  refine va_put (D := D) (ci := 5) (v := .int (0)) (ty := .int) (C := R_M) (T := F_M) (N := 26) hx hb hts wl_M t_M t_M_ok n_M hown hK hP hD hS 0 rfl rfl 0 (by decide) (hts _ wf_M_51) (fun _ h9 => h9) rfl (by decide +kernel) rfl rfl (Nat.le_of_ble_eq_true rfl) d_M_files_2 (fun H locs hP hD hS => ?_)
  have hP : va_P D cls (mW cI cZ qm mp mt ml mc mf me mg mh mu (0) (nI k) (nI n) (nI (pn)) (nI (nx)) (ep) (nI (M.1)) (M.2.2.1) (M.2.2.2) (wi) (jb) (fp) (tf) (tt) (fi) (ln) (bx) (1000) (pr) (1000) (tk) (8) (le) (576) (co) (576) (fr) (10) (em) (192) (M.2.1) (10) (nb) (10) (su)) H := hP
  have hD : va_D A (mW cI cZ qm mp mt ml mc mf me mg mh mu (0) (nI k) (nI n) (nI (pn)) (nI (nx)) (ep) (nI (M.1)) (M.2.2.1) (M.2.2.2) (wi) (jb) (fp) (tf) (tt) (fi) (ln) (bx) (1000) (pr) (1000) (tk) (8) (le) (576) (co) (576) (fr) (10) (em) (192) (M.2.1) (10) (nb) (10) (su)) := hD
  refine lv_aload_n hx hb d_M_files_5 rfl (lv_at hl 0 rfl) ?_
  refine sd_allVI (As := []) (rest := []) (w1 := (mW cI cZ qm mp mt ml mc mf me mg mh mu (0) (nI k) (nI n) (nI (pn)) (nI (nx)) (ep) (nI (M.1)) (M.2.2.1) (M.2.2.2) (wi) (jb) (fp) (tf) (tt) (fi) (ln) (bx) (1000) (pr) (1000) (tk) (8) (le) (576) (co) (576) (fr) (10) (em) (192) (M.2.1) (10) (nb) (10) (su))) (c_M_kept l D cI cZ cQ (qm) (mp) (mt) (ml) (mc) (mf) (me) (mg) (mh) (mu) (k) (n) (pn) (nx) (0) (ep) (M) (wi) (jb) (fp) (tf) (tt) (fi) (ln) (bx) (pr) (tk) (le) (co) (fr) (em) (nb) (su) (lz) (hk) (hn) (hle) (hln)) ⟨wc_M_kept, wm_M_152, wi_M, by decide, by decide, show (parseMethodDescriptor y_M_kept.desc).map (fun d => d.parameters.length) = some 0 by decide +kernel⟩ wo_M_kept wz_M_kept hx hb hml hown hts hl.1 ⟨Nat.le_of_ble_eq_true rfl, Nat.le_of_ble_eq_true rfl⟩ ⟨Nat.le_of_ble_eq_true rfl, Nat.le_of_ble_eq_true rfl⟩ hK hP hD hS hA (rfl) (q0 := 0) rfl rfl rfl (Nat.le_of_ble_eq_true rfl) d_M_files_6 (fun H locs hP hD hS => ?_)
  have hP : va_P D cls (mW cI cZ qm mp mt ml mc mf me mg mh mu (0) (nI k) (nI n) (nI (pn)) (nI (nx)) (ep) (nI (M.1)) (M.2.2.1) (M.2.2.2) (wi) (jb) (fp) (tf) (tt) (fi) (ln) (bx) (1000) (pr) (1000) (tk) (8) (le) (576) (co) (576) (fr) (10) (em) (192) (M.2.1) (10) (nb) (10) (su)) H := hP
  have hD : va_D A (mW cI cZ qm mp mt ml mc mf me mg mh mu (0) (nI k) (nI n) (nI (pn)) (nI (nx)) (ep) (nI (M.1)) (M.2.2.1) (M.2.2.2) (wi) (jb) (fp) (tf) (tt) (fi) (ln) (bx) (1000) (pr) (1000) (tk) (8) (le) (576) (co) (576) (fr) (10) (em) (192) (M.2.1) (10) (nb) (10) (su)) := hD
  exact sd_iret hx hb hr hlk hP hS (Nat.le_of_ble_eq_true rfl) (Nat.le_of_ble_eq_true rfl) (rfl) d_M_files_9
set_option maxHeartbeats 4000000 in
set_option maxRecDepth 100000 in
theorem c_M_filled (l : Launch) (D : va_G) (cI cZ cQ : ClassId) (qm : Nat) (mp : Nat) (mt : Nat) (ml : Nat) (mc : Nat) (mf : Nat) (me : Nat) (mg : Nat) (mh : Nat) (mu : Nat) (k : Nat) (n : Nat) (pn : Nat) (nx : Nat) (cd : Int32) (ep : Int32) (M : mm_T) (wi : Int32) (jb : Int32) (fp : Int32) (tf : Int32) (tt : Int32) (fi : Int32) (ln : Int32) (bx : Int32) (pr : Nat → Int32) (tk : Nat → Int32) (le : Nat → Int32) (co : Nat → Int32) (fr : Nat → Int32) (em : Nat → Int32) (nb : Nat → Int32) (su : Nat → Int32) (hk : k ≤ 9) (hn : n ≤ 9) : sd_I l D (tyL cI cZ cQ) y_M_filled b_M_filled 3 (.int) ({ frames := 0, cells := 0, slots := 0, locals := 0 }) [.ref qm] (mW cI cZ qm mp mt ml mc mf me mg mh mu (cd) (nI k) (nI n) (nI (pn)) (nI (nx)) (ep) (nI (M.1)) (M.2.2.1) (M.2.2.2) (wi) (jb) (fp) (tf) (tt) (fi) (ln) (bx) (1000) (pr) (1000) (tk) (8) (le) (576) (co) (576) (fr) (10) (em) (192) (M.2.1) (10) (nb) (10) (su)) (nI (sm_e em n)) (mW cI cZ qm mp mt ml mc mf me mg mh mu (cd) (nI k) (nI n) (nI (pn)) (nI (nx)) (ep) (nI (M.1)) (M.2.2.1) (M.2.2.2) (wi) (jb) (fp) (tf) (tt) (fi) (ln) (bx) (1000) (pr) (1000) (tk) (8) (le) (576) (co) (576) (fr) (10) (em) (192) (M.2.1) (10) (nb) (10) (su)) := by
  refine sd_ofI (by decide) (Nat.le_of_ble_eq_true rfl) ?_
  intro p e s m below meth c A ls hx hb hr hml hlk hown hts hK hP hD hA hS hl
  have hl : lv_has ls 3 [(0, .ref qm)] := hl
  refine lv_iconst (v := 0) hx hb d_M_filled_0 (by decide) ?_
  refine sd_top (y := nI 0) (rfl) ?_
  refine lv_istore_n hx hb d_M_filled_1 rfl hl (Nat.le_of_ble_eq_true rfl) (lv' := [(1, .int (nI 0)), (0, .ref qm)]) rfl (fun ls hl => ?_)
  refine lv_iconst (v := 1) hx hb d_M_filled_2 (by decide) ?_
  refine sd_top (y := nI (0 + 1)) (rfl) ?_
  refine lv_istore_n hx hb d_M_filled_3 rfl hl (Nat.le_of_ble_eq_true rfl) (lv' := [(2, .int (nI (0 + 1))), (1, .int (nI 0)), (0, .ref qm)]) rfl (fun ls hl => ?_)
  have hl := lv_sub hl (l' := [(0, .ref qm), (1, .int (nI 0)), (2, .int (nI (0 + 1)))]) [2, 1, 0] rfl
  have loop4 : ∀ (d : Nat) (b : Nat) (ls : Array Slot) (H : Heap) (locs : List Loc), n - b = d → (b ≤ n) → lv_has ls 3 [(0, .ref qm), (1, .int (nI (sm_e em b))), (2, .int (nI (b + 1)))] → va_P D cls (mW cI cZ qm mp mt ml mc mf me mg mh mu (cd) (nI k) (nI n) (nI (pn)) (nI (nx)) (ep) (nI (M.1)) (M.2.2.1) (M.2.2.2) (wi) (jb) (fp) (tf) (tt) (fi) (ln) (bx) (1000) (pr) (1000) (tk) (8) (le) (576) (co) (576) (fr) (10) (em) (192) (M.2.1) (10) (nb) (10) (su)) H → va_D A (mW cI cZ qm mp mt ml mc mf me mg mh mu (cd) (nI k) (nI n) (nI (pn)) (nI (nx)) (ep) (nI (M.1)) (M.2.2.1) (M.2.2.2) (wi) (jb) (fp) (tf) (tt) (fi) (ln) (bx) (1000) (pr) (1000) (tk) (8) (le) (576) (co) (576) (fr) (10) (em) (192) (M.2.1) (10) (nb) (10) (su)) → va_S A s.heap H locs → W p l e ({ frames := 0, cells := 0, slots := 0, locals := 0 }) s m ([.ref qm] : List Value).toArray below meth c H locs 0 0 (MQ below (sd_qi D (nI (sm_e em n)) (mW cI cZ qm mp mt ml mc mf me mg mh mu (cd) (nI k) (nI n) (nI (pn)) (nI (nx)) (ep) (nI (M.1)) (M.2.2.1) (M.2.2.2) (wi) (jb) (fp) (tf) (tt) (fi) (ln) (bx) (1000) (pr) (1000) (tk) (8) (le) (576) (co) (576) (fr) (10) (em) (192) (M.2.1) (10) (nb) (10) (su)) A) ([.ref qm] : List Value).toArray s 0 0 A) (F0 m 4 ls []) := by
    intro d
    induction d using Nat.strongRecOn with
    | _ d ih4 =>
    intro b ls H locs hd hb8 hl hP hD hS
    subst hd
    refine lv_iload_n hx hb d_M_filled_4 rfl (lv_at hl 2 rfl) ?_
    refine lv_aload_n hx hb d_M_filled_5 rfl (lv_at hl 0 rfl) ?_
    refine va_get (D := D) (ci := 5) (v := .int (nI n)) (C := R_M) (T := F_M) (N := 26) hx hb hts wl_M hown hK hP 0 rfl rfl 2 (by decide) (hts _ wf_M_45) (fun _ h9 => h9) rfl d_M_filled_6 ?_
    refine lv_icmp_gt (tgt := 35) hx hb d_M_filled_9 rfl (fun hc9 => ?_) (fun hc9 => ?_)
    · skip
      rw [nI_ltI (by omega) (by omega)] at hc9
      refine lv_iload_n hx hb d_M_filled_35 rfl (lv_at hl 1 rfl) ?_
      have hb8 : n = b := by omega
      subst hb8
      exact sd_iret hx hb hr hlk hP hS (Nat.le_of_ble_eq_true rfl) (Nat.le_of_ble_eq_true rfl) (rfl) d_M_filled_36
    · skip
      rw [nI_ltI (by omega) (by omega)] at hc9
      refine lv_aload_n hx hb d_M_filled_12 rfl (lv_at hl 0 rfl) ?_
      refine va_get (D := D) (ci := 5) (v := .ref me) (C := R_M) (T := F_M) (N := 26) hx hb hts wl_M hown hK hP 0 rfl rfl 11 (by decide) (hts _ wf_M_25) (fun _ h9 => h9) rfl d_M_filled_13 ?_
      refine lv_iload_n hx hb d_M_filled_16 rfl (lv_at hl 2 rfl) ?_
      refine sd_zald (j := b + 1) hx hb hK hP 6 1 rfl rfl (by omega) (by omega) d_M_filled_17 ?_
      refine lv_if_eq (tgt := 25) hx hb d_M_filled_18 rfl (fun hc18 => ?_) (fun hc18 => ?_)
      · skip
        refine lv_iload_n hx hb d_M_filled_25 rfl (lv_at hl 1 rfl) ?_
        refine lv_iconst (v := 1) hx hb d_M_filled_26 (by decide) ?_
        refine lv_iadd hx hb d_M_filled_27 ?_
        refine sd_top (y := nI (sm_e em (b + 1))) (by rw [nI_1, sm_e0 hc18]) ?_
        refine lv_istore_n hx hb d_M_filled_28 rfl hl (Nat.le_of_ble_eq_true rfl) (lv' := [(1, .int (nI (sm_e em (b + 1)))), (0, .ref qm), (2, .int (nI (b + 1)))]) rfl (fun ls hl => ?_)
        refine lv_iinc hx hb d_M_filled_29 hl (k := 2) rfl (v := nI (b + 1 + 1)) (ii_1 _) (Nat.le_of_ble_eq_true rfl) (lv' := [(2, .int (nI (b + 1 + 1))), (1, .int (nI (sm_e em (b + 1)))), (0, .ref qm)]) rfl (fun ls hl => ?_)
        refine lv_goto (tgt := 4) hx hb d_M_filled_32 rfl ?_
        have hl := lv_sub hl (l' := [(0, .ref qm), (1, .int (nI (sm_e em (b + 1)))), (2, .int (nI (b + 1 + 1)))]) [2, 1, 0] rfl
        exact ih4 _ (by omega) (b + 1) ls _ _ rfl (by omega) hl hP hD hS
      · skip
        refine lv_iload_n hx hb d_M_filled_21 rfl (lv_at hl 1 rfl) ?_
        refine sd_top (y := nI (sm_e em (b + 1))) (by rw [sm_e1 hc18]) ?_
        refine lv_goto (tgt := 28) hx hb d_M_filled_22 rfl ?_
        refine lv_istore_n hx hb d_M_filled_28 rfl hl (Nat.le_of_ble_eq_true rfl) (lv' := [(1, .int (nI (sm_e em (b + 1)))), (0, .ref qm), (2, .int (nI (b + 1)))]) rfl (fun ls hl => ?_)
        refine lv_iinc hx hb d_M_filled_29 hl (k := 2) rfl (v := nI (b + 1 + 1)) (ii_1 _) (Nat.le_of_ble_eq_true rfl) (lv' := [(2, .int (nI (b + 1 + 1))), (1, .int (nI (sm_e em (b + 1)))), (0, .ref qm)]) rfl (fun ls hl => ?_)
        refine lv_goto (tgt := 4) hx hb d_M_filled_32 rfl ?_
        have hl := lv_sub hl (l' := [(0, .ref qm), (1, .int (nI (sm_e em (b + 1)))), (2, .int (nI (b + 1 + 1)))]) [2, 1, 0] rfl
        exact ih4 _ (by omega) (b + 1) ls _ _ rfl (by omega) hl hP hD hS
  exact loop4 _ (0) ls _ _ rfl (Nat.zero_le _) hl hP hD hS
set_option maxHeartbeats 4000000 in
set_option maxRecDepth 100000 in
theorem c_M_nextTaken (l : Launch) (D : va_G) (cI cZ cQ : ClassId) (qm : Nat) (mp : Nat) (mt : Nat) (ml : Nat) (mc : Nat) (mf : Nat) (me : Nat) (mg : Nat) (mh : Nat) (mu : Nat) (k : Nat) (n : Nat) (pn : Nat) (nx : Nat) (cd : Int32) (ep : Int32) (M : mm_T) (wi : Int32) (jb : Int32) (fp : Int32) (tf : Int32) (tt : Int32) (fi : Int32) (ln : Int32) (bx : Int32) (pr : Nat → Int32) (tk : Nat → Int32) (le : Nat → Int32) (co : Nat → Int32) (fr : Nat → Int32) (em : Nat → Int32) (nb : Nat → Int32) (su : Nat → Int32) (hk : k ≤ 9) (hn : n ≤ 9) (hx9 : nx < 1000) : sd_I l D (tyL cI cZ cQ) y_M_nextTaken b_M_nextTaken 1 (.int) ({ frames := 0, cells := 0, slots := 0, locals := 0 }) [.ref qm] (mW cI cZ qm mp mt ml mc mf me mg mh mu (cd) (nI k) (nI n) (nI (pn)) (nI (nx)) (ep) (nI (M.1)) (M.2.2.1) (M.2.2.2) (wi) (jb) (fp) (tf) (tt) (fi) (ln) (bx) (1000) (pr) (1000) (tk) (8) (le) (576) (co) (576) (fr) (10) (em) (192) (M.2.1) (10) (nb) (10) (su)) (tk nx) (mW cI cZ qm mp mt ml mc mf me mg mh mu (cd) (nI k) (nI n) (nI (pn)) (nI (nx + 1)) (ep) (nI (M.1)) (M.2.2.1) (M.2.2.2) (wi) (jb) (fp) (tf) (tt) (fi) (ln) (bx) (1000) (pr) (1000) (tk) (8) (le) (576) (co) (576) (fr) (10) (em) (192) (M.2.1) (10) (nb) (10) (su)) := by
  refine sd_ofI (by decide) (Nat.le_of_ble_eq_true rfl) ?_
  intro p e s m below meth c A ls hx hb hr hml hlk hown hts hK hP hD hA hS hl
  have hl : lv_has ls 1 [(0, .ref qm)] := hl
  refine lv_aload_n hx hb d_M_nextTaken_0 rfl (lv_at hl 0 rfl) ?_
  refine lv_dup hx hb d_M_nextTaken_1 rfl ?_
  refine va_get (D := D) (ci := 5) (v := .int (nI (nx))) (C := R_M) (T := F_M) (N := 26) hx hb hts wl_M hown hK hP 0 rfl rfl 6 (by decide) (hts _ wf_M_63) (fun _ h9 => h9) rfl d_M_nextTaken_2 ?_
  refine lv_iconst (v := 1) hx hb d_M_nextTaken_5 (by decide) ?_
  refine lv_iadd hx hb d_M_nextTaken_6 ?_
  refine sd_top (y := nI (nx + 1)) (nI_1 _) ?_
  refine va_put (D := D) (ci := 5) (v := .int (nI (nx + 1))) (ty := .int) (C := R_M) (T := F_M) (N := 26) hx hb hts wl_M t_M t_M_ok n_M hown hK hP hD hS 0 rfl rfl 6 (by decide) (hts _ wf_M_63) (fun _ h9 => h9) rfl (by decide +kernel) rfl rfl (Nat.le_of_ble_eq_true rfl) d_M_nextTaken_7 (fun H locs hP hD hS => ?_)
  have hP : va_P D cls (mW cI cZ qm mp mt ml mc mf me mg mh mu (cd) (nI k) (nI n) (nI (pn)) (nI (nx + 1)) (ep) (nI (M.1)) (M.2.2.1) (M.2.2.2) (wi) (jb) (fp) (tf) (tt) (fi) (ln) (bx) (1000) (pr) (1000) (tk) (8) (le) (576) (co) (576) (fr) (10) (em) (192) (M.2.1) (10) (nb) (10) (su)) H := hP
  have hD : va_D A (mW cI cZ qm mp mt ml mc mf me mg mh mu (cd) (nI k) (nI n) (nI (pn)) (nI (nx + 1)) (ep) (nI (M.1)) (M.2.2.1) (M.2.2.2) (wi) (jb) (fp) (tf) (tt) (fi) (ln) (bx) (1000) (pr) (1000) (tk) (8) (le) (576) (co) (576) (fr) (10) (em) (192) (M.2.1) (10) (nb) (10) (su)) := hD
  refine lv_aload_n hx hb d_M_nextTaken_10 rfl (lv_at hl 0 rfl) ?_
  refine va_get (D := D) (ci := 5) (v := .ref mt) (C := R_M) (T := F_M) (N := 26) hx hb hts wl_M hown hK hP 0 rfl rfl 5 (by decide) (hts _ wf_M_13) (fun _ h9 => h9) rfl d_M_nextTaken_11 ?_
  refine lv_aload_n hx hb d_M_nextTaken_14 rfl (lv_at hl 0 rfl) ?_
  refine va_get (D := D) (ci := 5) (v := .int (nI (nx + 1))) (C := R_M) (T := F_M) (N := 26) hx hb hts wl_M hown hK hP 0 rfl rfl 6 (by decide) (hts _ wf_M_63) (fun _ h9 => h9) rfl d_M_nextTaken_15 ?_
  refine lv_iconst (v := 1) hx hb d_M_nextTaken_18 (by decide) ?_
  refine lv_isub hx hb d_M_nextTaken_19 ?_
  refine sd_top (y := nI (nx)) (nI_pred nx) ?_
  refine sd_iald (j := nx) hx hb hK hP 2 0 rfl rfl (by omega) (by omega) d_M_nextTaken_20 ?_
  exact sd_iret hx hb hr hlk hP hS (Nat.le_of_ble_eq_true rfl) (Nat.le_of_ble_eq_true rfl) (rfl) d_M_nextTaken_21
set_option maxHeartbeats 4000000 in
set_option maxRecDepth 100000 in
theorem c_M_copyFresh (l : Launch) (D : va_G) (cI cZ cQ : ClassId) (qm : Nat) (mp : Nat) (mt : Nat) (ml : Nat) (mc : Nat) (mf : Nat) (me : Nat) (mg : Nat) (mh : Nat) (mu : Nat) (k : Nat) (n : Nat) (pn : Nat) (nx : Nat) (cd : Int32) (ep : Int32) (M : mm_T) (wi : Int32) (jb : Int32) (fp : Int32) (tf : Int32) (tt : Int32) (fi : Int32) (ln : Int32) (bx : Int32) (pr : Nat → Int32) (tk : Nat → Int32) (le : Nat → Int32) (co : Nat → Int32) (fr : Nat → Int32) (em : Nat → Int32) (nb : Nat → Int32) (su : Nat → Int32) (hk : k ≤ 9) (hn : n ≤ 9) : sd_V l D (tyL cI cZ cQ) y_M_copyFresh b_M_copyFresh 2 ({ frames := 0, cells := 0, slots := 0, locals := 0 }) [.ref qm] (mW cI cZ qm mp mt ml mc mf me mg mh mu (cd) (nI k) (nI n) (nI (pn)) (nI (nx)) (ep) (nI (M.1)) (M.2.2.1) (M.2.2.2) (wi) (jb) (fp) (tf) (tt) (fi) (ln) (bx) (1000) (pr) (1000) (tk) (8) (le) (576) (co) (576) (fr) (10) (em) (192) (M.2.1) (10) (nb) (10) (su)) (mW cI cZ qm mp mt ml mc mf me mg mh mu (cd) (nI k) (nI n) (nI (pn)) (nI (nx)) (ep) (nI (M.1)) (M.2.2.1) (M.2.2.2) (wi) (jb) (fp) (tf) (tt) (fi) (ln) (bx) (1000) (pr) (1000) (tk) (8) (le) (576) (co) (576) (cp_f co 576 fr) (10) (em) (192) (M.2.1) (10) (nb) (10) (su)) := by
  refine sd_ofV (by decide) (Nat.le_of_ble_eq_true rfl) ?_
  intro p e s m below meth c A ls hx hb hr hml hlk hown hts hK hP hD hA hS hl
  have hl : lv_has ls 2 [(0, .ref qm)] := hl
  refine lv_iconst (v := 0) hx hb d_M_copyFresh_0 (by decide) ?_
  refine sd_top (y := nI 0) (rfl) ?_
  refine lv_istore_n hx hb d_M_copyFresh_1 rfl hl (Nat.le_of_ble_eq_true rfl) (lv' := [(1, .int (nI 0)), (0, .ref qm)]) rfl (fun ls hl => ?_)
  have hl := lv_sub hl (l' := [(0, .ref qm), (1, .int (nI 0))]) [1, 0] rfl
  have loop2 : ∀ (d : Nat) (j : Nat) (ls : Array Slot) (H : Heap) (locs : List Loc), 576 - j = d → (j ≤ 576) → lv_has ls 2 [(0, .ref qm), (1, .int (nI (j)))] → va_P D cls (mW cI cZ qm mp mt ml mc mf me mg mh mu (cd) (nI k) (nI n) (nI (pn)) (nI (nx)) (ep) (nI (M.1)) (M.2.2.1) (M.2.2.2) (wi) (jb) (fp) (tf) (tt) (fi) (ln) (bx) (1000) (pr) (1000) (tk) (8) (le) (576) (co) (576) (cp_f co j fr) (10) (em) (192) (M.2.1) (10) (nb) (10) (su)) H → va_D A (mW cI cZ qm mp mt ml mc mf me mg mh mu (cd) (nI k) (nI n) (nI (pn)) (nI (nx)) (ep) (nI (M.1)) (M.2.2.1) (M.2.2.2) (wi) (jb) (fp) (tf) (tt) (fi) (ln) (bx) (1000) (pr) (1000) (tk) (8) (le) (576) (co) (576) (cp_f co j fr) (10) (em) (192) (M.2.1) (10) (nb) (10) (su)) → va_S A s.heap H locs → W p l e ({ frames := 0, cells := 0, slots := 0, locals := 0 }) s m ([.ref qm] : List Value).toArray below meth c H locs 0 0 (MQ below (sd_qv D (mW cI cZ qm mp mt ml mc mf me mg mh mu (cd) (nI k) (nI n) (nI (pn)) (nI (nx)) (ep) (nI (M.1)) (M.2.2.1) (M.2.2.2) (wi) (jb) (fp) (tf) (tt) (fi) (ln) (bx) (1000) (pr) (1000) (tk) (8) (le) (576) (co) (576) (cp_f co 576 fr) (10) (em) (192) (M.2.1) (10) (nb) (10) (su)) A) ([.ref qm] : List Value).toArray s 0 0 A) (F0 m 2 ls []) := by
    intro d
    induction d using Nat.strongRecOn with
    | _ d ih2 =>
    intro j ls H locs hd hj hl hP hD hS
    subst hd
    refine lv_iload_n hx hb d_M_copyFresh_2 rfl (lv_at hl 1 rfl) ?_
    refine lv_sipush (v := nI 576) hx hb d_M_copyFresh_3 (by decide) ?_
    refine lv_icmp_ge (tgt := 27) hx hb d_M_copyFresh_6 rfl (fun hc6 => ?_) (fun hc6 => ?_)
    · skip
      rw [nI_leI (by omega) (by omega)] at hc6
      have hj8 : 576 = j := by omega
      subst hj8
      exact sd_vret hx hb hr hlk hP hS (Nat.le_of_ble_eq_true rfl) (Nat.le_of_ble_eq_true rfl) d_M_copyFresh_27
    · skip
      rw [nI_leI (by omega) (by omega)] at hc6
      refine lv_aload_n hx hb d_M_copyFresh_9 rfl (lv_at hl 0 rfl) ?_
      refine va_get (D := D) (ci := 5) (v := .ref mf) (C := R_M) (T := F_M) (N := 26) hx hb hts wl_M hown hK hP 0 rfl rfl 9 (by decide) (hts _ wf_M_22) (fun _ h9 => h9) rfl d_M_copyFresh_10 ?_
      refine lv_iload_n hx hb d_M_copyFresh_13 rfl (lv_at hl 1 rfl) ?_
      refine lv_aload_n hx hb d_M_copyFresh_14 rfl (lv_at hl 0 rfl) ?_
      refine va_get (D := D) (ci := 5) (v := .ref mc) (C := R_M) (T := F_M) (N := 26) hx hb hts wl_M hown hK hP 0 rfl rfl 8 (by decide) (hts _ wf_M_19) (fun _ h9 => h9) rfl d_M_copyFresh_15 ?_
      refine lv_iload_n hx hb d_M_copyFresh_18 rfl (lv_at hl 1 rfl) ?_
      refine sd_iald (j := j) hx hb hK hP 4 0 rfl rfl (by omega) (by omega) d_M_copyFresh_19 ?_
      refine sd_iast (j := j) hx hb hK hP hD hS 5 0 rfl rfl (by omega) (by omega) d_M_copyFresh_20 (fun H locs hP hD hS => ?_)
      have hP : va_P D cls (mW cI cZ qm mp mt ml mc mf me mg mh mu (cd) (nI k) (nI n) (nI (pn)) (nI (nx)) (ep) (nI (M.1)) (M.2.2.1) (M.2.2.2) (wi) (jb) (fp) (tf) (tt) (fi) (ln) (bx) (1000) (pr) (1000) (tk) (8) (le) (576) (co) (576) (upd (cp_f co j fr) (j) (co (j))) (10) (em) (192) (M.2.1) (10) (nb) (10) (su)) H := hP
      have hD : va_D A (mW cI cZ qm mp mt ml mc mf me mg mh mu (cd) (nI k) (nI n) (nI (pn)) (nI (nx)) (ep) (nI (M.1)) (M.2.2.1) (M.2.2.2) (wi) (jb) (fp) (tf) (tt) (fi) (ln) (bx) (1000) (pr) (1000) (tk) (8) (le) (576) (co) (576) (upd (cp_f co j fr) (j) (co (j))) (10) (em) (192) (M.2.1) (10) (nb) (10) (su)) := hD
      refine lv_iinc hx hb d_M_copyFresh_21 hl (k := 1) rfl (v := nI (j + 1)) (ii_1 _) (Nat.le_of_ble_eq_true rfl) (lv' := [(1, .int (nI (j + 1))), (0, .ref qm)]) rfl (fun ls hl => ?_)
      refine lv_goto (tgt := 2) hx hb d_M_copyFresh_24 rfl ?_
      have hl := lv_sub hl (l' := [(0, .ref qm), (1, .int (nI (j + 1)))]) [1, 0] rfl
      exact ih2 _ (by omega) (j + 1) ls _ _ rfl (by omega) hl hP hD hS
  exact loop2 _ (0) ls _ _ rfl (by omega) hl hP hD hS
set_option maxHeartbeats 4000000 in
set_option maxRecDepth 100000 in
theorem c_M_send (l : Launch) (D : va_G) (cI cZ cQ : ClassId) (qm : Nat) (mp : Nat) (mt : Nat) (ml : Nat) (mc : Nat) (mf : Nat) (me : Nat) (mg : Nat) (mh : Nat) (mu : Nat) (k : Nat) (n : Nat) (pn : Nat) (nx : Nat) (cd : Int32) (ep : Int32) (M : mm_T) (wi : Int32) (jb : Int32) (fp : Int32) (tf : Int32) (tt : Int32) (fi : Int32) (ln : Int32) (bx : Int32) (pr : Nat → Int32) (tk : Nat → Int32) (le : Nat → Int32) (co : Nat → Int32) (fr : Nat → Int32) (em : Nat → Int32) (nb : Nat → Int32) (su : Nat → Int32) (a : Int32) (b : Int32) (x : Int32) (hk : k ≤ 9) (hn : n ≤ 9) (hT : M.1 < 2 ^ 31) : sd_V l D (tyL cI cZ cQ) y_M_send b_M_send 5 ({ frames := 0, cells := 0, slots := 0, locals := 0 }) [.ref qm, .int (a), .int (b), .int (x)] (mW cI cZ qm mp mt ml mc mf me mg mh mu (cd) (nI k) (nI n) (nI (pn)) (nI (nx)) (ep) (nI (M.1)) (M.2.2.1) (M.2.2.2) (wi) (jb) (fp) (tf) (tt) (fi) (ln) (bx) (1000) (pr) (1000) (tk) (8) (le) (576) (co) (576) (fr) (10) (em) (192) (M.2.1) (10) (nb) (10) (su)) (mW cI cZ qm mp mt ml mc mf me mg mh mu (cd) (nI k) (nI n) (nI (pn)) (nI (nx)) (ep) (nI ((mm_s M a b x).1)) ((mm_s M a b x).2.2.1) ((mm_s M a b x).2.2.2) (wi) (jb) (fp) (tf) (tt) (fi) (ln) (bx) (1000) (pr) (1000) (tk) (8) (le) (576) (co) (576) (fr) (10) (em) (192) ((mm_s M a b x).2.1) (10) (nb) (10) (su)) := by
  refine sd_ofV (by decide) (Nat.le_of_ble_eq_true rfl) ?_
  intro p e s m below meth c A ls hx hb hr hml hlk hown hts hK hP hD hA hS hl
  have hl : lv_has ls 5 [(0, .ref qm), (1, .int (a)), (2, .int (b)), (3, .int (x))] := hl
  have h64 : M.1 % 64 < 64 := Nat.mod_lt _ (by omega)
  refine lv_aload_n hx hb d_M_send_0 rfl (lv_at hl 0 rfl) ?_
  refine lv_aload_n hx hb d_M_send_1 rfl (lv_at hl 0 rfl) ?_
  refine va_get (D := D) (ci := 5) (v := .int (M.2.2.2)) (C := R_M) (T := F_M) (N := 26) hx hb hts wl_M hown hK hP 0 rfl rfl 15 (by decide) (hts _ wf_M_66) (fun _ h9 => h9) rfl d_M_send_2 ?_
  refine lv_if_ne (tgt := 15) hx hb d_M_send_5 rfl (fun hc5 => ?_) (fun hc5 => ?_)
  · skip
    refine lv_iconst (v := 1) hx hb d_M_send_15 (by decide) ?_
    refine lv_goto (tgt := 20) hx hb d_M_send_16 rfl ?_
    refine va_put (D := D) (ci := 5) (v := .int (1)) (ty := .boolean) (C := R_M) (T := F_M) (N := 26) hx hb hts wl_M t_M t_M_ok n_M hown hK hP hD hS 0 rfl rfl 15 (by decide) (hts _ wf_M_66) (fun _ h9 => h9) rfl (by decide +kernel) rfl rfl (Nat.le_of_ble_eq_true rfl) d_M_send_20 (fun H locs hP hD hS => ?_)
    have hP : va_P D cls (mW cI cZ qm mp mt ml mc mf me mg mh mu (cd) (nI k) (nI n) (nI (pn)) (nI (nx)) (ep) (nI (M.1)) (M.2.2.1) (1) (wi) (jb) (fp) (tf) (tt) (fi) (ln) (bx) (1000) (pr) (1000) (tk) (8) (le) (576) (co) (576) (fr) (10) (em) (192) (M.2.1) (10) (nb) (10) (su)) H := hP
    have hD : va_D A (mW cI cZ qm mp mt ml mc mf me mg mh mu (cd) (nI k) (nI n) (nI (pn)) (nI (nx)) (ep) (nI (M.1)) (M.2.2.1) (1) (wi) (jb) (fp) (tf) (tt) (fi) (ln) (bx) (1000) (pr) (1000) (tk) (8) (le) (576) (co) (576) (fr) (10) (em) (192) (M.2.1) (10) (nb) (10) (su)) := hD
    refine lv_aload_n hx hb d_M_send_23 rfl (lv_at hl 0 rfl) ?_
    refine va_get (D := D) (ci := 5) (v := .int (1)) (C := R_M) (T := F_M) (N := 26) hx hb hts wl_M hown hK hP 0 rfl rfl 15 (by decide) (hts _ wf_M_66) (fun _ h9 => h9) rfl d_M_send_24 ?_
    refine lv_if_eq (tgt := 31) hx hb d_M_send_27 rfl (fun hc27 => ?_) (fun hc27 => ?_)
    · skip
      exact False.elim (by revert hc27; decide)
    · skip
      have hP : va_P D cls (mW cI cZ qm mp mt ml mc mf me mg mh mu (cd) (nI k) (nI n) (nI (pn)) (nI (nx)) (ep) (nI ((mm_s M a b x).1)) ((mm_s M a b x).2.2.1) ((mm_s M a b x).2.2.2) (wi) (jb) (fp) (tf) (tt) (fi) (ln) (bx) (1000) (pr) (1000) (tk) (8) (le) (576) (co) (576) (fr) (10) (em) (192) ((mm_s M a b x).2.1) (10) (nb) (10) (su)) H := by rw [mm_n (by first | exact fun h => hc5 h.1 | exact fun h => h.2 hc12)]; exact hP
      exact sd_vret hx hb hr hlk hP hS (Nat.le_of_ble_eq_true rfl) (Nat.le_of_ble_eq_true rfl) d_M_send_30
  · skip
    have hc5 : M.2.2.2 = 0 := hc5
    refine lv_aload_n hx hb d_M_send_8 rfl (lv_at hl 0 rfl) ?_
    refine va_get (D := D) (ci := 5) (v := .int (M.2.2.1)) (C := R_M) (T := F_M) (N := 26) hx hb hts wl_M hown hK hP 0 rfl rfl 14 (by decide) (hts _ wf_M_32) (fun _ h9 => h9) rfl d_M_send_9 ?_
    refine lv_if_ne (tgt := 19) hx hb d_M_send_12 rfl (fun hc12 => ?_) (fun hc12 => ?_)
    · skip
      refine lv_iconst (v := 0) hx hb d_M_send_19 (by decide) ?_
      refine va_put (D := D) (ci := 5) (v := .int (0)) (ty := .boolean) (C := R_M) (T := F_M) (N := 26) hx hb hts wl_M t_M t_M_ok n_M hown hK hP hD hS 0 rfl rfl 15 (by decide) (hts _ wf_M_66) (fun _ h9 => h9) rfl (by decide +kernel) rfl rfl (Nat.le_of_ble_eq_true rfl) d_M_send_20 (fun H locs hP hD hS => ?_)
      have hP : va_P D cls (mW cI cZ qm mp mt ml mc mf me mg mh mu (cd) (nI k) (nI n) (nI (pn)) (nI (nx)) (ep) (nI (M.1)) (M.2.2.1) (0) (wi) (jb) (fp) (tf) (tt) (fi) (ln) (bx) (1000) (pr) (1000) (tk) (8) (le) (576) (co) (576) (fr) (10) (em) (192) (M.2.1) (10) (nb) (10) (su)) H := hP
      have hD : va_D A (mW cI cZ qm mp mt ml mc mf me mg mh mu (cd) (nI k) (nI n) (nI (pn)) (nI (nx)) (ep) (nI (M.1)) (M.2.2.1) (0) (wi) (jb) (fp) (tf) (tt) (fi) (ln) (bx) (1000) (pr) (1000) (tk) (8) (le) (576) (co) (576) (fr) (10) (em) (192) (M.2.1) (10) (nb) (10) (su)) := hD
      refine lv_aload_n hx hb d_M_send_23 rfl (lv_at hl 0 rfl) ?_
      refine va_get (D := D) (ci := 5) (v := .int (0)) (C := R_M) (T := F_M) (N := 26) hx hb hts wl_M hown hK hP 0 rfl rfl 15 (by decide) (hts _ wf_M_66) (fun _ h9 => h9) rfl d_M_send_24 ?_
      refine lv_if_eq (tgt := 31) hx hb d_M_send_27 rfl (fun hc27 => ?_) (fun hc27 => ?_)
      · skip
        refine lv_aload_n hx hb d_M_send_31 rfl (lv_at hl 0 rfl) ?_
        refine lv_aload_n hx hb d_M_send_32 rfl (lv_at hl 0 rfl) ?_
        refine va_get (D := D) (ci := 5) (v := .int (M.2.2.1)) (C := R_M) (T := F_M) (N := 26) hx hb hts wl_M hown hK hP 0 rfl rfl 14 (by decide) (hts _ wf_M_32) (fun _ h9 => h9) rfl d_M_send_33 ?_
        refine lv_if_le (tgt := 48) hx hb d_M_send_36 rfl (fun hc36 => ?_) (fun hc36 => ?_)
        · skip
          refine lv_aload_n hx hb d_M_send_48 rfl (lv_at hl 0 rfl) ?_
          refine va_get (D := D) (ci := 5) (v := .int (M.2.2.1)) (C := R_M) (T := F_M) (N := 26) hx hb hts wl_M hown hK hP 0 rfl rfl 14 (by decide) (hts _ wf_M_32) (fun _ h9 => h9) rfl d_M_send_49 ?_
          refine va_put (D := D) (ci := 5) (v := .int (M.2.2.1)) (ty := .int) (C := R_M) (T := F_M) (N := 26) hx hb hts wl_M t_M t_M_ok n_M hown hK hP hD hS 0 rfl rfl 14 (by decide) (hts _ wf_M_32) (fun _ h9 => h9) rfl (by decide +kernel) rfl rfl (Nat.le_of_ble_eq_true rfl) d_M_send_52 (fun H locs hP hD hS => ?_)
          have hP : va_P D cls (mW cI cZ qm mp mt ml mc mf me mg mh mu (cd) (nI k) (nI n) (nI (pn)) (nI (nx)) (ep) (nI (M.1)) (M.2.2.1) (0) (wi) (jb) (fp) (tf) (tt) (fi) (ln) (bx) (1000) (pr) (1000) (tk) (8) (le) (576) (co) (576) (fr) (10) (em) (192) (M.2.1) (10) (nb) (10) (su)) H := hP
          have hD : va_D A (mW cI cZ qm mp mt ml mc mf me mg mh mu (cd) (nI k) (nI n) (nI (pn)) (nI (nx)) (ep) (nI (M.1)) (M.2.2.1) (0) (wi) (jb) (fp) (tf) (tt) (fi) (ln) (bx) (1000) (pr) (1000) (tk) (8) (le) (576) (co) (576) (fr) (10) (em) (192) (M.2.1) (10) (nb) (10) (su)) := hD
          refine lv_aload_n hx hb d_M_send_55 rfl (lv_at hl 0 rfl) ?_
          refine va_get (D := D) (ci := 5) (v := .int (nI (M.1))) (C := R_M) (T := F_M) (N := 26) hx hb hts wl_M hown hK hP 0 rfl rfl 12 (by decide) (hts _ wf_M_70) (fun _ h9 => h9) rfl d_M_send_56 ?_
          refine lv_bipush (v := nI 64) hx hb d_M_send_59 (by decide) ?_
          refine lv_irem hx hb d_M_send_61 (by decide) ?_
          refine sd_top (y := nI (M.1 % 64)) (pk_rem (by omega) (by omega) (by omega)) ?_
          refine lv_iconst (v := nI 3) hx hb d_M_send_62 (by decide) ?_
          refine lv_imul hx hb d_M_send_63 ?_
          refine sd_top (y := nI (M.1 % 64 * 3)) (pk_mul _ _) ?_
          refine lv_istore hx hb d_M_send_64 hl (Nat.le_of_ble_eq_true rfl) (lv' := [(4, .int (nI (M.1 % 64 * 3))), (0, .ref qm), (1, .int (a)), (2, .int (b)), (3, .int (x))]) rfl (fun ls hl => ?_)
          refine lv_aload_n hx hb d_M_send_66 rfl (lv_at hl 1 rfl) ?_
          refine va_get (D := D) (ci := 5) (v := .ref mg) (C := R_M) (T := F_M) (N := 26) hx hb hts wl_M hown hK hP 0 rfl rfl 13 (by decide) (hts _ wf_M_29) (fun _ h9 => h9) rfl d_M_send_67 ?_
          refine lv_iload hx hb d_M_send_70 (lv_at hl 0 rfl) ?_
          refine lv_iload_n hx hb d_M_send_72 rfl (lv_at hl 2 rfl) ?_
          refine sd_iast (j := M.1 % 64 * 3) hx hb hK hP hD hS 7 0 rfl rfl (by omega) (by omega) d_M_send_73 (fun H locs hP hD hS => ?_)
          have hP : va_P D cls (mW cI cZ qm mp mt ml mc mf me mg mh mu (cd) (nI k) (nI n) (nI (pn)) (nI (nx)) (ep) (nI (M.1)) (M.2.2.1) (0) (wi) (jb) (fp) (tf) (tt) (fi) (ln) (bx) (1000) (pr) (1000) (tk) (8) (le) (576) (co) (576) (fr) (10) (em) (192) (upd (M.2.1) (M.1 % 64 * 3) (a)) (10) (nb) (10) (su)) H := hP
          have hD : va_D A (mW cI cZ qm mp mt ml mc mf me mg mh mu (cd) (nI k) (nI n) (nI (pn)) (nI (nx)) (ep) (nI (M.1)) (M.2.2.1) (0) (wi) (jb) (fp) (tf) (tt) (fi) (ln) (bx) (1000) (pr) (1000) (tk) (8) (le) (576) (co) (576) (fr) (10) (em) (192) (upd (M.2.1) (M.1 % 64 * 3) (a)) (10) (nb) (10) (su)) := hD
          refine lv_aload_n hx hb d_M_send_74 rfl (lv_at hl 1 rfl) ?_
          refine va_get (D := D) (ci := 5) (v := .ref mg) (C := R_M) (T := F_M) (N := 26) hx hb hts wl_M hown hK hP 0 rfl rfl 13 (by decide) (hts _ wf_M_29) (fun _ h9 => h9) rfl d_M_send_75 ?_
          refine lv_iload hx hb d_M_send_78 (lv_at hl 0 rfl) ?_
          refine lv_iconst (v := nI 1) hx hb d_M_send_80 (by decide) ?_
          refine lv_iadd hx hb d_M_send_81 ?_
          refine sd_top (y := nI (M.1 % 64 * 3 + 1)) (nI_add _ _) ?_
          refine lv_iload_n hx hb d_M_send_82 rfl (lv_at hl 3 rfl) ?_
          refine sd_iast (j := M.1 % 64 * 3 + 1) hx hb hK hP hD hS 7 0 rfl rfl (by omega) (by omega) d_M_send_83 (fun H locs hP hD hS => ?_)
          have hP : va_P D cls (mW cI cZ qm mp mt ml mc mf me mg mh mu (cd) (nI k) (nI n) (nI (pn)) (nI (nx)) (ep) (nI (M.1)) (M.2.2.1) (0) (wi) (jb) (fp) (tf) (tt) (fi) (ln) (bx) (1000) (pr) (1000) (tk) (8) (le) (576) (co) (576) (fr) (10) (em) (192) (upd (upd (M.2.1) (M.1 % 64 * 3) (a)) (M.1 % 64 * 3 + 1) (b)) (10) (nb) (10) (su)) H := hP
          have hD : va_D A (mW cI cZ qm mp mt ml mc mf me mg mh mu (cd) (nI k) (nI n) (nI (pn)) (nI (nx)) (ep) (nI (M.1)) (M.2.2.1) (0) (wi) (jb) (fp) (tf) (tt) (fi) (ln) (bx) (1000) (pr) (1000) (tk) (8) (le) (576) (co) (576) (fr) (10) (em) (192) (upd (upd (M.2.1) (M.1 % 64 * 3) (a)) (M.1 % 64 * 3 + 1) (b)) (10) (nb) (10) (su)) := hD
          refine lv_aload_n hx hb d_M_send_84 rfl (lv_at hl 1 rfl) ?_
          refine va_get (D := D) (ci := 5) (v := .ref mg) (C := R_M) (T := F_M) (N := 26) hx hb hts wl_M hown hK hP 0 rfl rfl 13 (by decide) (hts _ wf_M_29) (fun _ h9 => h9) rfl d_M_send_85 ?_
          refine lv_iload hx hb d_M_send_88 (lv_at hl 0 rfl) ?_
          refine lv_iconst (v := nI 2) hx hb d_M_send_90 (by decide) ?_
          refine lv_iadd hx hb d_M_send_91 ?_
          refine sd_top (y := nI (M.1 % 64 * 3 + 2)) (nI_add _ _) ?_
          refine lv_iload_n hx hb d_M_send_92 rfl (lv_at hl 4 rfl) ?_
          refine sd_iast (j := M.1 % 64 * 3 + 2) hx hb hK hP hD hS 7 0 rfl rfl (by omega) (by omega) d_M_send_93 (fun H locs hP hD hS => ?_)
          have hP : va_P D cls (mW cI cZ qm mp mt ml mc mf me mg mh mu (cd) (nI k) (nI n) (nI (pn)) (nI (nx)) (ep) (nI (M.1)) (M.2.2.1) (0) (wi) (jb) (fp) (tf) (tt) (fi) (ln) (bx) (1000) (pr) (1000) (tk) (8) (le) (576) (co) (576) (fr) (10) (em) (192) (upd (upd (upd (M.2.1) (M.1 % 64 * 3) (a)) (M.1 % 64 * 3 + 1) (b)) (M.1 % 64 * 3 + 2) (x)) (10) (nb) (10) (su)) H := hP
          have hD : va_D A (mW cI cZ qm mp mt ml mc mf me mg mh mu (cd) (nI k) (nI n) (nI (pn)) (nI (nx)) (ep) (nI (M.1)) (M.2.2.1) (0) (wi) (jb) (fp) (tf) (tt) (fi) (ln) (bx) (1000) (pr) (1000) (tk) (8) (le) (576) (co) (576) (fr) (10) (em) (192) (upd (upd (upd (M.2.1) (M.1 % 64 * 3) (a)) (M.1 % 64 * 3 + 1) (b)) (M.1 % 64 * 3 + 2) (x)) (10) (nb) (10) (su)) := hD
          refine lv_aload_n hx hb d_M_send_94 rfl (lv_at hl 1 rfl) ?_
          refine lv_dup hx hb d_M_send_95 rfl ?_
          refine va_get (D := D) (ci := 5) (v := .int (nI (M.1))) (C := R_M) (T := F_M) (N := 26) hx hb hts wl_M hown hK hP 0 rfl rfl 12 (by decide) (hts _ wf_M_70) (fun _ h9 => h9) rfl d_M_send_96 ?_
          refine lv_iconst (v := 1) hx hb d_M_send_99 (by decide) ?_
          refine lv_iadd hx hb d_M_send_100 ?_
          refine sd_top (y := nI (M.1 + 1)) (nI_1 _) ?_
          refine va_put (D := D) (ci := 5) (v := .int (nI (M.1 + 1))) (ty := .int) (C := R_M) (T := F_M) (N := 26) hx hb hts wl_M t_M t_M_ok n_M hown hK hP hD hS 0 rfl rfl 12 (by decide) (hts _ wf_M_70) (fun _ h9 => h9) rfl (by decide +kernel) rfl rfl (Nat.le_of_ble_eq_true rfl) d_M_send_101 (fun H locs hP hD hS => ?_)
          have hP : va_P D cls (mW cI cZ qm mp mt ml mc mf me mg mh mu (cd) (nI k) (nI n) (nI (pn)) (nI (nx)) (ep) (nI (M.1 + 1)) (M.2.2.1) (0) (wi) (jb) (fp) (tf) (tt) (fi) (ln) (bx) (1000) (pr) (1000) (tk) (8) (le) (576) (co) (576) (fr) (10) (em) (192) (upd (upd (upd (M.2.1) (M.1 % 64 * 3) (a)) (M.1 % 64 * 3 + 1) (b)) (M.1 % 64 * 3 + 2) (x)) (10) (nb) (10) (su)) H := hP
          have hD : va_D A (mW cI cZ qm mp mt ml mc mf me mg mh mu (cd) (nI k) (nI n) (nI (pn)) (nI (nx)) (ep) (nI (M.1 + 1)) (M.2.2.1) (0) (wi) (jb) (fp) (tf) (tt) (fi) (ln) (bx) (1000) (pr) (1000) (tk) (8) (le) (576) (co) (576) (fr) (10) (em) (192) (upd (upd (upd (M.2.1) (M.1 % 64 * 3) (a)) (M.1 % 64 * 3 + 1) (b)) (M.1 % 64 * 3 + 2) (x)) (10) (nb) (10) (su)) := hD
          have hP : va_P D cls (mW cI cZ qm mp mt ml mc mf me mg mh mu (cd) (nI k) (nI n) (nI (pn)) (nI (nx)) (ep) (nI ((mm_s M a b x).1)) ((mm_s M a b x).2.2.1) ((mm_s M a b x).2.2.2) (wi) (jb) (fp) (tf) (tt) (fi) (ln) (bx) (1000) (pr) (1000) (tk) (8) (le) (576) (co) (576) (fr) (10) (em) (192) ((mm_s M a b x).2.1) (10) (nb) (10) (su)) H := by first | (rw [mm_y ⟨hc5, hc12⟩, if_pos hc36]; exact hP) | (rw [mm_y ⟨hc5, hc12⟩, if_neg hc36]; exact hP)
          exact sd_vret hx hb hr hlk hP hS (Nat.le_of_ble_eq_true rfl) (Nat.le_of_ble_eq_true rfl) d_M_send_104
        · skip
          refine lv_aload_n hx hb d_M_send_39 rfl (lv_at hl 0 rfl) ?_
          refine va_get (D := D) (ci := 5) (v := .int (M.2.2.1)) (C := R_M) (T := F_M) (N := 26) hx hb hts wl_M hown hK hP 0 rfl rfl 14 (by decide) (hts _ wf_M_32) (fun _ h9 => h9) rfl d_M_send_40 ?_
          refine lv_iconst (v := 1) hx hb d_M_send_43 (by decide) ?_
          refine lv_isub hx hb d_M_send_44 ?_
          refine lv_goto (tgt := 52) hx hb d_M_send_45 rfl ?_
          refine va_put (D := D) (ci := 5) (v := .int ((M.2.2.1) - (1))) (ty := .int) (C := R_M) (T := F_M) (N := 26) hx hb hts wl_M t_M t_M_ok n_M hown hK hP hD hS 0 rfl rfl 14 (by decide) (hts _ wf_M_32) (fun _ h9 => h9) rfl (by decide +kernel) rfl rfl (Nat.le_of_ble_eq_true rfl) d_M_send_52 (fun H locs hP hD hS => ?_)
          have hP : va_P D cls (mW cI cZ qm mp mt ml mc mf me mg mh mu (cd) (nI k) (nI n) (nI (pn)) (nI (nx)) (ep) (nI (M.1)) ((M.2.2.1) - (1)) (0) (wi) (jb) (fp) (tf) (tt) (fi) (ln) (bx) (1000) (pr) (1000) (tk) (8) (le) (576) (co) (576) (fr) (10) (em) (192) (M.2.1) (10) (nb) (10) (su)) H := hP
          have hD : va_D A (mW cI cZ qm mp mt ml mc mf me mg mh mu (cd) (nI k) (nI n) (nI (pn)) (nI (nx)) (ep) (nI (M.1)) ((M.2.2.1) - (1)) (0) (wi) (jb) (fp) (tf) (tt) (fi) (ln) (bx) (1000) (pr) (1000) (tk) (8) (le) (576) (co) (576) (fr) (10) (em) (192) (M.2.1) (10) (nb) (10) (su)) := hD
          refine lv_aload_n hx hb d_M_send_55 rfl (lv_at hl 0 rfl) ?_
          refine va_get (D := D) (ci := 5) (v := .int (nI (M.1))) (C := R_M) (T := F_M) (N := 26) hx hb hts wl_M hown hK hP 0 rfl rfl 12 (by decide) (hts _ wf_M_70) (fun _ h9 => h9) rfl d_M_send_56 ?_
          refine lv_bipush (v := nI 64) hx hb d_M_send_59 (by decide) ?_
          refine lv_irem hx hb d_M_send_61 (by decide) ?_
          refine sd_top (y := nI (M.1 % 64)) (pk_rem (by omega) (by omega) (by omega)) ?_
          refine lv_iconst (v := nI 3) hx hb d_M_send_62 (by decide) ?_
          refine lv_imul hx hb d_M_send_63 ?_
          refine sd_top (y := nI (M.1 % 64 * 3)) (pk_mul _ _) ?_
          refine lv_istore hx hb d_M_send_64 hl (Nat.le_of_ble_eq_true rfl) (lv' := [(4, .int (nI (M.1 % 64 * 3))), (0, .ref qm), (1, .int (a)), (2, .int (b)), (3, .int (x))]) rfl (fun ls hl => ?_)
          refine lv_aload_n hx hb d_M_send_66 rfl (lv_at hl 1 rfl) ?_
          refine va_get (D := D) (ci := 5) (v := .ref mg) (C := R_M) (T := F_M) (N := 26) hx hb hts wl_M hown hK hP 0 rfl rfl 13 (by decide) (hts _ wf_M_29) (fun _ h9 => h9) rfl d_M_send_67 ?_
          refine lv_iload hx hb d_M_send_70 (lv_at hl 0 rfl) ?_
          refine lv_iload_n hx hb d_M_send_72 rfl (lv_at hl 2 rfl) ?_
          refine sd_iast (j := M.1 % 64 * 3) hx hb hK hP hD hS 7 0 rfl rfl (by omega) (by omega) d_M_send_73 (fun H locs hP hD hS => ?_)
          have hP : va_P D cls (mW cI cZ qm mp mt ml mc mf me mg mh mu (cd) (nI k) (nI n) (nI (pn)) (nI (nx)) (ep) (nI (M.1)) ((M.2.2.1) - (1)) (0) (wi) (jb) (fp) (tf) (tt) (fi) (ln) (bx) (1000) (pr) (1000) (tk) (8) (le) (576) (co) (576) (fr) (10) (em) (192) (upd (M.2.1) (M.1 % 64 * 3) (a)) (10) (nb) (10) (su)) H := hP
          have hD : va_D A (mW cI cZ qm mp mt ml mc mf me mg mh mu (cd) (nI k) (nI n) (nI (pn)) (nI (nx)) (ep) (nI (M.1)) ((M.2.2.1) - (1)) (0) (wi) (jb) (fp) (tf) (tt) (fi) (ln) (bx) (1000) (pr) (1000) (tk) (8) (le) (576) (co) (576) (fr) (10) (em) (192) (upd (M.2.1) (M.1 % 64 * 3) (a)) (10) (nb) (10) (su)) := hD
          refine lv_aload_n hx hb d_M_send_74 rfl (lv_at hl 1 rfl) ?_
          refine va_get (D := D) (ci := 5) (v := .ref mg) (C := R_M) (T := F_M) (N := 26) hx hb hts wl_M hown hK hP 0 rfl rfl 13 (by decide) (hts _ wf_M_29) (fun _ h9 => h9) rfl d_M_send_75 ?_
          refine lv_iload hx hb d_M_send_78 (lv_at hl 0 rfl) ?_
          refine lv_iconst (v := nI 1) hx hb d_M_send_80 (by decide) ?_
          refine lv_iadd hx hb d_M_send_81 ?_
          refine sd_top (y := nI (M.1 % 64 * 3 + 1)) (nI_add _ _) ?_
          refine lv_iload_n hx hb d_M_send_82 rfl (lv_at hl 3 rfl) ?_
          refine sd_iast (j := M.1 % 64 * 3 + 1) hx hb hK hP hD hS 7 0 rfl rfl (by omega) (by omega) d_M_send_83 (fun H locs hP hD hS => ?_)
          have hP : va_P D cls (mW cI cZ qm mp mt ml mc mf me mg mh mu (cd) (nI k) (nI n) (nI (pn)) (nI (nx)) (ep) (nI (M.1)) ((M.2.2.1) - (1)) (0) (wi) (jb) (fp) (tf) (tt) (fi) (ln) (bx) (1000) (pr) (1000) (tk) (8) (le) (576) (co) (576) (fr) (10) (em) (192) (upd (upd (M.2.1) (M.1 % 64 * 3) (a)) (M.1 % 64 * 3 + 1) (b)) (10) (nb) (10) (su)) H := hP
          have hD : va_D A (mW cI cZ qm mp mt ml mc mf me mg mh mu (cd) (nI k) (nI n) (nI (pn)) (nI (nx)) (ep) (nI (M.1)) ((M.2.2.1) - (1)) (0) (wi) (jb) (fp) (tf) (tt) (fi) (ln) (bx) (1000) (pr) (1000) (tk) (8) (le) (576) (co) (576) (fr) (10) (em) (192) (upd (upd (M.2.1) (M.1 % 64 * 3) (a)) (M.1 % 64 * 3 + 1) (b)) (10) (nb) (10) (su)) := hD
          refine lv_aload_n hx hb d_M_send_84 rfl (lv_at hl 1 rfl) ?_
          refine va_get (D := D) (ci := 5) (v := .ref mg) (C := R_M) (T := F_M) (N := 26) hx hb hts wl_M hown hK hP 0 rfl rfl 13 (by decide) (hts _ wf_M_29) (fun _ h9 => h9) rfl d_M_send_85 ?_
          refine lv_iload hx hb d_M_send_88 (lv_at hl 0 rfl) ?_
          refine lv_iconst (v := nI 2) hx hb d_M_send_90 (by decide) ?_
          refine lv_iadd hx hb d_M_send_91 ?_
          refine sd_top (y := nI (M.1 % 64 * 3 + 2)) (nI_add _ _) ?_
          refine lv_iload_n hx hb d_M_send_92 rfl (lv_at hl 4 rfl) ?_
          refine sd_iast (j := M.1 % 64 * 3 + 2) hx hb hK hP hD hS 7 0 rfl rfl (by omega) (by omega) d_M_send_93 (fun H locs hP hD hS => ?_)
          have hP : va_P D cls (mW cI cZ qm mp mt ml mc mf me mg mh mu (cd) (nI k) (nI n) (nI (pn)) (nI (nx)) (ep) (nI (M.1)) ((M.2.2.1) - (1)) (0) (wi) (jb) (fp) (tf) (tt) (fi) (ln) (bx) (1000) (pr) (1000) (tk) (8) (le) (576) (co) (576) (fr) (10) (em) (192) (upd (upd (upd (M.2.1) (M.1 % 64 * 3) (a)) (M.1 % 64 * 3 + 1) (b)) (M.1 % 64 * 3 + 2) (x)) (10) (nb) (10) (su)) H := hP
          have hD : va_D A (mW cI cZ qm mp mt ml mc mf me mg mh mu (cd) (nI k) (nI n) (nI (pn)) (nI (nx)) (ep) (nI (M.1)) ((M.2.2.1) - (1)) (0) (wi) (jb) (fp) (tf) (tt) (fi) (ln) (bx) (1000) (pr) (1000) (tk) (8) (le) (576) (co) (576) (fr) (10) (em) (192) (upd (upd (upd (M.2.1) (M.1 % 64 * 3) (a)) (M.1 % 64 * 3 + 1) (b)) (M.1 % 64 * 3 + 2) (x)) (10) (nb) (10) (su)) := hD
          refine lv_aload_n hx hb d_M_send_94 rfl (lv_at hl 1 rfl) ?_
          refine lv_dup hx hb d_M_send_95 rfl ?_
          refine va_get (D := D) (ci := 5) (v := .int (nI (M.1))) (C := R_M) (T := F_M) (N := 26) hx hb hts wl_M hown hK hP 0 rfl rfl 12 (by decide) (hts _ wf_M_70) (fun _ h9 => h9) rfl d_M_send_96 ?_
          refine lv_iconst (v := 1) hx hb d_M_send_99 (by decide) ?_
          refine lv_iadd hx hb d_M_send_100 ?_
          refine sd_top (y := nI (M.1 + 1)) (nI_1 _) ?_
          refine va_put (D := D) (ci := 5) (v := .int (nI (M.1 + 1))) (ty := .int) (C := R_M) (T := F_M) (N := 26) hx hb hts wl_M t_M t_M_ok n_M hown hK hP hD hS 0 rfl rfl 12 (by decide) (hts _ wf_M_70) (fun _ h9 => h9) rfl (by decide +kernel) rfl rfl (Nat.le_of_ble_eq_true rfl) d_M_send_101 (fun H locs hP hD hS => ?_)
          have hP : va_P D cls (mW cI cZ qm mp mt ml mc mf me mg mh mu (cd) (nI k) (nI n) (nI (pn)) (nI (nx)) (ep) (nI (M.1 + 1)) ((M.2.2.1) - (1)) (0) (wi) (jb) (fp) (tf) (tt) (fi) (ln) (bx) (1000) (pr) (1000) (tk) (8) (le) (576) (co) (576) (fr) (10) (em) (192) (upd (upd (upd (M.2.1) (M.1 % 64 * 3) (a)) (M.1 % 64 * 3 + 1) (b)) (M.1 % 64 * 3 + 2) (x)) (10) (nb) (10) (su)) H := hP
          have hD : va_D A (mW cI cZ qm mp mt ml mc mf me mg mh mu (cd) (nI k) (nI n) (nI (pn)) (nI (nx)) (ep) (nI (M.1 + 1)) ((M.2.2.1) - (1)) (0) (wi) (jb) (fp) (tf) (tt) (fi) (ln) (bx) (1000) (pr) (1000) (tk) (8) (le) (576) (co) (576) (fr) (10) (em) (192) (upd (upd (upd (M.2.1) (M.1 % 64 * 3) (a)) (M.1 % 64 * 3 + 1) (b)) (M.1 % 64 * 3 + 2) (x)) (10) (nb) (10) (su)) := hD
          have hP : va_P D cls (mW cI cZ qm mp mt ml mc mf me mg mh mu (cd) (nI k) (nI n) (nI (pn)) (nI (nx)) (ep) (nI ((mm_s M a b x).1)) ((mm_s M a b x).2.2.1) ((mm_s M a b x).2.2.2) (wi) (jb) (fp) (tf) (tt) (fi) (ln) (bx) (1000) (pr) (1000) (tk) (8) (le) (576) (co) (576) (fr) (10) (em) (192) ((mm_s M a b x).2.1) (10) (nb) (10) (su)) H := by first | (rw [mm_y ⟨hc5, hc12⟩, if_pos hc36]; exact hP) | (rw [mm_y ⟨hc5, hc12⟩, if_neg hc36]; exact hP)
          exact sd_vret hx hb hr hlk hP hS (Nat.le_of_ble_eq_true rfl) (Nat.le_of_ble_eq_true rfl) d_M_send_104
      · skip
        exact False.elim (by revert hc27; decide)
    · skip
      refine lv_iconst (v := 1) hx hb d_M_send_15 (by decide) ?_
      refine lv_goto (tgt := 20) hx hb d_M_send_16 rfl ?_
      refine va_put (D := D) (ci := 5) (v := .int (1)) (ty := .boolean) (C := R_M) (T := F_M) (N := 26) hx hb hts wl_M t_M t_M_ok n_M hown hK hP hD hS 0 rfl rfl 15 (by decide) (hts _ wf_M_66) (fun _ h9 => h9) rfl (by decide +kernel) rfl rfl (Nat.le_of_ble_eq_true rfl) d_M_send_20 (fun H locs hP hD hS => ?_)
      have hP : va_P D cls (mW cI cZ qm mp mt ml mc mf me mg mh mu (cd) (nI k) (nI n) (nI (pn)) (nI (nx)) (ep) (nI (M.1)) (M.2.2.1) (1) (wi) (jb) (fp) (tf) (tt) (fi) (ln) (bx) (1000) (pr) (1000) (tk) (8) (le) (576) (co) (576) (fr) (10) (em) (192) (M.2.1) (10) (nb) (10) (su)) H := hP
      have hD : va_D A (mW cI cZ qm mp mt ml mc mf me mg mh mu (cd) (nI k) (nI n) (nI (pn)) (nI (nx)) (ep) (nI (M.1)) (M.2.2.1) (1) (wi) (jb) (fp) (tf) (tt) (fi) (ln) (bx) (1000) (pr) (1000) (tk) (8) (le) (576) (co) (576) (fr) (10) (em) (192) (M.2.1) (10) (nb) (10) (su)) := hD
      refine lv_aload_n hx hb d_M_send_23 rfl (lv_at hl 0 rfl) ?_
      refine va_get (D := D) (ci := 5) (v := .int (1)) (C := R_M) (T := F_M) (N := 26) hx hb hts wl_M hown hK hP 0 rfl rfl 15 (by decide) (hts _ wf_M_66) (fun _ h9 => h9) rfl d_M_send_24 ?_
      refine lv_if_eq (tgt := 31) hx hb d_M_send_27 rfl (fun hc27 => ?_) (fun hc27 => ?_)
      · skip
        exact False.elim (by revert hc27; decide)
      · skip
        have hP : va_P D cls (mW cI cZ qm mp mt ml mc mf me mg mh mu (cd) (nI k) (nI n) (nI (pn)) (nI (nx)) (ep) (nI ((mm_s M a b x).1)) ((mm_s M a b x).2.2.1) ((mm_s M a b x).2.2.2) (wi) (jb) (fp) (tf) (tt) (fi) (ln) (bx) (1000) (pr) (1000) (tk) (8) (le) (576) (co) (576) (fr) (10) (em) (192) ((mm_s M a b x).2.1) (10) (nb) (10) (su)) H := by rw [mm_n (by first | exact fun h => hc5 h.1 | exact fun h => h.2 hc12)]; exact hP
        exact sd_vret hx hb hr hlk hP hS (Nat.le_of_ble_eq_true rfl) (Nat.le_of_ble_eq_true rfl) d_M_send_30
