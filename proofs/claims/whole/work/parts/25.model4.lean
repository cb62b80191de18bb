/-- byte j of a long -/
def lb (x : Int64) (j : Nat) : BitVec 8 := (x.toBitVec >>> (8 * j)).setWidth 8
theorem lb_s : ∀ j, j < 8 → ((((nI j * 8).toInt64.toUInt64 &&& Int64.toUInt64 63).toBitVec) % 64#64).toNat = 8 * j := by decide +kernel
theorem lb_t : ∀ j, j < 8 → ((((nI 8 * nI j).toInt64 &&& 63).toBitVec).smod 64#64).toNat = 8 * j := by decide +kernel
theorem lb_255 : ∀ i, i < 32 → (255#32).getLsbD i = decide (i < 8) := by decide +kernel
theorem lb_255l : ∀ i, i < 64 → (255#64).getLsbD i = decide (i < 8) := by decide +kernel
theorem lb_A (x : Int64) {j : Nat} (hj : j < 8) : (((x.toUInt64 >>> ((nI j * 8).toInt64.toUInt64 &&& Int64.toUInt64 63)).toInt64).toInt32 &&& 255) = bI (lb x j) := by
  apply Int32.toBitVec_inj.mp
  rw [bI_bv, Int32.toBitVec_and]
  show (x.toBitVec >>> (((nI j * 8).toInt64.toUInt64 &&& Int64.toUInt64 63).toBitVec % 64#64)).signExtend 32 &&& 255#32 = (lb x j).setWidth 32
  rw [BitVec.ushiftRight_eq', lb_s j hj]
  apply BitVec.eq_of_getLsbD_eq
  intro i hi
  unfold lb
  rw [BitVec.getLsbD_and, lb_255 i hi, BitVec.signExtend_eq_setWidth_of_le _ (by omega), BitVec.getLsbD_setWidth, BitVec.getLsbD_setWidth, BitVec.getLsbD_setWidth]
  by_cases h8 : i < 8
  · simp [h8, hi]
  · simp [h8]
theorem lb_B (x : Int64) {j : Nat} (hj : j < 8) : ((x >>> ((nI 8 * nI j).toInt64 &&& 63)) &&& 255).toInt32 = bI (lb x j) := by
  apply Int32.toBitVec_inj.mp
  rw [bI_bv]
  show ((x >>> ((nI 8 * nI j).toInt64 &&& 63)) &&& 255).toBitVec.signExtend 32 = (lb x j).setWidth 32
  rw [Int64.toBitVec_and, Int64.toBitVec_shiftRight]
  show (BitVec.sshiftRight' x.toBitVec (((nI 8 * nI j).toInt64 &&& 63).toBitVec.smod 64#64) &&& 255#64).signExtend 32 = _
  unfold BitVec.sshiftRight'
  rw [lb_t j hj]
  apply BitVec.eq_of_getLsbD_eq
  intro i hi
  unfold lb
  rw [BitVec.signExtend_eq_setWidth_of_le _ (by omega), BitVec.getLsbD_setWidth, BitVec.getLsbD_and, lb_255l i (by omega), BitVec.getLsbD_setWidth, BitVec.getLsbD_setWidth]
  by_cases h8 : i < 8
  · rw [BitVec.getLsbD_sshiftRight]
    simp [h8, hi, show ¬ 64 ≤ i by omega, show 8 * j + i < 64 by omega]
  · simp [h8]
theorem fl_in {f : Nat} (hf : f < 8) : 0 ≤ nI f ∧ nI f ≤ 7 := ⟨nI_pos' (by omega), by rw [show (7 : Int32) = nI 7 from rfl]; exact nI_le (by omega) (by omega)⟩
/-- how many of the boxes 1 .. b are not emptied and in the mask -/
def sm_p (em : Nat → Int32) (mk : Int32) (b : Nat) : Prop := em b = 0 ∧ ((mk >>> (nI b &&& 31)) &&& 1) = 1
def sm_s (em : Nat → Int32) (mk : Int32) : Nat → Nat
  | 0 => 0
  | b + 1 => if em (b + 1) = 0 ∧ ((mk >>> (nI (b + 1) &&& 31)) &&& 1) = 1 then sm_s em mk b + 1 else sm_s em mk b
theorem sm_s1 {em : Nat → Int32} {mk : Int32} {b : Nat} (h : em (b + 1) = 0 ∧ ((mk >>> (nI (b + 1) &&& 31)) &&& 1) = 1) : sm_s em mk (b + 1) = sm_s em mk b + 1 := if_pos h
theorem sm_s0 {em : Nat → Int32} {mk : Int32} {b : Nat} (h : ¬ (em (b + 1) = 0 ∧ ((mk >>> (nI (b + 1) &&& 31)) &&& 1) = 1)) : sm_s em mk (b + 1) = sm_s em mk b := if_neg h
theorem d_B_ofLong_0 : decode b_B_ofLong 0 = .ok (.lload_n 0, 1) := by decide +kernel
theorem d_B_ofLong_1 : decode b_B_ofLong 1 = .ok (.iload_n 2, 1) := by decide +kernel
theorem d_B_ofLong_2 : decode b_B_ofLong 2 = .ok (.bipush 8, 2) := by decide +kernel
theorem d_B_ofLong_4 : decode b_B_ofLong 4 = .ok (.imul, 1) := by decide +kernel
theorem d_B_ofLong_5 : decode b_B_ofLong 5 = .ok (.lushr, 1) := by decide +kernel
theorem d_B_ofLong_6 : decode b_B_ofLong 6 = .ok (.l2i, 1) := by decide +kernel
theorem d_B_ofLong_7 : decode b_B_ofLong 7 = .ok (.sipush 255, 3) := by decide +kernel
theorem d_B_ofLong_10 : decode b_B_ofLong 10 = .ok (.iand, 1) := by decide +kernel
theorem d_B_ofLong_11 : decode b_B_ofLong 11 = .ok (.ireturn, 1) := by decide +kernel
theorem d_M_isFile_0 : decode b_M_isFile 0 = .ok (.iload_n 0, 1) := by decide +kernel
theorem d_M_isFile_1 : decode b_M_isFile 1 = .ok (.ifCond .lt 13, 3) := by decide +kernel
theorem d_M_isFile_4 : decode b_M_isFile 4 = .ok (.iload_n 0, 1) := by decide +kernel
theorem d_M_isFile_5 : decode b_M_isFile 5 = .ok (.bipush 7, 2) := by decide +kernel
theorem d_M_isFile_7 : decode b_M_isFile 7 = .ok (.if_icmp .gt 7, 3) := by decide +kernel
theorem d_M_isFile_10 : decode b_M_isFile 10 = .ok (.iconst 1, 1) := by decide +kernel
theorem d_M_isFile_11 : decode b_M_isFile 11 = .ok (.goto 4, 3) := by decide +kernel
theorem d_M_isFile_14 : decode b_M_isFile 14 = .ok (.iconst 0, 1) := by decide +kernel
theorem d_M_isFile_15 : decode b_M_isFile 15 = .ok (.ireturn, 1) := by decide +kernel
theorem d_M_isBox_0 : decode b_M_isBox 0 = .ok (.iload_n 1, 1) := by decide +kernel
theorem d_M_isBox_1 : decode b_M_isBox 1 = .ok (.iconst 1, 1) := by decide +kernel
theorem d_M_isBox_2 : decode b_M_isBox 2 = .ok (.if_icmp .lt 15, 3) := by decide +kernel
theorem d_M_isBox_5 : decode b_M_isBox 5 = .ok (.iload_n 1, 1) := by decide +kernel
theorem d_M_isBox_6 : decode b_M_isBox 6 = .ok (.aload_n 0, 1) := by decide +kernel
theorem d_M_isBox_7 : decode b_M_isBox 7 = .ok (.getfield 45, 3) := by decide +kernel
theorem d_M_isBox_10 : decode b_M_isBox 10 = .ok (.if_icmp .gt 7, 3) := by decide +kernel
theorem d_M_isBox_13 : decode b_M_isBox 13 = .ok (.iconst 1, 1) := by decide +kernel
theorem d_M_isBox_14 : decode b_M_isBox 14 = .ok (.goto 4, 3) := by decide +kernel
theorem d_M_isBox_17 : decode b_M_isBox 17 = .ok (.iconst 0, 1) := by decide +kernel
theorem d_M_isBox_18 : decode b_M_isBox 18 = .ok (.ireturn, 1) := by decide +kernel
theorem d_M_some_0 : decode b_M_some 0 = .ok (.iconst 0, 1) := by decide +kernel
theorem d_M_some_1 : decode b_M_some 1 = .ok (.istore_n 2, 1) := by decide +kernel
theorem d_M_some_2 : decode b_M_some 2 = .ok (.iconst 1, 1) := by decide +kernel
theorem d_M_some_3 : decode b_M_some 3 = .ok (.istore_n 3, 1) := by decide +kernel
theorem d_M_some_4 : decode b_M_some 4 = .ok (.iload_n 3, 1) := by decide +kernel
theorem d_M_some_5 : decode b_M_some 5 = .ok (.aload_n 0, 1) := by decide +kernel
theorem d_M_some_6 : decode b_M_some 6 = .ok (.getfield 45, 3) := by decide +kernel
theorem d_M_some_9 : decode b_M_some 9 = .ok (.if_icmp .gt 35, 3) := by decide +kernel
theorem d_M_some_12 : decode b_M_some 12 = .ok (.aload_n 0, 1) := by decide +kernel
theorem d_M_some_13 : decode b_M_some 13 = .ok (.getfield 25, 3) := by decide +kernel
theorem d_M_some_16 : decode b_M_some 16 = .ok (.iload_n 3, 1) := by decide +kernel
theorem d_M_some_17 : decode b_M_some 17 = .ok (.baload, 1) := by decide +kernel
theorem d_M_some_18 : decode b_M_some 18 = .ok (.ifCond .ne 18, 3) := by decide +kernel
theorem d_M_some_21 : decode b_M_some 21 = .ok (.iload_n 1, 1) := by decide +kernel
theorem d_M_some_22 : decode b_M_some 22 = .ok (.iload_n 3, 1) := by decide +kernel
theorem d_M_some_23 : decode b_M_some 23 = .ok (.ishr, 1) := by decide +kernel
theorem d_M_some_24 : decode b_M_some 24 = .ok (.iconst 1, 1) := by decide +kernel
theorem d_M_some_25 : decode b_M_some 25 = .ok (.iand, 1) := by decide +kernel
theorem d_M_some_26 : decode b_M_some 26 = .ok (.iconst 1, 1) := by decide +kernel
theorem d_M_some_27 : decode b_M_some 27 = .ok (.if_icmp .ne 9, 3) := by decide +kernel
theorem d_M_some_30 : decode b_M_some 30 = .ok (.iload_n 2, 1) := by decide +kernel
theorem d_M_some_31 : decode b_M_some 31 = .ok (.iconst 1, 1) := by decide +kernel
theorem d_M_some_32 : decode b_M_some 32 = .ok (.iadd, 1) := by decide +kernel
theorem d_M_some_33 : decode b_M_some 33 = .ok (.goto 4, 3) := by decide +kernel
theorem d_M_some_36 : decode b_M_some 36 = .ok (.iload_n 2, 1) := by decide +kernel
theorem d_M_some_37 : decode b_M_some 37 = .ok (.istore_n 2, 1) := by decide +kernel
theorem d_M_some_38 : decode b_M_some 38 = .ok (.iinc 3 1, 3) := by decide +kernel
theorem d_M_some_41 : decode b_M_some 41 = .ok (.goto (-37), 3) := by decide +kernel
theorem d_M_some_44 : decode b_M_some 44 = .ok (.iload_n 2, 1) := by decide +kernel
theorem d_M_some_45 : decode b_M_some 45 = .ok (.ireturn, 1) := by decide +kernel
theorem d_M_stopAfter_0 : decode b_M_stopAfter 0 = .ok (.aload_n 0, 1) := by decide +kernel
theorem d_M_stopAfter_1 : decode b_M_stopAfter 1 = .ok (.iload_n 1, 1) := by decide +kernel
theorem d_M_stopAfter_2 : decode b_M_stopAfter 2 = .ok (.iconst (-1), 1) := by decide +kernel
theorem d_M_stopAfter_3 : decode b_M_stopAfter 3 = .ok (.if_icmp .ge 7, 3) := by decide +kernel
theorem d_M_stopAfter_6 : decode b_M_stopAfter 6 = .ok (.iconst 1, 1) := by decide +kernel
theorem d_M_stopAfter_7 : decode b_M_stopAfter 7 = .ok (.goto 4, 3) := by decide +kernel
theorem d_M_stopAfter_10 : decode b_M_stopAfter 10 = .ok (.iconst 0, 1) := by decide +kernel
theorem d_M_stopAfter_11 : decode b_M_stopAfter 11 = .ok (.putfield 51, 3) := by decide +kernel
theorem d_M_stopAfter_14 : decode b_M_stopAfter 14 = .ok (.aload_n 0, 1) := by decide +kernel
theorem d_M_stopAfter_15 : decode b_M_stopAfter 15 = .ok (.iload_n 1, 1) := by decide +kernel
theorem d_M_stopAfter_16 : decode b_M_stopAfter 16 = .ok (.iconst (-1), 1) := by decide +kernel
theorem d_M_stopAfter_17 : decode b_M_stopAfter 17 = .ok (.if_icmp .ge 10, 3) := by decide +kernel
theorem d_M_stopAfter_20 : decode b_M_stopAfter 20 = .ok (.aload_n 0, 1) := by decide +kernel
theorem d_M_stopAfter_21 : decode b_M_stopAfter 21 = .ok (.getfield 36, 3) := by decide +kernel
theorem d_M_stopAfter_24 : decode b_M_stopAfter 24 = .ok (.goto 4, 3) := by decide +kernel
theorem d_M_stopAfter_27 : decode b_M_stopAfter 27 = .ok (.iload_n 1, 1) := by decide +kernel
theorem d_M_stopAfter_28 : decode b_M_stopAfter 28 = .ok (.putfield 36, 3) := by decide +kernel
theorem d_M_stopAfter_31 : decode b_M_stopAfter 31 = .ok (.return_, 1) := by decide +kernel
theorem d_M_resume_0 : decode b_M_resume 0 = .ok (.aload_n 0, 1) := by decide +kernel
theorem d_M_resume_1 : decode b_M_resume 1 = .ok (.iconst 0, 1) := by decide +kernel
theorem d_M_resume_2 : decode b_M_resume 2 = .ok (.putfield 51, 3) := by decide +kernel
theorem d_M_resume_5 : decode b_M_resume 5 = .ok (.aload_n 0, 1) := by decide +kernel
theorem d_M_resume_6 : decode b_M_resume 6 = .ok (.getfield 100, 3) := by decide +kernel
theorem d_M_resume_9 : decode b_M_resume 9 = .ok (.ifCond .ne 5, 3) := by decide +kernel
theorem d_M_resume_12 : decode b_M_resume 12 = .ok (.iconst 0, 1) := by decide +kernel
theorem d_M_resume_13 : decode b_M_resume 13 = .ok (.ireturn, 1) := by decide +kernel
theorem d_M_resume_14 : decode b_M_resume 14 = .ok (.aload_n 0, 1) := by decide +kernel
theorem d_M_resume_15 : decode b_M_resume 15 = .ok (.iconst 0, 1) := by decide +kernel
theorem d_M_resume_16 : decode b_M_resume 16 = .ok (.putfield 100, 3) := by decide +kernel
theorem d_M_resume_19 : decode b_M_resume 19 = .ok (.aload_n 0, 1) := by decide +kernel
theorem d_M_resume_20 : decode b_M_resume 20 = .ok (.getfield 97, 3) := by decide +kernel
theorem d_M_resume_23 : decode b_M_resume 23 = .ok (.ifCond .ne 5, 3) := by decide +kernel
theorem d_M_resume_26 : decode b_M_resume 26 = .ok (.iconst 1, 1) := by decide +kernel
theorem d_M_resume_27 : decode b_M_resume 27 = .ok (.ireturn, 1) := by decide +kernel
theorem d_M_resume_28 : decode b_M_resume 28 = .ok (.aload_n 0, 1) := by decide +kernel
theorem d_M_resume_29 : decode b_M_resume 29 = .ok (.iconst 0, 1) := by decide +kernel
theorem d_M_resume_30 : decode b_M_resume 30 = .ok (.putfield 66, 3) := by decide +kernel
theorem d_M_resume_33 : decode b_M_resume 33 = .ok (.aload_n 0, 1) := by decide +kernel
theorem d_M_resume_34 : decode b_M_resume 34 = .ok (.invokevirtual 126, 3) := by decide +kernel
theorem d_M_resume_37 : decode b_M_resume 37 = .ok (.iconst 2, 1) := by decide +kernel
theorem d_M_resume_38 : decode b_M_resume 38 = .ok (.ireturn, 1) := by decide +kernel
theorem d_M_stopped_0 : decode b_M_stopped 0 = .ok (.aload_n 0, 1) := by decide +kernel
theorem d_M_stopped_1 : decode b_M_stopped 1 = .ok (.iconst 0, 1) := by decide +kernel
theorem d_M_stopped_2 : decode b_M_stopped 2 = .ok (.putfield 51, 3) := by decide +kernel
theorem d_M_stopped_5 : decode b_M_stopped 5 = .ok (.aload_n 0, 1) := by decide +kernel
theorem d_M_stopped_6 : decode b_M_stopped 6 = .ok (.getfield 100, 3) := by decide +kernel
theorem d_M_stopped_9 : decode b_M_stopped 9 = .ok (.ifCond .le 7, 3) := by decide +kernel
theorem d_M_stopped_12 : decode b_M_stopped 12 = .ok (.iconst 1, 1) := by decide +kernel
theorem d_M_stopped_13 : decode b_M_stopped 13 = .ok (.goto 4, 3) := by decide +kernel
theorem d_M_stopped_16 : decode b_M_stopped 16 = .ok (.iconst 0, 1) := by decide +kernel
theorem d_M_stopped_17 : decode b_M_stopped 17 = .ok (.ireturn, 1) := by decide +kernel
theorem d_M_length_0 : decode b_M_length 0 = .ok (.aload_n 0, 1) := by decide +kernel
theorem d_M_length_1 : decode b_M_length 1 = .ok (.iload_n 1, 1) := by decide +kernel
theorem d_M_length_2 : decode b_M_length 2 = .ok (.invokestatic 129, 3) := by decide +kernel
theorem d_M_length_5 : decode b_M_length 5 = .ok (.ifCond .eq 7, 3) := by decide +kernel
theorem d_M_length_8 : decode b_M_length 8 = .ok (.iconst 0, 1) := by decide +kernel
theorem d_M_length_9 : decode b_M_length 9 = .ok (.goto 4, 3) := by decide +kernel
theorem d_M_length_12 : decode b_M_length 12 = .ok (.iconst 1, 1) := by decide +kernel
theorem d_M_length_13 : decode b_M_length 13 = .ok (.putfield 51, 3) := by decide +kernel
theorem d_M_length_16 : decode b_M_length 16 = .ok (.aload_n 0, 1) := by decide +kernel
theorem d_M_length_17 : decode b_M_length 17 = .ok (.getfield 51, 3) := by decide +kernel
theorem d_M_length_20 : decode b_M_length 20 = .ok (.ifCond .le 7, 3) := by decide +kernel
theorem d_M_length_23 : decode b_M_length 23 = .ok (.iconst 0, 1) := by decide +kernel
theorem d_M_length_24 : decode b_M_length 24 = .ok (.goto 9, 3) := by decide +kernel
theorem d_M_length_27 : decode b_M_length 27 = .ok (.aload_n 0, 1) := by decide +kernel
theorem d_M_length_28 : decode b_M_length 28 = .ok (.getfield 16, 3) := by decide +kernel
theorem d_M_length_31 : decode b_M_length 31 = .ok (.iload_n 1, 1) := by decide +kernel
theorem d_M_length_32 : decode b_M_length 32 = .ok (.iaload, 1) := by decide +kernel
theorem d_M_length_33 : decode b_M_length 33 = .ok (.ireturn, 1) := by decide +kernel
theorem d_M_forget_0 : decode b_M_forget 0 = .ok (.aload_n 0, 1) := by decide +kernel
theorem d_M_forget_1 : decode b_M_forget 1 = .ok (.iload_n 1, 1) := by decide +kernel
theorem d_M_forget_2 : decode b_M_forget 2 = .ok (.invokestatic 129, 3) := by decide +kernel
theorem d_M_forget_5 : decode b_M_forget 5 = .ok (.ifCond .ne 7, 3) := by decide +kernel
theorem d_M_forget_8 : decode b_M_forget 8 = .ok (.iconst 1, 1) := by decide +kernel
theorem d_M_forget_9 : decode b_M_forget 9 = .ok (.goto 28, 3) := by decide +kernel
theorem d_M_forget_12 : decode b_M_forget 12 = .ok (.aload_n 0, 1) := by decide +kernel
theorem d_M_forget_13 : decode b_M_forget 13 = .ok (.getfield 16, 3) := by decide +kernel
theorem d_M_forget_16 : decode b_M_forget 16 = .ok (.iload_n 1, 1) := by decide +kernel
theorem d_M_forget_17 : decode b_M_forget 17 = .ok (.iaload, 1) := by decide +kernel
theorem d_M_forget_18 : decode b_M_forget 18 = .ok (.ifCond .ne 7, 3) := by decide +kernel
theorem d_M_forget_21 : decode b_M_forget 21 = .ok (.iconst 2, 1) := by decide +kernel
theorem d_M_forget_22 : decode b_M_forget 22 = .ok (.goto 15, 3) := by decide +kernel
theorem d_M_forget_25 : decode b_M_forget 25 = .ok (.aload_n 0, 1) := by decide +kernel
theorem d_M_forget_26 : decode b_M_forget 26 = .ok (.getfield 100, 3) := by decide +kernel
theorem d_M_forget_29 : decode b_M_forget 29 = .ok (.ifCond .le 7, 3) := by decide +kernel
theorem d_M_forget_32 : decode b_M_forget 32 = .ok (.iconst 3, 1) := by decide +kernel
theorem d_M_forget_33 : decode b_M_forget 33 = .ok (.goto 4, 3) := by decide +kernel
theorem d_M_forget_36 : decode b_M_forget 36 = .ok (.iconst 0, 1) := by decide +kernel
theorem d_M_forget_37 : decode b_M_forget 37 = .ok (.putfield 51, 3) := by decide +kernel
theorem d_M_forget_40 : decode b_M_forget 40 = .ok (.aload_n 0, 1) := by decide +kernel
theorem d_M_forget_41 : decode b_M_forget 41 = .ok (.getfield 51, 3) := by decide +kernel
theorem d_M_forget_44 : decode b_M_forget 44 = .ok (.ifCond .le 5, 3) := by decide +kernel
theorem d_M_forget_47 : decode b_M_forget 47 = .ok (.iconst 0, 1) := by decide +kernel
theorem d_M_forget_48 : decode b_M_forget 48 = .ok (.ireturn, 1) := by decide +kernel
theorem d_M_forget_49 : decode b_M_forget 49 = .ok (.aload_n 0, 1) := by decide +kernel
theorem d_M_forget_50 : decode b_M_forget 50 = .ok (.getfield 16, 3) := by decide +kernel
theorem d_M_forget_53 : decode b_M_forget 53 = .ok (.iload_n 1, 1) := by decide +kernel
theorem d_M_forget_54 : decode b_M_forget 54 = .ok (.iconst 0, 1) := by decide +kernel
theorem d_M_forget_55 : decode b_M_forget 55 = .ok (.iastore, 1) := by decide +kernel
theorem d_M_forget_56 : decode b_M_forget 56 = .ok (.aload_n 0, 1) := by decide +kernel
theorem d_M_forget_57 : decode b_M_forget 57 = .ok (.invokevirtual 152, 3) := by decide +kernel
theorem d_M_forget_60 : decode b_M_forget 60 = .ok (.ireturn, 1) := by decide +kernel
theorem d_M_need_0 : decode b_M_need 0 = .ok (.aload_n 0, 1) := by decide +kernel
theorem d_M_need_1 : decode b_M_need 1 = .ok (.iload_n 1, 1) := by decide +kernel
theorem d_M_need_2 : decode b_M_need 2 = .ok (.ifCond .lt 8, 3) := by decide +kernel
theorem d_M_need_5 : decode b_M_need 5 = .ok (.iload_n 1, 1) := by decide +kernel
theorem d_M_need_6 : decode b_M_need 6 = .ok (.iconst 2, 1) := by decide +kernel
theorem d_M_need_7 : decode b_M_need 7 = .ok (.if_icmp .le 7, 3) := by decide +kernel
theorem d_M_need_10 : decode b_M_need 10 = .ok (.iconst 1, 1) := by decide +kernel
theorem d_M_need_11 : decode b_M_need 11 = .ok (.goto 4, 3) := by decide +kernel
theorem d_M_need_14 : decode b_M_need 14 = .ok (.iconst 0, 1) := by decide +kernel
theorem d_M_need_15 : decode b_M_need 15 = .ok (.putfield 51, 3) := by decide +kernel
theorem d_M_need_18 : decode b_M_need 18 = .ok (.aload_n 0, 1) := by decide +kernel
theorem d_M_need_19 : decode b_M_need 19 = .ok (.getfield 51, 3) := by decide +kernel
theorem d_M_need_22 : decode b_M_need 22 = .ok (.ifCond .le 5, 3) := by decide +kernel
theorem d_M_need_25 : decode b_M_need 25 = .ok (.iconst 0, 1) := by decide +kernel
theorem d_M_need_26 : decode b_M_need 26 = .ok (.ireturn, 1) := by decide +kernel
theorem d_M_need_27 : decode b_M_need 27 = .ok (.iload_n 1, 1) := by decide +kernel
theorem d_M_need_28 : decode b_M_need 28 = .ok (.ifCond .ne 12, 3) := by decide +kernel
theorem d_M_need_31 : decode b_M_need 31 = .ok (.aload_n 0, 1) := by decide +kernel
theorem d_M_need_32 : decode b_M_need 32 = .ok (.getfield 48, 3) := by decide +kernel
theorem d_M_need_35 : decode b_M_need 35 = .ok (.iconst 1, 1) := by decide +kernel
theorem d_M_need_36 : decode b_M_need 36 = .ok (.isub, 1) := by decide +kernel
theorem d_M_need_37 : decode b_M_need 37 = .ok (.goto 38, 3) := by decide +kernel
theorem d_M_need_40 : decode b_M_need 40 = .ok (.iload_n 1, 1) := by decide +kernel
theorem d_M_need_41 : decode b_M_need 41 = .ok (.iconst 1, 1) := by decide +kernel
theorem d_M_need_42 : decode b_M_need 42 = .ok (.if_icmp .ne 17, 3) := by decide +kernel
theorem d_M_need_45 : decode b_M_need 45 = .ok (.aload_n 0, 1) := by decide +kernel
theorem d_M_need_46 : decode b_M_need 46 = .ok (.invokevirtual 142, 3) := by decide +kernel
theorem d_M_need_49 : decode b_M_need 49 = .ok (.aload_n 0, 1) := by decide +kernel
theorem d_M_need_50 : decode b_M_need 50 = .ok (.getfield 48, 3) := by decide +kernel
theorem d_M_need_53 : decode b_M_need 53 = .ok (.iconst 1, 1) := by decide +kernel
theorem d_M_need_54 : decode b_M_need 54 = .ok (.isub, 1) := by decide +kernel
theorem d_M_need_55 : decode b_M_need 55 = .ok (.imul, 1) := by decide +kernel
theorem d_M_need_56 : decode b_M_need 56 = .ok (.goto 19, 3) := by decide +kernel
theorem d_M_need_59 : decode b_M_need 59 = .ok (.aload_n 0, 1) := by decide +kernel
theorem d_M_need_60 : decode b_M_need 60 = .ok (.invokevirtual 142, 3) := by decide +kernel
theorem d_M_need_63 : decode b_M_need 63 = .ok (.aload_n 0, 1) := by decide +kernel
theorem d_M_need_64 : decode b_M_need 64 = .ok (.getfield 48, 3) := by decide +kernel
theorem d_M_need_67 : decode b_M_need 67 = .ok (.iconst 1, 1) := by decide +kernel
theorem d_M_need_68 : decode b_M_need 68 = .ok (.isub, 1) := by decide +kernel
theorem d_M_need_69 : decode b_M_need 69 = .ok (.imul, 1) := by decide +kernel
theorem d_M_need_70 : decode b_M_need 70 = .ok (.aload_n 0, 1) := by decide +kernel
theorem d_M_need_71 : decode b_M_need 71 = .ok (.getfield 48, 3) := by decide +kernel
theorem d_M_need_74 : decode b_M_need 74 = .ok (.imul, 1) := by decide +kernel
theorem d_M_need_75 : decode b_M_need 75 = .ok (.ireturn, 1) := by decide +kernel
theorem d_M_message_0 : decode b_M_message 0 = .ok (.aload_n 0, 1) := by decide +kernel
theorem d_M_message_1 : decode b_M_message 1 = .ok (.iload_n 1, 1) := by decide +kernel
theorem d_M_message_2 : decode b_M_message 2 = .ok (.ifCond .lt 17, 3) := by decide +kernel
theorem d_M_message_5 : decode b_M_message 5 = .ok (.iload_n 1, 1) := by decide +kernel
theorem d_M_message_6 : decode b_M_message 6 = .ok (.bipush 63, 2) := by decide +kernel
theorem d_M_message_8 : decode b_M_message 8 = .ok (.if_icmp .gt 11, 3) := by decide +kernel
theorem d_M_message_11 : decode b_M_message 11 = .ok (.iload_n 1, 1) := by decide +kernel
theorem d_M_message_12 : decode b_M_message 12 = .ok (.aload_n 0, 1) := by decide +kernel
theorem d_M_message_13 : decode b_M_message 13 = .ok (.getfield 70, 3) := by decide +kernel
theorem d_M_message_16 : decode b_M_message 16 = .ok (.if_icmp .lt 7, 3) := by decide +kernel
theorem d_M_message_19 : decode b_M_message 19 = .ok (.iconst 1, 1) := by decide +kernel
theorem d_M_message_20 : decode b_M_message 20 = .ok (.goto 17, 3) := by decide +kernel
theorem d_M_message_23 : decode b_M_message 23 = .ok (.iload_n 2, 1) := by decide +kernel
theorem d_M_message_24 : decode b_M_message 24 = .ok (.ifCond .lt 8, 3) := by decide +kernel
theorem d_M_message_27 : decode b_M_message 27 = .ok (.iload_n 2, 1) := by decide +kernel
theorem d_M_message_28 : decode b_M_message 28 = .ok (.iconst 2, 1) := by decide +kernel
theorem d_M_message_29 : decode b_M_message 29 = .ok (.if_icmp .le 7, 3) := by decide +kernel
theorem d_M_message_32 : decode b_M_message 32 = .ok (.iconst 2, 1) := by decide +kernel
theorem d_M_message_33 : decode b_M_message 33 = .ok (.goto 4, 3) := by decide +kernel
theorem d_M_message_36 : decode b_M_message 36 = .ok (.iconst 0, 1) := by decide +kernel
theorem d_M_message_37 : decode b_M_message 37 = .ok (.putfield 51, 3) := by decide +kernel
theorem d_M_message_40 : decode b_M_message 40 = .ok (.aload_n 0, 1) := by decide +kernel
theorem d_M_message_41 : decode b_M_message 41 = .ok (.getfield 51, 3) := by decide +kernel
theorem d_M_message_44 : decode b_M_message 44 = .ok (.ifCond .le 7, 3) := by decide +kernel
theorem d_M_message_47 : decode b_M_message 47 = .ok (.iconst 0, 1) := by decide +kernel
theorem d_M_message_48 : decode b_M_message 48 = .ok (.goto 23, 3) := by decide +kernel
theorem d_M_message_51 : decode b_M_message 51 = .ok (.aload_n 0, 1) := by decide +kernel
theorem d_M_message_52 : decode b_M_message 52 = .ok (.getfield 29, 3) := by decide +kernel
theorem d_M_message_55 : decode b_M_message 55 = .ok (.aload_n 0, 1) := by decide +kernel
theorem d_M_message_56 : decode b_M_message 56 = .ok (.getfield 70, 3) := by decide +kernel
theorem d_M_message_59 : decode b_M_message 59 = .ok (.iconst 1, 1) := by decide +kernel
theorem d_M_message_60 : decode b_M_message 60 = .ok (.isub, 1) := by decide +kernel
theorem d_M_message_61 : decode b_M_message 61 = .ok (.iload_n 1, 1) := by decide +kernel
theorem d_M_message_62 : decode b_M_message 62 = .ok (.isub, 1) := by decide +kernel
theorem d_M_message_63 : decode b_M_message 63 = .ok (.bipush 64, 2) := by decide +kernel
theorem d_M_message_65 : decode b_M_message 65 = .ok (.irem, 1) := by decide +kernel
theorem d_M_message_66 : decode b_M_message 66 = .ok (.iconst 3, 1) := by decide +kernel
theorem d_M_message_67 : decode b_M_message 67 = .ok (.imul, 1) := by decide +kernel
theorem d_M_message_68 : decode b_M_message 68 = .ok (.iload_n 2, 1) := by decide +kernel
theorem d_M_message_69 : decode b_M_message 69 = .ok (.iadd, 1) := by decide +kernel
theorem d_M_message_70 : decode b_M_message 70 = .ok (.iaload, 1) := by decide +kernel
theorem d_M_message_71 : decode b_M_message 71 = .ok (.ireturn, 1) := by decide +kernel
set_option maxHeartbeats 4000000 in
set_option maxRecDepth 100000 in
theorem c_B_ofLong (l : Launch) (D : va_G) (cI cZ cQ : ClassId) (x : Int64) (j : Nat) (hj : j < 8) : sd_I l D (tyL cI cZ cQ) y_B_ofLong b_B_ofLong 3 (.int) ({ frames := 0, cells := 0, slots := 0, locals := 0 }) [.long (x), .int (nI j)] [] (bI (lb x j)) [] := by
  refine sd_ofI (by decide) (Nat.le_of_ble_eq_true rfl) ?_
  intro p e s m below meth c A ls hx hb hr hml hlk hown hts hK hP hD hA hS hl
  have hl : lv_has ls 3 [(0, .long (x)), (2, .int (nI j))] := hl
  refine lv_lload_n hx hb d_B_ofLong_0 rfl (lv_at hl 0 rfl) ?_
  refine lv_iload_n hx hb d_B_ofLong_1 rfl (lv_at hl 1 rfl) ?_
  refine lv_bipush (v := 8) hx hb d_B_ofLong_2 (by decide) ?_
  refine lv_imul hx hb d_B_ofLong_4 ?_
  refine lv_lushr hx hb d_B_ofLong_5 rfl ?_
  refine lv_l2i hx hb d_B_ofLong_6 rfl ?_
  refine lv_sipush (v := 255) hx hb d_B_ofLong_7 (by decide) ?_
  refine lv_iand hx hb d_B_ofLong_10 ?_
  exact sd_iret hx hb hr hlk hP hS (Nat.le_of_ble_eq_true rfl) (Nat.le_of_ble_eq_true rfl) (lb_A x hj) d_B_ofLong_11
set_option maxHeartbeats 4000000 in
set_option maxRecDepth 100000 in
theorem c_M_isFile_1 (l : Launch) (D : va_G) (cI cZ cQ : ClassId) (f : Int32) (hf : 0 ≤ f ∧ f ≤ 7) : sd_I l D (tyL cI cZ cQ) y_M_isFile b_M_isFile 1 (.boolean) ({ frames := 0, cells := 0, slots := 0, locals := 0 }) [.int (f)] [] (1) [] := by
  refine sd_ofI (by decide) (Nat.le_of_ble_eq_true rfl) ?_
  intro p e s m below meth c A ls hx hb hr hml hlk hown hts hK hP hD hA hS hl
  have hl : lv_has ls 1 [(0, .int (f))] := hl
  refine lv_iload_n hx hb d_M_isFile_0 rfl (lv_at hl 0 rfl) ?_
  refine lv_if_lt (tgt := 14) hx hb d_M_isFile_1 rfl (fun hc1 => ?_) (fun hc1 => ?_)
  · skip
    exact absurd hf.1 (Int32.not_le.mpr hc1)
  · skip
    refine lv_iload_n hx hb d_M_isFile_4 rfl (lv_at hl 0 rfl) ?_
    refine lv_bipush (v := 7) hx hb d_M_isFile_5 (by decide) ?_
    refine lv_icmp_gt (tgt := 14) hx hb d_M_isFile_7 rfl (fun hc7 => ?_) (fun hc7 => ?_)
    · skip
      exact absurd hf.2 (Int32.not_le.mpr hc7)
    · skip
      refine lv_iconst (v := 1) hx hb d_M_isFile_10 (by decide) ?_
      refine lv_goto (tgt := 15) hx hb d_M_isFile_11 rfl ?_
      exact sd_zret hx hb hr hlk hP hS (Nat.le_of_ble_eq_true rfl) (Nat.le_of_ble_eq_true rfl) (rfl) (by decide) d_M_isFile_15
set_option maxHeartbeats 4000000 in
set_option maxRecDepth 100000 in
theorem c_M_isFile_0 (l : Launch) (D : va_G) (cI cZ cQ : ClassId) (f : Int32) (hf : ¬ (0 ≤ f ∧ f ≤ 7)) : sd_I l D (tyL cI cZ cQ) y_M_isFile b_M_isFile 1 (.boolean) ({ frames := 0, cells := 0, slots := 0, locals := 0 }) [.int (f)] [] (0) [] := by
  refine sd_ofI (by decide) (Nat.le_of_ble_eq_true rfl) ?_
  intro p e s m below meth c A ls hx hb hr hml hlk hown hts hK hP hD hA hS hl
  have hl : lv_has ls 1 [(0, .int (f))] := hl
  refine lv_iload_n hx hb d_M_isFile_0 rfl (lv_at hl 0 rfl) ?_
  refine lv_if_lt (tgt := 14) hx hb d_M_isFile_1 rfl (fun hc1 => ?_) (fun hc1 => ?_)
  · skip
    refine lv_iconst (v := 0) hx hb d_M_isFile_14 (by decide) ?_
    exact sd_zret hx hb hr hlk hP hS (Nat.le_of_ble_eq_true rfl) (Nat.le_of_ble_eq_true rfl) (rfl) (by decide) d_M_isFile_15
  · skip
    refine lv_iload_n hx hb d_M_isFile_4 rfl (lv_at hl 0 rfl) ?_
    refine lv_bipush (v := 7) hx hb d_M_isFile_5 (by decide) ?_
    refine lv_icmp_gt (tgt := 14) hx hb d_M_isFile_7 rfl (fun hc7 => ?_) (fun hc7 => ?_)
    · skip
      refine lv_iconst (v := 0) hx hb d_M_isFile_14 (by decide) ?_
      exact sd_zret hx hb hr hlk hP hS (Nat.le_of_ble_eq_true rfl) (Nat.le_of_ble_eq_true rfl) (rfl) (by decide) d_M_isFile_15
    · skip
      exact absurd ⟨Int32.not_lt.mp hc1, Int32.not_lt.mp hc7⟩ hf
set_option maxHeartbeats 4000000 in
set_option maxRecDepth 100000 in
theorem c_M_isBox_1 (l : Launch) (D : va_G) (cI cZ cQ : ClassId) (qm : Nat) (mp : Nat) (mt : Nat) (ml : Nat) (mc : Nat) (mf : Nat) (me : Nat) (mg : Nat) (mh : Nat) (mu : Nat) (k : Nat) (n : Nat) (pn : Nat) (nx : Nat) (cd : Int32) (ep : Int32) (M : mm_T) (wi : Int32) (jb : Int32) (fp : Int32) (tf : Int32) (tt : Int32) (fi : Int32) (ln : Int32) (bx : Int32) (pr : Nat → Int32) (tk : Nat → Int32) (le : Nat → Int32) (co : Nat → Int32) (fr : Nat → Int32) (em : Nat → Int32) (nb : Nat → Int32) (su : Nat → Int32) (b : Int32) (hk : k ≤ 9) (hn : n ≤ 9) (hbx : 1 ≤ b ∧ b ≤ nI n) : sd_I l D (tyL cI cZ cQ) y_M_isBox b_M_isBox 2 (.boolean) ({ frames := 0, cells := 0, slots := 0, locals := 0 }) [.ref qm, .int (b)] (mW cI cZ qm mp mt ml mc mf me mg mh mu (cd) (nI k) (nI n) (nI (pn)) (nI (nx)) (ep) (nI (M.1)) (M.2.2.1) (M.2.2.2) (wi) (jb) (fp) (tf) (tt) (fi) (ln) (bx) (1000) (pr) (1000) (tk) (8) (le) (576) (co) (576) (fr) (10) (em) (192) (M.2.1) (10) (nb) (10) (su)) (1) (mW cI cZ qm mp mt ml mc mf me mg mh mu (cd) (nI k) (nI n) (nI (pn)) (nI (nx)) (ep) (nI (M.1)) (M.2.2.1) (M.2.2.2) (wi) (jb) (fp) (tf) (tt) (fi) (ln) (bx) (1000) (pr) (1000) (tk) (8) (le) (576) (co) (576) (fr) (10) (em) (192) (M.2.1) (10) (nb) (10) (su)) := by
  refine sd_ofI (by decide) (Nat.le_of_ble_eq_true rfl) ?_
  intro p e s m below meth c A ls hx hb hr hml hlk hown hts hK hP hD hA hS hl
  have hl : lv_has ls 2 [(0, .ref qm), (1, .int (b))] := hl
  refine lv_iload_n hx hb d_M_isBox_0 rfl (lv_at hl 1 rfl) ?_
  refine lv_iconst (v := 1) hx hb d_M_isBox_1 (by decide) ?_
  refine lv_icmp_lt (tgt := 17) hx hb d_M_isBox_2 rfl (fun hc2 => ?_) (fun hc2 => ?_)
  · skip
    exact absurd hbx.1 (Int32.not_le.mpr hc2)
  · skip
    refine lv_iload_n hx hb d_M_isBox_5 rfl (lv_at hl 1 rfl) ?_
    refine lv_aload_n hx hb d_M_isBox_6 rfl (lv_at hl 0 rfl) ?_
    refine va_get (D := D) (ci := 5) (v := .int (nI n)) (C := R_M) (T := F_M) (N := 26) hx hb hts wl_M hown hK hP 0 rfl rfl 2 (by decide) (hts _ wf_M_45) (fun _ h9 => h9) rfl d_M_isBox_7 ?_
    refine lv_icmp_gt (tgt := 17) hx hb d_M_isBox_10 rfl (fun hc10 => ?_) (fun hc10 => ?_)
    · skip
      exact absurd hbx.2 (Int32.not_le.mpr hc10)
    · skip
      refine lv_iconst (v := 1) hx hb d_M_isBox_13 (by decide) ?_
      refine lv_goto (tgt := 18) hx hb d_M_isBox_14 rfl ?_
      exact sd_zret hx hb hr hlk hP hS (Nat.le_of_ble_eq_true rfl) (Nat.le_of_ble_eq_true rfl) (rfl) (by decide) d_M_isBox_18
set_option maxHeartbeats 4000000 in
set_option maxRecDepth 100000 in
theorem c_M_isBox_0 (l : Launch) (D : va_G) (cI cZ cQ : ClassId) (qm : Nat) (mp : Nat) (mt : Nat) (ml : Nat) (mc : Nat) (mf : Nat) (me : Nat) (mg : Nat) (mh : Nat) (mu : Nat) (k : Nat) (n : Nat) (pn : Nat) (nx : Nat) (cd : Int32) (ep : Int32) (M : mm_T) (wi : Int32) (jb : Int32) (fp : Int32) (tf : Int32) (tt : Int32) (fi : Int32) (ln : Int32) (bx : Int32) (pr : Nat → Int32) (tk : Nat → Int32) (le : Nat → Int32) (co : Nat → Int32) (fr : Nat → Int32) (em : Nat → Int32) (nb : Nat → Int32) (su : Nat → Int32) (b : Int32) (hk : k ≤ 9) (hn : n ≤ 9) (hbx : ¬ (1 ≤ b ∧ b ≤ nI n)) : sd_I l D (tyL cI cZ cQ) y_M_isBox b_M_isBox 2 (.boolean) ({ frames := 0, cells := 0, slots := 0, locals := 0 }) [.ref qm, .int (b)] (mW cI cZ qm mp mt ml mc mf me mg mh mu (cd) (nI k) (nI n) (nI (pn)) (nI (nx)) (ep) (nI (M.1)) (M.2.2.1) (M.2.2.2) (wi) (jb) (fp) (tf) (tt) (fi) (ln) (bx) (1000) (pr) (1000) (tk) (8) (le) (576) (co) (576) (fr) (10) (em) (192) (M.2.1) (10) (nb) (10) (su)) (0) (mW cI cZ qm mp mt ml mc mf me mg mh mu (cd) (nI k) (nI n) (nI (pn)) (nI (nx)) (ep) (nI (M.1)) (M.2.2.1) (M.2.2.2) (wi) (jb) (fp) (tf) (tt) (fi) (ln) (bx) (1000) (pr) (1000) (tk) (8) (le) (576) (co) (576) (fr) (10) (em) (192) (M.2.1) (10) (nb) (10) (su)) := by
  refine sd_ofI (by decide) (Nat.le_of_ble_eq_true rfl) ?_
  intro p e s m below meth c A ls hx hb hr hml hlk hown hts hK hP hD hA hS hl
  have hl : lv_has ls 2 [(0, .ref qm), (1, .int (b))] := hl
  refine lv_iload_n hx hb d_M_isBox_0 rfl (lv_at hl 1 rfl) ?_
  refine lv_iconst (v := 1) hx hb d_M_isBox_1 (by decide) ?_
  refine lv_icmp_lt (tgt := 17) hx hb d_M_isBox_2 rfl (fun hc2 => ?_) (fun hc2 => ?_)
  · skip
    refine lv_iconst (v := 0) hx hb d_M_isBox_17 (by decide) ?_
    exact sd_zret hx hb hr hlk hP hS (Nat.le_of_ble_eq_true rfl) (Nat.le_of_ble_eq_true rfl) (rfl) (by decide) d_M_isBox_18
  · skip
    refine lv_iload_n hx hb d_M_isBox_5 rfl (lv_at hl 1 rfl) ?_
    refine lv_aload_n hx hb d_M_isBox_6 rfl (lv_at hl 0 rfl) ?_
    refine va_get (D := D) (ci := 5) (v := .int (nI n)) (C := R_M) (T := F_M) (N := 26) hx hb hts wl_M hown hK hP 0 rfl rfl 2 (by decide) (hts _ wf_M_45) (fun _ h9 => h9) rfl d_M_isBox_7 ?_
    refine lv_icmp_gt (tgt := 17) hx hb d_M_isBox_10 rfl (fun hc10 => ?_) (fun hc10 => ?_)
    · skip
      refine lv_iconst (v := 0) hx hb d_M_isBox_17 (by decide) ?_
      exact sd_zret hx hb hr hlk hP hS (Nat.le_of_ble_eq_true rfl) (Nat.le_of_ble_eq_true rfl) (rfl) (by decide) d_M_isBox_18
    · skip
      exact absurd ⟨Int32.not_lt.mp hc2, Int32.not_lt.mp hc10⟩ hbx
set_option maxHeartbeats 4000000 in
set_option maxRecDepth 100000 in
theorem c_M_some (l : Launch) (D : va_G) (cI cZ cQ : ClassId) (qm : Nat) (mp : Nat) (mt : Nat) (ml : Nat) (mc : Nat) (mf : Nat) (me : Nat) (mg : Nat) (mh : Nat) (mu : Nat) (k : Nat) (n : Nat) (pn : Nat) (nx : Nat) (cd : Int32) (ep : Int32) (M : mm_T) (wi : Int32) (jb : Int32) (fp : Int32) (tf : Int32) (tt : Int32) (fi : Int32) (ln : Int32) (bx : Int32) (pr : Nat → Int32) (tk : Nat → Int32) (le : Nat → Int32) (co : Nat → Int32) (fr : Nat → Int32) (em : Nat → Int32) (nb : Nat → Int32) (su : Nat → Int32) (mk : Int32) (hk : k ≤ 9) (hn : n ≤ 9) : sd_I l D (tyL cI cZ cQ) y_M_some b_M_some 4 (.int) ({ frames := 0, cells := 0, slots := 0, locals := 0 }) [.ref qm, .int (mk)] (mW cI cZ qm mp mt ml mc mf me mg mh mu (cd) (nI k) (nI n) (nI (pn)) (nI (nx)) (ep) (nI (M.1)) (M.2.2.1) (M.2.2.2) (wi) (jb) (fp) (tf) (tt) (fi) (ln) (bx) (1000) (pr) (1000) (tk) (8) (le) (576) (co) (576) (fr) (10) (em) (192) (M.2.1) (10) (nb) (10) (su)) (nI (sm_s em mk n)) (mW cI cZ qm mp mt ml mc mf me mg mh mu (cd) (nI k) (nI n) (nI (pn)) (nI (nx)) (ep) (nI (M.1)) (M.2.2.1) (M.2.2.2) (wi) (jb) (fp) (tf) (tt) (fi) (ln) (bx) (1000) (pr) (1000) (tk) (8) (le) (576) (co) (576) (fr) (10) (em) (192) (M.2.1) (10) (nb) (10) (su)) := by
  refine sd_ofI (by decide) (Nat.le_of_ble_eq_true rfl) ?_
  intro p e s m below meth c A ls hx hb hr hml hlk hown hts hK hP hD hA hS hl
  have hl : lv_has ls 4 [(0, .ref qm), (1, .int (mk))] := hl
  refine lv_iconst (v := 0) hx hb d_M_some_0 (by decide) ?_
  refine sd_top (y := nI 0) (rfl) ?_
  refine lv_istore_n hx hb d_M_some_1 rfl hl (Nat.le_of_ble_eq_true rfl) (lv' := [(2, .int (nI 0)), (0, .ref qm), (1, .int (mk))]) rfl (fun ls hl => ?_)
  refine lv_iconst (v := 1) hx hb d_M_some_2 (by decide) ?_
  refine sd_top (y := nI (0 + 1)) (rfl) ?_
  refine lv_istore_n hx hb d_M_some_3 rfl hl (Nat.le_of_ble_eq_true rfl) (lv' := [(3, .int (nI (0 + 1))), (2, .int (nI 0)), (0, .ref qm), (1, .int (mk))]) rfl (fun ls hl => ?_)
  have hl := lv_sub hl (l' := [(0, .ref qm), (1, .int (mk)), (2, .int (nI 0)), (3, .int (nI (0 + 1)))]) [2, 3, 1, 0] rfl
  have loop4 : ∀ (d : Nat) (b : Nat) (ls : Array Slot) (H : Heap) (locs : List Loc), n - b = d → (b ≤ n) → lv_has ls 4 [(0, .ref qm), (1, .int (mk)), (2, .int (nI (sm_s em mk b))), (3, .int (nI (b + 1)))] → va_P D cls (mW cI cZ qm mp mt ml mc mf me mg mh mu (cd) (nI k) (nI n) (nI (pn)) (nI (nx)) (ep) (nI (M.1)) (M.2.2.1) (M.2.2.2) (wi) (jb) (fp) (tf) (tt) (fi) (ln) (bx) (1000) (pr) (1000) (tk) (8) (le) (576) (co) (576) (fr) (10) (em) (192) (M.2.1) (10) (nb) (10) (su)) H → va_D A (mW cI cZ qm mp mt ml mc mf me mg mh mu (cd) (nI k) (nI n) (nI (pn)) (nI (nx)) (ep) (nI (M.1)) (M.2.2.1) (M.2.2.2) (wi) (jb) (fp) (tf) (tt) (fi) (ln) (bx) (1000) (pr) (1000) (tk) (8) (le) (576) (co) (576) (fr) (10) (em) (192) (M.2.1) (10) (nb) (10) (su)) → va_S A s.heap H locs → W p l e ({ frames := 0, cells := 0, slots := 0, locals := 0 }) s m ([.ref qm, .int (mk)] : List Value).toArray below meth c H locs 0 0 (MQ below (sd_qi D (nI (sm_s em mk n)) (mW cI cZ qm mp mt ml mc mf me mg mh mu (cd) (nI k) (nI n) (nI (pn)) (nI (nx)) (ep) (nI (M.1)) (M.2.2.1) (M.2.2.2) (wi) (jb) (fp) (tf) (tt) (fi) (ln) (bx) (1000) (pr) (1000) (tk) (8) (le) (576) (co) (576) (fr) (10) (em) (192) (M.2.1) (10) (nb) (10) (su)) A) ([.ref qm, .int (mk)] : List Value).toArray s 0 0 A) (F0 m 4 ls []) := by
    intro d
    induction d using Nat.strongRecOn with
    | _ d ih4 =>
    intro b ls H locs hd hb8 hl hP hD hS
    subst hd
    refine lv_iload_n hx hb d_M_some_4 rfl (lv_at hl 3 rfl) ?_
    refine lv_aload_n hx hb d_M_some_5 rfl (lv_at hl 0 rfl) ?_
    refine va_get (D := D) (ci := 5) (v := .int (nI n)) (C := R_M) (T := F_M) (N := 26) hx hb hts wl_M hown hK hP 0 rfl rfl 2 (by decide) (hts _ wf_M_45) (fun _ h9 => h9) rfl d_M_some_6 ?_
    refine lv_icmp_gt (tgt := 44) hx hb d_M_some_9 rfl (fun hc9 => ?_) (fun hc9 => ?_)
    · skip
      rw [nI_ltI (by omega) (by omega)] at hc9
      refine lv_iload_n hx hb d_M_some_44 rfl (lv_at hl 2 rfl) ?_
      have hb8 : n = b := by omega
      subst hb8
      exact sd_iret hx hb hr hlk hP hS (Nat.le_of_ble_eq_true rfl) (Nat.le_of_ble_eq_true rfl) (rfl) d_M_some_45
    · skip
      rw [nI_ltI (by omega) (by omega)] at hc9
      refine lv_aload_n hx hb d_M_some_12 rfl (lv_at hl 0 rfl) ?_
      refine va_get (D := D) (ci := 5) (v := .ref me) (C := R_M) (T := F_M) (N := 26) hx hb hts wl_M hown hK hP 0 rfl rfl 11 (by decide) (hts _ wf_M_25) (fun _ h9 => h9) rfl d_M_some_13 ?_
      refine lv_iload_n hx hb d_M_some_16 rfl (lv_at hl 3 rfl) ?_
      refine sd_zald (j := b + 1) hx hb hK hP 6 1 rfl rfl (by omega) (by omega) d_M_some_17 ?_
      refine lv_if_ne (tgt := 36) hx hb d_M_some_18 rfl (fun hc18 => ?_) (fun hc18 => ?_)
      · skip
        refine lv_iload_n hx hb d_M_some_36 rfl (lv_at hl 2 rfl) ?_
        refine sd_top (y := nI (sm_s em mk (b + 1))) (by first | rw [sm_s0 (fun h => hc18 h.1)] | rw [sm_s0 (fun h => hc27 h.2)]) ?_
        refine lv_istore_n hx hb d_M_some_37 rfl hl (Nat.le_of_ble_eq_true rfl) (lv' := [(2, .int (nI (sm_s em mk (b + 1)))), (0, .ref qm), (1, .int (mk)), (3, .int (nI (b + 1)))]) rfl (fun ls hl => ?_)
        refine lv_iinc hx hb d_M_some_38 hl (k := 3) rfl (v := nI (b + 1 + 1)) (ii_1 _) (Nat.le_of_ble_eq_true rfl) (lv' := [(3, .int (nI (b + 1 + 1))), (2, .int (nI (sm_s em mk (b + 1)))), (0, .ref qm), (1, .int (mk))]) rfl (fun ls hl => ?_)
        refine lv_goto (tgt := 4) hx hb d_M_some_41 rfl ?_
        have hl := lv_sub hl (l' := [(0, .ref qm), (1, .int (mk)), (2, .int (nI (sm_s em mk (b + 1)))), (3, .int (nI (b + 1 + 1)))]) [2, 3, 1, 0] rfl
        exact ih4 _ (by omega) (b + 1) ls _ _ rfl (by omega) hl hP hD hS
      · skip
        refine lv_iload_n hx hb d_M_some_21 rfl (lv_at hl 1 rfl) ?_
        refine lv_iload_n hx hb d_M_some_22 rfl (lv_at hl 3 rfl) ?_
        refine lv_ishr hx hb d_M_some_23 ?_
        refine lv_iconst (v := 1) hx hb d_M_some_24 (by decide) ?_
        refine lv_iand hx hb d_M_some_25 ?_
        refine lv_iconst (v := 1) hx hb d_M_some_26 (by decide) ?_
        refine lv_icmp_ne (tgt := 36) hx hb d_M_some_27 rfl (fun hc27 => ?_) (fun hc27 => ?_)
        · skip
          refine lv_iload_n hx hb d_M_some_36 rfl (lv_at hl 2 rfl) ?_
          refine sd_top (y := nI (sm_s em mk (b + 1))) (by first | rw [sm_s0 (fun h => hc18 h.1)] | rw [sm_s0 (fun h => hc27 h.2)]) ?_
          refine lv_istore_n hx hb d_M_some_37 rfl hl (Nat.le_of_ble_eq_true rfl) (lv' := [(2, .int (nI (sm_s em mk (b + 1)))), (0, .ref qm), (1, .int (mk)), (3, .int (nI (b + 1)))]) rfl (fun ls hl => ?_)
          refine lv_iinc hx hb d_M_some_38 hl (k := 3) rfl (v := nI (b + 1 + 1)) (ii_1 _) (Nat.le_of_ble_eq_true rfl) (lv' := [(3, .int (nI (b + 1 + 1))), (2, .int (nI (sm_s em mk (b + 1)))), (0, .ref qm), (1, .int (mk))]) rfl (fun ls hl => ?_)
          refine lv_goto (tgt := 4) hx hb d_M_some_41 rfl ?_
          have hl := lv_sub hl (l' := [(0, .ref qm), (1, .int (mk)), (2, .int (nI (sm_s em mk (b + 1)))), (3, .int (nI (b + 1 + 1)))]) [2, 3, 1, 0] rfl
          exact ih4 _ (by omega) (b + 1) ls _ _ rfl (by omega) hl hP hD hS
        · skip
          refine lv_iload_n hx hb d_M_some_30 rfl (lv_at hl 2 rfl) ?_
          refine lv_iconst (v := 1) hx hb d_M_some_31 (by decide) ?_
          refine lv_iadd hx hb d_M_some_32 ?_
          refine sd_top (y := nI (sm_s em mk (b + 1))) (by rw [nI_1, sm_s1 ⟨hc18, hc27⟩]) ?_
          refine lv_goto (tgt := 37) hx hb d_M_some_33 rfl ?_
          refine lv_istore_n hx hb d_M_some_37 rfl hl (Nat.le_of_ble_eq_true rfl) (lv' := [(2, .int (nI (sm_s em mk (b + 1)))), (0, .ref qm), (1, .int (mk)), (3, .int (nI (b + 1)))]) rfl (fun ls hl => ?_)
          refine lv_iinc hx hb d_M_some_38 hl (k := 3) rfl (v := nI (b + 1 + 1)) (ii_1 _) (Nat.le_of_ble_eq_true rfl) (lv' := [(3, .int (nI (b + 1 + 1))), (2, .int (nI (sm_s em mk (b + 1)))), (0, .ref qm), (1, .int (mk))]) rfl (fun ls hl => ?_)
          refine lv_goto (tgt := 4) hx hb d_M_some_41 rfl ?_
          have hl := lv_sub hl (l' := [(0, .ref qm), (1, .int (mk)), (2, .int (nI (sm_s em mk (b + 1)))), (3, .int (nI (b + 1 + 1)))]) [2, 3, 1, 0] rfl
          exact ih4 _ (by omega) (b + 1) ls _ _ rfl (by omega) hl hP hD hS
  exact loop4 _ (0) ls _ _ rfl (Nat.zero_le _) hl hP hD hS
set_option maxHeartbeats 4000000 in
set_option maxRecDepth 100000 in
theorem c_M_stopAfter_1 (l : Launch) (D : va_G) (cI cZ cQ : ClassId) (qm : Nat) (mp : Nat) (mt : Nat) (ml : Nat) (mc : Nat) (mf : Nat) (me : Nat) (mg : Nat) (mh : Nat) (mu : Nat) (k : Nat) (n : Nat) (pn : Nat) (nx : Nat) (cd : Int32) (ep : Int32) (M : mm_T) (wi : Int32) (jb : Int32) (fp : Int32) (tf : Int32) (tt : Int32) (fi : Int32) (ln : Int32) (bx : Int32) (pr : Nat → Int32) (tk : Nat → Int32) (le : Nat → Int32) (co : Nat → Int32) (fr : Nat → Int32) (em : Nat → Int32) (nb : Nat → Int32) (su : Nat → Int32) (m9 : Int32) (hk : k ≤ 9) (hn : n ≤ 9) (hm : m9 < -1) : sd_V l D (tyL cI cZ cQ) y_M_stopAfter b_M_stopAfter 2 ({ frames := 0, cells := 0, slots := 0, locals := 0 }) [.ref qm, .int (m9)] (mW cI cZ qm mp mt ml mc mf me mg mh mu (cd) (nI k) (nI n) (nI (pn)) (nI (nx)) (ep) (nI (M.1)) (M.2.2.1) (M.2.2.2) (wi) (jb) (fp) (tf) (tt) (fi) (ln) (bx) (1000) (pr) (1000) (tk) (8) (le) (576) (co) (576) (fr) (10) (em) (192) (M.2.1) (10) (nb) (10) (su)) (mW cI cZ qm mp mt ml mc mf me mg mh mu (1) (nI k) (nI n) (nI (pn)) (nI (nx)) (ep) (nI (M.1)) (M.2.2.1) (M.2.2.2) (wi) (jb) (fp) (tf) (tt) (fi) (ln) (bx) (1000) (pr) (1000) (tk) (8) (le) (576) (co) (576) (fr) (10) (em) (192) (M.2.1) (10) (nb) (10) (su)) := by
  refine sd_ofV (by decide) (Nat.le_of_ble_eq_true rfl) ?_
  intro p e s m below meth c A ls hx hb hr hml hlk hown hts hK hP hD hA hS hl
  have hl : lv_has ls 2 [(0, .ref qm), (1, .int (m9))] := hl
  refine lv_aload_n hx hb d_M_stopAfter_0 rfl (lv_at hl 0 rfl) ?_
  refine lv_iload_n hx hb d_M_stopAfter_1 rfl (lv_at hl 1 rfl) ?_
  refine lv_iconst (v := (-1)) hx hb d_M_stopAfter_2 (by decide) ?_
  refine lv_icmp_ge (tgt := 10) hx hb d_M_stopAfter_3 rfl (fun hc3 => ?_) (fun hc3 => ?_)
  · skip
    exact absurd hm (Int32.not_lt.mpr hc3)
  · skip
    refine lv_iconst (v := 1) hx hb d_M_stopAfter_6 (by decide) ?_
    refine lv_goto (tgt := 11) hx hb d_M_stopAfter_7 rfl ?_
    refine va_put (D := D) (ci := 5) (v := .int (1)) (ty := .int) (C := R_M) (T := F_M) (N := 26) hx hb hts wl_M t_M t_M_ok n_M hown hK hP hD hS 0 rfl rfl 0 (by decide) (hts _ wf_M_51) (fun _ h9 => h9) rfl (by decide +kernel) rfl rfl (Nat.le_of_ble_eq_true rfl) d_M_stopAfter_11 (fun H locs hP hD hS => ?_)
    have hP : va_P D cls (mW cI cZ qm mp mt ml mc mf me mg mh mu (1) (nI k) (nI n) (nI (pn)) (nI (nx)) (ep) (nI (M.1)) (M.2.2.1) (M.2.2.2) (wi) (jb) (fp) (tf) (tt) (fi) (ln) (bx) (1000) (pr) (1000) (tk) (8) (le) (576) (co) (576) (fr) (10) (em) (192) (M.2.1) (10) (nb) (10) (su)) H := hP
    have hD : va_D A (mW cI cZ qm mp mt ml mc mf me mg mh mu (1) (nI k) (nI n) (nI (pn)) (nI (nx)) (ep) (nI (M.1)) (M.2.2.1) (M.2.2.2) (wi) (jb) (fp) (tf) (tt) (fi) (ln) (bx) (1000) (pr) (1000) (tk) (8) (le) (576) (co) (576) (fr) (10) (em) (192) (M.2.1) (10) (nb) (10) (su)) := hD
    refine lv_aload_n hx hb d_M_stopAfter_14 rfl (lv_at hl 0 rfl) ?_
    refine lv_iload_n hx hb d_M_stopAfter_15 rfl (lv_at hl 1 rfl) ?_
    refine lv_iconst (v := (-1)) hx hb d_M_stopAfter_16 (by decide) ?_
    refine lv_icmp_ge (tgt := 27) hx hb d_M_stopAfter_17 rfl (fun hc17 => ?_) (fun hc17 => ?_)
    · skip
      exact absurd hm (Int32.not_lt.mpr hc17)
    · skip
      refine lv_aload_n hx hb d_M_stopAfter_20 rfl (lv_at hl 0 rfl) ?_
      refine va_get (D := D) (ci := 5) (v := .int (wi)) (C := R_M) (T := F_M) (N := 26) hx hb hts wl_M hown hK hP 0 rfl rfl 16 (by decide) (hts _ wf_M_36) (fun _ h9 => h9) rfl d_M_stopAfter_21 ?_
      refine lv_goto (tgt := 28) hx hb d_M_stopAfter_24 rfl ?_
      refine va_put (D := D) (ci := 5) (v := .int (wi)) (ty := .int) (C := R_M) (T := F_M) (N := 26) hx hb hts wl_M t_M t_M_ok n_M hown hK hP hD hS 0 rfl rfl 16 (by decide) (hts _ wf_M_36) (fun _ h9 => h9) rfl (by decide +kernel) rfl rfl (Nat.le_of_ble_eq_true rfl) d_M_stopAfter_28 (fun H locs hP hD hS => ?_)
      have hP : va_P D cls (mW cI cZ qm mp mt ml mc mf me mg mh mu (1) (nI k) (nI n) (nI (pn)) (nI (nx)) (ep) (nI (M.1)) (M.2.2.1) (M.2.2.2) (wi) (jb) (fp) (tf) (tt) (fi) (ln) (bx) (1000) (pr) (1000) (tk) (8) (le) (576) (co) (576) (fr) (10) (em) (192) (M.2.1) (10) (nb) (10) (su)) H := hP
      have hD : va_D A (mW cI cZ qm mp mt ml mc mf me mg mh mu (1) (nI k) (nI n) (nI (pn)) (nI (nx)) (ep) (nI (M.1)) (M.2.2.1) (M.2.2.2) (wi) (jb) (fp) (tf) (tt) (fi) (ln) (bx) (1000) (pr) (1000) (tk) (8) (le) (576) (co) (576) (fr) (10) (em) (192) (M.2.1) (10) (nb) (10) (su)) := hD
      exact sd_vret hx hb hr hlk hP hS (Nat.le_of_ble_eq_true rfl) (Nat.le_of_ble_eq_true rfl) d_M_stopAfter_31
set_option maxHeartbeats 4000000 in
set_option maxRecDepth 100000 in
theorem c_M_stopAfter_0 (l : Launch) (D : va_G) (cI cZ cQ : ClassId) (qm : Nat) (mp : Nat) (mt : Nat) (ml : Nat) (mc : Nat) (mf : Nat) (me : Nat) (mg : Nat) (mh : Nat) (mu : Nat) (k : Nat) (n : Nat) (pn : Nat) (nx : Nat) (cd : Int32) (ep : Int32) (M : mm_T) (wi : Int32) (jb : Int32) (fp : Int32) (tf : Int32) (tt : Int32) (fi : Int32) (ln : Int32) (bx : Int32) (pr : Nat → Int32) (tk : Nat → Int32) (le : Nat → Int32) (co : Nat → Int32) (fr : Nat → Int32) (em : Nat → Int32) (nb : Nat → Int32) (su : Nat → Int32) (m9 : Int32) (hk : k ≤ 9) (hn : n ≤ 9) (hm : ¬ m9 < -1) : sd_V l D (tyL cI cZ cQ) y_M_stopAfter b_M_stopAfter 2 ({ frames := 0, cells := 0, slots := 0, locals := 0 }) [.ref qm, .int (m9)] (mW cI cZ qm mp mt ml mc mf me mg mh mu (cd) (nI k) (nI n) (nI (pn)) (nI (nx)) (ep) (nI (M.1)) (M.2.2.1) (M.2.2.2) (wi) (jb) (fp) (tf) (tt) (fi) (ln) (bx) (1000) (pr) (1000) (tk) (8) (le) (576) (co) (576) (fr) (10) (em) (192) (M.2.1) (10) (nb) (10) (su)) (mW cI cZ qm mp mt ml mc mf me mg mh mu (0) (nI k) (nI n) (nI (pn)) (nI (nx)) (ep) (nI (M.1)) (M.2.2.1) (M.2.2.2) (m9) (jb) (fp) (tf) (tt) (fi) (ln) (bx) (1000) (pr) (1000) (tk) (8) (le) (576) (co) (576) (fr) (10) (em) (192) (M.2.1) (10) (nb) (10) (su)) := by
  refine sd_ofV (by decide) (Nat.le_of_ble_eq_true rfl) ?_
  intro p e s m below meth c A ls hx hb hr hml hlk hown hts hK hP hD hA hS hl
  have hl : lv_has ls 2 [(0, .ref qm), (1, .int (m9))] := hl
  refine lv_aload_n hx hb d_M_stopAfter_0 rfl (lv_at hl 0 rfl) ?_
  refine lv_iload_n hx hb d_M_stopAfter_1 rfl (lv_at hl 1 rfl) ?_
  refine lv_iconst (v := (-1)) hx hb d_M_stopAfter_2 (by decide) ?_
  refine lv_icmp_ge (tgt := 10) hx hb d_M_stopAfter_3 rfl (fun hc3 => ?_) (fun hc3 => ?_)
  · skip
    refine lv_iconst (v := 0) hx hb d_M_stopAfter_10 (by decide) ?_
    refine va_put (D := D) (ci := 5) (v := .int (0)) (ty := .int) (C := R_M) (T := F_M) (N := 26) hx hb hts wl_M t_M t_M_ok n_M hown hK hP hD hS 0 rfl rfl 0 (by decide) (hts _ wf_M_51) (fun _ h9 => h9) rfl (by decide +kernel) rfl rfl (Nat.le_of_ble_eq_true rfl) d_M_stopAfter_11 (fun H locs hP hD hS => ?_)
    have hP : va_P D cls (mW cI cZ qm mp mt ml mc mf me mg mh mu (0) (nI k) (nI n) (nI (pn)) (nI (nx)) (ep) (nI (M.1)) (M.2.2.1) (M.2.2.2) (wi) (jb) (fp) (tf) (tt) (fi) (ln) (bx) (1000) (pr) (1000) (tk) (8) (le) (576) (co) (576) (fr) (10) (em) (192) (M.2.1) (10) (nb) (10) (su)) H := hP
    have hD : va_D A (mW cI cZ qm mp mt ml mc mf me mg mh mu (0) (nI k) (nI n) (nI (pn)) (nI (nx)) (ep) (nI (M.1)) (M.2.2.1) (M.2.2.2) (wi) (jb) (fp) (tf) (tt) (fi) (ln) (bx) (1000) (pr) (1000) (tk) (8) (le) (576) (co) (576) (fr) (10) (em) (192) (M.2.1) (10) (nb) (10) (su)) := hD
    refine lv_aload_n hx hb d_M_stopAfter_14 rfl (lv_at hl 0 rfl) ?_
    refine lv_iload_n hx hb d_M_stopAfter_15 rfl (lv_at hl 1 rfl) ?_
    refine lv_iconst (v := (-1)) hx hb d_M_stopAfter_16 (by decide) ?_
    refine lv_icmp_ge (tgt := 27) hx hb d_M_stopAfter_17 rfl (fun hc17 => ?_) (fun hc17 => ?_)
    · skip
      refine lv_iload_n hx hb d_M_stopAfter_27 rfl (lv_at hl 1 rfl) ?_
      refine va_put (D := D) (ci := 5) (v := .int (m9)) (ty := .int) (C := R_M) (T := F_M) (N := 26) hx hb hts wl_M t_M t_M_ok n_M hown hK hP hD hS 0 rfl rfl 16 (by decide) (hts _ wf_M_36) (fun _ h9 => h9) rfl (by decide +kernel) rfl rfl (Nat.le_of_ble_eq_true rfl) d_M_stopAfter_28 (fun H locs hP hD hS => ?_)
      have hP : va_P D cls (mW cI cZ qm mp mt ml mc mf me mg mh mu (0) (nI k) (nI n) (nI (pn)) (nI (nx)) (ep) (nI (M.1)) (M.2.2.1) (M.2.2.2) (m9) (jb) (fp) (tf) (tt) (fi) (ln) (bx) (1000) (pr) (1000) (tk) (8) (le) (576) (co) (576) (fr) (10) (em) (192) (M.2.1) (10) (nb) (10) (su)) H := hP
      have hD : va_D A (mW cI cZ qm mp mt ml mc mf me mg mh mu (0) (nI k) (nI n) (nI (pn)) (nI (nx)) (ep) (nI (M.1)) (M.2.2.1) (M.2.2.2) (m9) (jb) (fp) (tf) (tt) (fi) (ln) (bx) (1000) (pr) (1000) (tk) (8) (le) (576) (co) (576) (fr) (10) (em) (192) (M.2.1) (10) (nb) (10) (su)) := hD
      exact sd_vret hx hb hr hlk hP hS (Nat.le_of_ble_eq_true rfl) (Nat.le_of_ble_eq_true rfl) d_M_stopAfter_31
    · skip
      exact absurd (Int32.not_lt.mp hm) hc17
  · skip
    exact absurd (Int32.not_lt.mp hm) hc3
set_option maxHeartbeats 4000000 in
set_option maxRecDepth 100000 in
theorem c_M_resume_0 (l : Launch) (D : va_G) (cI cZ cQ : ClassId) (qm : Nat) (mp : Nat) (mt : Nat) (ml : Nat) (mc : Nat) (mf : Nat) (me : Nat) (mg : Nat) (mh : Nat) (mu : Nat) (k : Nat) (n : Nat) (pn : Nat) (nx : Nat) (cd : Int32) (ep : Int32) (M : mm_T) (wi : Int32) (jb : Int32) (fp : Int32) (tf : Int32) (tt : Int32) (fi : Int32) (ln : Int32) (bx : Int32) (pr : Nat → Int32) (tk : Nat → Int32) (le : Nat → Int32) (co : Nat → Int32) (fr : Nat → Int32) (em : Nat → Int32) (nb : Nat → Int32) (su : Nat → Int32) (hk : k ≤ 9) (hn : n ≤ 9) (hj : jb = 0) : sd_I l D (tyL cI cZ cQ) y_M_resume b_M_resume 1 (.int) ({ frames := 0, cells := 0, slots := 0, locals := 0 }) [.ref qm] (mW cI cZ qm mp mt ml mc mf me mg mh mu (cd) (nI k) (nI n) (nI (pn)) (nI (nx)) (ep) (nI (M.1)) (M.2.2.1) (M.2.2.2) (wi) (jb) (fp) (tf) (tt) (fi) (ln) (bx) (1000) (pr) (1000) (tk) (8) (le) (576) (co) (576) (fr) (10) (em) (192) (M.2.1) (10) (nb) (10) (su)) (0) (mW cI cZ qm mp mt ml mc mf me mg mh mu (0) (nI k) (nI n) (nI (pn)) (nI (nx)) (ep) (nI (M.1)) (M.2.2.1) (M.2.2.2) (wi) (jb) (fp) (tf) (tt) (fi) (ln) (bx) (1000) (pr) (1000) (tk) (8) (le) (576) (co) (576) (fr) (10) (em) (192) (M.2.1) (10) (nb) (10) (su)) := by
  refine sd_ofI (by decide) (Nat.le_of_ble_eq_true rfl) ?_
  intro p e s m below meth c A ls hx hb hr hml hlk hown hts hK hP hD hA hS hl
  have hl : lv_has ls 1 [(0, .ref qm)] := hl
  refine lv_aload_n hx hb d_M_resume_0 rfl (lv_at hl 0 rfl) ?_
  refine lv_iconst (v := 0) hx hb d_M_resume_1 (by decide) ?_
  refine va_put (D := D) (ci := 5) (v := .int (0)) (ty := .int) (C := R_M) (T := F_M) (N := 26) hx hb hts wl_M t_M t_M_ok n_M hown hK hP hD hS 0 rfl rfl 0 (by decide) (hts _ wf_M_51) (fun _ h9 => h9) rfl (by decide +kernel) rfl rfl (Nat.le_of_ble_eq_true rfl) d_M_resume_2 (fun H locs hP hD hS => ?_)
  have hP : va_P D cls (mW cI cZ qm mp mt ml mc mf me mg mh mu (0) (nI k) (nI n) (nI (pn)) (nI (nx)) (ep) (nI (M.1)) (M.2.2.1) (M.2.2.2) (wi) (jb) (fp) (tf) (tt) (fi) (ln) (bx) (1000) (pr) (1000) (tk) (8) (le) (576) (co) (576) (fr) (10) (em) (192) (M.2.1) (10) (nb) (10) (su)) H := hP
  have hD : va_D A (mW cI cZ qm mp mt ml mc mf me mg mh mu (0) (nI k) (nI n) (nI (pn)) (nI (nx)) (ep) (nI (M.1)) (M.2.2.1) (M.2.2.2) (wi) (jb) (fp) (tf) (tt) (fi) (ln) (bx) (1000) (pr) (1000) (tk) (8) (le) (576) (co) (576) (fr) (10) (em) (192) (M.2.1) (10) (nb) (10) (su)) := hD
  refine lv_aload_n hx hb d_M_resume_5 rfl (lv_at hl 0 rfl) ?_
  refine va_get (D := D) (ci := 5) (v := .int (jb)) (C := R_M) (T := F_M) (N := 26) hx hb hts wl_M hown hK hP 0 rfl rfl 17 (by decide) (hts _ wf_M_100) (fun _ h9 => h9) rfl d_M_resume_6 ?_
  refine lv_if_ne (tgt := 14) hx hb d_M_resume_9 rfl (fun hc9 => ?_) (fun hc9 => ?_)
  · skip
    exact absurd hj hc9
  · skip
    refine lv_iconst (v := 0) hx hb d_M_resume_12 (by decide) ?_
    exact sd_iret hx hb hr hlk hP hS (Nat.le_of_ble_eq_true rfl) (Nat.le_of_ble_eq_true rfl) (rfl) d_M_resume_13
set_option maxHeartbeats 4000000 in
set_option maxRecDepth 100000 in
theorem c_M_resume_1 (l : Launch) (D : va_G) (cI cZ cQ : ClassId) (qm : Nat) (mp : Nat) (mt : Nat) (ml : Nat) (mc : Nat) (mf : Nat) (me : Nat) (mg : Nat) (mh : Nat) (mu : Nat) (k : Nat) (n : Nat) (pn : Nat) (nx : Nat) (cd : Int32) (ep : Int32) (M : mm_T) (wi : Int32) (jb : Int32) (fp : Int32) (tf : Int32) (tt : Int32) (fi : Int32) (ln : Int32) (bx : Int32) (pr : Nat → Int32) (tk : Nat → Int32) (le : Nat → Int32) (co : Nat → Int32) (fr : Nat → Int32) (em : Nat → Int32) (nb : Nat → Int32) (su : Nat → Int32) (hk : k ≤ 9) (hn : n ≤ 9) (hj : ¬ jb = 0) (hfp : fp = 0) : sd_I l D (tyL cI cZ cQ) y_M_resume b_M_resume 1 (.int) ({ frames := 0, cells := 0, slots := 0, locals := 0 }) [.ref qm] (mW cI cZ qm mp mt ml mc mf me mg mh mu (cd) (nI k) (nI n) (nI (pn)) (nI (nx)) (ep) (nI (M.1)) (M.2.2.1) (M.2.2.2) (wi) (jb) (fp) (tf) (tt) (fi) (ln) (bx) (1000) (pr) (1000) (tk) (8) (le) (576) (co) (576) (fr) (10) (em) (192) (M.2.1) (10) (nb) (10) (su)) (1) (mW cI cZ qm mp mt ml mc mf me mg mh mu (0) (nI k) (nI n) (nI (pn)) (nI (nx)) (ep) (nI (M.1)) (M.2.2.1) (M.2.2.2) (wi) (0) (fp) (tf) (tt) (fi) (ln) (bx) (1000) (pr) (1000) (tk) (8) (le) (576) (co) (576) (fr) (10) (em) (192) (M.2.1) (10) (nb) (10) (su)) := by
  refine sd_ofI (by decide) (Nat.le_of_ble_eq_true rfl) ?_
  intro p e s m below meth c A ls hx hb hr hml hlk hown hts hK hP hD hA hS hl
  have hl : lv_has ls 1 [(0, .ref qm)] := hl
  refine lv_aload_n hx hb d_M_resume_0 rfl (lv_at hl 0 rfl) ?_
  refine lv_iconst (v := 0) hx hb d_M_resume_1 (by decide) ?_
  refine va_put (D := D) (ci := 5) (v := .int (0)) (ty := .int) (C := R_M) (T := F_M) (N := 26) hx hb hts wl_M t_M t_M_ok n_M hown hK hP hD hS 0 rfl rfl 0 (by decide) (hts _ wf_M_51) (fun _ h9 => h9) rfl (by decide +kernel) rfl rfl (Nat.le_of_ble_eq_true rfl) d_M_resume_2 (fun H locs hP hD hS => ?_)
  have hP : va_P D cls (mW cI cZ qm mp mt ml mc mf me mg mh mu (0) (nI k) (nI n) (nI (pn)) (nI (nx)) (ep) (nI (M.1)) (M.2.2.1) (M.2.2.2) (wi) (jb) (fp) (tf) (tt) (fi) (ln) (bx) (1000) (pr) (1000) (tk) (8) (le) (576) (co) (576) (fr) (10) (em) (192) (M.2.1) (10) (nb) (10) (su)) H := hP
  have hD : va_D A (mW cI cZ qm mp mt ml mc mf me mg mh mu (0) (nI k) (nI n) (nI (pn)) (nI (nx)) (ep) (nI (M.1)) (M.2.2.1) (M.2.2.2) (wi) (jb) (fp) (tf) (tt) (fi) (ln) (bx) (1000) (pr) (1000) (tk) (8) (le) (576) (co) (576) (fr) (10) (em) (192) (M.2.1) (10) (nb) (10) (su)) := hD
  refine lv_aload_n hx hb d_M_resume_5 rfl (lv_at hl 0 rfl) ?_
  refine va_get (D := D) (ci := 5) (v := .int (jb)) (C := R_M) (T := F_M) (N := 26) hx hb hts wl_M hown hK hP 0 rfl rfl 17 (by decide) (hts _ wf_M_100) (fun _ h9 => h9) rfl d_M_resume_6 ?_
  refine lv_if_ne (tgt := 14) hx hb d_M_resume_9 rfl (fun hc9 => ?_) (fun hc9 => ?_)
  · skip
    refine lv_aload_n hx hb d_M_resume_14 rfl (lv_at hl 0 rfl) ?_
    refine lv_iconst (v := 0) hx hb d_M_resume_15 (by decide) ?_
    refine va_put (D := D) (ci := 5) (v := .int (0)) (ty := .int) (C := R_M) (T := F_M) (N := 26) hx hb hts wl_M t_M t_M_ok n_M hown hK hP hD hS 0 rfl rfl 17 (by decide) (hts _ wf_M_100) (fun _ h9 => h9) rfl (by decide +kernel) rfl rfl (Nat.le_of_ble_eq_true rfl) d_M_resume_16 (fun H locs hP hD hS => ?_)
    have hP : va_P D cls (mW cI cZ qm mp mt ml mc mf me mg mh mu (0) (nI k) (nI n) (nI (pn)) (nI (nx)) (ep) (nI (M.1)) (M.2.2.1) (M.2.2.2) (wi) (0) (fp) (tf) (tt) (fi) (ln) (bx) (1000) (pr) (1000) (tk) (8) (le) (576) (co) (576) (fr) (10) (em) (192) (M.2.1) (10) (nb) (10) (su)) H := hP
    have hD : va_D A (mW cI cZ qm mp mt ml mc mf me mg mh mu (0) (nI k) (nI n) (nI (pn)) (nI (nx)) (ep) (nI (M.1)) (M.2.2.1) (M.2.2.2) (wi) (0) (fp) (tf) (tt) (fi) (ln) (bx) (1000) (pr) (1000) (tk) (8) (le) (576) (co) (576) (fr) (10) (em) (192) (M.2.1) (10) (nb) (10) (su)) := hD
    refine lv_aload_n hx hb d_M_resume_19 rfl (lv_at hl 0 rfl) ?_
    refine va_get (D := D) (ci := 5) (v := .int (fp)) (C := R_M) (T := F_M) (N := 26) hx hb hts wl_M hown hK hP 0 rfl rfl 18 (by decide) (hts _ wf_M_97) (fun _ h9 => h9) rfl d_M_resume_20 ?_
    refine lv_if_ne (tgt := 28) hx hb d_M_resume_23 rfl (fun hc23 => ?_) (fun hc23 => ?_)
    · skip
      exact absurd hfp hc23
    · skip
      refine lv_iconst (v := 1) hx hb d_M_resume_26 (by decide) ?_
      exact sd_iret hx hb hr hlk hP hS (Nat.le_of_ble_eq_true rfl) (Nat.le_of_ble_eq_true rfl) (rfl) d_M_resume_27
  · skip
    exact absurd hc9 hj
set_option maxHeartbeats 4000000 in
set_option maxRecDepth 100000 in
theorem c_M_resume_2 (l : Launch) (D : va_G) (cI cZ cQ : ClassId) (qm : Nat) (mp : Nat) (mt : Nat) (ml : Nat) (mc : Nat) (mf : Nat) (me : Nat) (mg : Nat) (mh : Nat) (mu : Nat) (k : Nat) (n : Nat) (pn : Nat) (nx : Nat) (cd : Int32) (ep : Int32) (M : mm_T) (wi : Int32) (jb : Int32) (fp : Int32) (fi : Int32) (ln : Int32) (bx : Int32) (pr : Nat → Int32) (tk : Nat → Int32) (le : Nat → Int32) (co : Nat → Int32) (fr : Nat → Int32) (em : Nat → Int32) (nb : Nat → Int32) (su : Nat → Int32) (f : Nat) (g : Nat) (hk : k ≤ 9) (hn : n ≤ 9) (hj : ¬ jb = 0) (hfp : ¬ fp = 0) (hT : M.1 + (g + 1 - f) < 2 ^ 31) (hf1 : f < 2 ^ 30) (hg1 : g < 2 ^ 30) : sd_I l D (tyL cI cZ cQ) y_M_resume b_M_resume 1 (.int) ({ frames := 2, cells := 0, slots := 0, locals := 45 }) [.ref qm] (mW cI cZ qm mp mt ml mc mf me mg mh mu (cd) (nI k) (nI n) (nI (pn)) (nI (nx)) (ep) (nI (M.1)) (M.2.2.1) (M.2.2.2) (wi) (jb) (fp) (nI f) (nI g) (fi) (ln) (bx) (1000) (pr) (1000) (tk) (8) (le) (576) (co) (576) (fr) (10) (em) (192) (M.2.1) (10) (nb) (10) (su)) (2) (mW cI cZ qm mp mt ml mc mf me mg mh mu (0) (nI k) (nI n) (nI (pn)) (nI (nx)) (ep) (nI ((mt_f (g + 1 - f) f ((M.1, M.2.1, M.2.2.1, 0), f)).1.1)) ((mt_f (g + 1 - f) f ((M.1, M.2.1, M.2.2.1, 0), f)).1.2.2.1) ((mt_f (g + 1 - f) f ((M.1, M.2.1, M.2.2.1, 0), f)).1.2.2.2) (wi) (0) (fp) (nI (mt_f (g + 1 - f) f ((M.1, M.2.1, M.2.2.1, 0), f)).2) (nI g) (fi) (ln) (bx) (1000) (pr) (1000) (tk) (8) (le) (576) (co) (576) (fr) (10) (em) (192) ((mt_f (g + 1 - f) f ((M.1, M.2.1, M.2.2.1, 0), f)).1.2.1) (10) (nb) (10) (su)) := by
  refine sd_ofI (by decide) (Nat.le_of_ble_eq_true rfl) ?_
  intro p e s m below meth c A ls hx hb hr hml hlk hown hts hK hP hD hA hS hl
  have hl : lv_has ls 1 [(0, .ref qm)] := hl
  refine lv_aload_n hx hb d_M_resume_0 rfl (lv_at hl 0 rfl) ?_
  refine lv_iconst (v := 0) hx hb d_M_resume_1 (by decide) ?_
  refine va_put (D := D) (ci := 5) (v := .int (0)) (ty := .int) (C := R_M) (T := F_M) (N := 26) hx hb hts wl_M t_M t_M_ok n_M hown hK hP hD hS 0 rfl rfl 0 (by decide) (hts _ wf_M_51) (fun _ h9 => h9) rfl (by decide +kernel) rfl rfl (Nat.le_of_ble_eq_true rfl) d_M_resume_2 (fun H locs hP hD hS => ?_)
  have hP : va_P D cls (mW cI cZ qm mp mt ml mc mf me mg mh mu (0) (nI k) (nI n) (nI (pn)) (nI (nx)) (ep) (nI (M.1)) (M.2.2.1) (M.2.2.2) (wi) (jb) (fp) (nI f) (nI g) (fi) (ln) (bx) (1000) (pr) (1000) (tk) (8) (le) (576) (co) (576) (fr) (10) (em) (192) (M.2.1) (10) (nb) (10) (su)) H := hP
  have hD : va_D A (mW cI cZ qm mp mt ml mc mf me mg mh mu (0) (nI k) (nI n) (nI (pn)) (nI (nx)) (ep) (nI (M.1)) (M.2.2.1) (M.2.2.2) (wi) (jb) (fp) (nI f) (nI g) (fi) (ln) (bx) (1000) (pr) (1000) (tk) (8) (le) (576) (co) (576) (fr) (10) (em) (192) (M.2.1) (10) (nb) (10) (su)) := hD
  refine lv_aload_n hx hb d_M_resume_5 rfl (lv_at hl 0 rfl) ?_
  refine va_get (D := D) (ci := 5) (v := .int (jb)) (C := R_M) (T := F_M) (N := 26) hx hb hts wl_M hown hK hP 0 rfl rfl 17 (by decide) (hts _ wf_M_100) (fun _ h9 => h9) rfl d_M_resume_6 ?_
  refine lv_if_ne (tgt := 14) hx hb d_M_resume_9 rfl (fun hc9 => ?_) (fun hc9 => ?_)
  · skip
    refine lv_aload_n hx hb d_M_resume_14 rfl (lv_at hl 0 rfl) ?_
    refine lv_iconst (v := 0) hx hb d_M_resume_15 (by decide) ?_
    refine va_put (D := D) (ci := 5) (v := .int (0)) (ty := .int) (C := R_M) (T := F_M) (N := 26) hx hb hts wl_M t_M t_M_ok n_M hown hK hP hD hS 0 rfl rfl 17 (by decide) (hts _ wf_M_100) (fun _ h9 => h9) rfl (by decide +kernel) rfl rfl (Nat.le_of_ble_eq_true rfl) d_M_resume_16 (fun H locs hP hD hS => ?_)
    have hP : va_P D cls (mW cI cZ qm mp mt ml mc mf me mg mh mu (0) (nI k) (nI n) (nI (pn)) (nI (nx)) (ep) (nI (M.1)) (M.2.2.1) (M.2.2.2) (wi) (0) (fp) (nI f) (nI g) (fi) (ln) (bx) (1000) (pr) (1000) (tk) (8) (le) (576) (co) (576) (fr) (10) (em) (192) (M.2.1) (10) (nb) (10) (su)) H := hP
    have hD : va_D A (mW cI cZ qm mp mt ml mc mf me mg mh mu (0) (nI k) (nI n) (nI (pn)) (nI (nx)) (ep) (nI (M.1)) (M.2.2.1) (M.2.2.2) (wi) (0) (fp) (nI f) (nI g) (fi) (ln) (bx) (1000) (pr) (1000) (tk) (8) (le) (576) (co) (576) (fr) (10) (em) (192) (M.2.1) (10) (nb) (10) (su)) := hD
    refine lv_aload_n hx hb d_M_resume_19 rfl (lv_at hl 0 rfl) ?_
    refine va_get (D := D) (ci := 5) (v := .int (fp)) (C := R_M) (T := F_M) (N := 26) hx hb hts wl_M hown hK hP 0 rfl rfl 18 (by decide) (hts _ wf_M_97) (fun _ h9 => h9) rfl d_M_resume_20 ?_
    refine lv_if_ne (tgt := 28) hx hb d_M_resume_23 rfl (fun hc23 => ?_) (fun hc23 => ?_)
    · skip
      refine lv_aload_n hx hb d_M_resume_28 rfl (lv_at hl 0 rfl) ?_
      refine lv_iconst (v := 0) hx hb d_M_resume_29 (by decide) ?_
      refine va_put (D := D) (ci := 5) (v := .int (0)) (ty := .boolean) (C := R_M) (T := F_M) (N := 26) hx hb hts wl_M t_M t_M_ok n_M hown hK hP hD hS 0 rfl rfl 15 (by decide) (hts _ wf_M_66) (fun _ h9 => h9) rfl (by decide +kernel) rfl rfl (Nat.le_of_ble_eq_true rfl) d_M_resume_30 (fun H locs hP hD hS => ?_)
      have hP : va_P D cls (mW cI cZ qm mp mt ml mc mf me mg mh mu (0) (nI k) (nI n) (nI (pn)) (nI (nx)) (ep) (nI (M.1)) (M.2.2.1) (0) (wi) (0) (fp) (nI f) (nI g) (fi) (ln) (bx) (1000) (pr) (1000) (tk) (8) (le) (576) (co) (576) (fr) (10) (em) (192) (M.2.1) (10) (nb) (10) (su)) H := hP
      have hD : va_D A (mW cI cZ qm mp mt ml mc mf me mg mh mu (0) (nI k) (nI n) (nI (pn)) (nI (nx)) (ep) (nI (M.1)) (M.2.2.1) (0) (wi) (0) (fp) (nI f) (nI g) (fi) (ln) (bx) (1000) (pr) (1000) (tk) (8) (le) (576) (co) (576) (fr) (10) (em) (192) (M.2.1) (10) (nb) (10) (su)) := hD
      refine lv_aload_n hx hb d_M_resume_33 rfl (lv_at hl 0 rfl) ?_
      refine sd_allVV (As := []) (rest := []) (w1 := (mW cI cZ qm mp mt ml mc mf me mg mh mu (0) (nI k) (nI n) (nI (pn)) (nI (nx)) (ep) (nI ((mt_f (g + 1 - f) f ((M.1, M.2.1, M.2.2.1, 0), f)).1.1)) ((mt_f (g + 1 - f) f ((M.1, M.2.1, M.2.2.1, 0), f)).1.2.2.1) ((mt_f (g + 1 - f) f ((M.1, M.2.1, M.2.2.1, 0), f)).1.2.2.2) (wi) (0) (fp) (nI (mt_f (g + 1 - f) f ((M.1, M.2.1, M.2.2.1, 0), f)).2) (nI g) (fi) (ln) (bx) (1000) (pr) (1000) (tk) (8) (le) (576) (co) (576) (fr) (10) (em) (192) ((mt_f (g + 1 - f) f ((M.1, M.2.1, M.2.2.1, 0), f)).1.2.1) (10) (nb) (10) (su))) (c_M_tidy l D cI cZ cQ (qm) (mp) (mt) (ml) (mc) (mf) (me) (mg) (mh) (mu) (k) (n) (pn) (nx) (0) (ep) ((M.1, M.2.1, M.2.2.1, 0)) (wi) (0) (fp) (fi) (ln) (bx) (pr) (tk) (le) (co) (fr) (em) (nb) (su) (f) (g) (hk) (hn) (hT) (hf1) (hg1)) ⟨wc_M_tidy, wm_M_126, wi_M, by decide, by decide, show (parseMethodDescriptor y_M_tidy.desc).map (fun d => d.parameters.length) = some 0 by decide +kernel⟩ wo_M_tidy wz_M_tidy hx hb hml hown hts hl.1 ⟨Nat.le_of_ble_eq_true rfl, Nat.le_of_ble_eq_true rfl⟩ ⟨Nat.le_of_ble_eq_true rfl, Nat.le_of_ble_eq_true rfl⟩ hK hP hD hS hA (rfl) (q0 := 0) rfl rfl rfl (Nat.le_of_ble_eq_true rfl) d_M_resume_34 (fun H locs hP hD hS => ?_)
      have hP : va_P D cls (mW cI cZ qm mp mt ml mc mf me mg mh mu (0) (nI k) (nI n) (nI (pn)) (nI (nx)) (ep) (nI ((mt_f (g + 1 - f) f ((M.1, M.2.1, M.2.2.1, 0), f)).1.1)) ((mt_f (g + 1 - f) f ((M.1, M.2.1, M.2.2.1, 0), f)).1.2.2.1) ((mt_f (g + 1 - f) f ((M.1, M.2.1, M.2.2.1, 0), f)).1.2.2.2) (wi) (0) (fp) (nI (mt_f (g + 1 - f) f ((M.1, M.2.1, M.2.2.1, 0), f)).2) (nI g) (fi) (ln) (bx) (1000) (pr) (1000) (tk) (8) (le) (576) (co) (576) (fr) (10) (em) (192) ((mt_f (g + 1 - f) f ((M.1, M.2.1, M.2.2.1, 0), f)).1.2.1) (10) (nb) (10) (su)) H := hP
      have hD : va_D A (mW cI cZ qm mp mt ml mc mf me mg mh mu (0) (nI k) (nI n) (nI (pn)) (nI (nx)) (ep) (nI ((mt_f (g + 1 - f) f ((M.1, M.2.1, M.2.2.1, 0), f)).1.1)) ((mt_f (g + 1 - f) f ((M.1, M.2.1, M.2.2.1, 0), f)).1.2.2.1) ((mt_f (g + 1 - f) f ((M.1, M.2.1, M.2.2.1, 0), f)).1.2.2.2) (wi) (0) (fp) (nI (mt_f (g + 1 - f) f ((M.1, M.2.1, M.2.2.1, 0), f)).2) (nI g) (fi) (ln) (bx) (1000) (pr) (1000) (tk) (8) (le) (576) (co) (576) (fr) (10) (em) (192) ((mt_f (g + 1 - f) f ((M.1, M.2.1, M.2.2.1, 0), f)).1.2.1) (10) (nb) (10) (su)) := hD
      refine lv_iconst (v := 2) hx hb d_M_resume_37 (by decide) ?_
      exact sd_iret hx hb hr hlk hP hS (Nat.le_of_ble_eq_true rfl) (Nat.le_of_ble_eq_true rfl) (rfl) d_M_resume_38
    · skip
      exact absurd hc23 hfp
  · skip
    exact absurd hc9 hj
set_option maxHeartbeats 4000000 in
set_option maxRecDepth 100000 in
theorem c_M_stopped_0 (l : Launch) (D : va_G) (cI cZ cQ : ClassId) (qm : Nat) (mp : Nat) (mt : Nat) (ml : Nat) (mc : Nat) (mf : Nat) (me : Nat) (mg : Nat) (mh : Nat) (mu : Nat) (k : Nat) (n : Nat) (pn : Nat) (nx : Nat) (cd : Int32) (ep : Int32) (M : mm_T) (wi : Int32) (jb : Int32) (fp : Int32) (tf : Int32) (tt : Int32) (fi : Int32) (ln : Int32) (bx : Int32) (pr : Nat → Int32) (tk : Nat → Int32) (le : Nat → Int32) (co : Nat → Int32) (fr : Nat → Int32) (em : Nat → Int32) (nb : Nat → Int32) (su : Nat → Int32) (hk : k ≤ 9) (hn : n ≤ 9) (hj : jb ≤ 0) : sd_I l D (tyL cI cZ cQ) y_M_stopped b_M_stopped 1 (.boolean) ({ frames := 0, cells := 0, slots := 0, locals := 0 }) [.ref qm] (mW cI cZ qm mp mt ml mc mf me mg mh mu (cd) (nI k) (nI n) (nI (pn)) (nI (nx)) (ep) (nI (M.1)) (M.2.2.1) (M.2.2.2) (wi) (jb) (fp) (tf) (tt) (fi) (ln) (bx) (1000) (pr) (1000) (tk) (8) (le) (576) (co) (576) (fr) (10) (em) (192) (M.2.1) (10) (nb) (10) (su)) (0) (mW cI cZ qm mp mt ml mc mf me mg mh mu (0) (nI k) (nI n) (nI (pn)) (nI (nx)) (ep) (nI (M.1)) (M.2.2.1) (M.2.2.2) (wi) (jb) (fp) (tf) (tt) (fi) (ln) (bx) (1000) (pr) (1000) (tk) (8) (le) (576) (co) (576) (fr) (10) (em) (192) (M.2.1) (10) (nb) (10) (su)) := by
  refine sd_ofI (by decide) (Nat.le_of_ble_eq_true rfl) ?_
  intro p e s m below meth c A ls hx hb hr hml hlk hown hts hK hP hD hA hS hl
  have hl : lv_has ls 1 [(0, .ref qm)] := hl
  refine lv_aload_n hx hb d_M_stopped_0 rfl (lv_at hl 0 rfl) ?_
  refine lv_iconst (v := 0) hx hb d_M_stopped_1 (by decide) ?_
  refine va_put (D := D) (ci := 5) (v := .int (0)) (ty := .int) (C := R_M) (T := F_M) (N := 26) hx hb hts wl_M t_M t_M_ok n_M hown hK hP hD hS 0 rfl rfl 0 (by decide) (hts _ wf_M_51) (fun _ h9 => h9) rfl (by decide +kernel) rfl rfl (Nat.le_of_ble_eq_true rfl) d_M_stopped_2 (fun H locs hP hD hS => ?_)
  have hP : va_P D cls (mW cI cZ qm mp mt ml mc mf me mg mh mu (0) (nI k) (nI n) (nI (pn)) (nI (nx)) (ep) (nI (M.1)) (M.2.2.1) (M.2.2.2) (wi) (jb) (fp) (tf) (tt) (fi) (ln) (bx) (1000) (pr) (1000) (tk) (8) (le) (576) (co) (576) (fr) (10) (em) (192) (M.2.1) (10) (nb) (10) (su)) H := hP
  have hD : va_D A (mW cI cZ qm mp mt ml mc mf me mg mh mu (0) (nI k) (nI n) (nI (pn)) (nI (nx)) (ep) (nI (M.1)) (M.2.2.1) (M.2.2.2) (wi) (jb) (fp) (tf) (tt) (fi) (ln) (bx) (1000) (pr) (1000) (tk) (8) (le) (576) (co) (576) (fr) (10) (em) (192) (M.2.1) (10) (nb) (10) (su)) := hD
  refine lv_aload_n hx hb d_M_stopped_5 rfl (lv_at hl 0 rfl) ?_
  refine va_get (D := D) (ci := 5) (v := .int (jb)) (C := R_M) (T := F_M) (N := 26) hx hb hts wl_M hown hK hP 0 rfl rfl 17 (by decide) (hts _ wf_M_100) (fun _ h9 => h9) rfl d_M_stopped_6 ?_
  refine lv_if_le (tgt := 16) hx hb d_M_stopped_9 rfl (fun hc9 => ?_) (fun hc9 => ?_)
  · skip
    refine lv_iconst (v := 0) hx hb d_M_stopped_16 (by decide) ?_
    exact sd_zret hx hb hr hlk hP hS (Nat.le_of_ble_eq_true rfl) (Nat.le_of_ble_eq_true rfl) (rfl) (by decide) d_M_stopped_17
  · skip
    exact absurd hj hc9
set_option maxHeartbeats 4000000 in
set_option maxRecDepth 100000 in
theorem c_M_stopped_1 (l : Launch) (D : va_G) (cI cZ cQ : ClassId) (qm : Nat) (mp : Nat) (mt : Nat) (ml : Nat) (mc : Nat) (mf : Nat) (me : Nat) (mg : Nat) (mh : Nat) (mu : Nat) (k : Nat) (n : Nat) (pn : Nat) (nx : Nat) (cd : Int32) (ep : Int32) (M : mm_T) (wi : Int32) (jb : Int32) (fp : Int32) (tf : Int32) (tt : Int32) (fi : Int32) (ln : Int32) (bx : Int32) (pr : Nat → Int32) (tk : Nat → Int32) (le : Nat → Int32) (co : Nat → Int32) (fr : Nat → Int32) (em : Nat → Int32) (nb : Nat → Int32) (su : Nat → Int32) (hk : k ≤ 9) (hn : n ≤ 9) (hj : ¬ jb ≤ 0) : sd_I l D (tyL cI cZ cQ) y_M_stopped b_M_stopped 1 (.boolean) ({ frames := 0, cells := 0, slots := 0, locals := 0 }) [.ref qm] (mW cI cZ qm mp mt ml mc mf me mg mh mu (cd) (nI k) (nI n) (nI (pn)) (nI (nx)) (ep) (nI (M.1)) (M.2.2.1) (M.2.2.2) (wi) (jb) (fp) (tf) (tt) (fi) (ln) (bx) (1000) (pr) (1000) (tk) (8) (le) (576) (co) (576) (fr) (10) (em) (192) (M.2.1) (10) (nb) (10) (su)) (1) (mW cI cZ qm mp mt ml mc mf me mg mh mu (0) (nI k) (nI n) (nI (pn)) (nI (nx)) (ep) (nI (M.1)) (M.2.2.1) (M.2.2.2) (wi) (jb) (fp) (tf) (tt) (fi) (ln) (bx) (1000) (pr) (1000) (tk) (8) (le) (576) (co) (576) (fr) (10) (em) (192) (M.2.1) (10) (nb) (10) (su)) := by
  refine sd_ofI (by decide) (Nat.le_of_ble_eq_true rfl) ?_
  intro p e s m below meth c A ls hx hb hr hml hlk hown hts hK hP hD hA hS hl
  have hl : lv_has ls 1 [(0, .ref qm)] := hl
  refine lv_aload_n hx hb d_M_stopped_0 rfl (lv_at hl 0 rfl) ?_
  refine lv_iconst (v := 0) hx hb d_M_stopped_1 (by decide) ?_
  refine va_put (D := D) (ci := 5) (v := .int (0)) (ty := .int) (C := R_M) (T := F_M) (N := 26) hx hb hts wl_M t_M t_M_ok n_M hown hK hP hD hS 0 rfl rfl 0 (by decide) (hts _ wf_M_51) (fun _ h9 => h9) rfl (by decide +kernel) rfl rfl (Nat.le_of_ble_eq_true rfl) d_M_stopped_2 (fun H locs hP hD hS => ?_)
  have hP : va_P D cls (mW cI cZ qm mp mt ml mc mf me mg mh mu (0) (nI k) (nI n) (nI (pn)) (nI (nx)) (ep) (nI (M.1)) (M.2.2.1) (M.2.2.2) (wi) (jb) (fp) (tf) (tt) (fi) (ln) (bx) (1000) (pr) (1000) (tk) (8) (le) (576) (co) (576) (fr) (10) (em) (192) (M.2.1) (10) (nb) (10) (su)) H := hP
  have hD : va_D A (mW cI cZ qm mp mt ml mc mf me mg mh mu (0) (nI k) (nI n) (nI (pn)) (nI (nx)) (ep) (nI (M.1)) (M.2.2.1) (M.2.2.2) (wi) (jb) (fp) (tf) (tt) (fi) (ln) (bx) (1000) (pr) (1000) (tk) (8) (le) (576) (co) (576) (fr) (10) (em) (192) (M.2.1) (10) (nb) (10) (su)) := hD
  refine lv_aload_n hx hb d_M_stopped_5 rfl (lv_at hl 0 rfl) ?_
  refine va_get (D := D) (ci := 5) (v := .int (jb)) (C := R_M) (T := F_M) (N := 26) hx hb hts wl_M hown hK hP 0 rfl rfl 17 (by decide) (hts _ wf_M_100) (fun _ h9 => h9) rfl d_M_stopped_6 ?_
  refine lv_if_le (tgt := 16) hx hb d_M_stopped_9 rfl (fun hc9 => ?_) (fun hc9 => ?_)
  · skip
    exact absurd hc9 hj
  · skip
    refine lv_iconst (v := 1) hx hb d_M_stopped_12 (by decide) ?_
    refine lv_goto (tgt := 17) hx hb d_M_stopped_13 rfl ?_
    exact sd_zret hx hb hr hlk hP hS (Nat.le_of_ble_eq_true rfl) (Nat.le_of_ble_eq_true rfl) (rfl) (by decide) d_M_stopped_17
set_option maxHeartbeats 4000000 in
set_option maxRecDepth 100000 in
theorem c_M_length_1 (l : Launch) (D : va_G) (cI cZ cQ : ClassId) (qm : Nat) (mp : Nat) (mt : Nat) (ml : Nat) (mc : Nat) (mf : Nat) (me : Nat) (mg : Nat) (mh : Nat) (mu : Nat) (k : Nat) (n : Nat) (pn : Nat) (nx : Nat) (cd : Int32) (ep : Int32) (M : mm_T) (wi : Int32) (jb : Int32) (fp : Int32) (tf : Int32) (tt : Int32) (fi : Int32) (ln : Int32) (bx : Int32) (pr : Nat → Int32) (tk : Nat → Int32) (le : Nat → Int32) (co : Nat → Int32) (fr : Nat → Int32) (em : Nat → Int32) (nb : Nat → Int32) (su : Nat → Int32) (f : Int32) (hk : k ≤ 9) (hn : n ≤ 9) (hf : ¬ (0 ≤ f ∧ f ≤ 7)) : sd_I l D (tyL cI cZ cQ) y_M_length b_M_length 2 (.int) ({ frames := 1, cells := 0, slots := 0, locals := 20 }) [.ref qm, .int (f)] (mW cI cZ qm mp mt ml mc mf me mg mh mu (cd) (nI k) (nI n) (nI (pn)) (nI (nx)) (ep) (nI (M.1)) (M.2.2.1) (M.2.2.2) (wi) (jb) (fp) (tf) (tt) (fi) (ln) (bx) (1000) (pr) (1000) (tk) (8) (le) (576) (co) (576) (fr) (10) (em) (192) (M.2.1) (10) (nb) (10) (su)) (0) (mW cI cZ qm mp mt ml mc mf me mg mh mu (1) (nI k) (nI n) (nI (pn)) (nI (nx)) (ep) (nI (M.1)) (M.2.2.1) (M.2.2.2) (wi) (jb) (fp) (tf) (tt) (fi) (ln) (bx) (1000) (pr) (1000) (tk) (8) (le) (576) (co) (576) (fr) (10) (em) (192) (M.2.1) (10) (nb) (10) (su)) := by
  refine sd_ofI (by decide) (Nat.le_of_ble_eq_true rfl) ?_
  intro p e s m below meth c A ls hx hb hr hml hlk hown hts hK hP hD hA hS hl
  have hl : lv_has ls 2 [(0, .ref qm), (1, .int (f))] := hl
  refine lv_aload_n hx hb d_M_length_0 rfl (lv_at hl 0 rfl) ?_
  refine lv_iload_n hx hb d_M_length_1 rfl (lv_at hl 1 rfl) ?_
  refine sd_callSI (As := [.int (f)]) (rest := [.ref qm]) (cx := []) (w1 := []) (c_M_isFile_0 l D cI cZ cQ (f) (hf)) ⟨wc_M_isFile, wm_M_129, wi_M, by decide, by decide, show (parseMethodDescriptor y_M_isFile.desc).map (fun d => d.parameters.length) = some 1 by decide +kernel⟩ ws_M_isFile hx hb hml hown hts hl.1 ⟨Nat.le_of_ble_eq_true rfl, Nat.le_of_ble_eq_true rfl⟩ ⟨Nat.le_of_ble_eq_true rfl, Nat.le_of_ble_eq_true rfl⟩ hK hP hD hS hA [] rfl (by decide) rfl rfl rfl (Nat.le_of_ble_eq_true rfl) d_M_length_2 (fun H locs hP hD hS => ?_)
  have hP : va_P D cls (mW cI cZ qm mp mt ml mc mf me mg mh mu (cd) (nI k) (nI n) (nI (pn)) (nI (nx)) (ep) (nI (M.1)) (M.2.2.1) (M.2.2.2) (wi) (jb) (fp) (tf) (tt) (fi) (ln) (bx) (1000) (pr) (1000) (tk) (8) (le) (576) (co) (576) (fr) (10) (em) (192) (M.2.1) (10) (nb) (10) (su)) H := hP
  have hD : va_D A (mW cI cZ qm mp mt ml mc mf me mg mh mu (cd) (nI k) (nI n) (nI (pn)) (nI (nx)) (ep) (nI (M.1)) (M.2.2.1) (M.2.2.2) (wi) (jb) (fp) (tf) (tt) (fi) (ln) (bx) (1000) (pr) (1000) (tk) (8) (le) (576) (co) (576) (fr) (10) (em) (192) (M.2.1) (10) (nb) (10) (su)) := hD
  refine lv_if_eq (tgt := 12) hx hb d_M_length_5 rfl (fun hc5 => ?_) (fun hc5 => ?_)
  · skip
    refine lv_iconst (v := 1) hx hb d_M_length_12 (by decide) ?_
    refine va_put (D := D) (ci := 5) (v := .int (1)) (ty := .int) (C := R_M) (T := F_M) (N := 26) hx hb hts wl_M t_M t_M_ok n_M hown hK hP hD hS 0 rfl rfl 0 (by decide) (hts _ wf_M_51) (fun _ h9 => h9) rfl (by decide +kernel) rfl rfl (Nat.le_of_ble_eq_true rfl) d_M_length_13 (fun H locs hP hD hS => ?_)
    have hP : va_P D cls (mW cI cZ qm mp mt ml mc mf me mg mh mu (1) (nI k) (nI n) (nI (pn)) (nI (nx)) (ep) (nI (M.1)) (M.2.2.1) (M.2.2.2) (wi) (jb) (fp) (tf) (tt) (fi) (ln) (bx) (1000) (pr) (1000) (tk) (8) (le) (576) (co) (576) (fr) (10) (em) (192) (M.2.1) (10) (nb) (10) (su)) H := hP
    have hD : va_D A (mW cI cZ qm mp mt ml mc mf me mg mh mu (1) (nI k) (nI n) (nI (pn)) (nI (nx)) (ep) (nI (M.1)) (M.2.2.1) (M.2.2.2) (wi) (jb) (fp) (tf) (tt) (fi) (ln) (bx) (1000) (pr) (1000) (tk) (8) (le) (576) (co) (576) (fr) (10) (em) (192) (M.2.1) (10) (nb) (10) (su)) := hD
    refine lv_aload_n hx hb d_M_length_16 rfl (lv_at hl 0 rfl) ?_
    refine va_get (D := D) (ci := 5) (v := .int (1)) (C := R_M) (T := F_M) (N := 26) hx hb hts wl_M hown hK hP 0 rfl rfl 0 (by decide) (hts _ wf_M_51) (fun _ h9 => h9) rfl d_M_length_17 ?_
    refine lv_if_le (tgt := 27) hx hb d_M_length_20 rfl (fun hc20 => ?_) (fun hc20 => ?_)
    · skip
      exact False.elim (by revert hc20; decide)
    · skip
      refine lv_iconst (v := 0) hx hb d_M_length_23 (by decide) ?_
      refine lv_goto (tgt := 33) hx hb d_M_length_24 rfl ?_
      exact sd_iret hx hb hr hlk hP hS (Nat.le_of_ble_eq_true rfl) (Nat.le_of_ble_eq_true rfl) (rfl) d_M_length_33
  · skip
    exact False.elim (by revert hc5; decide)
set_option maxHeartbeats 4000000 in
set_option maxRecDepth 100000 in
theorem c_M_length_0 (l : Launch) (D : va_G) (cI cZ cQ : ClassId) (qm : Nat) (mp : Nat) (mt : Nat) (ml : Nat) (mc : Nat) (mf : Nat) (me : Nat) (mg : Nat) (mh : Nat) (mu : Nat) (k : Nat) (n : Nat) (pn : Nat) (nx : Nat) (cd : Int32) (ep : Int32) (M : mm_T) (wi : Int32) (jb : Int32) (fp : Int32) (tf : Int32) (tt : Int32) (fi : Int32) (ln : Int32) (bx : Int32) (pr : Nat → Int32) (tk : Nat → Int32) (le : Nat → Int32) (co : Nat → Int32) (fr : Nat → Int32) (em : Nat → Int32) (nb : Nat → Int32) (su : Nat → Int32) (f : Nat) (hk : k ≤ 9) (hn : n ≤ 9) (hf : f < 8) : sd_I l D (tyL cI cZ cQ) y_M_length b_M_length 2 (.int) ({ frames := 1, cells := 0, slots := 0, locals := 20 }) [.ref qm, .int (nI f)] (mW cI cZ qm mp mt ml mc mf me mg mh mu (cd) (nI k) (nI n) (nI (pn)) (nI (nx)) (ep) (nI (M.1)) (M.2.2.1) (M.2.2.2) (wi) (jb) (fp) (tf) (tt) (fi) (ln) (bx) (1000) (pr) (1000) (tk) (8) (le) (576) (co) (576) (fr) (10) (em) (192) (M.2.1) (10) (nb) (10) (su)) (le f) (mW cI cZ qm mp mt ml mc mf me mg mh mu (0) (nI k) (nI n) (nI (pn)) (nI (nx)) (ep) (nI (M.1)) (M.2.2.1) (M.2.2.2) (wi) (jb) (fp) (tf) (tt) (fi) (ln) (bx) (1000) (pr) (1000) (tk) (8) (le) (576) (co) (576) (fr) (10) (em) (192) (M.2.1) (10) (nb) (10) (su)) := by
  refine sd_ofI (by decide) (Nat.le_of_ble_eq_true rfl) ?_
  intro p e s m below meth c A ls hx hb hr hml hlk hown hts hK hP hD hA hS hl
  have hl : lv_has ls 2 [(0, .ref qm), (1, .int (nI f))] := hl
  refine lv_aload_n hx hb d_M_length_0 rfl (lv_at hl 0 rfl) ?_
  refine lv_iload_n hx hb d_M_length_1 rfl (lv_at hl 1 rfl) ?_
  refine sd_callSI (As := [.int (nI f)]) (rest := [.ref qm]) (cx := []) (w1 := []) (c_M_isFile_1 l D cI cZ cQ (nI f) (fl_in hf)) ⟨wc_M_isFile, wm_M_129, wi_M, by decide, by decide, show (parseMethodDescriptor y_M_isFile.desc).map (fun d => d.parameters.length) = some 1 by decide +kernel⟩ ws_M_isFile hx hb hml hown hts hl.1 ⟨Nat.le_of_ble_eq_true rfl, Nat.le_of_ble_eq_true rfl⟩ ⟨Nat.le_of_ble_eq_true rfl, Nat.le_of_ble_eq_true rfl⟩ hK hP hD hS hA [] rfl (by decide) rfl rfl rfl (Nat.le_of_ble_eq_true rfl) d_M_length_2 (fun H locs hP hD hS => ?_)
  have hP : va_P D cls (mW cI cZ qm mp mt ml mc mf me mg mh mu (cd) (nI k) (nI n) (nI (pn)) (nI (nx)) (ep) (nI (M.1)) (M.2.2.1) (M.2.2.2) (wi) (jb) (fp) (tf) (tt) (fi) (ln) (bx) (1000) (pr) (1000) (tk) (8) (le) (576) (co) (576) (fr) (10) (em) (192) (M.2.1) (10) (nb) (10) (su)) H := hP
  have hD : va_D A (mW cI cZ qm mp mt ml mc mf me mg mh mu (cd) (nI k) (nI n) (nI (pn)) (nI (nx)) (ep) (nI (M.1)) (M.2.2.1) (M.2.2.2) (wi) (jb) (fp) (tf) (tt) (fi) (ln) (bx) (1000) (pr) (1000) (tk) (8) (le) (576) (co) (576) (fr) (10) (em) (192) (M.2.1) (10) (nb) (10) (su)) := hD
  refine lv_if_eq (tgt := 12) hx hb d_M_length_5 rfl (fun hc5 => ?_) (fun hc5 => ?_)
  · skip
    exact False.elim (by revert hc5; decide)
  · skip
    refine lv_iconst (v := 0) hx hb d_M_length_8 (by decide) ?_
    refine lv_goto (tgt := 13) hx hb d_M_length_9 rfl ?_
    refine va_put (D := D) (ci := 5) (v := .int (0)) (ty := .int) (C := R_M) (T := F_M) (N := 26) hx hb hts wl_M t_M t_M_ok n_M hown hK hP hD hS 0 rfl rfl 0 (by decide) (hts _ wf_M_51) (fun _ h9 => h9) rfl (by decide +kernel) rfl rfl (Nat.le_of_ble_eq_true rfl) d_M_length_13 (fun H locs hP hD hS => ?_)
    have hP : va_P D cls (mW cI cZ qm mp mt ml mc mf me mg mh mu (0) (nI k) (nI n) (nI (pn)) (nI (nx)) (ep) (nI (M.1)) (M.2.2.1) (M.2.2.2) (wi) (jb) (fp) (tf) (tt) (fi) (ln) (bx) (1000) (pr) (1000) (tk) (8) (le) (576) (co) (576) (fr) (10) (em) (192) (M.2.1) (10) (nb) (10) (su)) H := hP
    have hD : va_D A (mW cI cZ qm mp mt ml mc mf me mg mh mu (0) (nI k) (nI n) (nI (pn)) (nI (nx)) (ep) (nI (M.1)) (M.2.2.1) (M.2.2.2) (wi) (jb) (fp) (tf) (tt) (fi) (ln) (bx) (1000) (pr) (1000) (tk) (8) (le) (576) (co) (576) (fr) (10) (em) (192) (M.2.1) (10) (nb) (10) (su)) := hD
    refine lv_aload_n hx hb d_M_length_16 rfl (lv_at hl 0 rfl) ?_
    refine va_get (D := D) (ci := 5) (v := .int (0)) (C := R_M) (T := F_M) (N := 26) hx hb hts wl_M hown hK hP 0 rfl rfl 0 (by decide) (hts _ wf_M_51) (fun _ h9 => h9) rfl d_M_length_17 ?_
    refine lv_if_le (tgt := 27) hx hb d_M_length_20 rfl (fun hc20 => ?_) (fun hc20 => ?_)
    · skip
      refine lv_aload_n hx hb d_M_length_27 rfl (lv_at hl 0 rfl) ?_
      refine va_get (D := D) (ci := 5) (v := .ref ml) (C := R_M) (T := F_M) (N := 26) hx hb hts wl_M hown hK hP 0 rfl rfl 7 (by decide) (hts _ wf_M_16) (fun _ h9 => h9) rfl d_M_length_28 ?_
      refine lv_iload_n hx hb d_M_length_31 rfl (lv_at hl 1 rfl) ?_
      refine sd_iald (j := f) hx hb hK hP 3 0 rfl rfl (by omega) (by omega) d_M_length_32 ?_
      exact sd_iret hx hb hr hlk hP hS (Nat.le_of_ble_eq_true rfl) (Nat.le_of_ble_eq_true rfl) (rfl) d_M_length_33
    · skip
      exact False.elim (by revert hc20; decide)
set_option maxHeartbeats 4000000 in
set_option maxRecDepth 100000 in
theorem c_M_forget_1 (l : Launch) (D : va_G) (cI cZ cQ : ClassId) (qm : Nat) (mp : Nat) (mt : Nat) (ml : Nat) (mc : Nat) (mf : Nat) (me : Nat) (mg : Nat) (mh : Nat) (mu : Nat) (k : Nat) (n : Nat) (pn : Nat) (nx : Nat) (cd : Int32) (ep : Int32) (M : mm_T) (wi : Int32) (jb : Int32) (fp : Int32) (tf : Int32) (tt : Int32) (fi : Int32) (ln : Int32) (bx : Int32) (pr : Nat → Int32) (tk : Nat → Int32) (le : Nat → Int32) (co : Nat → Int32) (fr : Nat → Int32) (em : Nat → Int32) (nb : Nat → Int32) (su : Nat → Int32) (f : Int32) (hk : k ≤ 9) (hn : n ≤ 9) (hf : ¬ (0 ≤ f ∧ f ≤ 7)) : sd_I l D (tyL cI cZ cQ) y_M_forget b_M_forget 2 (.int) ({ frames := 1, cells := 0, slots := 0, locals := 20 }) [.ref qm, .int (f)] (mW cI cZ qm mp mt ml mc mf me mg mh mu (cd) (nI k) (nI n) (nI (pn)) (nI (nx)) (ep) (nI (M.1)) (M.2.2.1) (M.2.2.2) (wi) (jb) (fp) (tf) (tt) (fi) (ln) (bx) (1000) (pr) (1000) (tk) (8) (le) (576) (co) (576) (fr) (10) (em) (192) (M.2.1) (10) (nb) (10) (su)) (0) (mW cI cZ qm mp mt ml mc mf me mg mh mu (1) (nI k) (nI n) (nI (pn)) (nI (nx)) (ep) (nI (M.1)) (M.2.2.1) (M.2.2.2) (wi) (jb) (fp) (tf) (tt) (fi) (ln) (bx) (1000) (pr) (1000) (tk) (8) (le) (576) (co) (576) (fr) (10) (em) (192) (M.2.1) (10) (nb) (10) (su)) := by
  refine sd_ofI (by decide) (Nat.le_of_ble_eq_true rfl) ?_
  intro p e s m below meth c A ls hx hb hr hml hlk hown hts hK hP hD hA hS hl
  have hl : lv_has ls 2 [(0, .ref qm), (1, .int (f))] := hl
  refine lv_aload_n hx hb d_M_forget_0 rfl (lv_at hl 0 rfl) ?_
  refine lv_iload_n hx hb d_M_forget_1 rfl (lv_at hl 1 rfl) ?_
  refine sd_callSI (As := [.int (f)]) (rest := [.ref qm]) (cx := []) (w1 := []) (c_M_isFile_0 l D cI cZ cQ (f) (hf)) ⟨wc_M_isFile, wm_M_129, wi_M, by decide, by decide, show (parseMethodDescriptor y_M_isFile.desc).map (fun d => d.parameters.length) = some 1 by decide +kernel⟩ ws_M_isFile hx hb hml hown hts hl.1 ⟨Nat.le_of_ble_eq_true rfl, Nat.le_of_ble_eq_true rfl⟩ ⟨Nat.le_of_ble_eq_true rfl, Nat.le_of_ble_eq_true rfl⟩ hK hP hD hS hA [] rfl (by decide) rfl rfl rfl (Nat.le_of_ble_eq_true rfl) d_M_forget_2 (fun H locs hP hD hS => ?_)
  have hP : va_P D cls (mW cI cZ qm mp mt ml mc mf me mg mh mu (cd) (nI k) (nI n) (nI (pn)) (nI (nx)) (ep) (nI (M.1)) (M.2.2.1) (M.2.2.2) (wi) (jb) (fp) (tf) (tt) (fi) (ln) (bx) (1000) (pr) (1000) (tk) (8) (le) (576) (co) (576) (fr) (10) (em) (192) (M.2.1) (10) (nb) (10) (su)) H := hP
  have hD : va_D A (mW cI cZ qm mp mt ml mc mf me mg mh mu (cd) (nI k) (nI n) (nI (pn)) (nI (nx)) (ep) (nI (M.1)) (M.2.2.1) (M.2.2.2) (wi) (jb) (fp) (tf) (tt) (fi) (ln) (bx) (1000) (pr) (1000) (tk) (8) (le) (576) (co) (576) (fr) (10) (em) (192) (M.2.1) (10) (nb) (10) (su)) := hD
  refine lv_if_ne (tgt := 12) hx hb d_M_forget_5 rfl (fun hc5 => ?_) (fun hc5 => ?_)
  · skip
    exact False.elim (by revert hc5; decide)
  · skip
    refine lv_iconst (v := 1) hx hb d_M_forget_8 (by decide) ?_
    refine lv_goto (tgt := 37) hx hb d_M_forget_9 rfl ?_
    refine va_put (D := D) (ci := 5) (v := .int (1)) (ty := .int) (C := R_M) (T := F_M) (N := 26) hx hb hts wl_M t_M t_M_ok n_M hown hK hP hD hS 0 rfl rfl 0 (by decide) (hts _ wf_M_51) (fun _ h9 => h9) rfl (by decide +kernel) rfl rfl (Nat.le_of_ble_eq_true rfl) d_M_forget_37 (fun H locs hP hD hS => ?_)
    have hP : va_P D cls (mW cI cZ qm mp mt ml mc mf me mg mh mu (1) (nI k) (nI n) (nI (pn)) (nI (nx)) (ep) (nI (M.1)) (M.2.2.1) (M.2.2.2) (wi) (jb) (fp) (tf) (tt) (fi) (ln) (bx) (1000) (pr) (1000) (tk) (8) (le) (576) (co) (576) (fr) (10) (em) (192) (M.2.1) (10) (nb) (10) (su)) H := hP
    have hD : va_D A (mW cI cZ qm mp mt ml mc mf me mg mh mu (1) (nI k) (nI n) (nI (pn)) (nI (nx)) (ep) (nI (M.1)) (M.2.2.1) (M.2.2.2) (wi) (jb) (fp) (tf) (tt) (fi) (ln) (bx) (1000) (pr) (1000) (tk) (8) (le) (576) (co) (576) (fr) (10) (em) (192) (M.2.1) (10) (nb) (10) (su)) := hD
    refine lv_aload_n hx hb d_M_forget_40 rfl (lv_at hl 0 rfl) ?_
    refine va_get (D := D) (ci := 5) (v := .int (1)) (C := R_M) (T := F_M) (N := 26) hx hb hts wl_M hown hK hP 0 rfl rfl 0 (by decide) (hts _ wf_M_51) (fun _ h9 => h9) rfl d_M_forget_41 ?_
    refine lv_if_le (tgt := 49) hx hb d_M_forget_44 rfl (fun hc44 => ?_) (fun hc44 => ?_)
    · skip
      exact False.elim (by revert hc44; decide)
    · skip
      refine lv_iconst (v := 0) hx hb d_M_forget_47 (by decide) ?_
      exact sd_iret hx hb hr hlk hP hS (Nat.le_of_ble_eq_true rfl) (Nat.le_of_ble_eq_true rfl) (rfl) d_M_forget_48
set_option maxHeartbeats 4000000 in
set_option maxRecDepth 100000 in
theorem c_M_forget_2 (l : Launch) (D : va_G) (cI cZ cQ : ClassId) (qm : Nat) (mp : Nat) (mt : Nat) (ml : Nat) (mc : Nat) (mf : Nat) (me : Nat) (mg : Nat) (mh : Nat) (mu : Nat) (k : Nat) (n : Nat) (pn : Nat) (nx : Nat) (cd : Int32) (ep : Int32) (M : mm_T) (wi : Int32) (jb : Int32) (fp : Int32) (tf : Int32) (tt : Int32) (fi : Int32) (ln : Int32) (bx : Int32) (pr : Nat → Int32) (tk : Nat → Int32) (le : Nat → Int32) (co : Nat → Int32) (fr : Nat → Int32) (em : Nat → Int32) (nb : Nat → Int32) (su : Nat → Int32) (f : Nat) (hk : k ≤ 9) (hn : n ≤ 9) (hf : f < 8) (hl0 : le f = 0) : sd_I l D (tyL cI cZ cQ) y_M_forget b_M_forget 2 (.int) ({ frames := 1, cells := 0, slots := 0, locals := 20 }) [.ref qm, .int (nI f)] (mW cI cZ qm mp mt ml mc mf me mg mh mu (cd) (nI k) (nI n) (nI (pn)) (nI (nx)) (ep) (nI (M.1)) (M.2.2.1) (M.2.2.2) (wi) (jb) (fp) (tf) (tt) (fi) (ln) (bx) (1000) (pr) (1000) (tk) (8) (le) (576) (co) (576) (fr) (10) (em) (192) (M.2.1) (10) (nb) (10) (su)) (0) (mW cI cZ qm mp mt ml mc mf me mg mh mu (2) (nI k) (nI n) (nI (pn)) (nI (nx)) (ep) (nI (M.1)) (M.2.2.1) (M.2.2.2) (wi) (jb) (fp) (tf) (tt) (fi) (ln) (bx) (1000) (pr) (1000) (tk) (8) (le) (576) (co) (576) (fr) (10) (em) (192) (M.2.1) (10) (nb) (10) (su)) := by
  refine sd_ofI (by decide) (Nat.le_of_ble_eq_true rfl) ?_
  intro p e s m below meth c A ls hx hb hr hml hlk hown hts hK hP hD hA hS hl
  have hl : lv_has ls 2 [(0, .ref qm), (1, .int (nI f))] := hl
  refine lv_aload_n hx hb d_M_forget_0 rfl (lv_at hl 0 rfl) ?_
  refine lv_iload_n hx hb d_M_forget_1 rfl (lv_at hl 1 rfl) ?_
  refine sd_callSI (As := [.int (nI f)]) (rest := [.ref qm]) (cx := []) (w1 := []) (c_M_isFile_1 l D cI cZ cQ (nI f) (fl_in hf)) ⟨wc_M_isFile, wm_M_129, wi_M, by decide, by decide, show (parseMethodDescriptor y_M_isFile.desc).map (fun d => d.parameters.length) = some 1 by decide +kernel⟩ ws_M_isFile hx hb hml hown hts hl.1 ⟨Nat.le_of_ble_eq_true rfl, Nat.le_of_ble_eq_true rfl⟩ ⟨Nat.le_of_ble_eq_true rfl, Nat.le_of_ble_eq_true rfl⟩ hK hP hD hS hA [] rfl (by decide) rfl rfl rfl (Nat.le_of_ble_eq_true rfl) d_M_forget_2 (fun H locs hP hD hS => ?_)
  have hP : va_P D cls (mW cI cZ qm mp mt ml mc mf me mg mh mu (cd) (nI k) (nI n) (nI (pn)) (nI (nx)) (ep) (nI (M.1)) (M.2.2.1) (M.2.2.2) (wi) (jb) (fp) (tf) (tt) (fi) (ln) (bx) (1000) (pr) (1000) (tk) (8) (le) (576) (co) (576) (fr) (10) (em) (192) (M.2.1) (10) (nb) (10) (su)) H := hP
  have hD : va_D A (mW cI cZ qm mp mt ml mc mf me mg mh mu (cd) (nI k) (nI n) (nI (pn)) (nI (nx)) (ep) (nI (M.1)) (M.2.2.1) (M.2.2.2) (wi) (jb) (fp) (tf) (tt) (fi) (ln) (bx) (1000) (pr) (1000) (tk) (8) (le) (576) (co) (576) (fr) (10) (em) (192) (M.2.1) (10) (nb) (10) (su)) := hD
  refine lv_if_ne (tgt := 12) hx hb d_M_forget_5 rfl (fun hc5 => ?_) (fun hc5 => ?_)
  · skip
    refine lv_aload_n hx hb d_M_forget_12 rfl (lv_at hl 0 rfl) ?_
    refine va_get (D := D) (ci := 5) (v := .ref ml) (C := R_M) (T := F_M) (N := 26) hx hb hts wl_M hown hK hP 0 rfl rfl 7 (by decide) (hts _ wf_M_16) (fun _ h9 => h9) rfl d_M_forget_13 ?_
    refine lv_iload_n hx hb d_M_forget_16 rfl (lv_at hl 1 rfl) ?_
    refine sd_iald (j := f) hx hb hK hP 3 0 rfl rfl (by omega) (by omega) d_M_forget_17 ?_
    refine lv_if_ne (tgt := 25) hx hb d_M_forget_18 rfl (fun hc18 => ?_) (fun hc18 => ?_)
    · skip
      exact absurd hl0 hc18
    · skip
      refine lv_iconst (v := 2) hx hb d_M_forget_21 (by decide) ?_
      refine lv_goto (tgt := 37) hx hb d_M_forget_22 rfl ?_
      refine va_put (D := D) (ci := 5) (v := .int (2)) (ty := .int) (C := R_M) (T := F_M) (N := 26) hx hb hts wl_M t_M t_M_ok n_M hown hK hP hD hS 0 rfl rfl 0 (by decide) (hts _ wf_M_51) (fun _ h9 => h9) rfl (by decide +kernel) rfl rfl (Nat.le_of_ble_eq_true rfl) d_M_forget_37 (fun H locs hP hD hS => ?_)
      have hP : va_P D cls (mW cI cZ qm mp mt ml mc mf me mg mh mu (2) (nI k) (nI n) (nI (pn)) (nI (nx)) (ep) (nI (M.1)) (M.2.2.1) (M.2.2.2) (wi) (jb) (fp) (tf) (tt) (fi) (ln) (bx) (1000) (pr) (1000) (tk) (8) (le) (576) (co) (576) (fr) (10) (em) (192) (M.2.1) (10) (nb) (10) (su)) H := hP
      have hD : va_D A (mW cI cZ qm mp mt ml mc mf me mg mh mu (2) (nI k) (nI n) (nI (pn)) (nI (nx)) (ep) (nI (M.1)) (M.2.2.1) (M.2.2.2) (wi) (jb) (fp) (tf) (tt) (fi) (ln) (bx) (1000) (pr) (1000) (tk) (8) (le) (576) (co) (576) (fr) (10) (em) (192) (M.2.1) (10) (nb) (10) (su)) := hD
      refine lv_aload_n hx hb d_M_forget_40 rfl (lv_at hl 0 rfl) ?_
      refine va_get (D := D) (ci := 5) (v := .int (2)) (C := R_M) (T := F_M) (N := 26) hx hb hts wl_M hown hK hP 0 rfl rfl 0 (by decide) (hts _ wf_M_51) (fun _ h9 => h9) rfl d_M_forget_41 ?_
      refine lv_if_le (tgt := 49) hx hb d_M_forget_44 rfl (fun hc44 => ?_) (fun hc44 => ?_)
      · skip
        exact False.elim (by revert hc44; decide)
      · skip
        refine lv_iconst (v := 0) hx hb d_M_forget_47 (by decide) ?_
        exact sd_iret hx hb hr hlk hP hS (Nat.le_of_ble_eq_true rfl) (Nat.le_of_ble_eq_true rfl) (rfl) d_M_forget_48
  · skip
    exact False.elim (by revert hc5; decide)
set_option maxHeartbeats 4000000 in
set_option maxRecDepth 100000 in
theorem c_M_forget_3 (l : Launch) (D : va_G) (cI cZ cQ : ClassId) (qm : Nat) (mp : Nat) (mt : Nat) (ml : Nat) (mc : Nat) (mf : Nat) (me : Nat) (mg : Nat) (mh : Nat) (mu : Nat) (k : Nat) (n : Nat) (pn : Nat) (nx : Nat) (cd : Int32) (ep : Int32) (M : mm_T) (wi : Int32) (jb : Int32) (fp : Int32) (tf : Int32) (tt : Int32) (fi : Int32) (ln : Int32) (bx : Int32) (pr : Nat → Int32) (tk : Nat → Int32) (le : Nat → Int32) (co : Nat → Int32) (fr : Nat → Int32) (em : Nat → Int32) (nb : Nat → Int32) (su : Nat → Int32) (f : Nat) (hk : k ≤ 9) (hn : n ≤ 9) (hf : f < 8) (hl0 : ¬ le f = 0) (hj : ¬ jb ≤ 0) : sd_I l D (tyL cI cZ cQ) y_M_forget b_M_forget 2 (.int) ({ frames := 1, cells := 0, slots := 0, locals := 20 }) [.ref qm, .int (nI f)] (mW cI cZ qm mp mt ml mc mf me mg mh mu (cd) (nI k) (nI n) (nI (pn)) (nI (nx)) (ep) (nI (M.1)) (M.2.2.1) (M.2.2.2) (wi) (jb) (fp) (tf) (tt) (fi) (ln) (bx) (1000) (pr) (1000) (tk) (8) (le) (576) (co) (576) (fr) (10) (em) (192) (M.2.1) (10) (nb) (10) (su)) (0) (mW cI cZ qm mp mt ml mc mf me mg mh mu (3) (nI k) (nI n) (nI (pn)) (nI (nx)) (ep) (nI (M.1)) (M.2.2.1) (M.2.2.2) (wi) (jb) (fp) (tf) (tt) (fi) (ln) (bx) (1000) (pr) (1000) (tk) (8) (le) (576) (co) (576) (fr) (10) (em) (192) (M.2.1) (10) (nb) (10) (su)) := by
  refine sd_ofI (by decide) (Nat.le_of_ble_eq_true rfl) ?_
  intro p e s m below meth c A ls hx hb hr hml hlk hown hts hK hP hD hA hS hl
  have hl : lv_has ls 2 [(0, .ref qm), (1, .int (nI f))] := hl
  refine lv_aload_n hx hb d_M_forget_0 rfl (lv_at hl 0 rfl) ?_
  refine lv_iload_n hx hb d_M_forget_1 rfl (lv_at hl 1 rfl) ?_
  refine sd_callSI (As := [.int (nI f)]) (rest := [.ref qm]) (cx := []) (w1 := []) (c_M_isFile_1 l D cI cZ cQ (nI f) (fl_in hf)) ⟨wc_M_isFile, wm_M_129, wi_M, by decide, by decide, show (parseMethodDescriptor y_M_isFile.desc).map (fun d => d.parameters.length) = some 1 by decide +kernel⟩ ws_M_isFile hx hb hml hown hts hl.1 ⟨Nat.le_of_ble_eq_true rfl, Nat.le_of_ble_eq_true rfl⟩ ⟨Nat.le_of_ble_eq_true rfl, Nat.le_of_ble_eq_true rfl⟩ hK hP hD hS hA [] rfl (by decide) rfl rfl rfl (Nat.le_of_ble_eq_true rfl) d_M_forget_2 (fun H locs hP hD hS => ?_)
  have hP : va_P D cls (mW cI cZ qm mp mt ml mc mf me mg mh mu (cd) (nI k) (nI n) (nI (pn)) (nI (nx)) (ep) (nI (M.1)) (M.2.2.1) (M.2.2.2) (wi) (jb) (fp) (tf) (tt) (fi) (ln) (bx) (1000) (pr) (1000) (tk) (8) (le) (576) (co) (576) (fr) (10) (em) (192) (M.2.1) (10) (nb) (10) (su)) H := hP
  have hD : va_D A (mW cI cZ qm mp mt ml mc mf me mg mh mu (cd) (nI k) (nI n) (nI (pn)) (nI (nx)) (ep) (nI (M.1)) (M.2.2.1) (M.2.2.2) (wi) (jb) (fp) (tf) (tt) (fi) (ln) (bx) (1000) (pr) (1000) (tk) (8) (le) (576) (co) (576) (fr) (10) (em) (192) (M.2.1) (10) (nb) (10) (su)) := hD
  refine lv_if_ne (tgt := 12) hx hb d_M_forget_5 rfl (fun hc5 => ?_) (fun hc5 => ?_)
  · skip
    refine lv_aload_n hx hb d_M_forget_12 rfl (lv_at hl 0 rfl) ?_
    refine va_get (D := D) (ci := 5) (v := .ref ml) (C := R_M) (T := F_M) (N := 26) hx hb hts wl_M hown hK hP 0 rfl rfl 7 (by decide) (hts _ wf_M_16) (fun _ h9 => h9) rfl d_M_forget_13 ?_
    refine lv_iload_n hx hb d_M_forget_16 rfl (lv_at hl 1 rfl) ?_
    refine sd_iald (j := f) hx hb hK hP 3 0 rfl rfl (by omega) (by omega) d_M_forget_17 ?_
    refine lv_if_ne (tgt := 25) hx hb d_M_forget_18 rfl (fun hc18 => ?_) (fun hc18 => ?_)
    · skip
      refine lv_aload_n hx hb d_M_forget_25 rfl (lv_at hl 0 rfl) ?_
      refine va_get (D := D) (ci := 5) (v := .int (jb)) (C := R_M) (T := F_M) (N := 26) hx hb hts wl_M hown hK hP 0 rfl rfl 17 (by decide) (hts _ wf_M_100) (fun _ h9 => h9) rfl d_M_forget_26 ?_
      refine lv_if_le (tgt := 36) hx hb d_M_forget_29 rfl (fun hc29 => ?_) (fun hc29 => ?_)
      · skip
        exact absurd hc29 hj
      · skip
        refine lv_iconst (v := 3) hx hb d_M_forget_32 (by decide) ?_
        refine lv_goto (tgt := 37) hx hb d_M_forget_33 rfl ?_
        refine va_put (D := D) (ci := 5) (v := .int (3)) (ty := .int) (C := R_M) (T := F_M) (N := 26) hx hb hts wl_M t_M t_M_ok n_M hown hK hP hD hS 0 rfl rfl 0 (by decide) (hts _ wf_M_51) (fun _ h9 => h9) rfl (by decide +kernel) rfl rfl (Nat.le_of_ble_eq_true rfl) d_M_forget_37 (fun H locs hP hD hS => ?_)
        have hP : va_P D cls (mW cI cZ qm mp mt ml mc mf me mg mh mu (3) (nI k) (nI n) (nI (pn)) (nI (nx)) (ep) (nI (M.1)) (M.2.2.1) (M.2.2.2) (wi) (jb) (fp) (tf) (tt) (fi) (ln) (bx) (1000) (pr) (1000) (tk) (8) (le) (576) (co) (576) (fr) (10) (em) (192) (M.2.1) (10) (nb) (10) (su)) H := hP
        have hD : va_D A (mW cI cZ qm mp mt ml mc mf me mg mh mu (3) (nI k) (nI n) (nI (pn)) (nI (nx)) (ep) (nI (M.1)) (M.2.2.1) (M.2.2.2) (wi) (jb) (fp) (tf) (tt) (fi) (ln) (bx) (1000) (pr) (1000) (tk) (8) (le) (576) (co) (576) (fr) (10) (em) (192) (M.2.1) (10) (nb) (10) (su)) := hD
        refine lv_aload_n hx hb d_M_forget_40 rfl (lv_at hl 0 rfl) ?_
        refine va_get (D := D) (ci := 5) (v := .int (3)) (C := R_M) (T := F_M) (N := 26) hx hb hts wl_M hown hK hP 0 rfl rfl 0 (by decide) (hts _ wf_M_51) (fun _ h9 => h9) rfl d_M_forget_41 ?_
        refine lv_if_le (tgt := 49) hx hb d_M_forget_44 rfl (fun hc44 => ?_) (fun hc44 => ?_)
        · skip
          exact False.elim (by revert hc44; decide)
        · skip
          refine lv_iconst (v := 0) hx hb d_M_forget_47 (by decide) ?_
          exact sd_iret hx hb hr hlk hP hS (Nat.le_of_ble_eq_true rfl) (Nat.le_of_ble_eq_true rfl) (rfl) d_M_forget_48
    · skip
      exact absurd hc18 hl0
  · skip
    exact False.elim (by revert hc5; decide)
set_option maxHeartbeats 4000000 in
set_option maxRecDepth 100000 in
theorem c_M_forget_0 (l : Launch) (D : va_G) (cI cZ cQ : ClassId) (qm : Nat) (mp : Nat) (mt : Nat) (ml : Nat) (mc : Nat) (mf : Nat) (me : Nat) (mg : Nat) (mh : Nat) (mu : Nat) (k : Nat) (n : Nat) (pn : Nat) (nx : Nat) (cd : Int32) (ep : Int32) (M : mm_T) (wi : Int32) (jb : Int32) (fp : Int32) (tf : Int32) (tt : Int32) (fi : Int32) (ln : Int32) (bx : Int32) (pr : Nat → Int32) (tk : Nat → Int32) (le : Nat → Int32) (co : Nat → Int32) (fr : Nat → Int32) (em : Nat → Int32) (nb : Nat → Int32) (su : Nat → Int32) (f : Nat) (lz : Nat → Nat) (hk : k ≤ 9) (hn : n ≤ 9) (hf : f < 8) (hl0 : ¬ le f = 0) (hj : jb ≤ 0) (hle : ∀ i, i < 8 → upd le f 0 i = nI (lz i)) (hln : ∀ i, i < 8 → lz i ≤ 8) : sd_I l D (tyL cI cZ cQ) y_M_forget b_M_forget 2 (.int) ({ frames := 1, cells := 0, slots := 0, locals := 22 }) [.ref qm, .int (nI f)] (mW cI cZ qm mp mt ml mc mf me mg mh mu (cd) (nI k) (nI n) (nI (pn)) (nI (nx)) (ep) (nI (M.1)) (M.2.2.1) (M.2.2.2) (wi) (jb) (fp) (tf) (tt) (fi) (ln) (bx) (1000) (pr) (1000) (tk) (8) (le) (576) (co) (576) (fr) (10) (em) (192) (M.2.1) (10) (nb) (10) (su)) (nI (sm_k lz 8)) (mW cI cZ qm mp mt ml mc mf me mg mh mu (0) (nI k) (nI n) (nI (pn)) (nI (nx)) (ep) (nI (M.1)) (M.2.2.1) (M.2.2.2) (wi) (jb) (fp) (tf) (tt) (fi) (ln) (bx) (1000) (pr) (1000) (tk) (8) (upd le f 0) (576) (co) (576) (fr) (10) (em) (192) (M.2.1) (10) (nb) (10) (su)) := by
  refine sd_ofI (by decide) (Nat.le_of_ble_eq_true rfl) ?_
  intro p e s m below meth c A ls hx hb hr hml hlk hown hts hK hP hD hA hS hl
  have hl : lv_has ls 2 [(0, .ref qm), (1, .int (nI f))] := hl
  refine lv_aload_n hx hb d_M_forget_0 rfl (lv_at hl 0 rfl) ?_
  refine lv_iload_n hx hb d_M_forget_1 rfl (lv_at hl 1 rfl) ?_
  refine sd_callSI (As := [.int (nI f)]) (rest := [.ref qm]) (cx := []) (w1 := []) (c_M_isFile_1 l D cI cZ cQ (nI f) (fl_in hf)) ⟨wc_M_isFile, wm_M_129, wi_M, by decide, by decide, show (parseMethodDescriptor y_M_isFile.desc).map (fun d => d.parameters.length) = some 1 by decide +kernel⟩ ws_M_isFile hx hb hml hown hts hl.1 ⟨Nat.le_of_ble_eq_true rfl, Nat.le_of_ble_eq_true rfl⟩ ⟨Nat.le_of_ble_eq_true rfl, Nat.le_of_ble_eq_true rfl⟩ hK hP hD hS hA [] rfl (by decide) rfl rfl rfl (Nat.le_of_ble_eq_true rfl) d_M_forget_2 (fun H locs hP hD hS => ?_)
  have hP : va_P D cls (mW cI cZ qm mp mt ml mc mf me mg mh mu (cd) (nI k) (nI n) (nI (pn)) (nI (nx)) (ep) (nI (M.1)) (M.2.2.1) (M.2.2.2) (wi) (jb) (fp) (tf) (tt) (fi) (ln) (bx) (1000) (pr) (1000) (tk) (8) (le) (576) (co) (576) (fr) (10) (em) (192) (M.2.1) (10) (nb) (10) (su)) H := hP
  have hD : va_D A (mW cI cZ qm mp mt ml mc mf me mg mh mu (cd) (nI k) (nI n) (nI (pn)) (nI (nx)) (ep) (nI (M.1)) (M.2.2.1) (M.2.2.2) (wi) (jb) (fp) (tf) (tt) (fi) (ln) (bx) (1000) (pr) (1000) (tk) (8) (le) (576) (co) (576) (fr) (10) (em) (192) (M.2.1) (10) (nb) (10) (su)) := hD
  refine lv_if_ne (tgt := 12) hx hb d_M_forget_5 rfl (fun hc5 => ?_) (fun hc5 => ?_)
  · skip
    refine lv_aload_n hx hb d_M_forget_12 rfl (lv_at hl 0 rfl) ?_
    refine va_get (D := D) (ci := 5) (v := .ref ml) (C := R_M) (T := F_M) (N := 26) hx hb hts wl_M hown hK hP 0 rfl rfl 7 (by decide) (hts _ wf_M_16) (fun _ h9 => h9) rfl d_M_forget_13 ?_
    refine lv_iload_n hx hb d_M_forget_16 rfl (lv_at hl 1 rfl) ?_
    refine sd_iald (j := f) hx hb hK hP 3 0 rfl rfl (by omega) (by omega) d_M_forget_17 ?_
    refine lv_if_ne (tgt := 25) hx hb d_M_forget_18 rfl (fun hc18 => ?_) (fun hc18 => ?_)
    · skip
      refine lv_aload_n hx hb d_M_forget_25 rfl (lv_at hl 0 rfl) ?_
      refine va_get (D := D) (ci := 5) (v := .int (jb)) (C := R_M) (T := F_M) (N := 26) hx hb hts wl_M hown hK hP 0 rfl rfl 17 (by decide) (hts _ wf_M_100) (fun _ h9 => h9) rfl d_M_forget_26 ?_
      refine lv_if_le (tgt := 36) hx hb d_M_forget_29 rfl (fun hc29 => ?_) (fun hc29 => ?_)
      · skip
        refine lv_iconst (v := 0) hx hb d_M_forget_36 (by decide) ?_
        refine va_put (D := D) (ci := 5) (v := .int (0)) (ty := .int) (C := R_M) (T := F_M) (N := 26) hx hb hts wl_M t_M t_M_ok n_M hown hK hP hD hS 0 rfl rfl 0 (by decide) (hts _ wf_M_51) (fun _ h9 => h9) rfl (by decide +kernel) rfl rfl (Nat.le_of_ble_eq_true rfl) d_M_forget_37 (fun H locs hP hD hS => ?_)
        have hP : va_P D cls (mW cI cZ qm mp mt ml mc mf me mg mh mu (0) (nI k) (nI n) (nI (pn)) (nI (nx)) (ep) (nI (M.1)) (M.2.2.1) (M.2.2.2) (wi) (jb) (fp) (tf) (tt) (fi) (ln) (bx) (1000) (pr) (1000) (tk) (8) (le) (576) (co) (576) (fr) (10) (em) (192) (M.2.1) (10) (nb) (10) (su)) H := hP
        have hD : va_D A (mW cI cZ qm mp mt ml mc mf me mg mh mu (0) (nI k) (nI n) (nI (pn)) (nI (nx)) (ep) (nI (M.1)) (M.2.2.1) (M.2.2.2) (wi) (jb) (fp) (tf) (tt) (fi) (ln) (bx) (1000) (pr) (1000) (tk) (8) (le) (576) (co) (576) (fr) (10) (em) (192) (M.2.1) (10) (nb) (10) (su)) := hD
        refine lv_aload_n hx hb d_M_forget_40 rfl (lv_at hl 0 rfl) ?_
        refine va_get (D := D) (ci := 5) (v := .int (0)) (C := R_M) (T := F_M) (N := 26) hx hb hts wl_M hown hK hP 0 rfl rfl 0 (by decide) (hts _ wf_M_51) (fun _ h9 => h9) rfl d_M_forget_41 ?_
        refine lv_if_le (tgt := 49) hx hb d_M_forget_44 rfl (fun hc44 => ?_) (fun hc44 => ?_)
        · skip
          refine lv_aload_n hx hb d_M_forget_49 rfl (lv_at hl 0 rfl) ?_
          refine va_get (D := D) (ci := 5) (v := .ref ml) (C := R_M) (T := F_M) (N := 26) hx hb hts wl_M hown hK hP 0 rfl rfl 7 (by decide) (hts _ wf_M_16) (fun _ h9 => h9) rfl d_M_forget_50 ?_
          refine lv_iload_n hx hb d_M_forget_53 rfl (lv_at hl 1 rfl) ?_
          refine lv_iconst (v := 0) hx hb d_M_forget_54 (by decide) ?_
          refine sd_iast (j := f) hx hb hK hP hD hS 3 0 rfl rfl (by omega) (by omega) d_M_forget_55 (fun H locs hP hD hS => ?_)
          have hP : va_P D cls (mW cI cZ qm mp mt ml mc mf me mg mh mu (0) (nI k) (nI n) (nI (pn)) (nI (nx)) (ep) (nI (M.1)) (M.2.2.1) (M.2.2.2) (wi) (jb) (fp) (tf) (tt) (fi) (ln) (bx) (1000) (pr) (1000) (tk) (8) (upd (le) (f) (0)) (576) (co) (576) (fr) (10) (em) (192) (M.2.1) (10) (nb) (10) (su)) H := hP
          have hD : va_D A (mW cI cZ qm mp mt ml mc mf me mg mh mu (0) (nI k) (nI n) (nI (pn)) (nI (nx)) (ep) (nI (M.1)) (M.2.2.1) (M.2.2.2) (wi) (jb) (fp) (tf) (tt) (fi) (ln) (bx) (1000) (pr) (1000) (tk) (8) (upd (le) (f) (0)) (576) (co) (576) (fr) (10) (em) (192) (M.2.1) (10) (nb) (10) (su)) := hD
          refine lv_aload_n hx hb d_M_forget_56 rfl (lv_at hl 0 rfl) ?_
          refine sd_allVI (As := []) (rest := []) (w1 := (mW cI cZ qm mp mt ml mc mf me mg mh mu (0) (nI k) (nI n) (nI (pn)) (nI (nx)) (ep) (nI (M.1)) (M.2.2.1) (M.2.2.2) (wi) (jb) (fp) (tf) (tt) (fi) (ln) (bx) (1000) (pr) (1000) (tk) (8) (upd (le) (f) (0)) (576) (co) (576) (fr) (10) (em) (192) (M.2.1) (10) (nb) (10) (su))) (c_M_kept l D cI cZ cQ (qm) (mp) (mt) (ml) (mc) (mf) (me) (mg) (mh) (mu) (k) (n) (pn) (nx) (0) (ep) (M) (wi) (jb) (fp) (tf) (tt) (fi) (ln) (bx) (pr) (tk) (upd (le) (f) (0)) (co) (fr) (em) (nb) (su) (lz) (hk) (hn) (hle) (hln)) ⟨wc_M_kept, wm_M_152, wi_M, by decide, by decide, show (parseMethodDescriptor y_M_kept.desc).map (fun d => d.parameters.length) = some 0 by decide +kernel⟩ wo_M_kept wz_M_kept hx hb hml hown hts hl.1 ⟨Nat.le_of_ble_eq_true rfl, Nat.le_of_ble_eq_true rfl⟩ ⟨Nat.le_of_ble_eq_true rfl, Nat.le_of_ble_eq_true rfl⟩ hK hP hD hS hA (rfl) (q0 := 0) rfl rfl rfl (Nat.le_of_ble_eq_true rfl) d_M_forget_57 (fun H locs hP hD hS => ?_)
          have hP : va_P D cls (mW cI cZ qm mp mt ml mc mf me mg mh mu (0) (nI k) (nI n) (nI (pn)) (nI (nx)) (ep) (nI (M.1)) (M.2.2.1) (M.2.2.2) (wi) (jb) (fp) (tf) (tt) (fi) (ln) (bx) (1000) (pr) (1000) (tk) (8) (upd (le) (f) (0)) (576) (co) (576) (fr) (10) (em) (192) (M.2.1) (10) (nb) (10) (su)) H := hP
          have hD : va_D A (mW cI cZ qm mp mt ml mc mf me mg mh mu (0) (nI k) (nI n) (nI (pn)) (nI (nx)) (ep) (nI (M.1)) (M.2.2.1) (M.2.2.2) (wi) (jb) (fp) (tf) (tt) (fi) (ln) (bx) (1000) (pr) (1000) (tk) (8) (upd (le) (f) (0)) (576) (co) (576) (fr) (10) (em) (192) (M.2.1) (10) (nb) (10) (su)) := hD
          exact sd_iret hx hb hr hlk hP hS (Nat.le_of_ble_eq_true rfl) (Nat.le_of_ble_eq_true rfl) (rfl) d_M_forget_60
        · skip
          exact False.elim (by revert hc44; decide)
      · skip
        exact absurd hj hc29
    · skip
      exact absurd hc18 hl0
  · skip
    exact False.elim (by revert hc5; decide)
set_option maxHeartbeats 4000000 in
set_option maxRecDepth 100000 in
theorem c_M_need_1 (l : Launch) (D : va_G) (cI cZ cQ : ClassId) (qm : Nat) (mp : Nat) (mt : Nat) (ml : Nat) (mc : Nat) (mf : Nat) (me : Nat) (mg : Nat) (mh : Nat) (mu : Nat) (k : Nat) (n : Nat) (pn : Nat) (nx : Nat) (cd : Int32) (ep : Int32) (M : mm_T) (wi : Int32) (jb : Int32) (fp : Int32) (tf : Int32) (tt : Int32) (fi : Int32) (ln : Int32) (bx : Int32) (pr : Nat → Int32) (tk : Nat → Int32) (le : Nat → Int32) (co : Nat → Int32) (fr : Nat → Int32) (em : Nat → Int32) (nb : Nat → Int32) (su : Nat → Int32) (q : Int32) (hk : k ≤ 9) (hn : n ≤ 9) (hq : ¬ (0 ≤ q ∧ q ≤ 2)) : sd_I l D (tyL cI cZ cQ) y_M_need b_M_need 2 (.int) ({ frames := 0, cells := 0, slots := 0, locals := 0 }) [.ref qm, .int (q)] (mW cI cZ qm mp mt ml mc mf me mg mh mu (cd) (nI k) (nI n) (nI (pn)) (nI (nx)) (ep) (nI (M.1)) (M.2.2.1) (M.2.2.2) (wi) (jb) (fp) (tf) (tt) (fi) (ln) (bx) (1000) (pr) (1000) (tk) (8) (le) (576) (co) (576) (fr) (10) (em) (192) (M.2.1) (10) (nb) (10) (su)) (0) (mW cI cZ qm mp mt ml mc mf me mg mh mu (1) (nI k) (nI n) (nI (pn)) (nI (nx)) (ep) (nI (M.1)) (M.2.2.1) (M.2.2.2) (wi) (jb) (fp) (tf) (tt) (fi) (ln) (bx) (1000) (pr) (1000) (tk) (8) (le) (576) (co) (576) (fr) (10) (em) (192) (M.2.1) (10) (nb) (10) (su)) := by
  refine sd_ofI (by decide) (Nat.le_of_ble_eq_true rfl) ?_
  intro p e s m below meth c A ls hx hb hr hml hlk hown hts hK hP hD hA hS hl
  have hl : lv_has ls 2 [(0, .ref qm), (1, .int (q))] := hl
  refine lv_aload_n hx hb d_M_need_0 rfl (lv_at hl 0 rfl) ?_
  refine lv_iload_n hx hb d_M_need_1 rfl (lv_at hl 1 rfl) ?_
  refine lv_if_lt (tgt := 10) hx hb d_M_need_2 rfl (fun hc2 => ?_) (fun hc2 => ?_)
  · skip
    refine lv_iconst (v := 1) hx hb d_M_need_10 (by decide) ?_
    refine lv_goto (tgt := 15) hx hb d_M_need_11 rfl ?_
    refine va_put (D := D) (ci := 5) (v := .int (1)) (ty := .int) (C := R_M) (T := F_M) (N := 26) hx hb hts wl_M t_M t_M_ok n_M hown hK hP hD hS 0 rfl rfl 0 (by decide) (hts _ wf_M_51) (fun _ h9 => h9) rfl (by decide +kernel) rfl rfl (Nat.le_of_ble_eq_true rfl) d_M_need_15 (fun H locs hP hD hS => ?_)
    have hP : va_P D cls (mW cI cZ qm mp mt ml mc mf me mg mh mu (1) (nI k) (nI n) (nI (pn)) (nI (nx)) (ep) (nI (M.1)) (M.2.2.1) (M.2.2.2) (wi) (jb) (fp) (tf) (tt) (fi) (ln) (bx) (1000) (pr) (1000) (tk) (8) (le) (576) (co) (576) (fr) (10) (em) (192) (M.2.1) (10) (nb) (10) (su)) H := hP
    have hD : va_D A (mW cI cZ qm mp mt ml mc mf me mg mh mu (1) (nI k) (nI n) (nI (pn)) (nI (nx)) (ep) (nI (M.1)) (M.2.2.1) (M.2.2.2) (wi) (jb) (fp) (tf) (tt) (fi) (ln) (bx) (1000) (pr) (1000) (tk) (8) (le) (576) (co) (576) (fr) (10) (em) (192) (M.2.1) (10) (nb) (10) (su)) := hD
    refine lv_aload_n hx hb d_M_need_18 rfl (lv_at hl 0 rfl) ?_
    refine va_get (D := D) (ci := 5) (v := .int (1)) (C := R_M) (T := F_M) (N := 26) hx hb hts wl_M hown hK hP 0 rfl rfl 0 (by decide) (hts _ wf_M_51) (fun _ h9 => h9) rfl d_M_need_19 ?_
    refine lv_if_le (tgt := 27) hx hb d_M_need_22 rfl (fun hc22 => ?_) (fun hc22 => ?_)
    · skip
      exact False.elim (by revert hc22; decide)
    · skip
      refine lv_iconst (v := 0) hx hb d_M_need_25 (by decide) ?_
      exact sd_iret hx hb hr hlk hP hS (Nat.le_of_ble_eq_true rfl) (Nat.le_of_ble_eq_true rfl) (rfl) d_M_need_26
  · skip
    refine lv_iload_n hx hb d_M_need_5 rfl (lv_at hl 1 rfl) ?_
    refine lv_iconst (v := 2) hx hb d_M_need_6 (by decide) ?_
    refine lv_icmp_le (tgt := 14) hx hb d_M_need_7 rfl (fun hc7 => ?_) (fun hc7 => ?_)
    · skip
      exact absurd ⟨Int32.not_lt.mp hc2, hc7⟩ hq
    · skip
      refine lv_iconst (v := 1) hx hb d_M_need_10 (by decide) ?_
      refine lv_goto (tgt := 15) hx hb d_M_need_11 rfl ?_
      refine va_put (D := D) (ci := 5) (v := .int (1)) (ty := .int) (C := R_M) (T := F_M) (N := 26) hx hb hts wl_M t_M t_M_ok n_M hown hK hP hD hS 0 rfl rfl 0 (by decide) (hts _ wf_M_51) (fun _ h9 => h9) rfl (by decide +kernel) rfl rfl (Nat.le_of_ble_eq_true rfl) d_M_need_15 (fun H locs hP hD hS => ?_)
      have hP : va_P D cls (mW cI cZ qm mp mt ml mc mf me mg mh mu (1) (nI k) (nI n) (nI (pn)) (nI (nx)) (ep) (nI (M.1)) (M.2.2.1) (M.2.2.2) (wi) (jb) (fp) (tf) (tt) (fi) (ln) (bx) (1000) (pr) (1000) (tk) (8) (le) (576) (co) (576) (fr) (10) (em) (192) (M.2.1) (10) (nb) (10) (su)) H := hP
      have hD : va_D A (mW cI cZ qm mp mt ml mc mf me mg mh mu (1) (nI k) (nI n) (nI (pn)) (nI (nx)) (ep) (nI (M.1)) (M.2.2.1) (M.2.2.2) (wi) (jb) (fp) (tf) (tt) (fi) (ln) (bx) (1000) (pr) (1000) (tk) (8) (le) (576) (co) (576) (fr) (10) (em) (192) (M.2.1) (10) (nb) (10) (su)) := hD
      refine lv_aload_n hx hb d_M_need_18 rfl (lv_at hl 0 rfl) ?_
      refine va_get (D := D) (ci := 5) (v := .int (1)) (C := R_M) (T := F_M) (N := 26) hx hb hts wl_M hown hK hP 0 rfl rfl 0 (by decide) (hts _ wf_M_51) (fun _ h9 => h9) rfl d_M_need_19 ?_
      refine lv_if_le (tgt := 27) hx hb d_M_need_22 rfl (fun hc22 => ?_) (fun hc22 => ?_)
      · skip
        exact False.elim (by revert hc22; decide)
      · skip
        refine lv_iconst (v := 0) hx hb d_M_need_25 (by decide) ?_
        exact sd_iret hx hb hr hlk hP hS (Nat.le_of_ble_eq_true rfl) (Nat.le_of_ble_eq_true rfl) (rfl) d_M_need_26
set_option maxHeartbeats 4000000 in
set_option maxRecDepth 100000 in
theorem c_M_need_00 (l : Launch) (D : va_G) (cI cZ cQ : ClassId) (qm : Nat) (mp : Nat) (mt : Nat) (ml : Nat) (mc : Nat) (mf : Nat) (me : Nat) (mg : Nat) (mh : Nat) (mu : Nat) (k : Nat) (n : Nat) (pn : Nat) (nx : Nat) (cd : Int32) (ep : Int32) (M : mm_T) (wi : Int32) (jb : Int32) (fp : Int32) (tf : Int32) (tt : Int32) (fi : Int32) (ln : Int32) (bx : Int32) (pr : Nat → Int32) (tk : Nat → Int32) (le : Nat → Int32) (co : Nat → Int32) (fr : Nat → Int32) (em : Nat → Int32) (nb : Nat → Int32) (su : Nat → Int32) (hk : k ≤ 9) (hn : n ≤ 9) (hk1 : 1 ≤ k) : sd_I l D (tyL cI cZ cQ) y_M_need b_M_need 2 (.int) ({ frames := 0, cells := 0, slots := 0, locals := 0 }) [.ref qm, .int (0)] (mW cI cZ qm mp mt ml mc mf me mg mh mu (cd) (nI k) (nI n) (nI (pn)) (nI (nx)) (ep) (nI (M.1)) (M.2.2.1) (M.2.2.2) (wi) (jb) (fp) (tf) (tt) (fi) (ln) (bx) (1000) (pr) (1000) (tk) (8) (le) (576) (co) (576) (fr) (10) (em) (192) (M.2.1) (10) (nb) (10) (su)) (nI (k - 1)) (mW cI cZ qm mp mt ml mc mf me mg mh mu (0) (nI k) (nI n) (nI (pn)) (nI (nx)) (ep) (nI (M.1)) (M.2.2.1) (M.2.2.2) (wi) (jb) (fp) (tf) (tt) (fi) (ln) (bx) (1000) (pr) (1000) (tk) (8) (le) (576) (co) (576) (fr) (10) (em) (192) (M.2.1) (10) (nb) (10) (su)) := by
  refine sd_ofI (by decide) (Nat.le_of_ble_eq_true rfl) ?_
  intro p e s m below meth c A ls hx hb hr hml hlk hown hts hK hP hD hA hS hl
  have hl : lv_has ls 2 [(0, .ref qm), (1, .int (0))] := hl
  refine lv_aload_n hx hb d_M_need_0 rfl (lv_at hl 0 rfl) ?_
  refine lv_iload_n hx hb d_M_need_1 rfl (lv_at hl 1 rfl) ?_
  refine lv_if_lt (tgt := 10) hx hb d_M_need_2 rfl (fun hc2 => ?_) (fun hc2 => ?_)
  · skip
    exact False.elim (by revert hc2; decide)
  · skip
    refine lv_iload_n hx hb d_M_need_5 rfl (lv_at hl 1 rfl) ?_
    refine lv_iconst (v := 2) hx hb d_M_need_6 (by decide) ?_
    refine lv_icmp_le (tgt := 14) hx hb d_M_need_7 rfl (fun hc7 => ?_) (fun hc7 => ?_)
    · skip
      refine lv_iconst (v := 0) hx hb d_M_need_14 (by decide) ?_
      refine va_put (D := D) (ci := 5) (v := .int (0)) (ty := .int) (C := R_M) (T := F_M) (N := 26) hx hb hts wl_M t_M t_M_ok n_M hown hK hP hD hS 0 rfl rfl 0 (by decide) (hts _ wf_M_51) (fun _ h9 => h9) rfl (by decide +kernel) rfl rfl (Nat.le_of_ble_eq_true rfl) d_M_need_15 (fun H locs hP hD hS => ?_)
      have hP : va_P D cls (mW cI cZ qm mp mt ml mc mf me mg mh mu (0) (nI k) (nI n) (nI (pn)) (nI (nx)) (ep) (nI (M.1)) (M.2.2.1) (M.2.2.2) (wi) (jb) (fp) (tf) (tt) (fi) (ln) (bx) (1000) (pr) (1000) (tk) (8) (le) (576) (co) (576) (fr) (10) (em) (192) (M.2.1) (10) (nb) (10) (su)) H := hP
      have hD : va_D A (mW cI cZ qm mp mt ml mc mf me mg mh mu (0) (nI k) (nI n) (nI (pn)) (nI (nx)) (ep) (nI (M.1)) (M.2.2.1) (M.2.2.2) (wi) (jb) (fp) (tf) (tt) (fi) (ln) (bx) (1000) (pr) (1000) (tk) (8) (le) (576) (co) (576) (fr) (10) (em) (192) (M.2.1) (10) (nb) (10) (su)) := hD
      refine lv_aload_n hx hb d_M_need_18 rfl (lv_at hl 0 rfl) ?_
      refine va_get (D := D) (ci := 5) (v := .int (0)) (C := R_M) (T := F_M) (N := 26) hx hb hts wl_M hown hK hP 0 rfl rfl 0 (by decide) (hts _ wf_M_51) (fun _ h9 => h9) rfl d_M_need_19 ?_
      refine lv_if_le (tgt := 27) hx hb d_M_need_22 rfl (fun hc22 => ?_) (fun hc22 => ?_)
      · skip
        refine lv_iload_n hx hb d_M_need_27 rfl (lv_at hl 1 rfl) ?_
        refine lv_if_ne (tgt := 40) hx hb d_M_need_28 rfl (fun hc28 => ?_) (fun hc28 => ?_)
        · skip
          exact False.elim (by revert hc28; decide)
        · skip
          refine lv_aload_n hx hb d_M_need_31 rfl (lv_at hl 0 rfl) ?_
          refine va_get (D := D) (ci := 5) (v := .int (nI k)) (C := R_M) (T := F_M) (N := 26) hx hb hts wl_M hown hK hP 0 rfl rfl 1 (by decide) (hts _ wf_M_48) (fun _ h9 => h9) rfl d_M_need_32 ?_
          refine lv_iconst (v := 1) hx hb d_M_need_35 (by decide) ?_
          refine lv_isub hx hb d_M_need_36 ?_
          refine sd_top (y := nI (k - 1)) (ni_pred (by omega)) ?_
          refine lv_goto (tgt := 75) hx hb d_M_need_37 rfl ?_
          exact sd_iret hx hb hr hlk hP hS (Nat.le_of_ble_eq_true rfl) (Nat.le_of_ble_eq_true rfl) (rfl) d_M_need_75
      · skip
        exact False.elim (by revert hc22; decide)
    · skip
      exact False.elim (by revert hc7; decide)
set_option maxHeartbeats 4000000 in
set_option maxRecDepth 100000 in
theorem c_M_need_01 (l : Launch) (D : va_G) (cI cZ cQ : ClassId) (qm : Nat) (mp : Nat) (mt : Nat) (ml : Nat) (mc : Nat) (mf : Nat) (me : Nat) (mg : Nat) (mh : Nat) (mu : Nat) (k : Nat) (n : Nat) (pn : Nat) (nx : Nat) (cd : Int32) (ep : Int32) (M : mm_T) (wi : Int32) (jb : Int32) (fp : Int32) (tf : Int32) (tt : Int32) (fi : Int32) (ln : Int32) (bx : Int32) (pr : Nat → Int32) (tk : Nat → Int32) (le : Nat → Int32) (co : Nat → Int32) (fr : Nat → Int32) (em : Nat → Int32) (nb : Nat → Int32) (su : Nat → Int32) (lz : Nat → Nat) (hk : k ≤ 9) (hn : n ≤ 9) (hk1 : 1 ≤ k) (hle : ∀ i, i < 8 → le i = nI (lz i)) : sd_I l D (tyL cI cZ cQ) y_M_need b_M_need 2 (.int) ({ frames := 1, cells := 0, slots := 0, locals := 22 }) [.ref qm, .int (1)] (mW cI cZ qm mp mt ml mc mf me mg mh mu (cd) (nI k) (nI n) (nI (pn)) (nI (nx)) (ep) (nI (M.1)) (M.2.2.1) (M.2.2.2) (wi) (jb) (fp) (tf) (tt) (fi) (ln) (bx) (1000) (pr) (1000) (tk) (8) (le) (576) (co) (576) (fr) (10) (em) (192) (M.2.1) (10) (nb) (10) (su)) (nI (sm_b lz 8 * (k - 1))) (mW cI cZ qm mp mt ml mc mf me mg mh mu (0) (nI k) (nI n) (nI (pn)) (nI (nx)) (ep) (nI (M.1)) (M.2.2.1) (M.2.2.2) (wi) (jb) (fp) (tf) (tt) (fi) (ln) (bx) (1000) (pr) (1000) (tk) (8) (le) (576) (co) (576) (fr) (10) (em) (192) (M.2.1) (10) (nb) (10) (su)) := by
  refine sd_ofI (by decide) (Nat.le_of_ble_eq_true rfl) ?_
  intro p e s m below meth c A ls hx hb hr hml hlk hown hts hK hP hD hA hS hl
  have hl : lv_has ls 2 [(0, .ref qm), (1, .int (1))] := hl
  refine lv_aload_n hx hb d_M_need_0 rfl (lv_at hl 0 rfl) ?_
  refine lv_iload_n hx hb d_M_need_1 rfl (lv_at hl 1 rfl) ?_
  refine lv_if_lt (tgt := 10) hx hb d_M_need_2 rfl (fun hc2 => ?_) (fun hc2 => ?_)
  · skip
    exact False.elim (by revert hc2; decide)
  · skip
    refine lv_iload_n hx hb d_M_need_5 rfl (lv_at hl 1 rfl) ?_
    refine lv_iconst (v := 2) hx hb d_M_need_6 (by decide) ?_
    refine lv_icmp_le (tgt := 14) hx hb d_M_need_7 rfl (fun hc7 => ?_) (fun hc7 => ?_)
    · skip
      refine lv_iconst (v := 0) hx hb d_M_need_14 (by decide) ?_
      refine va_put (D := D) (ci := 5) (v := .int (0)) (ty := .int) (C := R_M) (T := F_M) (N := 26) hx hb hts wl_M t_M t_M_ok n_M hown hK hP hD hS 0 rfl rfl 0 (by decide) (hts _ wf_M_51) (fun _ h9 => h9) rfl (by decide +kernel) rfl rfl (Nat.le_of_ble_eq_true rfl) d_M_need_15 (fun H locs hP hD hS => ?_)
      have hP : va_P D cls (mW cI cZ qm mp mt ml mc mf me mg mh mu (0) (nI k) (nI n) (nI (pn)) (nI (nx)) (ep) (nI (M.1)) (M.2.2.1) (M.2.2.2) (wi) (jb) (fp) (tf) (tt) (fi) (ln) (bx) (1000) (pr) (1000) (tk) (8) (le) (576) (co) (576) (fr) (10) (em) (192) (M.2.1) (10) (nb) (10) (su)) H := hP
      have hD : va_D A (mW cI cZ qm mp mt ml mc mf me mg mh mu (0) (nI k) (nI n) (nI (pn)) (nI (nx)) (ep) (nI (M.1)) (M.2.2.1) (M.2.2.2) (wi) (jb) (fp) (tf) (tt) (fi) (ln) (bx) (1000) (pr) (1000) (tk) (8) (le) (576) (co) (576) (fr) (10) (em) (192) (M.2.1) (10) (nb) (10) (su)) := hD
      refine lv_aload_n hx hb d_M_need_18 rfl (lv_at hl 0 rfl) ?_
      refine va_get (D := D) (ci := 5) (v := .int (0)) (C := R_M) (T := F_M) (N := 26) hx hb hts wl_M hown hK hP 0 rfl rfl 0 (by decide) (hts _ wf_M_51) (fun _ h9 => h9) rfl d_M_need_19 ?_
      refine lv_if_le (tgt := 27) hx hb d_M_need_22 rfl (fun hc22 => ?_) (fun hc22 => ?_)
      · skip
        refine lv_iload_n hx hb d_M_need_27 rfl (lv_at hl 1 rfl) ?_
        refine lv_if_ne (tgt := 40) hx hb d_M_need_28 rfl (fun hc28 => ?_) (fun hc28 => ?_)
        · skip
          refine lv_iload_n hx hb d_M_need_40 rfl (lv_at hl 1 rfl) ?_
          refine lv_iconst (v := 1) hx hb d_M_need_41 (by decide) ?_
          refine lv_icmp_ne (tgt := 59) hx hb d_M_need_42 rfl (fun hc42 => ?_) (fun hc42 => ?_)
          · skip
            exact False.elim (by revert hc42; decide)
          · skip
            refine lv_aload_n hx hb d_M_need_45 rfl (lv_at hl 0 rfl) ?_
            refine sd_allVI (As := []) (rest := []) (w1 := (mW cI cZ qm mp mt ml mc mf me mg mh mu (0) (nI k) (nI n) (nI (pn)) (nI (nx)) (ep) (nI (M.1)) (M.2.2.1) (M.2.2.2) (wi) (jb) (fp) (tf) (tt) (fi) (ln) (bx) (1000) (pr) (1000) (tk) (8) (le) (576) (co) (576) (fr) (10) (em) (192) (M.2.1) (10) (nb) (10) (su))) (c_M_total l D cI cZ cQ (qm) (mp) (mt) (ml) (mc) (mf) (me) (mg) (mh) (mu) (k) (n) (pn) (nx) (0) (ep) (M) (wi) (jb) (fp) (tf) (tt) (fi) (ln) (bx) (pr) (tk) (le) (co) (fr) (em) (nb) (su) (lz) (hk) (hn) (hle)) ⟨wc_M_total, wm_M_142, wi_M, by decide, by decide, show (parseMethodDescriptor y_M_total.desc).map (fun d => d.parameters.length) = some 0 by decide +kernel⟩ wo_M_total wz_M_total hx hb hml hown hts hl.1 ⟨Nat.le_of_ble_eq_true rfl, Nat.le_of_ble_eq_true rfl⟩ ⟨Nat.le_of_ble_eq_true rfl, Nat.le_of_ble_eq_true rfl⟩ hK hP hD hS hA (rfl) (q0 := 0) rfl rfl rfl (Nat.le_of_ble_eq_true rfl) d_M_need_46 (fun H locs hP hD hS => ?_)
            have hP : va_P D cls (mW cI cZ qm mp mt ml mc mf me mg mh mu (0) (nI k) (nI n) (nI (pn)) (nI (nx)) (ep) (nI (M.1)) (M.2.2.1) (M.2.2.2) (wi) (jb) (fp) (tf) (tt) (fi) (ln) (bx) (1000) (pr) (1000) (tk) (8) (le) (576) (co) (576) (fr) (10) (em) (192) (M.2.1) (10) (nb) (10) (su)) H := hP
            have hD : va_D A (mW cI cZ qm mp mt ml mc mf me mg mh mu (0) (nI k) (nI n) (nI (pn)) (nI (nx)) (ep) (nI (M.1)) (M.2.2.1) (M.2.2.2) (wi) (jb) (fp) (tf) (tt) (fi) (ln) (bx) (1000) (pr) (1000) (tk) (8) (le) (576) (co) (576) (fr) (10) (em) (192) (M.2.1) (10) (nb) (10) (su)) := hD
            refine lv_aload_n hx hb d_M_need_49 rfl (lv_at hl 0 rfl) ?_
            refine va_get (D := D) (ci := 5) (v := .int (nI k)) (C := R_M) (T := F_M) (N := 26) hx hb hts wl_M hown hK hP 0 rfl rfl 1 (by decide) (hts _ wf_M_48) (fun _ h9 => h9) rfl d_M_need_50 ?_
            refine lv_iconst (v := 1) hx hb d_M_need_53 (by decide) ?_
            refine lv_isub hx hb d_M_need_54 ?_
            refine sd_top (y := nI (k - 1)) (ni_pred (by omega)) ?_
            refine lv_imul hx hb d_M_need_55 ?_
            refine sd_top (y := nI (sm_b lz 8 * (k - 1))) (pk_mul _ _) ?_
            refine lv_goto (tgt := 75) hx hb d_M_need_56 rfl ?_
            exact sd_iret hx hb hr hlk hP hS (Nat.le_of_ble_eq_true rfl) (Nat.le_of_ble_eq_true rfl) (rfl) d_M_need_75
        · skip
          exact False.elim (by revert hc28; decide)
      · skip
        exact False.elim (by revert hc22; decide)
    · skip
      exact False.elim (by revert hc7; decide)
set_option maxHeartbeats 4000000 in
set_option maxRecDepth 100000 in
theorem c_M_need_02 (l : Launch) (D : va_G) (cI cZ cQ : ClassId) (qm : Nat) (mp : Nat) (mt : Nat) (ml : Nat) (mc : Nat) (mf : Nat) (me : Nat) (mg : Nat) (mh : Nat) (mu : Nat) (k : Nat) (n : Nat) (pn : Nat) (nx : Nat) (cd : Int32) (ep : Int32) (M : mm_T) (wi : Int32) (jb : Int32) (fp : Int32) (tf : Int32) (tt : Int32) (fi : Int32) (ln : Int32) (bx : Int32) (pr : Nat → Int32) (tk : Nat → Int32) (le : Nat → Int32) (co : Nat → Int32) (fr : Nat → Int32) (em : Nat → Int32) (nb : Nat → Int32) (su : Nat → Int32) (lz : Nat → Nat) (hk : k ≤ 9) (hn : n ≤ 9) (hk1 : 1 ≤ k) (hle : ∀ i, i < 8 → le i = nI (lz i)) : sd_I l D (tyL cI cZ cQ) y_M_need b_M_need 2 (.int) ({ frames := 1, cells := 0, slots := 0, locals := 22 }) [.ref qm, .int (2)] (mW cI cZ qm mp mt ml mc mf me mg mh mu (cd) (nI k) (nI n) (nI (pn)) (nI (nx)) (ep) (nI (M.1)) (M.2.2.1) (M.2.2.2) (wi) (jb) (fp) (tf) (tt) (fi) (ln) (bx) (1000) (pr) (1000) (tk) (8) (le) (576) (co) (576) (fr) (10) (em) (192) (M.2.1) (10) (nb) (10) (su)) (nI (sm_b lz 8 * (k - 1) * k)) (mW cI cZ qm mp mt ml mc mf me mg mh mu (0) (nI k) (nI n) (nI (pn)) (nI (nx)) (ep) (nI (M.1)) (M.2.2.1) (M.2.2.2) (wi) (jb) (fp) (tf) (tt) (fi) (ln) (bx) (1000) (pr) (1000) (tk) (8) (le) (576) (co) (576) (fr) (10) (em) (192) (M.2.1) (10) (nb) (10) (su)) := by
  refine sd_ofI (by decide) (Nat.le_of_ble_eq_true rfl) ?_
  intro p e s m below meth c A ls hx hb hr hml hlk hown hts hK hP hD hA hS hl
  have hl : lv_has ls 2 [(0, .ref qm), (1, .int (2))] := hl
  refine lv_aload_n hx hb d_M_need_0 rfl (lv_at hl 0 rfl) ?_
  refine lv_iload_n hx hb d_M_need_1 rfl (lv_at hl 1 rfl) ?_
  refine lv_if_lt (tgt := 10) hx hb d_M_need_2 rfl (fun hc2 => ?_) (fun hc2 => ?_)
  · skip
    exact False.elim (by revert hc2; decide)
  · skip
    refine lv_iload_n hx hb d_M_need_5 rfl (lv_at hl 1 rfl) ?_
    refine lv_iconst (v := 2) hx hb d_M_need_6 (by decide) ?_
    refine lv_icmp_le (tgt := 14) hx hb d_M_need_7 rfl (fun hc7 => ?_) (fun hc7 => ?_)
    · skip
      refine lv_iconst (v := 0) hx hb d_M_need_14 (by decide) ?_
      refine va_put (D := D) (ci := 5) (v := .int (0)) (ty := .int) (C := R_M) (T := F_M) (N := 26) hx hb hts wl_M t_M t_M_ok n_M hown hK hP hD hS 0 rfl rfl 0 (by decide) (hts _ wf_M_51) (fun _ h9 => h9) rfl (by decide +kernel) rfl rfl (Nat.le_of_ble_eq_true rfl) d_M_need_15 (fun H locs hP hD hS => ?_)
      have hP : va_P D cls (mW cI cZ qm mp mt ml mc mf me mg mh mu (0) (nI k) (nI n) (nI (pn)) (nI (nx)) (ep) (nI (M.1)) (M.2.2.1) (M.2.2.2) (wi) (jb) (fp) (tf) (tt) (fi) (ln) (bx) (1000) (pr) (1000) (tk) (8) (le) (576) (co) (576) (fr) (10) (em) (192) (M.2.1) (10) (nb) (10) (su)) H := hP
      have hD : va_D A (mW cI cZ qm mp mt ml mc mf me mg mh mu (0) (nI k) (nI n) (nI (pn)) (nI (nx)) (ep) (nI (M.1)) (M.2.2.1) (M.2.2.2) (wi) (jb) (fp) (tf) (tt) (fi) (ln) (bx) (1000) (pr) (1000) (tk) (8) (le) (576) (co) (576) (fr) (10) (em) (192) (M.2.1) (10) (nb) (10) (su)) := hD
      refine lv_aload_n hx hb d_M_need_18 rfl (lv_at hl 0 rfl) ?_
      refine va_get (D := D) (ci := 5) (v := .int (0)) (C := R_M) (T := F_M) (N := 26) hx hb hts wl_M hown hK hP 0 rfl rfl 0 (by decide) (hts _ wf_M_51) (fun _ h9 => h9) rfl d_M_need_19 ?_
      refine lv_if_le (tgt := 27) hx hb d_M_need_22 rfl (fun hc22 => ?_) (fun hc22 => ?_)
      · skip
        refine lv_iload_n hx hb d_M_need_27 rfl (lv_at hl 1 rfl) ?_
        refine lv_if_ne (tgt := 40) hx hb d_M_need_28 rfl (fun hc28 => ?_) (fun hc28 => ?_)
        · skip
          refine lv_iload_n hx hb d_M_need_40 rfl (lv_at hl 1 rfl) ?_
          refine lv_iconst (v := 1) hx hb d_M_need_41 (by decide) ?_
          refine lv_icmp_ne (tgt := 59) hx hb d_M_need_42 rfl (fun hc42 => ?_) (fun hc42 => ?_)
          · skip
            refine lv_aload_n hx hb d_M_need_59 rfl (lv_at hl 0 rfl) ?_
            refine sd_allVI (As := []) (rest := []) (w1 := (mW cI cZ qm mp mt ml mc mf me mg mh mu (0) (nI k) (nI n) (nI (pn)) (nI (nx)) (ep) (nI (M.1)) (M.2.2.1) (M.2.2.2) (wi) (jb) (fp) (tf) (tt) (fi) (ln) (bx) (1000) (pr) (1000) (tk) (8) (le) (576) (co) (576) (fr) (10) (em) (192) (M.2.1) (10) (nb) (10) (su))) (c_M_total l D cI cZ cQ (qm) (mp) (mt) (ml) (mc) (mf) (me) (mg) (mh) (mu) (k) (n) (pn) (nx) (0) (ep) (M) (wi) (jb) (fp) (tf) (tt) (fi) (ln) (bx) (pr) (tk) (le) (co) (fr) (em) (nb) (su) (lz) (hk) (hn) (hle)) ⟨wc_M_total, wm_M_142, wi_M, by decide, by decide, show (parseMethodDescriptor y_M_total.desc).map (fun d => d.parameters.length) = some 0 by decide +kernel⟩ wo_M_total wz_M_total hx hb hml hown hts hl.1 ⟨Nat.le_of_ble_eq_true rfl, Nat.le_of_ble_eq_true rfl⟩ ⟨Nat.le_of_ble_eq_true rfl, Nat.le_of_ble_eq_true rfl⟩ hK hP hD hS hA (rfl) (q0 := 0) rfl rfl rfl (Nat.le_of_ble_eq_true rfl) d_M_need_60 (fun H locs hP hD hS => ?_)
            have hP : va_P D cls (mW cI cZ qm mp mt ml mc mf me mg mh mu (0) (nI k) (nI n) (nI (pn)) (nI (nx)) (ep) (nI (M.1)) (M.2.2.1) (M.2.2.2) (wi) (jb) (fp) (tf) (tt) (fi) (ln) (bx) (1000) (pr) (1000) (tk) (8) (le) (576) (co) (576) (fr) (10) (em) (192) (M.2.1) (10) (nb) (10) (su)) H := hP
            have hD : va_D A (mW cI cZ qm mp mt ml mc mf me mg mh mu (0) (nI k) (nI n) (nI (pn)) (nI (nx)) (ep) (nI (M.1)) (M.2.2.1) (M.2.2.2) (wi) (jb) (fp) (tf) (tt) (fi) (ln) (bx) (1000) (pr) (1000) (tk) (8) (le) (576) (co) (576) (fr) (10) (em) (192) (M.2.1) (10) (nb) (10) (su)) := hD
            refine lv_aload_n hx hb d_M_need_63 rfl (lv_at hl 0 rfl) ?_
            refine va_get (D := D) (ci := 5) (v := .int (nI k)) (C := R_M) (T := F_M) (N := 26) hx hb hts wl_M hown hK hP 0 rfl rfl 1 (by decide) (hts _ wf_M_48) (fun _ h9 => h9) rfl d_M_need_64 ?_
            refine lv_iconst (v := 1) hx hb d_M_need_67 (by decide) ?_
            refine lv_isub hx hb d_M_need_68 ?_
            refine sd_top (y := nI (k - 1)) (ni_pred (by omega)) ?_
            refine lv_imul hx hb d_M_need_69 ?_
            refine sd_top (y := nI (sm_b lz 8 * (k - 1))) (pk_mul _ _) ?_
            refine lv_aload_n hx hb d_M_need_70 rfl (lv_at hl 0 rfl) ?_
            refine va_get (D := D) (ci := 5) (v := .int (nI k)) (C := R_M) (T := F_M) (N := 26) hx hb hts wl_M hown hK hP 0 rfl rfl 1 (by decide) (hts _ wf_M_48) (fun _ h9 => h9) rfl d_M_need_71 ?_
            refine lv_imul hx hb d_M_need_74 ?_
            refine sd_top (y := nI (sm_b lz 8 * (k - 1) * k)) (pk_mul _ _) ?_
            exact sd_iret hx hb hr hlk hP hS (Nat.le_of_ble_eq_true rfl) (Nat.le_of_ble_eq_true rfl) (rfl) d_M_need_75
          · skip
            exact False.elim (by revert hc42; decide)
        · skip
          exact False.elim (by revert hc28; decide)
      · skip
        exact False.elim (by revert hc22; decide)
    · skip
      exact False.elim (by revert hc7; decide)
set_option maxHeartbeats 4000000 in
set_option maxRecDepth 100000 in
theorem c_M_message_1 (l : Launch) (D : va_G) (cI cZ cQ : ClassId) (qm : Nat) (mp : Nat) (mt : Nat) (ml : Nat) (mc : Nat) (mf : Nat) (me : Nat) (mg : Nat) (mh : Nat) (mu : Nat) (k : Nat) (n : Nat) (pn : Nat) (nx : Nat) (cd : Int32) (ep : Int32) (M : mm_T) (wi : Int32) (jb : Int32) (fp : Int32) (tf : Int32) (tt : Int32) (fi : Int32) (ln : Int32) (bx : Int32) (pr : Nat → Int32) (tk : Nat → Int32) (le : Nat → Int32) (co : Nat → Int32) (fr : Nat → Int32) (em : Nat → Int32) (nb : Nat → Int32) (su : Nat → Int32) (j : Int32) (w : Int32) (hk : k ≤ 9) (hn : n ≤ 9) (hj : ¬ (0 ≤ j ∧ j ≤ 63 ∧ j < nI M.1)) : sd_I l D (tyL cI cZ cQ) y_M_message b_M_message 3 (.int) ({ frames := 0, cells := 0, slots := 0, locals := 0 }) [.ref qm, .int (j), .int (w)] (mW cI cZ qm mp mt ml mc mf me mg mh mu (cd) (nI k) (nI n) (nI (pn)) (nI (nx)) (ep) (nI (M.1)) (M.2.2.1) (M.2.2.2) (wi) (jb) (fp) (tf) (tt) (fi) (ln) (bx) (1000) (pr) (1000) (tk) (8) (le) (576) (co) (576) (fr) (10) (em) (192) (M.2.1) (10) (nb) (10) (su)) (0) (mW cI cZ qm mp mt ml mc mf me mg mh mu (1) (nI k) (nI n) (nI (pn)) (nI (nx)) (ep) (nI (M.1)) (M.2.2.1) (M.2.2.2) (wi) (jb) (fp) (tf) (tt) (fi) (ln) (bx) (1000) (pr) (1000) (tk) (8) (le) (576) (co) (576) (fr) (10) (em) (192) (M.2.1) (10) (nb) (10) (su)) := by
  refine sd_ofI (by decide) (Nat.le_of_ble_eq_true rfl) ?_
  intro p e s m below meth c A ls hx hb hr hml hlk hown hts hK hP hD hA hS hl
  have hl : lv_has ls 3 [(0, .ref qm), (1, .int (j)), (2, .int (w))] := hl
  refine lv_aload_n hx hb d_M_message_0 rfl (lv_at hl 0 rfl) ?_
  refine lv_iload_n hx hb d_M_message_1 rfl (lv_at hl 1 rfl) ?_
  refine lv_if_lt (tgt := 19) hx hb d_M_message_2 rfl (fun hc2 => ?_) (fun hc2 => ?_)
  · skip
    refine lv_iconst (v := 1) hx hb d_M_message_19 (by decide) ?_
    refine lv_goto (tgt := 37) hx hb d_M_message_20 rfl ?_
    refine va_put (D := D) (ci := 5) (v := .int (1)) (ty := .int) (C := R_M) (T := F_M) (N := 26) hx hb hts wl_M t_M t_M_ok n_M hown hK hP hD hS 0 rfl rfl 0 (by decide) (hts _ wf_M_51) (fun _ h9 => h9) rfl (by decide +kernel) rfl rfl (Nat.le_of_ble_eq_true rfl) d_M_message_37 (fun H locs hP hD hS => ?_)
    have hP : va_P D cls (mW cI cZ qm mp mt ml mc mf me mg mh mu (1) (nI k) (nI n) (nI (pn)) (nI (nx)) (ep) (nI (M.1)) (M.2.2.1) (M.2.2.2) (wi) (jb) (fp) (tf) (tt) (fi) (ln) (bx) (1000) (pr) (1000) (tk) (8) (le) (576) (co) (576) (fr) (10) (em) (192) (M.2.1) (10) (nb) (10) (su)) H := hP
    have hD : va_D A (mW cI cZ qm mp mt ml mc mf me mg mh mu (1) (nI k) (nI n) (nI (pn)) (nI (nx)) (ep) (nI (M.1)) (M.2.2.1) (M.2.2.2) (wi) (jb) (fp) (tf) (tt) (fi) (ln) (bx) (1000) (pr) (1000) (tk) (8) (le) (576) (co) (576) (fr) (10) (em) (192) (M.2.1) (10) (nb) (10) (su)) := hD
    refine lv_aload_n hx hb d_M_message_40 rfl (lv_at hl 0 rfl) ?_
    refine va_get (D := D) (ci := 5) (v := .int (1)) (C := R_M) (T := F_M) (N := 26) hx hb hts wl_M hown hK hP 0 rfl rfl 0 (by decide) (hts _ wf_M_51) (fun _ h9 => h9) rfl d_M_message_41 ?_
    refine lv_if_le (tgt := 51) hx hb d_M_message_44 rfl (fun hc44 => ?_) (fun hc44 => ?_)
    · skip
      exact False.elim (by revert hc44; decide)
    · skip
      refine lv_iconst (v := 0) hx hb d_M_message_47 (by decide) ?_
      refine lv_goto (tgt := 71) hx hb d_M_message_48 rfl ?_
      exact sd_iret hx hb hr hlk hP hS (Nat.le_of_ble_eq_true rfl) (Nat.le_of_ble_eq_true rfl) (rfl) d_M_message_71
  · skip
    refine lv_iload_n hx hb d_M_message_5 rfl (lv_at hl 1 rfl) ?_
    refine lv_bipush (v := 63) hx hb d_M_message_6 (by decide) ?_
    refine lv_icmp_gt (tgt := 19) hx hb d_M_message_8 rfl (fun hc8 => ?_) (fun hc8 => ?_)
    · skip
      refine lv_iconst (v := 1) hx hb d_M_message_19 (by decide) ?_
      refine lv_goto (tgt := 37) hx hb d_M_message_20 rfl ?_
      refine va_put (D := D) (ci := 5) (v := .int (1)) (ty := .int) (C := R_M) (T := F_M) (N := 26) hx hb hts wl_M t_M t_M_ok n_M hown hK hP hD hS 0 rfl rfl 0 (by decide) (hts _ wf_M_51) (fun _ h9 => h9) rfl (by decide +kernel) rfl rfl (Nat.le_of_ble_eq_true rfl) d_M_message_37 (fun H locs hP hD hS => ?_)
      have hP : va_P D cls (mW cI cZ qm mp mt ml mc mf me mg mh mu (1) (nI k) (nI n) (nI (pn)) (nI (nx)) (ep) (nI (M.1)) (M.2.2.1) (M.2.2.2) (wi) (jb) (fp) (tf) (tt) (fi) (ln) (bx) (1000) (pr) (1000) (tk) (8) (le) (576) (co) (576) (fr) (10) (em) (192) (M.2.1) (10) (nb) (10) (su)) H := hP
      have hD : va_D A (mW cI cZ qm mp mt ml mc mf me mg mh mu (1) (nI k) (nI n) (nI (pn)) (nI (nx)) (ep) (nI (M.1)) (M.2.2.1) (M.2.2.2) (wi) (jb) (fp) (tf) (tt) (fi) (ln) (bx) (1000) (pr) (1000) (tk) (8) (le) (576) (co) (576) (fr) (10) (em) (192) (M.2.1) (10) (nb) (10) (su)) := hD
      refine lv_aload_n hx hb d_M_message_40 rfl (lv_at hl 0 rfl) ?_
      refine va_get (D := D) (ci := 5) (v := .int (1)) (C := R_M) (T := F_M) (N := 26) hx hb hts wl_M hown hK hP 0 rfl rfl 0 (by decide) (hts _ wf_M_51) (fun _ h9 => h9) rfl d_M_message_41 ?_
      refine lv_if_le (tgt := 51) hx hb d_M_message_44 rfl (fun hc44 => ?_) (fun hc44 => ?_)
      · skip
        exact False.elim (by revert hc44; decide)
      · skip
        refine lv_iconst (v := 0) hx hb d_M_message_47 (by decide) ?_
        refine lv_goto (tgt := 71) hx hb d_M_message_48 rfl ?_
        exact sd_iret hx hb hr hlk hP hS (Nat.le_of_ble_eq_true rfl) (Nat.le_of_ble_eq_true rfl) (rfl) d_M_message_71
    · skip
      refine lv_iload_n hx hb d_M_message_11 rfl (lv_at hl 1 rfl) ?_
      refine lv_aload_n hx hb d_M_message_12 rfl (lv_at hl 0 rfl) ?_
      refine va_get (D := D) (ci := 5) (v := .int (nI (M.1))) (C := R_M) (T := F_M) (N := 26) hx hb hts wl_M hown hK hP 0 rfl rfl 12 (by decide) (hts _ wf_M_70) (fun _ h9 => h9) rfl d_M_message_13 ?_
      refine lv_icmp_lt (tgt := 23) hx hb d_M_message_16 rfl (fun hc16 => ?_) (fun hc16 => ?_)
      · skip
        exact absurd ⟨Int32.not_lt.mp hc2, Int32.not_lt.mp hc8, hc16⟩ hj
      · skip
        refine lv_iconst (v := 1) hx hb d_M_message_19 (by decide) ?_
        refine lv_goto (tgt := 37) hx hb d_M_message_20 rfl ?_
        refine va_put (D := D) (ci := 5) (v := .int (1)) (ty := .int) (C := R_M) (T := F_M) (N := 26) hx hb hts wl_M t_M t_M_ok n_M hown hK hP hD hS 0 rfl rfl 0 (by decide) (hts _ wf_M_51) (fun _ h9 => h9) rfl (by decide +kernel) rfl rfl (Nat.le_of_ble_eq_true rfl) d_M_message_37 (fun H locs hP hD hS => ?_)
        have hP : va_P D cls (mW cI cZ qm mp mt ml mc mf me mg mh mu (1) (nI k) (nI n) (nI (pn)) (nI (nx)) (ep) (nI (M.1)) (M.2.2.1) (M.2.2.2) (wi) (jb) (fp) (tf) (tt) (fi) (ln) (bx) (1000) (pr) (1000) (tk) (8) (le) (576) (co) (576) (fr) (10) (em) (192) (M.2.1) (10) (nb) (10) (su)) H := hP
        have hD : va_D A (mW cI cZ qm mp mt ml mc mf me mg mh mu (1) (nI k) (nI n) (nI (pn)) (nI (nx)) (ep) (nI (M.1)) (M.2.2.1) (M.2.2.2) (wi) (jb) (fp) (tf) (tt) (fi) (ln) (bx) (1000) (pr) (1000) (tk) (8) (le) (576) (co) (576) (fr) (10) (em) (192) (M.2.1) (10) (nb) (10) (su)) := hD
        refine lv_aload_n hx hb d_M_message_40 rfl (lv_at hl 0 rfl) ?_
        refine va_get (D := D) (ci := 5) (v := .int (1)) (C := R_M) (T := F_M) (N := 26) hx hb hts wl_M hown hK hP 0 rfl rfl 0 (by decide) (hts _ wf_M_51) (fun _ h9 => h9) rfl d_M_message_41 ?_
        refine lv_if_le (tgt := 51) hx hb d_M_message_44 rfl (fun hc44 => ?_) (fun hc44 => ?_)
        · skip
          exact False.elim (by revert hc44; decide)
        · skip
          refine lv_iconst (v := 0) hx hb d_M_message_47 (by decide) ?_
          refine lv_goto (tgt := 71) hx hb d_M_message_48 rfl ?_
          exact sd_iret hx hb hr hlk hP hS (Nat.le_of_ble_eq_true rfl) (Nat.le_of_ble_eq_true rfl) (rfl) d_M_message_71
set_option maxHeartbeats 4000000 in
set_option maxRecDepth 100000 in
theorem c_M_message_2 (l : Launch) (D : va_G) (cI cZ cQ : ClassId) (qm : Nat) (mp : Nat) (mt : Nat) (ml : Nat) (mc : Nat) (mf : Nat) (me : Nat) (mg : Nat) (mh : Nat) (mu : Nat) (k : Nat) (n : Nat) (pn : Nat) (nx : Nat) (cd : Int32) (ep : Int32) (M : mm_T) (wi : Int32) (jb : Int32) (fp : Int32) (tf : Int32) (tt : Int32) (fi : Int32) (ln : Int32) (bx : Int32) (pr : Nat → Int32) (tk : Nat → Int32) (le : Nat → Int32) (co : Nat → Int32) (fr : Nat → Int32) (em : Nat → Int32) (nb : Nat → Int32) (su : Nat → Int32) (j : Int32) (w : Int32) (hk : k ≤ 9) (hn : n ≤ 9) (hj : 0 ≤ j ∧ j ≤ 63 ∧ j < nI M.1) (hw : ¬ (0 ≤ w ∧ w ≤ 2)) : sd_I l D (tyL cI cZ cQ) y_M_message b_M_message 3 (.int) ({ frames := 0, cells := 0, slots := 0, locals := 0 }) [.ref qm, .int (j), .int (w)] (mW cI cZ qm mp mt ml mc mf me mg mh mu (cd) (nI k) (nI n) (nI (pn)) (nI (nx)) (ep) (nI (M.1)) (M.2.2.1) (M.2.2.2) (wi) (jb) (fp) (tf) (tt) (fi) (ln) (bx) (1000) (pr) (1000) (tk) (8) (le) (576) (co) (576) (fr) (10) (em) (192) (M.2.1) (10) (nb) (10) (su)) (0) (mW cI cZ qm mp mt ml mc mf me mg mh mu (2) (nI k) (nI n) (nI (pn)) (nI (nx)) (ep) (nI (M.1)) (M.2.2.1) (M.2.2.2) (wi) (jb) (fp) (tf) (tt) (fi) (ln) (bx) (1000) (pr) (1000) (tk) (8) (le) (576) (co) (576) (fr) (10) (em) (192) (M.2.1) (10) (nb) (10) (su)) := by
  refine sd_ofI (by decide) (Nat.le_of_ble_eq_true rfl) ?_
  intro p e s m below meth c A ls hx hb hr hml hlk hown hts hK hP hD hA hS hl
  have hl : lv_has ls 3 [(0, .ref qm), (1, .int (j)), (2, .int (w))] := hl
  refine lv_aload_n hx hb d_M_message_0 rfl (lv_at hl 0 rfl) ?_
  refine lv_iload_n hx hb d_M_message_1 rfl (lv_at hl 1 rfl) ?_
  refine lv_if_lt (tgt := 19) hx hb d_M_message_2 rfl (fun hc2 => ?_) (fun hc2 => ?_)
  · skip
    exact absurd hj.1 (Int32.not_le.mpr hc2)
  · skip
    refine lv_iload_n hx hb d_M_message_5 rfl (lv_at hl 1 rfl) ?_
    refine lv_bipush (v := 63) hx hb d_M_message_6 (by decide) ?_
    refine lv_icmp_gt (tgt := 19) hx hb d_M_message_8 rfl (fun hc8 => ?_) (fun hc8 => ?_)
    · skip
      exact absurd hj.2.1 (Int32.not_le.mpr hc8)
    · skip
      refine lv_iload_n hx hb d_M_message_11 rfl (lv_at hl 1 rfl) ?_
      refine lv_aload_n hx hb d_M_message_12 rfl (lv_at hl 0 rfl) ?_
      refine va_get (D := D) (ci := 5) (v := .int (nI (M.1))) (C := R_M) (T := F_M) (N := 26) hx hb hts wl_M hown hK hP 0 rfl rfl 12 (by decide) (hts _ wf_M_70) (fun _ h9 => h9) rfl d_M_message_13 ?_
      refine lv_icmp_lt (tgt := 23) hx hb d_M_message_16 rfl (fun hc16 => ?_) (fun hc16 => ?_)
      · skip
        refine lv_iload_n hx hb d_M_message_23 rfl (lv_at hl 2 rfl) ?_
        refine lv_if_lt (tgt := 32) hx hb d_M_message_24 rfl (fun hc24 => ?_) (fun hc24 => ?_)
        · skip
          refine lv_iconst (v := 2) hx hb d_M_message_32 (by decide) ?_
          refine lv_goto (tgt := 37) hx hb d_M_message_33 rfl ?_
          refine va_put (D := D) (ci := 5) (v := .int (2)) (ty := .int) (C := R_M) (T := F_M) (N := 26) hx hb hts wl_M t_M t_M_ok n_M hown hK hP hD hS 0 rfl rfl 0 (by decide) (hts _ wf_M_51) (fun _ h9 => h9) rfl (by decide +kernel) rfl rfl (Nat.le_of_ble_eq_true rfl) d_M_message_37 (fun H locs hP hD hS => ?_)
          have hP : va_P D cls (mW cI cZ qm mp mt ml mc mf me mg mh mu (2) (nI k) (nI n) (nI (pn)) (nI (nx)) (ep) (nI (M.1)) (M.2.2.1) (M.2.2.2) (wi) (jb) (fp) (tf) (tt) (fi) (ln) (bx) (1000) (pr) (1000) (tk) (8) (le) (576) (co) (576) (fr) (10) (em) (192) (M.2.1) (10) (nb) (10) (su)) H := hP
          have hD : va_D A (mW cI cZ qm mp mt ml mc mf me mg mh mu (2) (nI k) (nI n) (nI (pn)) (nI (nx)) (ep) (nI (M.1)) (M.2.2.1) (M.2.2.2) (wi) (jb) (fp) (tf) (tt) (fi) (ln) (bx) (1000) (pr) (1000) (tk) (8) (le) (576) (co) (576) (fr) (10) (em) (192) (M.2.1) (10) (nb) (10) (su)) := hD
          refine lv_aload_n hx hb d_M_message_40 rfl (lv_at hl 0 rfl) ?_
          refine va_get (D := D) (ci := 5) (v := .int (2)) (C := R_M) (T := F_M) (N := 26) hx hb hts wl_M hown hK hP 0 rfl rfl 0 (by decide) (hts _ wf_M_51) (fun _ h9 => h9) rfl d_M_message_41 ?_
          refine lv_if_le (tgt := 51) hx hb d_M_message_44 rfl (fun hc44 => ?_) (fun hc44 => ?_)
          · skip
            exact False.elim (by revert hc44; decide)
          · skip
            refine lv_iconst (v := 0) hx hb d_M_message_47 (by decide) ?_
            refine lv_goto (tgt := 71) hx hb d_M_message_48 rfl ?_
            exact sd_iret hx hb hr hlk hP hS (Nat.le_of_ble_eq_true rfl) (Nat.le_of_ble_eq_true rfl) (rfl) d_M_message_71
        · skip
          refine lv_iload_n hx hb d_M_message_27 rfl (lv_at hl 2 rfl) ?_
          refine lv_iconst (v := 2) hx hb d_M_message_28 (by decide) ?_
          refine lv_icmp_le (tgt := 36) hx hb d_M_message_29 rfl (fun hc29 => ?_) (fun hc29 => ?_)
          · skip
            exact absurd ⟨Int32.not_lt.mp hc24, hc29⟩ hw
          · skip
            refine lv_iconst (v := 2) hx hb d_M_message_32 (by decide) ?_
            refine lv_goto (tgt := 37) hx hb d_M_message_33 rfl ?_
            refine va_put (D := D) (ci := 5) (v := .int (2)) (ty := .int) (C := R_M) (T := F_M) (N := 26) hx hb hts wl_M t_M t_M_ok n_M hown hK hP hD hS 0 rfl rfl 0 (by decide) (hts _ wf_M_51) (fun _ h9 => h9) rfl (by decide +kernel) rfl rfl (Nat.le_of_ble_eq_true rfl) d_M_message_37 (fun H locs hP hD hS => ?_)
            have hP : va_P D cls (mW cI cZ qm mp mt ml mc mf me mg mh mu (2) (nI k) (nI n) (nI (pn)) (nI (nx)) (ep) (nI (M.1)) (M.2.2.1) (M.2.2.2) (wi) (jb) (fp) (tf) (tt) (fi) (ln) (bx) (1000) (pr) (1000) (tk) (8) (le) (576) (co) (576) (fr) (10) (em) (192) (M.2.1) (10) (nb) (10) (su)) H := hP
            have hD : va_D A (mW cI cZ qm mp mt ml mc mf me mg mh mu (2) (nI k) (nI n) (nI (pn)) (nI (nx)) (ep) (nI (M.1)) (M.2.2.1) (M.2.2.2) (wi) (jb) (fp) (tf) (tt) (fi) (ln) (bx) (1000) (pr) (1000) (tk) (8) (le) (576) (co) (576) (fr) (10) (em) (192) (M.2.1) (10) (nb) (10) (su)) := hD
            refine lv_aload_n hx hb d_M_message_40 rfl (lv_at hl 0 rfl) ?_
            refine va_get (D := D) (ci := 5) (v := .int (2)) (C := R_M) (T := F_M) (N := 26) hx hb hts wl_M hown hK hP 0 rfl rfl 0 (by decide) (hts _ wf_M_51) (fun _ h9 => h9) rfl d_M_message_41 ?_
            refine lv_if_le (tgt := 51) hx hb d_M_message_44 rfl (fun hc44 => ?_) (fun hc44 => ?_)
            · skip
              exact False.elim (by revert hc44; decide)
            · skip
              refine lv_iconst (v := 0) hx hb d_M_message_47 (by decide) ?_
              refine lv_goto (tgt := 71) hx hb d_M_message_48 rfl ?_
              exact sd_iret hx hb hr hlk hP hS (Nat.le_of_ble_eq_true rfl) (Nat.le_of_ble_eq_true rfl) (rfl) d_M_message_71
      · skip
        exact absurd hj.2.2 hc16
set_option maxHeartbeats 4000000 in
set_option maxRecDepth 100000 in
theorem c_M_message_0 (l : Launch) (D : va_G) (cI cZ cQ : ClassId) (qm : Nat) (mp : Nat) (mt : Nat) (ml : Nat) (mc : Nat) (mf : Nat) (me : Nat) (mg : Nat) (mh : Nat) (mu : Nat) (k : Nat) (n : Nat) (pn : Nat) (nx : Nat) (cd : Int32) (ep : Int32) (M : mm_T) (wi : Int32) (jb : Int32) (fp : Int32) (tf : Int32) (tt : Int32) (fi : Int32) (ln : Int32) (bx : Int32) (pr : Nat → Int32) (tk : Nat → Int32) (le : Nat → Int32) (co : Nat → Int32) (fr : Nat → Int32) (em : Nat → Int32) (nb : Nat → Int32) (su : Nat → Int32) (j : Nat) (w : Nat) (hk : k ≤ 9) (hn : n ≤ 9) (hj : j < 64) (hjT : j < M.1) (hT : M.1 < 2 ^ 31) (hw : w < 3) : sd_I l D (tyL cI cZ cQ) y_M_message b_M_message 3 (.int) ({ frames := 0, cells := 0, slots := 0, locals := 0 }) [.ref qm, .int (nI j), .int (nI w)] (mW cI cZ qm mp mt ml mc mf me mg mh mu (cd) (nI k) (nI n) (nI (pn)) (nI (nx)) (ep) (nI (M.1)) (M.2.2.1) (M.2.2.2) (wi) (jb) (fp) (tf) (tt) (fi) (ln) (bx) (1000) (pr) (1000) (tk) (8) (le) (576) (co) (576) (fr) (10) (em) (192) (M.2.1) (10) (nb) (10) (su)) (M.2.1 ((M.1 - 1 - j) % 64 * 3 + w)) (mW cI cZ qm mp mt ml mc mf me mg mh mu (0) (nI k) (nI n) (nI (pn)) (nI (nx)) (ep) (nI (M.1)) (M.2.2.1) (M.2.2.2) (wi) (jb) (fp) (tf) (tt) (fi) (ln) (bx) (1000) (pr) (1000) (tk) (8) (le) (576) (co) (576) (fr) (10) (em) (192) (M.2.1) (10) (nb) (10) (su)) := by
  refine sd_ofI (by decide) (Nat.le_of_ble_eq_true rfl) ?_
  intro p e s m below meth c A ls hx hb hr hml hlk hown hts hK hP hD hA hS hl
  have hl : lv_has ls 3 [(0, .ref qm), (1, .int (nI j)), (2, .int (nI w))] := hl
  have h64 : (M.1 - 1 - j) % 64 < 64 := Nat.mod_lt _ (by omega)
  refine lv_aload_n hx hb d_M_message_0 rfl (lv_at hl 0 rfl) ?_
  refine lv_iload_n hx hb d_M_message_1 rfl (lv_at hl 1 rfl) ?_
  refine lv_if_lt (tgt := 19) hx hb d_M_message_2 rfl (fun hc2 => ?_) (fun hc2 => ?_)
  · skip
    exact absurd hc2 (nI_pos (by omega))
  · skip
    refine lv_iload_n hx hb d_M_message_5 rfl (lv_at hl 1 rfl) ?_
    refine lv_bipush (v := nI 63) hx hb d_M_message_6 (by decide) ?_
    refine lv_icmp_gt (tgt := 19) hx hb d_M_message_8 rfl (fun hc8 => ?_) (fun hc8 => ?_)
    · skip
      exact absurd hc8 (nI_nlt (by omega) (by omega))
    · skip
      refine lv_iload_n hx hb d_M_message_11 rfl (lv_at hl 1 rfl) ?_
      refine lv_aload_n hx hb d_M_message_12 rfl (lv_at hl 0 rfl) ?_
      refine va_get (D := D) (ci := 5) (v := .int (nI (M.1))) (C := R_M) (T := F_M) (N := 26) hx hb hts wl_M hown hK hP 0 rfl rfl 12 (by decide) (hts _ wf_M_70) (fun _ h9 => h9) rfl d_M_message_13 ?_
      refine lv_icmp_lt (tgt := 23) hx hb d_M_message_16 rfl (fun hc16 => ?_) (fun hc16 => ?_)
      · skip
        refine lv_iload_n hx hb d_M_message_23 rfl (lv_at hl 2 rfl) ?_
        refine lv_if_lt (tgt := 32) hx hb d_M_message_24 rfl (fun hc24 => ?_) (fun hc24 => ?_)
        · skip
          exact absurd hc24 (nI_pos (by omega))
        · skip
          refine lv_iload_n hx hb d_M_message_27 rfl (lv_at hl 2 rfl) ?_
          refine lv_iconst (v := nI 2) hx hb d_M_message_28 (by decide) ?_
          refine lv_icmp_le (tgt := 36) hx hb d_M_message_29 rfl (fun hc29 => ?_) (fun hc29 => ?_)
          · skip
            refine lv_iconst (v := 0) hx hb d_M_message_36 (by decide) ?_
            refine va_put (D := D) (ci := 5) (v := .int (0)) (ty := .int) (C := R_M) (T := F_M) (N := 26) hx hb hts wl_M t_M t_M_ok n_M hown hK hP hD hS 0 rfl rfl 0 (by decide) (hts _ wf_M_51) (fun _ h9 => h9) rfl (by decide +kernel) rfl rfl (Nat.le_of_ble_eq_true rfl) d_M_message_37 (fun H locs hP hD hS => ?_)
            have hP : va_P D cls (mW cI cZ qm mp mt ml mc mf me mg mh mu (0) (nI k) (nI n) (nI (pn)) (nI (nx)) (ep) (nI (M.1)) (M.2.2.1) (M.2.2.2) (wi) (jb) (fp) (tf) (tt) (fi) (ln) (bx) (1000) (pr) (1000) (tk) (8) (le) (576) (co) (576) (fr) (10) (em) (192) (M.2.1) (10) (nb) (10) (su)) H := hP
            have hD : va_D A (mW cI cZ qm mp mt ml mc mf me mg mh mu (0) (nI k) (nI n) (nI (pn)) (nI (nx)) (ep) (nI (M.1)) (M.2.2.1) (M.2.2.2) (wi) (jb) (fp) (tf) (tt) (fi) (ln) (bx) (1000) (pr) (1000) (tk) (8) (le) (576) (co) (576) (fr) (10) (em) (192) (M.2.1) (10) (nb) (10) (su)) := hD
            refine lv_aload_n hx hb d_M_message_40 rfl (lv_at hl 0 rfl) ?_
            refine va_get (D := D) (ci := 5) (v := .int (0)) (C := R_M) (T := F_M) (N := 26) hx hb hts wl_M hown hK hP 0 rfl rfl 0 (by decide) (hts _ wf_M_51) (fun _ h9 => h9) rfl d_M_message_41 ?_
            refine lv_if_le (tgt := 51) hx hb d_M_message_44 rfl (fun hc44 => ?_) (fun hc44 => ?_)
            · skip
              refine lv_aload_n hx hb d_M_message_51 rfl (lv_at hl 0 rfl) ?_
              refine va_get (D := D) (ci := 5) (v := .ref mg) (C := R_M) (T := F_M) (N := 26) hx hb hts wl_M hown hK hP 0 rfl rfl 13 (by decide) (hts _ wf_M_29) (fun _ h9 => h9) rfl d_M_message_52 ?_
              refine lv_aload_n hx hb d_M_message_55 rfl (lv_at hl 0 rfl) ?_
              refine va_get (D := D) (ci := 5) (v := .int (nI (M.1))) (C := R_M) (T := F_M) (N := 26) hx hb hts wl_M hown hK hP 0 rfl rfl 12 (by decide) (hts _ wf_M_70) (fun _ h9 => h9) rfl d_M_message_56 ?_
              refine lv_iconst (v := 1) hx hb d_M_message_59 (by decide) ?_
              refine lv_isub hx hb d_M_message_60 ?_
              refine sd_top (y := nI (M.1 - 1)) (ni_pred (by omega)) ?_
              refine lv_iload_n hx hb d_M_message_61 rfl (lv_at hl 1 rfl) ?_
              refine lv_isub hx hb d_M_message_62 ?_
              refine sd_top (y := nI (M.1 - 1 - j)) (pk_sub (by omega)) ?_
              refine lv_bipush (v := nI 64) hx hb d_M_message_63 (by decide) ?_
              refine lv_irem hx hb d_M_message_65 (by decide) ?_
              refine sd_top (y := nI ((M.1 - 1 - j) % 64)) (pk_rem (by omega) (by omega) (by omega)) ?_
              refine lv_iconst (v := nI 3) hx hb d_M_message_66 (by decide) ?_
              refine lv_imul hx hb d_M_message_67 ?_
              refine sd_top (y := nI ((M.1 - 1 - j) % 64 * 3)) (pk_mul _ _) ?_
              refine lv_iload_n hx hb d_M_message_68 rfl (lv_at hl 2 rfl) ?_
              refine lv_iadd hx hb d_M_message_69 ?_
              refine sd_top (y := nI ((M.1 - 1 - j) % 64 * 3 + w)) (nI_add _ _) ?_
              refine sd_iald (j := (M.1 - 1 - j) % 64 * 3 + w) hx hb hK hP 7 0 rfl rfl (by omega) (by omega) d_M_message_70 ?_
              exact sd_iret hx hb hr hlk hP hS (Nat.le_of_ble_eq_true rfl) (Nat.le_of_ble_eq_true rfl) (rfl) d_M_message_71
            · skip
              exact False.elim (by revert hc44; decide)
          · skip
            exact absurd (nI_le (by omega) (by omega)) hc29
      · skip
        exact absurd (nI_lt hjT hT) hc16
