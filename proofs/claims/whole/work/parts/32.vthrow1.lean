theorem i_lt8 {f : Int32} (h : f < 8) : f ≤ 7 := by
  rw [Int32.lt_iff_toInt_lt] at h
  rw [Int32.le_iff_toInt_le]
  have e8 : (8 : Int32).toInt = 8 := by decide
  have e7 : (7 : Int32).toInt = 7 := by decide
  omega
theorem sm_f_le (fl : Nat → Int32) (b : Nat) : sm_f fl b ≤ b := by
  induction b with
  | zero => exact Nat.le_refl _
  | succ b ih =>
    show (if fl (b + 1) = 0 then sm_f fl b else sm_f fl b + 1) ≤ b + 1
    split <;> omega
/-- the ring with the first j bytes of x put behind its pn -/
def vf_f (x : Int64) (pf pn : Nat) : Nat → (Nat → Int32) → Nat → Int32
  | 0, pr => pr
  | j + 1, pr => upd (vf_f x pf pn j pr) ((pf + (pn + j)) % 1000) (bI (lb x j))
theorem d_V_checkFile_0 : decode b_V_checkFile 0 = .ok (.iload_n 0, 1) := by decide +kernel
theorem d_V_checkFile_1 : decode b_V_checkFile 1 = .ok (.ifCond .lt 9, 3) := by decide +kernel
theorem d_V_checkFile_4 : decode b_V_checkFile 4 = .ok (.iload_n 0, 1) := by decide +kernel
theorem d_V_checkFile_5 : decode b_V_checkFile 5 = .ok (.bipush 8, 2) := by decide +kernel
theorem d_V_checkFile_7 : decode b_V_checkFile 7 = .ok (.if_icmp .lt 13, 3) := by decide +kernel
theorem d_V_checkFile_10 : decode b_V_checkFile 10 = .ok (.new 70, 3) := by decide +kernel
theorem d_V_checkFile_13 : decode b_V_checkFile 13 = .ok (.dup, 1) := by decide +kernel
theorem d_V_checkFile_14 : decode b_V_checkFile 14 = .ok (.ldc 247, 2) := by decide +kernel
theorem d_V_checkFile_16 : decode b_V_checkFile 16 = .ok (.invokespecial 74, 3) := by decide +kernel
theorem d_V_checkFile_19 : decode b_V_checkFile 19 = .ok (.athrow, 1) := by decide +kernel
theorem d_V_checkFile_20 : decode b_V_checkFile 20 = .ok (.return_, 1) := by decide +kernel
theorem d_V_checkBox_0 : decode b_V_checkBox 0 = .ok (.iload_n 1, 1) := by decide +kernel
theorem d_V_checkBox_1 : decode b_V_checkBox 1 = .ok (.iconst 1, 1) := by decide +kernel
theorem d_V_checkBox_2 : decode b_V_checkBox 2 = .ok (.if_icmp .lt 11, 3) := by decide +kernel
theorem d_V_checkBox_5 : decode b_V_checkBox 5 = .ok (.iload_n 1, 1) := by decide +kernel
theorem d_V_checkBox_6 : decode b_V_checkBox 6 = .ok (.aload_n 0, 1) := by decide +kernel
theorem d_V_checkBox_7 : decode b_V_checkBox 7 = .ok (.getfield 40, 3) := by decide +kernel
theorem d_V_checkBox_10 : decode b_V_checkBox 10 = .ok (.if_icmp .le 13, 3) := by decide +kernel
theorem d_V_checkBox_13 : decode b_V_checkBox 13 = .ok (.new 70, 3) := by decide +kernel
theorem d_V_checkBox_16 : decode b_V_checkBox 16 = .ok (.dup, 1) := by decide +kernel
theorem d_V_checkBox_17 : decode b_V_checkBox 17 = .ok (.ldc 249, 2) := by decide +kernel
theorem d_V_checkBox_19 : decode b_V_checkBox 19 = .ok (.invokespecial 74, 3) := by decide +kernel
theorem d_V_checkBox_22 : decode b_V_checkBox 22 = .ok (.athrow, 1) := by decide +kernel
theorem d_V_checkBox_23 : decode b_V_checkBox 23 = .ok (.return_, 1) := by decide +kernel
theorem d_V_checkKept_0 : decode b_V_checkKept 0 = .ok (.aload_n 0, 1) := by decide +kernel
theorem d_V_checkKept_1 : decode b_V_checkKept 1 = .ok (.getfield 23, 3) := by decide +kernel
theorem d_V_checkKept_4 : decode b_V_checkKept 4 = .ok (.iload_n 1, 1) := by decide +kernel
theorem d_V_checkKept_5 : decode b_V_checkKept 5 = .ok (.iaload, 1) := by decide +kernel
theorem d_V_checkKept_6 : decode b_V_checkKept 6 = .ok (.ifCond .ne 13, 3) := by decide +kernel
theorem d_V_checkKept_9 : decode b_V_checkKept 9 = .ok (.new 251, 3) := by decide +kernel
theorem d_V_checkKept_12 : decode b_V_checkKept 12 = .ok (.dup, 1) := by decide +kernel
theorem d_V_checkKept_13 : decode b_V_checkKept 13 = .ok (.ldc 253, 2) := by decide +kernel
theorem d_V_checkKept_15 : decode b_V_checkKept 15 = .ok (.invokespecial 255, 3) := by decide +kernel
theorem d_V_checkKept_18 : decode b_V_checkKept 18 = .ok (.athrow, 1) := by decide +kernel
theorem d_V_checkKept_19 : decode b_V_checkKept 19 = .ok (.return_, 1) := by decide +kernel
theorem d_V_checkAllFilled_0 : decode b_V_checkAllFilled 0 = .ok (.aload_n 0, 1) := by decide +kernel
theorem d_V_checkAllFilled_1 : decode b_V_checkAllFilled 1 = .ok (.invokevirtual 147, 3) := by decide +kernel
theorem d_V_checkAllFilled_4 : decode b_V_checkAllFilled 4 = .ok (.aload_n 0, 1) := by decide +kernel
theorem d_V_checkAllFilled_5 : decode b_V_checkAllFilled 5 = .ok (.getfield 40, 3) := by decide +kernel
theorem d_V_checkAllFilled_8 : decode b_V_checkAllFilled 8 = .ok (.if_icmp .ge 14, 3) := by decide +kernel
theorem d_V_checkAllFilled_11 : decode b_V_checkAllFilled 11 = .ok (.new 97, 3) := by decide +kernel
theorem d_V_checkAllFilled_14 : decode b_V_checkAllFilled 14 = .ok (.dup, 1) := by decide +kernel
theorem d_V_checkAllFilled_15 : decode b_V_checkAllFilled 15 = .ok (.ldc_w 256, 3) := by decide +kernel
theorem d_V_checkAllFilled_18 : decode b_V_checkAllFilled 18 = .ok (.invokespecial 101, 3) := by decide +kernel
theorem d_V_checkAllFilled_21 : decode b_V_checkAllFilled 21 = .ok (.athrow, 1) := by decide +kernel
theorem d_V_checkAllFilled_22 : decode b_V_checkAllFilled 22 = .ok (.return_, 1) := by decide +kernel
theorem d_V_checkNoneStopped_0 : decode b_V_checkNoneStopped 0 = .ok (.aload_n 0, 1) := by decide +kernel
theorem d_V_checkNoneStopped_1 : decode b_V_checkNoneStopped 1 = .ok (.getfield 19, 3) := by decide +kernel
theorem d_V_checkNoneStopped_4 : decode b_V_checkNoneStopped 4 = .ok (.getfield 177, 3) := by decide +kernel
theorem d_V_checkNoneStopped_7 : decode b_V_checkNoneStopped 7 = .ok (.ifCond .eq 14, 3) := by decide +kernel
theorem d_V_checkNoneStopped_10 : decode b_V_checkNoneStopped 10 = .ok (.new 97, 3) := by decide +kernel
theorem d_V_checkNoneStopped_13 : decode b_V_checkNoneStopped 13 = .ok (.dup, 1) := by decide +kernel
theorem d_V_checkNoneStopped_14 : decode b_V_checkNoneStopped 14 = .ok (.ldc_w 258, 3) := by decide +kernel
theorem d_V_checkNoneStopped_17 : decode b_V_checkNoneStopped 17 = .ok (.invokespecial 101, 3) := by decide +kernel
theorem d_V_checkNoneStopped_20 : decode b_V_checkNoneStopped 20 = .ok (.athrow, 1) := by decide +kernel
theorem d_V_checkNoneStopped_21 : decode b_V_checkNoneStopped 21 = .ok (.return_, 1) := by decide +kernel
theorem d_V_checkPool_0 : decode b_V_checkPool 0 = .ok (.aload_n 0, 1) := by decide +kernel
theorem d_V_checkPool_1 : decode b_V_checkPool 1 = .ok (.getfield 10, 3) := by decide +kernel
theorem d_V_checkPool_4 : decode b_V_checkPool 4 = .ok (.getfield 77, 3) := by decide +kernel
theorem d_V_checkPool_7 : decode b_V_checkPool 7 = .ok (.iload_n 1, 1) := by decide +kernel
theorem d_V_checkPool_8 : decode b_V_checkPool 8 = .ok (.if_icmp .ge 14, 3) := by decide +kernel
theorem d_V_checkPool_11 : decode b_V_checkPool 11 = .ok (.new 80, 3) := by decide +kernel
theorem d_V_checkPool_14 : decode b_V_checkPool 14 = .ok (.dup, 1) := by decide +kernel
theorem d_V_checkPool_15 : decode b_V_checkPool 15 = .ok (.ldc_w 260, 3) := by decide +kernel
theorem d_V_checkPool_18 : decode b_V_checkPool 18 = .ok (.invokespecial 84, 3) := by decide +kernel
theorem d_V_checkPool_21 : decode b_V_checkPool 21 = .ok (.athrow, 1) := by decide +kernel
theorem d_V_checkPool_22 : decode b_V_checkPool 22 = .ok (.return_, 1) := by decide +kernel
theorem d_V_chooseHelpers_0 : decode b_V_chooseHelpers 0 = .ok (.aload_n 0, 1) := by decide +kernel
theorem d_V_chooseHelpers_1 : decode b_V_chooseHelpers 1 = .ok (.getfield 51, 3) := by decide +kernel
theorem d_V_chooseHelpers_4 : decode b_V_chooseHelpers 4 = .ok (.aload_n 0, 1) := by decide +kernel
theorem d_V_chooseHelpers_5 : decode b_V_chooseHelpers 5 = .ok (.getfield 66, 3) := by decide +kernel
theorem d_V_chooseHelpers_8 : decode b_V_chooseHelpers 8 = .ok (.iload_n 1, 1) := by decide +kernel
theorem d_V_chooseHelpers_9 : decode b_V_chooseHelpers 9 = .ok (.invokevirtual 262, 3) := by decide +kernel
theorem d_V_chooseHelpers_12 : decode b_V_chooseHelpers 12 = .ok (.ifCond .ne 14, 3) := by decide +kernel
theorem d_V_chooseHelpers_15 : decode b_V_chooseHelpers 15 = .ok (.new 97, 3) := by decide +kernel
theorem d_V_chooseHelpers_18 : decode b_V_chooseHelpers 18 = .ok (.dup, 1) := by decide +kernel
theorem d_V_chooseHelpers_19 : decode b_V_chooseHelpers 19 = .ok (.ldc_w 266, 3) := by decide +kernel
theorem d_V_chooseHelpers_22 : decode b_V_chooseHelpers 22 = .ok (.invokespecial 101, 3) := by decide +kernel
theorem d_V_chooseHelpers_25 : decode b_V_chooseHelpers 25 = .ok (.athrow, 1) := by decide +kernel
theorem d_V_chooseHelpers_26 : decode b_V_chooseHelpers 26 = .ok (.return_, 1) := by decide +kernel
theorem d_V_stopAfter_0 : decode b_V_stopAfter 0 = .ok (.iload_n 1, 1) := by decide +kernel
theorem d_V_stopAfter_1 : decode b_V_stopAfter 1 = .ok (.iconst (-1), 1) := by decide +kernel
theorem d_V_stopAfter_2 : decode b_V_stopAfter 2 = .ok (.if_icmp .ge 13, 3) := by decide +kernel
theorem d_V_stopAfter_5 : decode b_V_stopAfter 5 = .ok (.new 70, 3) := by decide +kernel
theorem d_V_stopAfter_8 : decode b_V_stopAfter 8 = .ok (.dup, 1) := by decide +kernel
theorem d_V_stopAfter_9 : decode b_V_stopAfter 9 = .ok (.ldc 172, 2) := by decide +kernel
theorem d_V_stopAfter_11 : decode b_V_stopAfter 11 = .ok (.invokespecial 74, 3) := by decide +kernel
theorem d_V_stopAfter_14 : decode b_V_stopAfter 14 = .ok (.athrow, 1) := by decide +kernel
theorem d_V_stopAfter_15 : decode b_V_stopAfter 15 = .ok (.aload_n 0, 1) := by decide +kernel
theorem d_V_stopAfter_16 : decode b_V_stopAfter 16 = .ok (.getfield 19, 3) := by decide +kernel
theorem d_V_stopAfter_19 : decode b_V_stopAfter 19 = .ok (.iload_n 1, 1) := by decide +kernel
theorem d_V_stopAfter_20 : decode b_V_stopAfter 20 = .ok (.putfield 174, 3) := by decide +kernel
theorem d_V_stopAfter_23 : decode b_V_stopAfter 23 = .ok (.return_, 1) := by decide +kernel
theorem d_V_length_0 : decode b_V_length 0 = .ok (.iload_n 1, 1) := by decide +kernel
theorem d_V_length_1 : decode b_V_length 1 = .ok (.invokestatic 94, 3) := by decide +kernel
theorem d_V_length_4 : decode b_V_length 4 = .ok (.aload_n 0, 1) := by decide +kernel
theorem d_V_length_5 : decode b_V_length 5 = .ok (.getfield 23, 3) := by decide +kernel
theorem d_V_length_8 : decode b_V_length 8 = .ok (.iload_n 1, 1) := by decide +kernel
theorem d_V_length_9 : decode b_V_length 9 = .ok (.iaload, 1) := by decide +kernel
theorem d_V_length_10 : decode b_V_length 10 = .ok (.ireturn, 1) := by decide +kernel
theorem d_V_feed_0 : decode b_V_feed 0 = .ok (.iload_n 3, 1) := by decide +kernel
theorem d_V_feed_1 : decode b_V_feed 1 = .ok (.iconst 1, 1) := by decide +kernel
theorem d_V_feed_2 : decode b_V_feed 2 = .ok (.if_icmp .lt 9, 3) := by decide +kernel
theorem d_V_feed_5 : decode b_V_feed 5 = .ok (.iload_n 3, 1) := by decide +kernel
theorem d_V_feed_6 : decode b_V_feed 6 = .ok (.bipush 8, 2) := by decide +kernel
theorem d_V_feed_8 : decode b_V_feed 8 = .ok (.if_icmp .le 13, 3) := by decide +kernel
theorem d_V_feed_11 : decode b_V_feed 11 = .ok (.new 70, 3) := by decide +kernel
theorem d_V_feed_14 : decode b_V_feed 14 = .ok (.dup, 1) := by decide +kernel
theorem d_V_feed_15 : decode b_V_feed 15 = .ok (.ldc 72, 2) := by decide +kernel
theorem d_V_feed_17 : decode b_V_feed 17 = .ok (.invokespecial 74, 3) := by decide +kernel
theorem d_V_feed_20 : decode b_V_feed 20 = .ok (.athrow, 1) := by decide +kernel
theorem d_V_feed_21 : decode b_V_feed 21 = .ok (.aload_n 0, 1) := by decide +kernel
theorem d_V_feed_22 : decode b_V_feed 22 = .ok (.getfield 10, 3) := by decide +kernel
theorem d_V_feed_25 : decode b_V_feed 25 = .ok (.getfield 77, 3) := by decide +kernel
theorem d_V_feed_28 : decode b_V_feed 28 = .ok (.iload_n 3, 1) := by decide +kernel
theorem d_V_feed_29 : decode b_V_feed 29 = .ok (.iadd, 1) := by decide +kernel
theorem d_V_feed_30 : decode b_V_feed 30 = .ok (.sipush 1000, 3) := by decide +kernel
theorem d_V_feed_33 : decode b_V_feed 33 = .ok (.if_icmp .le 13, 3) := by decide +kernel
theorem d_V_feed_36 : decode b_V_feed 36 = .ok (.new 80, 3) := by decide +kernel
theorem d_V_feed_39 : decode b_V_feed 39 = .ok (.dup, 1) := by decide +kernel
theorem d_V_feed_40 : decode b_V_feed 40 = .ok (.ldc 82, 2) := by decide +kernel
theorem d_V_feed_42 : decode b_V_feed 42 = .ok (.invokespecial 84, 3) := by decide +kernel
theorem d_V_feed_45 : decode b_V_feed 45 = .ok (.athrow, 1) := by decide +kernel
theorem d_V_feed_46 : decode b_V_feed 46 = .ok (.iconst 0, 1) := by decide +kernel
theorem d_V_feed_47 : decode b_V_feed 47 = .ok (.istore 4, 2) := by decide +kernel
theorem d_V_feed_49 : decode b_V_feed 49 = .ok (.iload 4, 2) := by decide +kernel
theorem d_V_feed_51 : decode b_V_feed 51 = .ok (.iload_n 3, 1) := by decide +kernel
theorem d_V_feed_52 : decode b_V_feed 52 = .ok (.if_icmp .ge 22, 3) := by decide +kernel
theorem d_V_feed_55 : decode b_V_feed 55 = .ok (.aload_n 0, 1) := by decide +kernel
theorem d_V_feed_56 : decode b_V_feed 56 = .ok (.getfield 10, 3) := by decide +kernel
theorem d_V_feed_59 : decode b_V_feed 59 = .ok (.lload_n 1, 1) := by decide +kernel
theorem d_V_feed_60 : decode b_V_feed 60 = .ok (.iload 4, 2) := by decide +kernel
theorem d_V_feed_62 : decode b_V_feed 62 = .ok (.invokestatic 85, 3) := by decide +kernel
theorem d_V_feed_65 : decode b_V_feed 65 = .ok (.invokevirtual 91, 3) := by decide +kernel
theorem d_V_feed_68 : decode b_V_feed 68 = .ok (.iinc 4 1, 3) := by decide +kernel
theorem d_V_feed_71 : decode b_V_feed 71 = .ok (.goto (-22), 3) := by decide +kernel
theorem d_V_feed_74 : decode b_V_feed 74 = .ok (.aload_n 0, 1) := by decide +kernel
theorem d_V_feed_75 : decode b_V_feed 75 = .ok (.getfield 10, 3) := by decide +kernel
theorem d_V_feed_78 : decode b_V_feed 78 = .ok (.getfield 77, 3) := by decide +kernel
theorem d_V_feed_81 : decode b_V_feed 81 = .ok (.ireturn, 1) := by decide +kernel
set_option maxHeartbeats 4000000 in
set_option maxRecDepth 100000 in
theorem c_V_checkFile_y (l : Launch) (D : va_G) (cI cZ cQ : ClassId) (f : Nat) (hf8 : f < 8) : sd_V l D (tyL cI cZ cQ) y_V_checkFile b_V_checkFile 1 ({ frames := 0, cells := 0, slots := 0, locals := 0 }) [.int (nI f)] [] [] := by
  refine sd_ofV (by decide) (Nat.le_of_ble_eq_true rfl) ?_
  intro p e s m below meth c A ls hx hb hr hml hlk hown hts hK hP hD hA hS hl
  have hl : lv_has ls 1 [(0, .int (nI f))] := hl
  refine lv_iload_n hx hb d_V_checkFile_0 rfl (lv_at hl 0 rfl) ?_
  refine lv_if_lt (tgt := 10) hx hb d_V_checkFile_1 rfl (fun hc1 => ?_) (fun hc1 => ?_)
  · skip
    exact absurd hc1 (nI_pos (by omega))
  · skip
    refine lv_iload_n hx hb d_V_checkFile_4 rfl (lv_at hl 0 rfl) ?_
    refine lv_bipush (v := nI 8) hx hb d_V_checkFile_5 (by decide) ?_
    refine lv_icmp_lt (tgt := 20) hx hb d_V_checkFile_7 rfl (fun hc7 => ?_) (fun hc7 => ?_)
    · skip
      exact sd_vret hx hb hr hlk hP hS (Nat.le_of_ble_eq_true rfl) (Nat.le_of_ble_eq_true rfl) d_V_checkFile_20
    · skip
      exact absurd (nI_lt hf8 (by omega)) hc7
set_option maxHeartbeats 4000000 in
set_option maxRecDepth 100000 in
theorem c_V_checkFile_x (l : Launch) (D : va_G) (cI cZ cQ : ClassId) (f : Int32) (hst : l.stackTraces = false) (hfx : ¬ (0 ≤ f ∧ f ≤ 7)) : sd_X l D (tyL cI cZ cQ) y_V_checkFile b_V_checkFile 1 none ({ frames := 6, cells := 1, slots := 6, locals := 90 }) [.int (f)] [] "java/lang/IllegalArgumentException" [] := by
  refine sd_ofX (by decide) (Nat.le_of_ble_eq_true rfl) ?_
  intro p e s m below meth c A ls hx hb hr hml hlk hown hts hK hP hD hA hS hl hX htab
  have hl : lv_has ls 1 [(0, .int (f))] := hl
  refine lv_iload_n hx hb d_V_checkFile_0 rfl (lv_at hl 0 rfl) ?_
  refine lv_if_lt (tgt := 10) hx hb d_V_checkFile_1 rfl (fun hc1 => ?_) (fun hc1 => ?_)
  · skip
    exact xd_throw (names := xn_) (text := "no such file") hst xk_IAE wk_V_70 wi_IllegalArgumentException (by decide) hx hb hown hts hX htab hlk hP hS (hl.1.trans hml.symm) d_V_checkFile_10 d_V_checkFile_13 d_V_checkFile_14 d_V_checkFile_16 d_V_checkFile_19 (Nat.le_of_ble_eq_true rfl) (Nat.le_of_ble_eq_true rfl) (Nat.le_of_ble_eq_true rfl) (Nat.le_of_ble_eq_true rfl) (Nat.le_of_ble_eq_true rfl) (Nat.le_of_ble_eq_true rfl)
  · skip
    refine lv_iload_n hx hb d_V_checkFile_4 rfl (lv_at hl 0 rfl) ?_
    refine lv_bipush (v := 8) hx hb d_V_checkFile_5 (by decide) ?_
    refine lv_icmp_lt (tgt := 20) hx hb d_V_checkFile_7 rfl (fun hc7 => ?_) (fun hc7 => ?_)
    · skip
      exact absurd ⟨Int32.not_lt.mp hc1, i_lt8 hc7⟩ hfx
    · skip
      exact xd_throw (names := xn_) (text := "no such file") hst xk_IAE wk_V_70 wi_IllegalArgumentException (by decide) hx hb hown hts hX htab hlk hP hS (hl.1.trans hml.symm) d_V_checkFile_10 d_V_checkFile_13 d_V_checkFile_14 d_V_checkFile_16 d_V_checkFile_19 (Nat.le_of_ble_eq_true rfl) (Nat.le_of_ble_eq_true rfl) (Nat.le_of_ble_eq_true rfl) (Nat.le_of_ble_eq_true rfl) (Nat.le_of_ble_eq_true rfl) (Nat.le_of_ble_eq_true rfl)
set_option maxHeartbeats 4000000 in
set_option maxRecDepth 100000 in
theorem c_V_checkBox_y (l : Launch) (D : va_G) (cI cZ cQ : ClassId) (qv : Nat) (qp : Nat) (qr : Nat) (qj : Nat) (qg : Nat) (qs : Nat) (qh : Nat) (qn : Nat) (qu : Nat) (qw : Nat) (qH : Nat) (qF : Nat) (qc : Nat) (ql : Nat) (qf : Nat) (k : Nat) (n : Nat) (pf : Nat) (pn : Nat) (pr : Nat → Int32) (wi : Int32) (M : ms_T) (hf : Int32) (lim : Int32) (nt : Int32) (lt : Int32) (nb : Nat → Int32) (su : Nat → Int32) (wt : Nat → Int32) (ch : Nat → Int32) (le : Nat → Int32) (fl : Nat → Int32) (ep : Int32) (L : List Nat) (hh : Nat → Nat) (ff : Nat → Nat) (rw : Nat → Nat → Int32) (x : Nat) (hk : k < 2 ^ 20) (hn : n < 2 ^ 20) (hhL : ∀ i, i < n + 1 → hh i ∈ L) (ffL : ∀ i, i < n + 1 → ff i ∈ L) (hx1 : 1 ≤ x) (hxn : x ≤ n) : sd_V l D (tyL cI cZ cQ) y_V_checkBox b_V_checkBox 2 ({ frames := 0, cells := 0, slots := 0, locals := 0 }) [.ref qv, .int (nI x)] ((vW cI cQ cZ qv qp qr qj qg qs qh qn qu qw qH qF qc ql qf (nI (k)) (nI (n)) (ep) (nI (pf)) (nI (pn)) (1000) (pr) (wi) (M.2.2.2) (hf) (nI M.2.2.1) (lim) (nt) (lt) (nI (M.1)) (192) (M.2.1) (k) (nb) (k) (su) (k) (wt) (n + 1) (fun i => if i < n + 1 then some (hh i) else none) (n + 1) (fun i => if i < n + 1 then some (ff i) else none) (k) (ch) (8) (le) (n + 1) (fl)) ++ va_pl L (rowE cI rw)) ((vW cI cQ cZ qv qp qr qj qg qs qh qn qu qw qH qF qc ql qf (nI (k)) (nI (n)) (ep) (nI (pf)) (nI (pn)) (1000) (pr) (wi) (M.2.2.2) (hf) (nI M.2.2.1) (lim) (nt) (lt) (nI (M.1)) (192) (M.2.1) (k) (nb) (k) (su) (k) (wt) (n + 1) (fun i => if i < n + 1 then some (hh i) else none) (n + 1) (fun i => if i < n + 1 then some (ff i) else none) (k) (ch) (8) (le) (n + 1) (fl)) ++ va_pl L (rowE cI rw)) := by
  refine sd_ofV (by decide) (Nat.le_of_ble_eq_true rfl) ?_
  intro p e s m below meth c A ls hx hb hr hml hlk hown hts hK hP hD hA hS hl
  have hl : lv_has ls 2 [(0, .ref qv), (1, .int (nI x))] := hl
  refine lv_iload_n hx hb d_V_checkBox_0 rfl (lv_at hl 1 rfl) ?_
  refine lv_iconst (v := nI 1) hx hb d_V_checkBox_1 (by decide) ?_
  refine lv_icmp_lt (tgt := 13) hx hb d_V_checkBox_2 rfl (fun hc2 => ?_) (fun hc2 => ?_)
  · skip
    exact absurd hc2 (nI_nlt hx1 (by omega))
  · skip
    refine lv_iload_n hx hb d_V_checkBox_5 rfl (lv_at hl 1 rfl) ?_
    refine lv_aload_n hx hb d_V_checkBox_6 rfl (lv_at hl 0 rfl) ?_
    refine va_get (D := D) (ci := 4) (v := .int (nI (n))) (C := R_V) (T := F_V) (N := 11) hx hb hts wl_V hown hK hP 0 rfl rfl 1 (by decide) (hts _ wf_V_40) (fun _ h9 => h9) rfl d_V_checkBox_7 ?_
    refine lv_icmp_le (tgt := 23) hx hb d_V_checkBox_10 rfl (fun hc10 => ?_) (fun hc10 => ?_)
    · skip
      exact sd_vret hx hb hr hlk hP hS (Nat.le_of_ble_eq_true rfl) (Nat.le_of_ble_eq_true rfl) d_V_checkBox_23
    · skip
      exact absurd (nI_le hxn (by omega)) hc10
set_option maxHeartbeats 4000000 in
set_option maxRecDepth 100000 in
theorem c_V_checkBox_x (l : Launch) (D : va_G) (cI cZ cQ : ClassId) (qv : Nat) (qp : Nat) (qr : Nat) (qj : Nat) (qg : Nat) (qs : Nat) (qh : Nat) (qn : Nat) (qu : Nat) (qw : Nat) (qH : Nat) (qF : Nat) (qc : Nat) (ql : Nat) (qf : Nat) (k : Nat) (n : Nat) (pf : Nat) (pn : Nat) (pr : Nat → Int32) (wi : Int32) (M : ms_T) (hf : Int32) (lim : Int32) (nt : Int32) (lt : Int32) (nb : Nat → Int32) (su : Nat → Int32) (wt : Nat → Int32) (ch : Nat → Int32) (le : Nat → Int32) (fl : Nat → Int32) (ep : Int32) (L : List Nat) (hh : Nat → Nat) (ff : Nat → Nat) (rw : Nat → Nat → Int32) (b : Int32) (hst : l.stackTraces = false) (hk : k < 2 ^ 20) (hn : n < 2 ^ 20) (hhL : ∀ i, i < n + 1 → hh i ∈ L) (ffL : ∀ i, i < n + 1 → ff i ∈ L) (hbx : ¬ (1 ≤ b ∧ b ≤ nI n)) : sd_X l D (tyL cI cZ cQ) y_V_checkBox b_V_checkBox 2 none ({ frames := 6, cells := 1, slots := 6, locals := 90 }) [.ref qv, .int (b)] ((vW cI cQ cZ qv qp qr qj qg qs qh qn qu qw qH qF qc ql qf (nI (k)) (nI (n)) (ep) (nI (pf)) (nI (pn)) (1000) (pr) (wi) (M.2.2.2) (hf) (nI M.2.2.1) (lim) (nt) (lt) (nI (M.1)) (192) (M.2.1) (k) (nb) (k) (su) (k) (wt) (n + 1) (fun i => if i < n + 1 then some (hh i) else none) (n + 1) (fun i => if i < n + 1 then some (ff i) else none) (k) (ch) (8) (le) (n + 1) (fl)) ++ va_pl L (rowE cI rw)) "java/lang/IllegalArgumentException" ((vW cI cQ cZ qv qp qr qj qg qs qh qn qu qw qH qF qc ql qf (nI (k)) (nI (n)) (ep) (nI (pf)) (nI (pn)) (1000) (pr) (wi) (M.2.2.2) (hf) (nI M.2.2.1) (lim) (nt) (lt) (nI (M.1)) (192) (M.2.1) (k) (nb) (k) (su) (k) (wt) (n + 1) (fun i => if i < n + 1 then some (hh i) else none) (n + 1) (fun i => if i < n + 1 then some (ff i) else none) (k) (ch) (8) (le) (n + 1) (fl)) ++ va_pl L (rowE cI rw)) := by
  refine sd_ofX (by decide) (Nat.le_of_ble_eq_true rfl) ?_
  intro p e s m below meth c A ls hx hb hr hml hlk hown hts hK hP hD hA hS hl hX htab
  have hl : lv_has ls 2 [(0, .ref qv), (1, .int (b))] := hl
  refine lv_iload_n hx hb d_V_checkBox_0 rfl (lv_at hl 1 rfl) ?_
  refine lv_iconst (v := 1) hx hb d_V_checkBox_1 (by decide) ?_
  refine lv_icmp_lt (tgt := 13) hx hb d_V_checkBox_2 rfl (fun hc2 => ?_) (fun hc2 => ?_)
  · skip
    exact xd_throw (names := xn_) (text := "no such box") hst xk_IAE wk_V_70 wi_IllegalArgumentException (by decide) hx hb hown hts hX htab hlk hP hS (hl.1.trans hml.symm) d_V_checkBox_13 d_V_checkBox_16 d_V_checkBox_17 d_V_checkBox_19 d_V_checkBox_22 (Nat.le_of_ble_eq_true rfl) (Nat.le_of_ble_eq_true rfl) (Nat.le_of_ble_eq_true rfl) (Nat.le_of_ble_eq_true rfl) (Nat.le_of_ble_eq_true rfl) (Nat.le_of_ble_eq_true rfl)
  · skip
    refine lv_iload_n hx hb d_V_checkBox_5 rfl (lv_at hl 1 rfl) ?_
    refine lv_aload_n hx hb d_V_checkBox_6 rfl (lv_at hl 0 rfl) ?_
    refine va_get (D := D) (ci := 4) (v := .int (nI (n))) (C := R_V) (T := F_V) (N := 11) hx hb hts wl_V hown hK hP 0 rfl rfl 1 (by decide) (hts _ wf_V_40) (fun _ h9 => h9) rfl d_V_checkBox_7 ?_
    refine lv_icmp_le (tgt := 23) hx hb d_V_checkBox_10 rfl (fun hc10 => ?_) (fun hc10 => ?_)
    · skip
      exact absurd ⟨Int32.not_lt.mp hc2, hc10⟩ hbx
    · skip
      exact xd_throw (names := xn_) (text := "no such box") hst xk_IAE wk_V_70 wi_IllegalArgumentException (by decide) hx hb hown hts hX htab hlk hP hS (hl.1.trans hml.symm) d_V_checkBox_13 d_V_checkBox_16 d_V_checkBox_17 d_V_checkBox_19 d_V_checkBox_22 (Nat.le_of_ble_eq_true rfl) (Nat.le_of_ble_eq_true rfl) (Nat.le_of_ble_eq_true rfl) (Nat.le_of_ble_eq_true rfl) (Nat.le_of_ble_eq_true rfl) (Nat.le_of_ble_eq_true rfl)
set_option maxHeartbeats 4000000 in
set_option maxRecDepth 100000 in
theorem c_V_checkKept_y (l : Launch) (D : va_G) (cI cZ cQ : ClassId) (qv : Nat) (qp : Nat) (qr : Nat) (qj : Nat) (qg : Nat) (qs : Nat) (qh : Nat) (qn : Nat) (qu : Nat) (qw : Nat) (qH : Nat) (qF : Nat) (qc : Nat) (ql : Nat) (qf : Nat) (k : Nat) (n : Nat) (pf : Nat) (pn : Nat) (pr : Nat → Int32) (wi : Int32) (M : ms_T) (hf : Int32) (lim : Int32) (nt : Int32) (lt : Int32) (nb : Nat → Int32) (su : Nat → Int32) (wt : Nat → Int32) (ch : Nat → Int32) (le : Nat → Int32) (fl : Nat → Int32) (ep : Int32) (L : List Nat) (hh : Nat → Nat) (ff : Nat → Nat) (rw : Nat → Nat → Int32) (f : Nat) (hk : k < 2 ^ 20) (hn : n < 2 ^ 20) (hhL : ∀ i, i < n + 1 → hh i ∈ L) (ffL : ∀ i, i < n + 1 → ff i ∈ L) (hf8 : f < 8) (hl0 : ¬ le f = 0) : sd_V l D (tyL cI cZ cQ) y_V_checkKept b_V_checkKept 2 ({ frames := 0, cells := 0, slots := 0, locals := 0 }) [.ref qv, .int (nI f)] ((vW cI cQ cZ qv qp qr qj qg qs qh qn qu qw qH qF qc ql qf (nI (k)) (nI (n)) (ep) (nI (pf)) (nI (pn)) (1000) (pr) (wi) (M.2.2.2) (hf) (nI M.2.2.1) (lim) (nt) (lt) (nI (M.1)) (192) (M.2.1) (k) (nb) (k) (su) (k) (wt) (n + 1) (fun i => if i < n + 1 then some (hh i) else none) (n + 1) (fun i => if i < n + 1 then some (ff i) else none) (k) (ch) (8) (le) (n + 1) (fl)) ++ va_pl L (rowE cI rw)) ((vW cI cQ cZ qv qp qr qj qg qs qh qn qu qw qH qF qc ql qf (nI (k)) (nI (n)) (ep) (nI (pf)) (nI (pn)) (1000) (pr) (wi) (M.2.2.2) (hf) (nI M.2.2.1) (lim) (nt) (lt) (nI (M.1)) (192) (M.2.1) (k) (nb) (k) (su) (k) (wt) (n + 1) (fun i => if i < n + 1 then some (hh i) else none) (n + 1) (fun i => if i < n + 1 then some (ff i) else none) (k) (ch) (8) (le) (n + 1) (fl)) ++ va_pl L (rowE cI rw)) := by
  refine sd_ofV (by decide) (Nat.le_of_ble_eq_true rfl) ?_
  intro p e s m below meth c A ls hx hb hr hml hlk hown hts hK hP hD hA hS hl
  have hl : lv_has ls 2 [(0, .ref qv), (1, .int (nI f))] := hl
  refine lv_aload_n hx hb d_V_checkKept_0 rfl (lv_at hl 0 rfl) ?_
  refine va_get (D := D) (ci := 4) (v := .ref ql) (C := R_V) (T := F_V) (N := 11) hx hb hts wl_V hown hK hP 0 rfl rfl 8 (by decide) (hts _ wf_V_23) (fun _ h9 => h9) rfl d_V_checkKept_1 ?_
  refine lv_iload_n hx hb d_V_checkKept_4 rfl (lv_at hl 1 rfl) ?_
  refine sd_iald (j := f) hx hb hK hP 13 0 rfl rfl (by omega) (by omega) d_V_checkKept_5 ?_
  refine lv_if_ne (tgt := 19) hx hb d_V_checkKept_6 rfl (fun hc6 => ?_) (fun hc6 => ?_)
  · skip
    exact sd_vret hx hb hr hlk hP hS (Nat.le_of_ble_eq_true rfl) (Nat.le_of_ble_eq_true rfl) d_V_checkKept_19
  · skip
    exact absurd hc6 hl0
set_option maxHeartbeats 4000000 in
set_option maxRecDepth 100000 in
theorem c_V_checkAllFilled_y (l : Launch) (D : va_G) (cI cZ cQ : ClassId) (qv : Nat) (qp : Nat) (qr : Nat) (qj : Nat) (qg : Nat) (qs : Nat) (qh : Nat) (qn : Nat) (qu : Nat) (qw : Nat) (qH : Nat) (qF : Nat) (qc : Nat) (ql : Nat) (qf : Nat) (k : Nat) (n : Nat) (pf : Nat) (pn : Nat) (pr : Nat → Int32) (wi : Int32) (M : ms_T) (hf : Int32) (lim : Int32) (nt : Int32) (lt : Int32) (nb : Nat → Int32) (su : Nat → Int32) (wt : Nat → Int32) (ch : Nat → Int32) (le : Nat → Int32) (fl : Nat → Int32) (ep : Int32) (L : List Nat) (hh : Nat → Nat) (ff : Nat → Nat) (rw : Nat → Nat → Int32) (hk : k < 2 ^ 20) (hn : n < 2 ^ 20) (hhL : ∀ i, i < n + 1 → hh i ∈ L) (ffL : ∀ i, i < n + 1 → ff i ∈ L) (hE : n ≤ sm_f fl n) : sd_V l D (tyL cI cZ cQ) y_V_checkAllFilled b_V_checkAllFilled 1 ({ frames := 1, cells := 0, slots := 0, locals := 22 }) [.ref qv] ((vW cI cQ cZ qv qp qr qj qg qs qh qn qu qw qH qF qc ql qf (nI (k)) (nI (n)) (ep) (nI (pf)) (nI (pn)) (1000) (pr) (wi) (M.2.2.2) (hf) (nI M.2.2.1) (lim) (nt) (lt) (nI (M.1)) (192) (M.2.1) (k) (nb) (k) (su) (k) (wt) (n + 1) (fun i => if i < n + 1 then some (hh i) else none) (n + 1) (fun i => if i < n + 1 then some (ff i) else none) (k) (ch) (8) (le) (n + 1) (fl)) ++ va_pl L (rowE cI rw)) ((vW cI cQ cZ qv qp qr qj qg qs qh qn qu qw qH qF qc ql qf (nI (k)) (nI (n)) (ep) (nI (pf)) (nI (pn)) (1000) (pr) (wi) (M.2.2.2) (hf) (nI M.2.2.1) (lim) (nt) (lt) (nI (M.1)) (192) (M.2.1) (k) (nb) (k) (su) (k) (wt) (n + 1) (fun i => if i < n + 1 then some (hh i) else none) (n + 1) (fun i => if i < n + 1 then some (ff i) else none) (k) (ch) (8) (le) (n + 1) (fl)) ++ va_pl L (rowE cI rw)) := by
  refine sd_ofV (by decide) (Nat.le_of_ble_eq_true rfl) ?_
  intro p e s m below meth c A ls hx hb hr hml hlk hown hts hK hP hD hA hS hl
  have hl : lv_has ls 1 [(0, .ref qv)] := hl
  have hsf := sm_f_le fl n
  refine lv_aload_n hx hb d_V_checkAllFilled_0 rfl (lv_at hl 0 rfl) ?_
  refine sd_allVI (As := []) (rest := []) (w1 := ((vW cI cQ cZ qv qp qr qj qg qs qh qn qu qw qH qF qc ql qf (nI (k)) (nI (n)) (ep) (nI (pf)) (nI (pn)) (1000) (pr) (wi) (M.2.2.2) (hf) (nI M.2.2.1) (lim) (nt) (lt) (nI (M.1)) (192) (M.2.1) (k) (nb) (k) (su) (k) (wt) (n + 1) (fun i => if i < n + 1 then some (hh i) else none) (n + 1) (fun i => if i < n + 1 then some (ff i) else none) (k) (ch) (8) (le) (n + 1) (fl)) ++ va_pl L (rowE cI rw))) (c_V_filledBoxes l D cI cZ cQ (qv) (qp) (qr) (qj) (qg) (qs) (qh) (qn) (qu) (qw) (qH) (qF) (qc) (ql) (qf) (k) (n) (pf) (pn) (pr) (wi) (M) (hf) (lim) (nt) (lt) (nb) (su) (wt) (ch) (le) (fl) (ep) (L) (hh) (ff) (rw) (hk) (hn) (hhL) (ffL)) ⟨wc_V_filledBoxes, wm_V_147, wi_V, by decide, by decide, show (parseMethodDescriptor y_V_filledBoxes.desc).map (fun d => d.parameters.length) = some 0 by decide +kernel⟩ wo_V_filledBoxes wz_V_filledBoxes hx hb hml hown hts hl.1 ⟨Nat.le_of_ble_eq_true rfl, Nat.le_of_ble_eq_true rfl⟩ ⟨Nat.le_of_ble_eq_true rfl, Nat.le_of_ble_eq_true rfl⟩ hK hP hD hS hA (rfl) (q0 := 0) rfl rfl rfl (Nat.le_of_ble_eq_true rfl) d_V_checkAllFilled_1 (fun H locs hP hD hS => ?_)
  have hP : va_P D cls ((vW cI cQ cZ qv qp qr qj qg qs qh qn qu qw qH qF qc ql qf (nI (k)) (nI (n)) (ep) (nI (pf)) (nI (pn)) (1000) (pr) (wi) (M.2.2.2) (hf) (nI M.2.2.1) (lim) (nt) (lt) (nI (M.1)) (192) (M.2.1) (k) (nb) (k) (su) (k) (wt) (n + 1) (fun i => if i < n + 1 then some (hh i) else none) (n + 1) (fun i => if i < n + 1 then some (ff i) else none) (k) (ch) (8) (le) (n + 1) (fl)) ++ va_pl L (rowE cI rw)) H := hP
  have hD : va_D A ((vW cI cQ cZ qv qp qr qj qg qs qh qn qu qw qH qF qc ql qf (nI (k)) (nI (n)) (ep) (nI (pf)) (nI (pn)) (1000) (pr) (wi) (M.2.2.2) (hf) (nI M.2.2.1) (lim) (nt) (lt) (nI (M.1)) (192) (M.2.1) (k) (nb) (k) (su) (k) (wt) (n + 1) (fun i => if i < n + 1 then some (hh i) else none) (n + 1) (fun i => if i < n + 1 then some (ff i) else none) (k) (ch) (8) (le) (n + 1) (fl)) ++ va_pl L (rowE cI rw)) := hD
  refine lv_aload_n hx hb d_V_checkAllFilled_4 rfl (lv_at hl 0 rfl) ?_
  refine va_get (D := D) (ci := 4) (v := .int (nI (n))) (C := R_V) (T := F_V) (N := 11) hx hb hts wl_V hown hK hP 0 rfl rfl 1 (by decide) (hts _ wf_V_40) (fun _ h9 => h9) rfl d_V_checkAllFilled_5 ?_
  refine lv_icmp_ge (tgt := 22) hx hb d_V_checkAllFilled_8 rfl (fun hc8 => ?_) (fun hc8 => ?_)
  · skip
    exact sd_vret hx hb hr hlk hP hS (Nat.le_of_ble_eq_true rfl) (Nat.le_of_ble_eq_true rfl) d_V_checkAllFilled_22
  · skip
    exact absurd (nI_le hE (by omega)) hc8
set_option maxHeartbeats 4000000 in
set_option maxRecDepth 100000 in
theorem c_V_checkAllFilled_x (l : Launch) (D : va_G) (cI cZ cQ : ClassId) (qv : Nat) (qp : Nat) (qr : Nat) (qj : Nat) (qg : Nat) (qs : Nat) (qh : Nat) (qn : Nat) (qu : Nat) (qw : Nat) (qH : Nat) (qF : Nat) (qc : Nat) (ql : Nat) (qf : Nat) (k : Nat) (n : Nat) (pf : Nat) (pn : Nat) (pr : Nat → Int32) (wi : Int32) (M : ms_T) (hf : Int32) (lim : Int32) (nt : Int32) (lt : Int32) (nb : Nat → Int32) (su : Nat → Int32) (wt : Nat → Int32) (ch : Nat → Int32) (le : Nat → Int32) (fl : Nat → Int32) (ep : Int32) (L : List Nat) (hh : Nat → Nat) (ff : Nat → Nat) (rw : Nat → Nat → Int32) (hst : l.stackTraces = false) (hk : k < 2 ^ 20) (hn : n < 2 ^ 20) (hhL : ∀ i, i < n + 1 → hh i ∈ L) (ffL : ∀ i, i < n + 1 → ff i ∈ L) (hE : sm_f fl n < n) : sd_X l D (tyL cI cZ cQ) y_V_checkAllFilled b_V_checkAllFilled 1 none ({ frames := 6, cells := 1, slots := 6, locals := 90 }) [.ref qv] ((vW cI cQ cZ qv qp qr qj qg qs qh qn qu qw qH qF qc ql qf (nI (k)) (nI (n)) (ep) (nI (pf)) (nI (pn)) (1000) (pr) (wi) (M.2.2.2) (hf) (nI M.2.2.1) (lim) (nt) (lt) (nI (M.1)) (192) (M.2.1) (k) (nb) (k) (su) (k) (wt) (n + 1) (fun i => if i < n + 1 then some (hh i) else none) (n + 1) (fun i => if i < n + 1 then some (ff i) else none) (k) (ch) (8) (le) (n + 1) (fl)) ++ va_pl L (rowE cI rw)) "java/lang/IllegalStateException" ((vW cI cQ cZ qv qp qr qj qg qs qh qn qu qw qH qF qc ql qf (nI (k)) (nI (n)) (ep) (nI (pf)) (nI (pn)) (1000) (pr) (wi) (M.2.2.2) (hf) (nI M.2.2.1) (lim) (nt) (lt) (nI (M.1)) (192) (M.2.1) (k) (nb) (k) (su) (k) (wt) (n + 1) (fun i => if i < n + 1 then some (hh i) else none) (n + 1) (fun i => if i < n + 1 then some (ff i) else none) (k) (ch) (8) (le) (n + 1) (fl)) ++ va_pl L (rowE cI rw)) := by
  refine sd_ofX (by decide) (Nat.le_of_ble_eq_true rfl) ?_
  intro p e s m below meth c A ls hx hb hr hml hlk hown hts hK hP hD hA hS hl hX htab
  have hl : lv_has ls 1 [(0, .ref qv)] := hl
  have hsf := sm_f_le fl n
  refine lv_aload_n hx hb d_V_checkAllFilled_0 rfl (lv_at hl 0 rfl) ?_
  refine sd_allVI (As := []) (rest := []) (w1 := ((vW cI cQ cZ qv qp qr qj qg qs qh qn qu qw qH qF qc ql qf (nI (k)) (nI (n)) (ep) (nI (pf)) (nI (pn)) (1000) (pr) (wi) (M.2.2.2) (hf) (nI M.2.2.1) (lim) (nt) (lt) (nI (M.1)) (192) (M.2.1) (k) (nb) (k) (su) (k) (wt) (n + 1) (fun i => if i < n + 1 then some (hh i) else none) (n + 1) (fun i => if i < n + 1 then some (ff i) else none) (k) (ch) (8) (le) (n + 1) (fl)) ++ va_pl L (rowE cI rw))) (c_V_filledBoxes l D cI cZ cQ (qv) (qp) (qr) (qj) (qg) (qs) (qh) (qn) (qu) (qw) (qH) (qF) (qc) (ql) (qf) (k) (n) (pf) (pn) (pr) (wi) (M) (hf) (lim) (nt) (lt) (nb) (su) (wt) (ch) (le) (fl) (ep) (L) (hh) (ff) (rw) (hk) (hn) (hhL) (ffL)) ⟨wc_V_filledBoxes, wm_V_147, wi_V, by decide, by decide, show (parseMethodDescriptor y_V_filledBoxes.desc).map (fun d => d.parameters.length) = some 0 by decide +kernel⟩ wo_V_filledBoxes wz_V_filledBoxes hx hb hml hown hts hl.1 ⟨Nat.le_of_ble_eq_true rfl, Nat.le_of_ble_eq_true rfl⟩ ⟨Nat.le_of_ble_eq_true rfl, Nat.le_of_ble_eq_true rfl⟩ hK hP hD hS hA (rfl) (q0 := 0) rfl rfl rfl (Nat.le_of_ble_eq_true rfl) d_V_checkAllFilled_1 (fun H locs hP hD hS => ?_)
  have hP : va_P D cls ((vW cI cQ cZ qv qp qr qj qg qs qh qn qu qw qH qF qc ql qf (nI (k)) (nI (n)) (ep) (nI (pf)) (nI (pn)) (1000) (pr) (wi) (M.2.2.2) (hf) (nI M.2.2.1) (lim) (nt) (lt) (nI (M.1)) (192) (M.2.1) (k) (nb) (k) (su) (k) (wt) (n + 1) (fun i => if i < n + 1 then some (hh i) else none) (n + 1) (fun i => if i < n + 1 then some (ff i) else none) (k) (ch) (8) (le) (n + 1) (fl)) ++ va_pl L (rowE cI rw)) H := hP
  have hD : va_D A ((vW cI cQ cZ qv qp qr qj qg qs qh qn qu qw qH qF qc ql qf (nI (k)) (nI (n)) (ep) (nI (pf)) (nI (pn)) (1000) (pr) (wi) (M.2.2.2) (hf) (nI M.2.2.1) (lim) (nt) (lt) (nI (M.1)) (192) (M.2.1) (k) (nb) (k) (su) (k) (wt) (n + 1) (fun i => if i < n + 1 then some (hh i) else none) (n + 1) (fun i => if i < n + 1 then some (ff i) else none) (k) (ch) (8) (le) (n + 1) (fl)) ++ va_pl L (rowE cI rw)) := hD
  refine lv_aload_n hx hb d_V_checkAllFilled_4 rfl (lv_at hl 0 rfl) ?_
  refine va_get (D := D) (ci := 4) (v := .int (nI (n))) (C := R_V) (T := F_V) (N := 11) hx hb hts wl_V hown hK hP 0 rfl rfl 1 (by decide) (hts _ wf_V_40) (fun _ h9 => h9) rfl d_V_checkAllFilled_5 ?_
  refine lv_icmp_ge (tgt := 22) hx hb d_V_checkAllFilled_8 rfl (fun hc8 => ?_) (fun hc8 => ?_)
  · skip
    exact absurd hc8 (nI_ge hE (by omega))
  · skip
    exact xd_throwW (names := xn_) (text := "a box is emptied") hst xk_ISE wk_V_97 wi_IllegalStateException (by decide) hx hb hown hts hX htab hlk hP hS (hl.1.trans hml.symm) d_V_checkAllFilled_11 d_V_checkAllFilled_14 d_V_checkAllFilled_15 d_V_checkAllFilled_18 d_V_checkAllFilled_21 (Nat.le_of_ble_eq_true rfl) (Nat.le_of_ble_eq_true rfl) (Nat.le_of_ble_eq_true rfl) (Nat.le_of_ble_eq_true rfl) (Nat.le_of_ble_eq_true rfl) (Nat.le_of_ble_eq_true rfl)
set_option maxHeartbeats 4000000 in
set_option maxRecDepth 100000 in
theorem c_V_checkNoneStopped_y (l : Launch) (D : va_G) (cI cZ cQ : ClassId) (qv : Nat) (qp : Nat) (qr : Nat) (qj : Nat) (qg : Nat) (qs : Nat) (qh : Nat) (qn : Nat) (qu : Nat) (qw : Nat) (qH : Nat) (qF : Nat) (qc : Nat) (ql : Nat) (qf : Nat) (k : Nat) (n : Nat) (pf : Nat) (pn : Nat) (pr : Nat → Int32) (wi : Int32) (M : ms_T) (hf : Int32) (lim : Int32) (nt : Int32) (lt : Int32) (nb : Nat → Int32) (su : Nat → Int32) (wt : Nat → Int32) (ch : Nat → Int32) (le : Nat → Int32) (fl : Nat → Int32) (ep : Int32) (L : List Nat) (hh : Nat → Nat) (ff : Nat → Nat) (rw : Nat → Nat → Int32) (hk : k < 2 ^ 20) (hn : n < 2 ^ 20) (hhL : ∀ i, i < n + 1 → hh i ∈ L) (ffL : ∀ i, i < n + 1 → ff i ∈ L) (hs : M.2.2.2 = 0) : sd_V l D (tyL cI cZ cQ) y_V_checkNoneStopped b_V_checkNoneStopped 1 ({ frames := 0, cells := 0, slots := 0, locals := 0 }) [.ref qv] ((vW cI cQ cZ qv qp qr qj qg qs qh qn qu qw qH qF qc ql qf (nI (k)) (nI (n)) (ep) (nI (pf)) (nI (pn)) (1000) (pr) (wi) (M.2.2.2) (hf) (nI M.2.2.1) (lim) (nt) (lt) (nI (M.1)) (192) (M.2.1) (k) (nb) (k) (su) (k) (wt) (n + 1) (fun i => if i < n + 1 then some (hh i) else none) (n + 1) (fun i => if i < n + 1 then some (ff i) else none) (k) (ch) (8) (le) (n + 1) (fl)) ++ va_pl L (rowE cI rw)) ((vW cI cQ cZ qv qp qr qj qg qs qh qn qu qw qH qF qc ql qf (nI (k)) (nI (n)) (ep) (nI (pf)) (nI (pn)) (1000) (pr) (wi) (M.2.2.2) (hf) (nI M.2.2.1) (lim) (nt) (lt) (nI (M.1)) (192) (M.2.1) (k) (nb) (k) (su) (k) (wt) (n + 1) (fun i => if i < n + 1 then some (hh i) else none) (n + 1) (fun i => if i < n + 1 then some (ff i) else none) (k) (ch) (8) (le) (n + 1) (fl)) ++ va_pl L (rowE cI rw)) := by
  refine sd_ofV (by decide) (Nat.le_of_ble_eq_true rfl) ?_
  intro p e s m below meth c A ls hx hb hr hml hlk hown hts hK hP hD hA hS hl
  have hl : lv_has ls 1 [(0, .ref qv)] := hl
  refine lv_aload_n hx hb d_V_checkNoneStopped_0 rfl (lv_at hl 0 rfl) ?_
  refine va_get (D := D) (ci := 4) (v := .ref qj) (C := R_V) (T := F_V) (N := 11) hx hb hts wl_V hown hK hP 0 rfl rfl 3 (by decide) (hts _ wf_V_19) (fun _ h9 => h9) rfl d_V_checkNoneStopped_1 ?_
  refine va_get (D := D) (ci := 2) (v := .int (M.2.2.2)) (C := R_J) (T := F_J) (N := 8) hx hb hts wl_J hown hK hP 3 rfl rfl 2 (by decide) (hts _ wf_V_177) (fun _ h9 => h9) rfl d_V_checkNoneStopped_4 ?_
  refine lv_if_eq (tgt := 21) hx hb d_V_checkNoneStopped_7 rfl (fun hc7 => ?_) (fun hc7 => ?_)
  · skip
    exact sd_vret hx hb hr hlk hP hS (Nat.le_of_ble_eq_true rfl) (Nat.le_of_ble_eq_true rfl) d_V_checkNoneStopped_21
  · skip
    exact absurd hs hc7
set_option maxHeartbeats 4000000 in
set_option maxRecDepth 100000 in
theorem c_V_checkNoneStopped_x (l : Launch) (D : va_G) (cI cZ cQ : ClassId) (qv : Nat) (qp : Nat) (qr : Nat) (qj : Nat) (qg : Nat) (qs : Nat) (qh : Nat) (qn : Nat) (qu : Nat) (qw : Nat) (qH : Nat) (qF : Nat) (qc : Nat) (ql : Nat) (qf : Nat) (k : Nat) (n : Nat) (pf : Nat) (pn : Nat) (pr : Nat → Int32) (wi : Int32) (M : ms_T) (hf : Int32) (lim : Int32) (nt : Int32) (lt : Int32) (nb : Nat → Int32) (su : Nat → Int32) (wt : Nat → Int32) (ch : Nat → Int32) (le : Nat → Int32) (fl : Nat → Int32) (ep : Int32) (L : List Nat) (hh : Nat → Nat) (ff : Nat → Nat) (rw : Nat → Nat → Int32) (hst : l.stackTraces = false) (hk : k < 2 ^ 20) (hn : n < 2 ^ 20) (hhL : ∀ i, i < n + 1 → hh i ∈ L) (ffL : ∀ i, i < n + 1 → ff i ∈ L) (hs : ¬ M.2.2.2 = 0) : sd_X l D (tyL cI cZ cQ) y_V_checkNoneStopped b_V_checkNoneStopped 1 none ({ frames := 6, cells := 1, slots := 6, locals := 90 }) [.ref qv] ((vW cI cQ cZ qv qp qr qj qg qs qh qn qu qw qH qF qc ql qf (nI (k)) (nI (n)) (ep) (nI (pf)) (nI (pn)) (1000) (pr) (wi) (M.2.2.2) (hf) (nI M.2.2.1) (lim) (nt) (lt) (nI (M.1)) (192) (M.2.1) (k) (nb) (k) (su) (k) (wt) (n + 1) (fun i => if i < n + 1 then some (hh i) else none) (n + 1) (fun i => if i < n + 1 then some (ff i) else none) (k) (ch) (8) (le) (n + 1) (fl)) ++ va_pl L (rowE cI rw)) "java/lang/IllegalStateException" ((vW cI cQ cZ qv qp qr qj qg qs qh qn qu qw qH qF qc ql qf (nI (k)) (nI (n)) (ep) (nI (pf)) (nI (pn)) (1000) (pr) (wi) (M.2.2.2) (hf) (nI M.2.2.1) (lim) (nt) (lt) (nI (M.1)) (192) (M.2.1) (k) (nb) (k) (su) (k) (wt) (n + 1) (fun i => if i < n + 1 then some (hh i) else none) (n + 1) (fun i => if i < n + 1 then some (ff i) else none) (k) (ch) (8) (le) (n + 1) (fl)) ++ va_pl L (rowE cI rw)) := by
  refine sd_ofX (by decide) (Nat.le_of_ble_eq_true rfl) ?_
  intro p e s m below meth c A ls hx hb hr hml hlk hown hts hK hP hD hA hS hl hX htab
  have hl : lv_has ls 1 [(0, .ref qv)] := hl
  refine lv_aload_n hx hb d_V_checkNoneStopped_0 rfl (lv_at hl 0 rfl) ?_
  refine va_get (D := D) (ci := 4) (v := .ref qj) (C := R_V) (T := F_V) (N := 11) hx hb hts wl_V hown hK hP 0 rfl rfl 3 (by decide) (hts _ wf_V_19) (fun _ h9 => h9) rfl d_V_checkNoneStopped_1 ?_
  refine va_get (D := D) (ci := 2) (v := .int (M.2.2.2)) (C := R_J) (T := F_J) (N := 8) hx hb hts wl_J hown hK hP 3 rfl rfl 2 (by decide) (hts _ wf_V_177) (fun _ h9 => h9) rfl d_V_checkNoneStopped_4 ?_
  refine lv_if_eq (tgt := 21) hx hb d_V_checkNoneStopped_7 rfl (fun hc7 => ?_) (fun hc7 => ?_)
  · skip
    exact absurd hc7 hs
  · skip
    exact xd_throwW (names := xn_) (text := "a job is stopped") hst xk_ISE wk_V_97 wi_IllegalStateException (by decide) hx hb hown hts hX htab hlk hP hS (hl.1.trans hml.symm) d_V_checkNoneStopped_10 d_V_checkNoneStopped_13 d_V_checkNoneStopped_14 d_V_checkNoneStopped_17 d_V_checkNoneStopped_20 (Nat.le_of_ble_eq_true rfl) (Nat.le_of_ble_eq_true rfl) (Nat.le_of_ble_eq_true rfl) (Nat.le_of_ble_eq_true rfl) (Nat.le_of_ble_eq_true rfl) (Nat.le_of_ble_eq_true rfl)
set_option maxHeartbeats 4000000 in
set_option maxRecDepth 100000 in
theorem c_V_checkPool_y (l : Launch) (D : va_G) (cI cZ cQ : ClassId) (qv : Nat) (qp : Nat) (qr : Nat) (qj : Nat) (qg : Nat) (qs : Nat) (qh : Nat) (qn : Nat) (qu : Nat) (qw : Nat) (qH : Nat) (qF : Nat) (qc : Nat) (ql : Nat) (qf : Nat) (k : Nat) (n : Nat) (pf : Nat) (pn : Nat) (pr : Nat → Int32) (wi : Int32) (M : ms_T) (hf : Int32) (lim : Int32) (nt : Int32) (lt : Int32) (nb : Nat → Int32) (su : Nat → Int32) (wt : Nat → Int32) (ch : Nat → Int32) (le : Nat → Int32) (fl : Nat → Int32) (ep : Int32) (L : List Nat) (hh : Nat → Nat) (ff : Nat → Nat) (rw : Nat → Nat → Int32) (t : Nat) (hk : k < 2 ^ 20) (hn : n < 2 ^ 20) (hhL : ∀ i, i < n + 1 → hh i ∈ L) (ffL : ∀ i, i < n + 1 → ff i ∈ L) (hp : t ≤ pn) (hpn : pn < 2 ^ 31) : sd_V l D (tyL cI cZ cQ) y_V_checkPool b_V_checkPool 2 ({ frames := 0, cells := 0, slots := 0, locals := 0 }) [.ref qv, .int (nI t)] ((vW cI cQ cZ qv qp qr qj qg qs qh qn qu qw qH qF qc ql qf (nI (k)) (nI (n)) (ep) (nI (pf)) (nI (pn)) (1000) (pr) (wi) (M.2.2.2) (hf) (nI M.2.2.1) (lim) (nt) (lt) (nI (M.1)) (192) (M.2.1) (k) (nb) (k) (su) (k) (wt) (n + 1) (fun i => if i < n + 1 then some (hh i) else none) (n + 1) (fun i => if i < n + 1 then some (ff i) else none) (k) (ch) (8) (le) (n + 1) (fl)) ++ va_pl L (rowE cI rw)) ((vW cI cQ cZ qv qp qr qj qg qs qh qn qu qw qH qF qc ql qf (nI (k)) (nI (n)) (ep) (nI (pf)) (nI (pn)) (1000) (pr) (wi) (M.2.2.2) (hf) (nI M.2.2.1) (lim) (nt) (lt) (nI (M.1)) (192) (M.2.1) (k) (nb) (k) (su) (k) (wt) (n + 1) (fun i => if i < n + 1 then some (hh i) else none) (n + 1) (fun i => if i < n + 1 then some (ff i) else none) (k) (ch) (8) (le) (n + 1) (fl)) ++ va_pl L (rowE cI rw)) := by
  refine sd_ofV (by decide) (Nat.le_of_ble_eq_true rfl) ?_
  intro p e s m below meth c A ls hx hb hr hml hlk hown hts hK hP hD hA hS hl
  have hl : lv_has ls 2 [(0, .ref qv), (1, .int (nI t))] := hl
  refine lv_aload_n hx hb d_V_checkPool_0 rfl (lv_at hl 0 rfl) ?_
  refine va_get (D := D) (ci := 4) (v := .ref qp) (C := R_V) (T := F_V) (N := 11) hx hb hts wl_V hown hK hP 0 rfl rfl 2 (by decide) (hts _ wf_V_10) (fun _ h9 => h9) rfl d_V_checkPool_1 ?_
  refine va_get (D := D) (ci := 0) (v := .int (nI (pn))) (C := R_P) (T := F_P) (N := 3) hx hb hts wl_P hown hK hP 1 rfl rfl 2 (by decide) (hts _ wf_V_77) (fun _ h9 => h9) rfl d_V_checkPool_4 ?_
  refine lv_iload_n hx hb d_V_checkPool_7 rfl (lv_at hl 1 rfl) ?_
  refine lv_icmp_ge (tgt := 22) hx hb d_V_checkPool_8 rfl (fun hc8 => ?_) (fun hc8 => ?_)
  · skip
    exact sd_vret hx hb hr hlk hP hS (Nat.le_of_ble_eq_true rfl) (Nat.le_of_ble_eq_true rfl) d_V_checkPool_22
  · skip
    exact absurd (nI_le hp (by omega)) hc8
set_option maxHeartbeats 4000000 in
set_option maxRecDepth 100000 in
theorem c_V_checkPool_x (l : Launch) (D : va_G) (cI cZ cQ : ClassId) (qv : Nat) (qp : Nat) (qr : Nat) (qj : Nat) (qg : Nat) (qs : Nat) (qh : Nat) (qn : Nat) (qu : Nat) (qw : Nat) (qH : Nat) (qF : Nat) (qc : Nat) (ql : Nat) (qf : Nat) (k : Nat) (n : Nat) (pf : Nat) (pn : Nat) (pr : Nat → Int32) (wi : Int32) (M : ms_T) (hf : Int32) (lim : Int32) (nt : Int32) (lt : Int32) (nb : Nat → Int32) (su : Nat → Int32) (wt : Nat → Int32) (ch : Nat → Int32) (le : Nat → Int32) (fl : Nat → Int32) (ep : Int32) (L : List Nat) (hh : Nat → Nat) (ff : Nat → Nat) (rw : Nat → Nat → Int32) (t : Nat) (hst : l.stackTraces = false) (hk : k < 2 ^ 20) (hn : n < 2 ^ 20) (hhL : ∀ i, i < n + 1 → hh i ∈ L) (ffL : ∀ i, i < n + 1 → ff i ∈ L) (hp : pn < t) (ht : t < 2 ^ 31) : sd_X l D (tyL cI cZ cQ) y_V_checkPool b_V_checkPool 2 none ({ frames := 6, cells := 1, slots := 6, locals := 90 }) [.ref qv, .int (nI t)] ((vW cI cQ cZ qv qp qr qj qg qs qh qn qu qw qH qF qc ql qf (nI (k)) (nI (n)) (ep) (nI (pf)) (nI (pn)) (1000) (pr) (wi) (M.2.2.2) (hf) (nI M.2.2.1) (lim) (nt) (lt) (nI (M.1)) (192) (M.2.1) (k) (nb) (k) (su) (k) (wt) (n + 1) (fun i => if i < n + 1 then some (hh i) else none) (n + 1) (fun i => if i < n + 1 then some (ff i) else none) (k) (ch) (8) (le) (n + 1) (fl)) ++ va_pl L (rowE cI rw)) "java/lang/UnsupportedOperationException" ((vW cI cQ cZ qv qp qr qj qg qs qh qn qu qw qH qF qc ql qf (nI (k)) (nI (n)) (ep) (nI (pf)) (nI (pn)) (1000) (pr) (wi) (M.2.2.2) (hf) (nI M.2.2.1) (lim) (nt) (lt) (nI (M.1)) (192) (M.2.1) (k) (nb) (k) (su) (k) (wt) (n + 1) (fun i => if i < n + 1 then some (hh i) else none) (n + 1) (fun i => if i < n + 1 then some (ff i) else none) (k) (ch) (8) (le) (n + 1) (fl)) ++ va_pl L (rowE cI rw)) := by
  refine sd_ofX (by decide) (Nat.le_of_ble_eq_true rfl) ?_
  intro p e s m below meth c A ls hx hb hr hml hlk hown hts hK hP hD hA hS hl hX htab
  have hl : lv_has ls 2 [(0, .ref qv), (1, .int (nI t))] := hl
  refine lv_aload_n hx hb d_V_checkPool_0 rfl (lv_at hl 0 rfl) ?_
  refine va_get (D := D) (ci := 4) (v := .ref qp) (C := R_V) (T := F_V) (N := 11) hx hb hts wl_V hown hK hP 0 rfl rfl 2 (by decide) (hts _ wf_V_10) (fun _ h9 => h9) rfl d_V_checkPool_1 ?_
  refine va_get (D := D) (ci := 0) (v := .int (nI (pn))) (C := R_P) (T := F_P) (N := 3) hx hb hts wl_P hown hK hP 1 rfl rfl 2 (by decide) (hts _ wf_V_77) (fun _ h9 => h9) rfl d_V_checkPool_4 ?_
  refine lv_iload_n hx hb d_V_checkPool_7 rfl (lv_at hl 1 rfl) ?_
  refine lv_icmp_ge (tgt := 22) hx hb d_V_checkPool_8 rfl (fun hc8 => ?_) (fun hc8 => ?_)
  · skip
    exact absurd hc8 (nI_ge hp (by omega))
  · skip
    exact xd_throwW (names := xn_) (text := "the pool has too few bytes") hst xk_UOE wk_V_80 wi_UnsupportedOperationException (by decide) hx hb hown hts hX htab hlk hP hS (hl.1.trans hml.symm) d_V_checkPool_11 d_V_checkPool_14 d_V_checkPool_15 d_V_checkPool_18 d_V_checkPool_21 (Nat.le_of_ble_eq_true rfl) (Nat.le_of_ble_eq_true rfl) (Nat.le_of_ble_eq_true rfl) (Nat.le_of_ble_eq_true rfl) (Nat.le_of_ble_eq_true rfl) (Nat.le_of_ble_eq_true rfl)
set_option maxHeartbeats 4000000 in
set_option maxRecDepth 100000 in
theorem c_V_chooseHelpers_y (l : Launch) (D : va_G) (cI cZ cQ : ClassId) (qv : Nat) (qp : Nat) (qr : Nat) (qj : Nat) (qg : Nat) (qs : Nat) (qh : Nat) (qn : Nat) (qu : Nat) (qw : Nat) (qH : Nat) (qF : Nat) (qc : Nat) (ql : Nat) (qf : Nat) (k : Nat) (n : Nat) (pf : Nat) (pn : Nat) (pr : Nat → Int32) (wi : Int32) (M : ms_T) (hf : Int32) (lim : Int32) (nt : Int32) (lt : Int32) (nb : Nat → Int32) (su : Nat → Int32) (wt : Nat → Int32) (ch : Nat → Int32) (le : Nat → Int32) (fl : Nat → Int32) (ep : Int32) (L : List Nat) (hh : Nat → Nat) (ff : Nat → Nat) (rw : Nat → Nat → Int32) (mk : Int32) (hk : k < 2 ^ 20) (hn : n < 2 ^ 20) (hhL : ∀ i, i < n + 1 → hh i ∈ L) (ffL : ∀ i, i < n + 1 → ff i ∈ L) (hE : (ch_f fl mk k n 1 (0, nb)).1 = k) : sd_V l D (tyL cI cZ cQ) y_V_chooseHelpers b_V_chooseHelpers 2 ({ frames := 1, cells := 0, slots := 0, locals := 24 }) [.ref qv, .int (mk)] ((vW cI cQ cZ qv qp qr qj qg qs qh qn qu qw qH qF qc ql qf (nI (k)) (nI (n)) (ep) (nI (pf)) (nI (pn)) (1000) (pr) (wi) (M.2.2.2) (hf) (nI M.2.2.1) (lim) (nt) (lt) (nI (M.1)) (192) (M.2.1) (k) (nb) (k) (su) (k) (wt) (n + 1) (fun i => if i < n + 1 then some (hh i) else none) (n + 1) (fun i => if i < n + 1 then some (ff i) else none) (k) (ch) (8) (le) (n + 1) (fl)) ++ va_pl L (rowE cI rw)) ((vW cI cQ cZ qv qp qr qj qg qs qh qn qu qw qH qF qc ql qf (nI (k)) (nI (n)) (ep) (nI (pf)) (nI (pn)) (1000) (pr) (wi) (M.2.2.2) (hf) (nI M.2.2.1) (lim) (nt) (lt) (nI (M.1)) (192) (M.2.1) (k) ((ch_f fl mk k n 1 (0, nb)).2) (k) (su) (k) (wt) (n + 1) (fun i => if i < n + 1 then some (hh i) else none) (n + 1) (fun i => if i < n + 1 then some (ff i) else none) (k) (ch) (8) (le) (n + 1) (fl)) ++ va_pl L (rowE cI rw)) := by
  refine sd_ofV (by decide) (Nat.le_of_ble_eq_true rfl) ?_
  intro p e s m below meth c A ls hx hb hr hml hlk hown hts hK hP hD hA hS hl
  have hl : lv_has ls 2 [(0, .ref qv), (1, .int (mk))] := hl
  refine lv_aload_n hx hb d_V_chooseHelpers_0 rfl (lv_at hl 0 rfl) ?_
  refine va_get (D := D) (ci := 4) (v := .ref qh) (C := R_V) (T := F_V) (N := 11) hx hb hts wl_V hown hK hP 0 rfl rfl 4 (by decide) (hts _ wf_V_51) (fun _ h9 => h9) rfl d_V_chooseHelpers_1 ?_
  refine lv_aload_n hx hb d_V_chooseHelpers_4 rfl (lv_at hl 0 rfl) ?_
  refine va_get (D := D) (ci := 4) (v := .ref qf) (C := R_V) (T := F_V) (N := 11) hx hb hts wl_V hown hK hP 0 rfl rfl 9 (by decide) (hts _ wf_V_66) (fun _ h9 => h9) rfl d_V_chooseHelpers_5 ?_
  refine lv_iload_n hx hb d_V_chooseHelpers_8 rfl (lv_at hl 1 rfl) ?_
  refine sd_callVI (As := [.ref qf, .int (mk)]) (rest := []) (cx := [(qh, .inr (3, [.ref qn, .ref qu, .ref qw])), (qn, .inl (cI, k, .inl (nb))), (qu, .inl (cI, k, .inl (su))), (qw, .inl (cI, k, .inl (wt))), (qf, .inl (cZ, n + 1, .inl (fl)))]) (w1 := [(qh, .inr (3, [.ref qn, .ref qu, .ref qw])), (qn, .inl (cI, k, .inl ((ch_f fl mk k n 1 (0, nb)).2))), (qu, .inl (cI, k, .inl (su))), (qw, .inl (cI, k, .inl (wt))), (qf, .inl (cZ, n + 1, .inl (fl)))]) (c_H_choose l D cI cZ cQ (qh) (qn) (qu) (qw) (k) (nb) (su) (wt) (qf) (n) (fl) (mk) (by omega) (by omega)) ⟨wc_H_choose, wm_V_262, wi_H, by decide, by decide, show (parseMethodDescriptor y_H_choose.desc).map (fun d => d.parameters.length) = some 2 by decide +kernel⟩ wo_H_choose wz_H_choose hx hb hml hown hts hl.1 ⟨Nat.le_of_ble_eq_true rfl, Nat.le_of_ble_eq_true rfl⟩ ⟨Nat.le_of_ble_eq_true rfl, Nat.le_of_ble_eq_true rfl⟩ hK hP hD hS hA [6, 7, 8, 9, 14] rfl (by decide) rfl rfl (q0 := 0) rfl rfl rfl (Nat.le_of_ble_eq_true rfl) d_V_chooseHelpers_9 (fun H locs hP hD hS => ?_)
  have hP : va_P D cls ((vW cI cQ cZ qv qp qr qj qg qs qh qn qu qw qH qF qc ql qf (nI (k)) (nI (n)) (ep) (nI (pf)) (nI (pn)) (1000) (pr) (wi) (M.2.2.2) (hf) (nI M.2.2.1) (lim) (nt) (lt) (nI (M.1)) (192) (M.2.1) (k) ((ch_f fl mk k n 1 (0, nb)).2) (k) (su) (k) (wt) (n + 1) (fun i => if i < n + 1 then some (hh i) else none) (n + 1) (fun i => if i < n + 1 then some (ff i) else none) (k) (ch) (8) (le) (n + 1) (fl)) ++ va_pl L (rowE cI rw)) H := hP
  have hD : va_D A ((vW cI cQ cZ qv qp qr qj qg qs qh qn qu qw qH qF qc ql qf (nI (k)) (nI (n)) (ep) (nI (pf)) (nI (pn)) (1000) (pr) (wi) (M.2.2.2) (hf) (nI M.2.2.1) (lim) (nt) (lt) (nI (M.1)) (192) (M.2.1) (k) ((ch_f fl mk k n 1 (0, nb)).2) (k) (su) (k) (wt) (n + 1) (fun i => if i < n + 1 then some (hh i) else none) (n + 1) (fun i => if i < n + 1 then some (ff i) else none) (k) (ch) (8) (le) (n + 1) (fl)) ++ va_pl L (rowE cI rw)) := hD
  refine lv_if_ne (tgt := 26) hx hb d_V_chooseHelpers_12 rfl (fun hc12 => ?_) (fun hc12 => ?_)
  · skip
    exact sd_vret hx hb hr hlk hP hS (Nat.le_of_ble_eq_true rfl) (Nat.le_of_ble_eq_true rfl) d_V_chooseHelpers_26
  · skip
    exact absurd (show ch_r k (ch_f fl mk k n 1 (0, nb)) = 1 from if_pos hE) (fun h9 => by rw [hc12] at h9; exact absurd h9 (by decide))
set_option maxHeartbeats 4000000 in
set_option maxRecDepth 100000 in
theorem c_V_chooseHelpers_x (l : Launch) (D : va_G) (cI cZ cQ : ClassId) (qv : Nat) (qp : Nat) (qr : Nat) (qj : Nat) (qg : Nat) (qs : Nat) (qh : Nat) (qn : Nat) (qu : Nat) (qw : Nat) (qH : Nat) (qF : Nat) (qc : Nat) (ql : Nat) (qf : Nat) (k : Nat) (n : Nat) (pf : Nat) (pn : Nat) (pr : Nat → Int32) (wi : Int32) (M : ms_T) (hf : Int32) (lim : Int32) (nt : Int32) (lt : Int32) (nb : Nat → Int32) (su : Nat → Int32) (wt : Nat → Int32) (ch : Nat → Int32) (le : Nat → Int32) (fl : Nat → Int32) (ep : Int32) (L : List Nat) (hh : Nat → Nat) (ff : Nat → Nat) (rw : Nat → Nat → Int32) (mk : Int32) (hst : l.stackTraces = false) (hk : k < 2 ^ 20) (hn : n < 2 ^ 20) (hhL : ∀ i, i < n + 1 → hh i ∈ L) (ffL : ∀ i, i < n + 1 → ff i ∈ L) (hE : ¬ (ch_f fl mk k n 1 (0, nb)).1 = k) : sd_X l D (tyL cI cZ cQ) y_V_chooseHelpers b_V_chooseHelpers 2 none ({ frames := 6, cells := 1, slots := 6, locals := 90 }) [.ref qv, .int (mk)] ((vW cI cQ cZ qv qp qr qj qg qs qh qn qu qw qH qF qc ql qf (nI (k)) (nI (n)) (ep) (nI (pf)) (nI (pn)) (1000) (pr) (wi) (M.2.2.2) (hf) (nI M.2.2.1) (lim) (nt) (lt) (nI (M.1)) (192) (M.2.1) (k) (nb) (k) (su) (k) (wt) (n + 1) (fun i => if i < n + 1 then some (hh i) else none) (n + 1) (fun i => if i < n + 1 then some (ff i) else none) (k) (ch) (8) (le) (n + 1) (fl)) ++ va_pl L (rowE cI rw)) "java/lang/IllegalStateException" ((vW cI cQ cZ qv qp qr qj qg qs qh qn qu qw qH qF qc ql qf (nI (k)) (nI (n)) (ep) (nI (pf)) (nI (pn)) (1000) (pr) (wi) (M.2.2.2) (hf) (nI M.2.2.1) (lim) (nt) (lt) (nI (M.1)) (192) (M.2.1) (k) ((ch_f fl mk k n 1 (0, nb)).2) (k) (su) (k) (wt) (n + 1) (fun i => if i < n + 1 then some (hh i) else none) (n + 1) (fun i => if i < n + 1 then some (ff i) else none) (k) (ch) (8) (le) (n + 1) (fl)) ++ va_pl L (rowE cI rw)) := by
  refine sd_ofX (by decide) (Nat.le_of_ble_eq_true rfl) ?_
  intro p e s m below meth c A ls hx hb hr hml hlk hown hts hK hP hD hA hS hl hX htab
  have hl : lv_has ls 2 [(0, .ref qv), (1, .int (mk))] := hl
  refine lv_aload_n hx hb d_V_chooseHelpers_0 rfl (lv_at hl 0 rfl) ?_
  refine va_get (D := D) (ci := 4) (v := .ref qh) (C := R_V) (T := F_V) (N := 11) hx hb hts wl_V hown hK hP 0 rfl rfl 4 (by decide) (hts _ wf_V_51) (fun _ h9 => h9) rfl d_V_chooseHelpers_1 ?_
  refine lv_aload_n hx hb d_V_chooseHelpers_4 rfl (lv_at hl 0 rfl) ?_
  refine va_get (D := D) (ci := 4) (v := .ref qf) (C := R_V) (T := F_V) (N := 11) hx hb hts wl_V hown hK hP 0 rfl rfl 9 (by decide) (hts _ wf_V_66) (fun _ h9 => h9) rfl d_V_chooseHelpers_5 ?_
  refine lv_iload_n hx hb d_V_chooseHelpers_8 rfl (lv_at hl 1 rfl) ?_
  refine sd_callVI (As := [.ref qf, .int (mk)]) (rest := []) (cx := [(qh, .inr (3, [.ref qn, .ref qu, .ref qw])), (qn, .inl (cI, k, .inl (nb))), (qu, .inl (cI, k, .inl (su))), (qw, .inl (cI, k, .inl (wt))), (qf, .inl (cZ, n + 1, .inl (fl)))]) (w1 := [(qh, .inr (3, [.ref qn, .ref qu, .ref qw])), (qn, .inl (cI, k, .inl ((ch_f fl mk k n 1 (0, nb)).2))), (qu, .inl (cI, k, .inl (su))), (qw, .inl (cI, k, .inl (wt))), (qf, .inl (cZ, n + 1, .inl (fl)))]) (c_H_choose l D cI cZ cQ (qh) (qn) (qu) (qw) (k) (nb) (su) (wt) (qf) (n) (fl) (mk) (by omega) (by omega)) ⟨wc_H_choose, wm_V_262, wi_H, by decide, by decide, show (parseMethodDescriptor y_H_choose.desc).map (fun d => d.parameters.length) = some 2 by decide +kernel⟩ wo_H_choose wz_H_choose hx hb hml hown hts hl.1 ⟨Nat.le_of_ble_eq_true rfl, Nat.le_of_ble_eq_true rfl⟩ ⟨Nat.le_of_ble_eq_true rfl, Nat.le_of_ble_eq_true rfl⟩ hK hP hD hS hA [6, 7, 8, 9, 14] rfl (by decide) rfl rfl (q0 := 0) rfl rfl rfl (Nat.le_of_ble_eq_true rfl) d_V_chooseHelpers_9 (fun H locs hP hD hS => ?_)
  have hP : va_P D cls ((vW cI cQ cZ qv qp qr qj qg qs qh qn qu qw qH qF qc ql qf (nI (k)) (nI (n)) (ep) (nI (pf)) (nI (pn)) (1000) (pr) (wi) (M.2.2.2) (hf) (nI M.2.2.1) (lim) (nt) (lt) (nI (M.1)) (192) (M.2.1) (k) ((ch_f fl mk k n 1 (0, nb)).2) (k) (su) (k) (wt) (n + 1) (fun i => if i < n + 1 then some (hh i) else none) (n + 1) (fun i => if i < n + 1 then some (ff i) else none) (k) (ch) (8) (le) (n + 1) (fl)) ++ va_pl L (rowE cI rw)) H := hP
  have hD : va_D A ((vW cI cQ cZ qv qp qr qj qg qs qh qn qu qw qH qF qc ql qf (nI (k)) (nI (n)) (ep) (nI (pf)) (nI (pn)) (1000) (pr) (wi) (M.2.2.2) (hf) (nI M.2.2.1) (lim) (nt) (lt) (nI (M.1)) (192) (M.2.1) (k) ((ch_f fl mk k n 1 (0, nb)).2) (k) (su) (k) (wt) (n + 1) (fun i => if i < n + 1 then some (hh i) else none) (n + 1) (fun i => if i < n + 1 then some (ff i) else none) (k) (ch) (8) (le) (n + 1) (fl)) ++ va_pl L (rowE cI rw)) := hD
  refine lv_if_ne (tgt := 26) hx hb d_V_chooseHelpers_12 rfl (fun hc12 => ?_) (fun hc12 => ?_)
  · skip
    exact absurd (show ch_r k (ch_f fl mk k n 1 (0, nb)) = 0 from if_neg hE) hc12
  · skip
    exact xd_throwW (names := xn_) (text := "too few filled boxes") hst xk_ISE wk_V_97 wi_IllegalStateException (by decide) hx hb hown hts hX htab hlk hP hS (hl.1.trans hml.symm) d_V_chooseHelpers_15 d_V_chooseHelpers_18 d_V_chooseHelpers_19 d_V_chooseHelpers_22 d_V_chooseHelpers_25 (Nat.le_of_ble_eq_true rfl) (Nat.le_of_ble_eq_true rfl) (Nat.le_of_ble_eq_true rfl) (Nat.le_of_ble_eq_true rfl) (Nat.le_of_ble_eq_true rfl) (Nat.le_of_ble_eq_true rfl)
set_option maxHeartbeats 4000000 in
set_option maxRecDepth 100000 in
theorem c_V_stopAfter_x (l : Launch) (D : va_G) (cI cZ cQ : ClassId) (qv : Nat) (qp : Nat) (qr : Nat) (qj : Nat) (qg : Nat) (qs : Nat) (qh : Nat) (qn : Nat) (qu : Nat) (qw : Nat) (qH : Nat) (qF : Nat) (qc : Nat) (ql : Nat) (qf : Nat) (k : Nat) (n : Nat) (pf : Nat) (pn : Nat) (pr : Nat → Int32) (wi : Int32) (M : ms_T) (hf : Int32) (lim : Int32) (nt : Int32) (lt : Int32) (nb : Nat → Int32) (su : Nat → Int32) (wt : Nat → Int32) (ch : Nat → Int32) (le : Nat → Int32) (fl : Nat → Int32) (ep : Int32) (L : List Nat) (hh : Nat → Nat) (ff : Nat → Nat) (rw : Nat → Nat → Int32) (m9 : Int32) (hst : l.stackTraces = false) (hk : k < 2 ^ 20) (hn : n < 2 ^ 20) (hhL : ∀ i, i < n + 1 → hh i ∈ L) (ffL : ∀ i, i < n + 1 → ff i ∈ L) (hm : m9 < -1) : sd_X l D (tyL cI cZ cQ) y_V_stopAfter b_V_stopAfter 2 none ({ frames := 6, cells := 1, slots := 6, locals := 90 }) [.ref qv, .int (m9)] ((vW cI cQ cZ qv qp qr qj qg qs qh qn qu qw qH qF qc ql qf (nI (k)) (nI (n)) (ep) (nI (pf)) (nI (pn)) (1000) (pr) (wi) (M.2.2.2) (hf) (nI M.2.2.1) (lim) (nt) (lt) (nI (M.1)) (192) (M.2.1) (k) (nb) (k) (su) (k) (wt) (n + 1) (fun i => if i < n + 1 then some (hh i) else none) (n + 1) (fun i => if i < n + 1 then some (ff i) else none) (k) (ch) (8) (le) (n + 1) (fl)) ++ va_pl L (rowE cI rw)) "java/lang/IllegalArgumentException" ((vW cI cQ cZ qv qp qr qj qg qs qh qn qu qw qH qF qc ql qf (nI (k)) (nI (n)) (ep) (nI (pf)) (nI (pn)) (1000) (pr) (wi) (M.2.2.2) (hf) (nI M.2.2.1) (lim) (nt) (lt) (nI (M.1)) (192) (M.2.1) (k) (nb) (k) (su) (k) (wt) (n + 1) (fun i => if i < n + 1 then some (hh i) else none) (n + 1) (fun i => if i < n + 1 then some (ff i) else none) (k) (ch) (8) (le) (n + 1) (fl)) ++ va_pl L (rowE cI rw)) := by
  refine sd_ofX (by decide) (Nat.le_of_ble_eq_true rfl) ?_
  intro p e s m below meth c A ls hx hb hr hml hlk hown hts hK hP hD hA hS hl hX htab
  have hl : lv_has ls 2 [(0, .ref qv), (1, .int (m9))] := hl
  refine lv_iload_n hx hb d_V_stopAfter_0 rfl (lv_at hl 1 rfl) ?_
  refine lv_iconst (v := (-1)) hx hb d_V_stopAfter_1 (by decide) ?_
  refine lv_icmp_ge (tgt := 15) hx hb d_V_stopAfter_2 rfl (fun hc2 => ?_) (fun hc2 => ?_)
  · skip
    exact absurd hm (Int32.not_lt.mpr hc2)
  · skip
    exact xd_throw (names := xn_) (text := "not -1 or more") hst xk_IAE wk_V_70 wi_IllegalArgumentException (by decide) hx hb hown hts hX htab hlk hP hS (hl.1.trans hml.symm) d_V_stopAfter_5 d_V_stopAfter_8 d_V_stopAfter_9 d_V_stopAfter_11 d_V_stopAfter_14 (Nat.le_of_ble_eq_true rfl) (Nat.le_of_ble_eq_true rfl) (Nat.le_of_ble_eq_true rfl) (Nat.le_of_ble_eq_true rfl) (Nat.le_of_ble_eq_true rfl) (Nat.le_of_ble_eq_true rfl)
set_option maxHeartbeats 4000000 in
set_option maxRecDepth 100000 in
theorem c_V_stopAfter_y (l : Launch) (D : va_G) (cI cZ cQ : ClassId) (qv : Nat) (qp : Nat) (qr : Nat) (qj : Nat) (qg : Nat) (qs : Nat) (qh : Nat) (qn : Nat) (qu : Nat) (qw : Nat) (qH : Nat) (qF : Nat) (qc : Nat) (ql : Nat) (qf : Nat) (k : Nat) (n : Nat) (pf : Nat) (pn : Nat) (pr : Nat → Int32) (wi : Int32) (M : ms_T) (hf : Int32) (lim : Int32) (nt : Int32) (lt : Int32) (nb : Nat → Int32) (su : Nat → Int32) (wt : Nat → Int32) (ch : Nat → Int32) (le : Nat → Int32) (fl : Nat → Int32) (ep : Int32) (L : List Nat) (hh : Nat → Nat) (ff : Nat → Nat) (rw : Nat → Nat → Int32) (m9 : Int32) (hk : k < 2 ^ 20) (hn : n < 2 ^ 20) (hhL : ∀ i, i < n + 1 → hh i ∈ L) (ffL : ∀ i, i < n + 1 → ff i ∈ L) (hm : ¬ m9 < -1) : sd_V l D (tyL cI cZ cQ) y_V_stopAfter b_V_stopAfter 2 ({ frames := 0, cells := 0, slots := 0, locals := 0 }) [.ref qv, .int (m9)] ((vW cI cQ cZ qv qp qr qj qg qs qh qn qu qw qH qF qc ql qf (nI (k)) (nI (n)) (ep) (nI (pf)) (nI (pn)) (1000) (pr) (wi) (M.2.2.2) (hf) (nI M.2.2.1) (lim) (nt) (lt) (nI (M.1)) (192) (M.2.1) (k) (nb) (k) (su) (k) (wt) (n + 1) (fun i => if i < n + 1 then some (hh i) else none) (n + 1) (fun i => if i < n + 1 then some (ff i) else none) (k) (ch) (8) (le) (n + 1) (fl)) ++ va_pl L (rowE cI rw)) ((vW cI cQ cZ qv qp qr qj qg qs qh qn qu qw qH qF qc ql qf (nI (k)) (nI (n)) (ep) (nI (pf)) (nI (pn)) (1000) (pr) (m9) (M.2.2.2) (hf) (nI M.2.2.1) (lim) (nt) (lt) (nI (M.1)) (192) (M.2.1) (k) (nb) (k) (su) (k) (wt) (n + 1) (fun i => if i < n + 1 then some (hh i) else none) (n + 1) (fun i => if i < n + 1 then some (ff i) else none) (k) (ch) (8) (le) (n + 1) (fl)) ++ va_pl L (rowE cI rw)) := by
  refine sd_ofV (by decide) (Nat.le_of_ble_eq_true rfl) ?_
  intro p e s m below meth c A ls hx hb hr hml hlk hown hts hK hP hD hA hS hl
  have hl : lv_has ls 2 [(0, .ref qv), (1, .int (m9))] := hl
  refine lv_iload_n hx hb d_V_stopAfter_0 rfl (lv_at hl 1 rfl) ?_
  refine lv_iconst (v := (-1)) hx hb d_V_stopAfter_1 (by decide) ?_
  refine lv_icmp_ge (tgt := 15) hx hb d_V_stopAfter_2 rfl (fun hc2 => ?_) (fun hc2 => ?_)
  · skip
    refine lv_aload_n hx hb d_V_stopAfter_15 rfl (lv_at hl 0 rfl) ?_
    refine va_get (D := D) (ci := 4) (v := .ref qj) (C := R_V) (T := F_V) (N := 11) hx hb hts wl_V hown hK hP 0 rfl rfl 3 (by decide) (hts _ wf_V_19) (fun _ h9 => h9) rfl d_V_stopAfter_16 ?_
    refine lv_iload_n hx hb d_V_stopAfter_19 rfl (lv_at hl 1 rfl) ?_
    refine va_put (D := D) (ci := 2) (v := .int (m9)) (ty := .int) (C := R_J) (T := F_J) (N := 8) hx hb hts wl_J t_J t_J_ok n_J hown hK hP hD hS 3 rfl rfl 1 (by decide) (hts _ wf_V_174) (fun _ h9 => h9) rfl (by decide +kernel) rfl rfl (Nat.le_of_ble_eq_true rfl) d_V_stopAfter_20 (fun H locs hP hD hS => ?_)
    have hP : va_P D cls ((vW cI cQ cZ qv qp qr qj qg qs qh qn qu qw qH qF qc ql qf (nI (k)) (nI (n)) (ep) (nI (pf)) (nI (pn)) (1000) (pr) (m9) (M.2.2.2) (hf) (nI M.2.2.1) (lim) (nt) (lt) (nI (M.1)) (192) (M.2.1) (k) (nb) (k) (su) (k) (wt) (n + 1) (fun i => if i < n + 1 then some (hh i) else none) (n + 1) (fun i => if i < n + 1 then some (ff i) else none) (k) (ch) (8) (le) (n + 1) (fl)) ++ va_pl L (rowE cI rw)) H := hP
    have hD : va_D A ((vW cI cQ cZ qv qp qr qj qg qs qh qn qu qw qH qF qc ql qf (nI (k)) (nI (n)) (ep) (nI (pf)) (nI (pn)) (1000) (pr) (m9) (M.2.2.2) (hf) (nI M.2.2.1) (lim) (nt) (lt) (nI (M.1)) (192) (M.2.1) (k) (nb) (k) (su) (k) (wt) (n + 1) (fun i => if i < n + 1 then some (hh i) else none) (n + 1) (fun i => if i < n + 1 then some (ff i) else none) (k) (ch) (8) (le) (n + 1) (fl)) ++ va_pl L (rowE cI rw)) := hD
    exact sd_vret hx hb hr hlk hP hS (Nat.le_of_ble_eq_true rfl) (Nat.le_of_ble_eq_true rfl) d_V_stopAfter_23
  · skip
    exact absurd (Int32.not_lt.mp hm) hc2
set_option maxHeartbeats 4000000 in
set_option maxRecDepth 100000 in
theorem c_V_length_x (l : Launch) (D : va_G) (cI cZ cQ : ClassId) (qv : Nat) (qp : Nat) (qr : Nat) (qj : Nat) (qg : Nat) (qs : Nat) (qh : Nat) (qn : Nat) (qu : Nat) (qw : Nat) (qH : Nat) (qF : Nat) (qc : Nat) (ql : Nat) (qf : Nat) (k : Nat) (n : Nat) (pf : Nat) (pn : Nat) (pr : Nat → Int32) (wi : Int32) (M : ms_T) (hf : Int32) (lim : Int32) (nt : Int32) (lt : Int32) (nb : Nat → Int32) (su : Nat → Int32) (wt : Nat → Int32) (ch : Nat → Int32) (le : Nat → Int32) (fl : Nat → Int32) (ep : Int32) (L : List Nat) (hh : Nat → Nat) (ff : Nat → Nat) (rw : Nat → Nat → Int32) (f : Int32) (hst : l.stackTraces = false) (hk : k < 2 ^ 20) (hn : n < 2 ^ 20) (hhL : ∀ i, i < n + 1 → hh i ∈ L) (ffL : ∀ i, i < n + 1 → ff i ∈ L) (hfx : ¬ (0 ≤ f ∧ f ≤ 7)) : sd_X l D (tyL cI cZ cQ) y_V_length b_V_length 2 (some .int) ({ frames := 7, cells := 1, slots := 6, locals := 110 }) [.ref qv, .int (f)] ((vW cI cQ cZ qv qp qr qj qg qs qh qn qu qw qH qF qc ql qf (nI (k)) (nI (n)) (ep) (nI (pf)) (nI (pn)) (1000) (pr) (wi) (M.2.2.2) (hf) (nI M.2.2.1) (lim) (nt) (lt) (nI (M.1)) (192) (M.2.1) (k) (nb) (k) (su) (k) (wt) (n + 1) (fun i => if i < n + 1 then some (hh i) else none) (n + 1) (fun i => if i < n + 1 then some (ff i) else none) (k) (ch) (8) (le) (n + 1) (fl)) ++ va_pl L (rowE cI rw)) "java/lang/IllegalArgumentException" ((vW cI cQ cZ qv qp qr qj qg qs qh qn qu qw qH qF qc ql qf (nI (k)) (nI (n)) (ep) (nI (pf)) (nI (pn)) (1000) (pr) (wi) (M.2.2.2) (hf) (nI M.2.2.1) (lim) (nt) (lt) (nI (M.1)) (192) (M.2.1) (k) (nb) (k) (su) (k) (wt) (n + 1) (fun i => if i < n + 1 then some (hh i) else none) (n + 1) (fun i => if i < n + 1 then some (ff i) else none) (k) (ch) (8) (le) (n + 1) (fl)) ++ va_pl L (rowE cI rw)) := by
  refine sd_ofX (by decide) (Nat.le_of_ble_eq_true rfl) ?_
  intro p e s m below meth c A ls hx hb hr hml hlk hown hts hK hP hD hA hS hl hX htab
  have hl : lv_has ls 2 [(0, .ref qv), (1, .int (f))] := hl
  refine lv_iload_n hx hb d_V_length_0 rfl (lv_at hl 1 rfl) ?_
  exact xd_callS (As := [.int (f)]) (rest := []) (cx := []) (w1 := []) (c_V_checkFile_x l D cI cZ cQ (f) (hst) (hfx)) ⟨wc_V_checkFile, wm_V_94, wi_V, by decide, by decide, show (parseMethodDescriptor y_V_checkFile.desc).map (fun d => d.parameters.length) = some 1 by decide +kernel⟩ ws_V_checkFile hx hb hml hown hts hl.1 ⟨Nat.le_of_ble_eq_true rfl, Nat.le_of_ble_eq_true rfl⟩ ⟨Nat.le_of_ble_eq_true rfl, Nat.le_of_ble_eq_true rfl⟩ hK hP hD hS hA hX htab hlk [] rfl (by decide) rfl rfl rfl (Nat.le_of_ble_eq_true rfl) d_V_length_1 (Nat.le_of_ble_eq_true rfl) (Nat.le_of_ble_eq_true rfl)
set_option maxHeartbeats 4000000 in
set_option maxRecDepth 100000 in
theorem c_V_length_y (l : Launch) (D : va_G) (cI cZ cQ : ClassId) (qv : Nat) (qp : Nat) (qr : Nat) (qj : Nat) (qg : Nat) (qs : Nat) (qh : Nat) (qn : Nat) (qu : Nat) (qw : Nat) (qH : Nat) (qF : Nat) (qc : Nat) (ql : Nat) (qf : Nat) (k : Nat) (n : Nat) (pf : Nat) (pn : Nat) (pr : Nat → Int32) (wi : Int32) (M : ms_T) (hf : Int32) (lim : Int32) (nt : Int32) (lt : Int32) (nb : Nat → Int32) (su : Nat → Int32) (wt : Nat → Int32) (ch : Nat → Int32) (le : Nat → Int32) (fl : Nat → Int32) (ep : Int32) (L : List Nat) (hh : Nat → Nat) (ff : Nat → Nat) (rw : Nat → Nat → Int32) (f : Nat) (hk : k < 2 ^ 20) (hn : n < 2 ^ 20) (hhL : ∀ i, i < n + 1 → hh i ∈ L) (ffL : ∀ i, i < n + 1 → ff i ∈ L) (hf8 : f < 8) : sd_I l D (tyL cI cZ cQ) y_V_length b_V_length 2 (.int) ({ frames := 1, cells := 0, slots := 0, locals := 20 }) [.ref qv, .int (nI f)] ((vW cI cQ cZ qv qp qr qj qg qs qh qn qu qw qH qF qc ql qf (nI (k)) (nI (n)) (ep) (nI (pf)) (nI (pn)) (1000) (pr) (wi) (M.2.2.2) (hf) (nI M.2.2.1) (lim) (nt) (lt) (nI (M.1)) (192) (M.2.1) (k) (nb) (k) (su) (k) (wt) (n + 1) (fun i => if i < n + 1 then some (hh i) else none) (n + 1) (fun i => if i < n + 1 then some (ff i) else none) (k) (ch) (8) (le) (n + 1) (fl)) ++ va_pl L (rowE cI rw)) (le f) ((vW cI cQ cZ qv qp qr qj qg qs qh qn qu qw qH qF qc ql qf (nI (k)) (nI (n)) (ep) (nI (pf)) (nI (pn)) (1000) (pr) (wi) (M.2.2.2) (hf) (nI M.2.2.1) (lim) (nt) (lt) (nI (M.1)) (192) (M.2.1) (k) (nb) (k) (su) (k) (wt) (n + 1) (fun i => if i < n + 1 then some (hh i) else none) (n + 1) (fun i => if i < n + 1 then some (ff i) else none) (k) (ch) (8) (le) (n + 1) (fl)) ++ va_pl L (rowE cI rw)) := by
  refine sd_ofI (by decide) (Nat.le_of_ble_eq_true rfl) ?_
  intro p e s m below meth c A ls hx hb hr hml hlk hown hts hK hP hD hA hS hl
  have hl : lv_has ls 2 [(0, .ref qv), (1, .int (nI f))] := hl
  refine lv_iload_n hx hb d_V_length_0 rfl (lv_at hl 1 rfl) ?_
  refine sd_callSV (As := [.int (nI f)]) (rest := []) (cx := []) (w1 := []) (c_V_checkFile_y l D cI cZ cQ (f) (hf8)) ⟨wc_V_checkFile, wm_V_94, wi_V, by decide, by decide, show (parseMethodDescriptor y_V_checkFile.desc).map (fun d => d.parameters.length) = some 1 by decide +kernel⟩ ws_V_checkFile hx hb hml hown hts hl.1 ⟨Nat.le_of_ble_eq_true rfl, Nat.le_of_ble_eq_true rfl⟩ ⟨Nat.le_of_ble_eq_true rfl, Nat.le_of_ble_eq_true rfl⟩ hK hP hD hS hA [] rfl (by decide) rfl rfl rfl (Nat.le_of_ble_eq_true rfl) d_V_length_1 (fun H locs hP hD hS => ?_)
  have hP : va_P D cls ((vW cI cQ cZ qv qp qr qj qg qs qh qn qu qw qH qF qc ql qf (nI (k)) (nI (n)) (ep) (nI (pf)) (nI (pn)) (1000) (pr) (wi) (M.2.2.2) (hf) (nI M.2.2.1) (lim) (nt) (lt) (nI (M.1)) (192) (M.2.1) (k) (nb) (k) (su) (k) (wt) (n + 1) (fun i => if i < n + 1 then some (hh i) else none) (n + 1) (fun i => if i < n + 1 then some (ff i) else none) (k) (ch) (8) (le) (n + 1) (fl)) ++ va_pl L (rowE cI rw)) H := hP
  have hD : va_D A ((vW cI cQ cZ qv qp qr qj qg qs qh qn qu qw qH qF qc ql qf (nI (k)) (nI (n)) (ep) (nI (pf)) (nI (pn)) (1000) (pr) (wi) (M.2.2.2) (hf) (nI M.2.2.1) (lim) (nt) (lt) (nI (M.1)) (192) (M.2.1) (k) (nb) (k) (su) (k) (wt) (n + 1) (fun i => if i < n + 1 then some (hh i) else none) (n + 1) (fun i => if i < n + 1 then some (ff i) else none) (k) (ch) (8) (le) (n + 1) (fl)) ++ va_pl L (rowE cI rw)) := hD
  refine lv_aload_n hx hb d_V_length_4 rfl (lv_at hl 0 rfl) ?_
  refine va_get (D := D) (ci := 4) (v := .ref ql) (C := R_V) (T := F_V) (N := 11) hx hb hts wl_V hown hK hP 0 rfl rfl 8 (by decide) (hts _ wf_V_23) (fun _ h9 => h9) rfl d_V_length_5 ?_
  refine lv_iload_n hx hb d_V_length_8 rfl (lv_at hl 1 rfl) ?_
  refine sd_iald (j := f) hx hb hK hP 13 0 rfl rfl (by omega) (by omega) d_V_length_9 ?_
  exact sd_iret hx hb hr hlk hP hS (Nat.le_of_ble_eq_true rfl) (Nat.le_of_ble_eq_true rfl) (rfl) d_V_length_10
set_option maxHeartbeats 4000000 in
set_option maxRecDepth 100000 in
theorem c_V_feed_x1 (l : Launch) (D : va_G) (cI cZ cQ : ClassId) (qv : Nat) (qp : Nat) (qr : Nat) (qj : Nat) (qg : Nat) (qs : Nat) (qh : Nat) (qn : Nat) (qu : Nat) (qw : Nat) (qH : Nat) (qF : Nat) (qc : Nat) (ql : Nat) (qf : Nat) (k : Nat) (n : Nat) (pf : Nat) (pn : Nat) (pr : Nat → Int32) (wi : Int32) (M : ms_T) (hf : Int32) (lim : Int32) (nt : Int32) (lt : Int32) (nb : Nat → Int32) (su : Nat → Int32) (wt : Nat → Int32) (ch : Nat → Int32) (le : Nat → Int32) (fl : Nat → Int32) (ep : Int32) (L : List Nat) (hh : Nat → Nat) (ff : Nat → Nat) (rw : Nat → Nat → Int32) (x : Int64) (m9 : Int32) (hst : l.stackTraces = false) (hk : k < 2 ^ 20) (hn : n < 2 ^ 20) (hhL : ∀ i, i < n + 1 → hh i ∈ L) (ffL : ∀ i, i < n + 1 → ff i ∈ L) (hm : ¬ (1 ≤ m9 ∧ m9 ≤ 8)) : sd_X l D (tyL cI cZ cQ) y_V_feed b_V_feed 5 (some .int) ({ frames := 6, cells := 1, slots := 6, locals := 90 }) [.ref qv, .long (x), .int (m9)] ((vW cI cQ cZ qv qp qr qj qg qs qh qn qu qw qH qF qc ql qf (nI (k)) (nI (n)) (ep) (nI (pf)) (nI (pn)) (1000) (pr) (wi) (M.2.2.2) (hf) (nI M.2.2.1) (lim) (nt) (lt) (nI (M.1)) (192) (M.2.1) (k) (nb) (k) (su) (k) (wt) (n + 1) (fun i => if i < n + 1 then some (hh i) else none) (n + 1) (fun i => if i < n + 1 then some (ff i) else none) (k) (ch) (8) (le) (n + 1) (fl)) ++ va_pl L (rowE cI rw)) "java/lang/IllegalArgumentException" ((vW cI cQ cZ qv qp qr qj qg qs qh qn qu qw qH qF qc ql qf (nI (k)) (nI (n)) (ep) (nI (pf)) (nI (pn)) (1000) (pr) (wi) (M.2.2.2) (hf) (nI M.2.2.1) (lim) (nt) (lt) (nI (M.1)) (192) (M.2.1) (k) (nb) (k) (su) (k) (wt) (n + 1) (fun i => if i < n + 1 then some (hh i) else none) (n + 1) (fun i => if i < n + 1 then some (ff i) else none) (k) (ch) (8) (le) (n + 1) (fl)) ++ va_pl L (rowE cI rw)) := by
  refine sd_ofX (by decide) (Nat.le_of_ble_eq_true rfl) ?_
  intro p e s m below meth c A ls hx hb hr hml hlk hown hts hK hP hD hA hS hl hX htab
  have hl : lv_has ls 5 [(0, .ref qv), (1, .long (x)), (3, .int (m9))] := hl
  refine lv_iload_n hx hb d_V_feed_0 rfl (lv_at hl 2 rfl) ?_
  refine lv_iconst (v := 1) hx hb d_V_feed_1 (by decide) ?_
  refine lv_icmp_lt (tgt := 11) hx hb d_V_feed_2 rfl (fun hc2 => ?_) (fun hc2 => ?_)
  · skip
    exact xd_throw (names := xn_) (text := "not 1 to 8 bytes") hst xk_IAE wk_V_70 wi_IllegalArgumentException (by decide) hx hb hown hts hX htab hlk hP hS (hl.1.trans hml.symm) d_V_feed_11 d_V_feed_14 d_V_feed_15 d_V_feed_17 d_V_feed_20 (Nat.le_of_ble_eq_true rfl) (Nat.le_of_ble_eq_true rfl) (Nat.le_of_ble_eq_true rfl) (Nat.le_of_ble_eq_true rfl) (Nat.le_of_ble_eq_true rfl) (Nat.le_of_ble_eq_true rfl)
  · skip
    refine lv_iload_n hx hb d_V_feed_5 rfl (lv_at hl 2 rfl) ?_
    refine lv_bipush (v := 8) hx hb d_V_feed_6 (by decide) ?_
    refine lv_icmp_le (tgt := 21) hx hb d_V_feed_8 rfl (fun hc8 => ?_) (fun hc8 => ?_)
    · skip
      exact absurd ⟨Int32.not_lt.mp hc2, hc8⟩ hm
    · skip
      exact xd_throw (names := xn_) (text := "not 1 to 8 bytes") hst xk_IAE wk_V_70 wi_IllegalArgumentException (by decide) hx hb hown hts hX htab hlk hP hS (hl.1.trans hml.symm) d_V_feed_11 d_V_feed_14 d_V_feed_15 d_V_feed_17 d_V_feed_20 (Nat.le_of_ble_eq_true rfl) (Nat.le_of_ble_eq_true rfl) (Nat.le_of_ble_eq_true rfl) (Nat.le_of_ble_eq_true rfl) (Nat.le_of_ble_eq_true rfl) (Nat.le_of_ble_eq_true rfl)
set_option maxHeartbeats 4000000 in
set_option maxRecDepth 100000 in
theorem c_V_feed_x2 (l : Launch) (D : va_G) (cI cZ cQ : ClassId) (qv : Nat) (qp : Nat) (qr : Nat) (qj : Nat) (qg : Nat) (qs : Nat) (qh : Nat) (qn : Nat) (qu : Nat) (qw : Nat) (qH : Nat) (qF : Nat) (qc : Nat) (ql : Nat) (qf : Nat) (k : Nat) (n : Nat) (pf : Nat) (pn : Nat) (pr : Nat → Int32) (wi : Int32) (M : ms_T) (hf : Int32) (lim : Int32) (nt : Int32) (lt : Int32) (nb : Nat → Int32) (su : Nat → Int32) (wt : Nat → Int32) (ch : Nat → Int32) (le : Nat → Int32) (fl : Nat → Int32) (ep : Int32) (L : List Nat) (hh : Nat → Nat) (ff : Nat → Nat) (rw : Nat → Nat → Int32) (x : Int64) (mm : Nat) (hst : l.stackTraces = false) (hk : k < 2 ^ 20) (hn : n < 2 ^ 20) (hhL : ∀ i, i < n + 1 → hh i ∈ L) (ffL : ∀ i, i < n + 1 → ff i ∈ L) (hm1 : 1 ≤ mm) (hm8 : mm ≤ 8) (hpn : pn ≤ 1000) (hp : 1000 < pn + mm) : sd_X l D (tyL cI cZ cQ) y_V_feed b_V_feed 5 (some .int) ({ frames := 6, cells := 1, slots := 6, locals := 90 }) [.ref qv, .long (x), .int (nI mm)] ((vW cI cQ cZ qv qp qr qj qg qs qh qn qu qw qH qF qc ql qf (nI (k)) (nI (n)) (ep) (nI (pf)) (nI (pn)) (1000) (pr) (wi) (M.2.2.2) (hf) (nI M.2.2.1) (lim) (nt) (lt) (nI (M.1)) (192) (M.2.1) (k) (nb) (k) (su) (k) (wt) (n + 1) (fun i => if i < n + 1 then some (hh i) else none) (n + 1) (fun i => if i < n + 1 then some (ff i) else none) (k) (ch) (8) (le) (n + 1) (fl)) ++ va_pl L (rowE cI rw)) "java/lang/UnsupportedOperationException" ((vW cI cQ cZ qv qp qr qj qg qs qh qn qu qw qH qF qc ql qf (nI (k)) (nI (n)) (ep) (nI (pf)) (nI (pn)) (1000) (pr) (wi) (M.2.2.2) (hf) (nI M.2.2.1) (lim) (nt) (lt) (nI (M.1)) (192) (M.2.1) (k) (nb) (k) (su) (k) (wt) (n + 1) (fun i => if i < n + 1 then some (hh i) else none) (n + 1) (fun i => if i < n + 1 then some (ff i) else none) (k) (ch) (8) (le) (n + 1) (fl)) ++ va_pl L (rowE cI rw)) := by
  refine sd_ofX (by decide) (Nat.le_of_ble_eq_true rfl) ?_
  intro p e s m below meth c A ls hx hb hr hml hlk hown hts hK hP hD hA hS hl hX htab
  have hl : lv_has ls 5 [(0, .ref qv), (1, .long (x)), (3, .int (nI mm))] := hl
  refine lv_iload_n hx hb d_V_feed_0 rfl (lv_at hl 2 rfl) ?_
  refine lv_iconst (v := nI 1) hx hb d_V_feed_1 (by decide) ?_
  refine lv_icmp_lt (tgt := 11) hx hb d_V_feed_2 rfl (fun hc2 => ?_) (fun hc2 => ?_)
  · skip
    exact absurd hc2 (nI_nlt (by omega) (by omega))
  · skip
    refine lv_iload_n hx hb d_V_feed_5 rfl (lv_at hl 2 rfl) ?_
    refine lv_bipush (v := nI 8) hx hb d_V_feed_6 (by decide) ?_
    refine lv_icmp_le (tgt := 21) hx hb d_V_feed_8 rfl (fun hc8 => ?_) (fun hc8 => ?_)
    · skip
      refine lv_aload_n hx hb d_V_feed_21 rfl (lv_at hl 0 rfl) ?_
      refine va_get (D := D) (ci := 4) (v := .ref qp) (C := R_V) (T := F_V) (N := 11) hx hb hts wl_V hown hK hP 0 rfl rfl 2 (by decide) (hts _ wf_V_10) (fun _ h9 => h9) rfl d_V_feed_22 ?_
      refine va_get (D := D) (ci := 0) (v := .int (nI (pn))) (C := R_P) (T := F_P) (N := 3) hx hb hts wl_P hown hK hP 1 rfl rfl 2 (by decide) (hts _ wf_V_77) (fun _ h9 => h9) rfl d_V_feed_25 ?_
      refine lv_iload_n hx hb d_V_feed_28 rfl (lv_at hl 2 rfl) ?_
      refine lv_iadd hx hb d_V_feed_29 ?_
      refine sd_top (y := nI (pn + mm)) (nI_add _ _) ?_
      refine lv_sipush (v := nI 1000) hx hb d_V_feed_30 (by decide) ?_
      refine lv_icmp_le (tgt := 46) hx hb d_V_feed_33 rfl (fun hc33 => ?_) (fun hc33 => ?_)
      · skip
        exact absurd hc33 (nI_ge (by omega) (by omega))
      · skip
        exact xd_throw (names := xn_) (text := "the pool is too full") hst xk_UOE wk_V_80 wi_UnsupportedOperationException (by decide) hx hb hown hts hX htab hlk hP hS (hl.1.trans hml.symm) d_V_feed_36 d_V_feed_39 d_V_feed_40 d_V_feed_42 d_V_feed_45 (Nat.le_of_ble_eq_true rfl) (Nat.le_of_ble_eq_true rfl) (Nat.le_of_ble_eq_true rfl) (Nat.le_of_ble_eq_true rfl) (Nat.le_of_ble_eq_true rfl) (Nat.le_of_ble_eq_true rfl)
    · skip
      exact absurd (nI_le (by omega) (by omega)) hc8
set_option maxHeartbeats 4000000 in
set_option maxRecDepth 100000 in
theorem c_V_feed_y (l : Launch) (D : va_G) (cI cZ cQ : ClassId) (qv : Nat) (qp : Nat) (qr : Nat) (qj : Nat) (qg : Nat) (qs : Nat) (qh : Nat) (qn : Nat) (qu : Nat) (qw : Nat) (qH : Nat) (qF : Nat) (qc : Nat) (ql : Nat) (qf : Nat) (k : Nat) (n : Nat) (pf : Nat) (pn : Nat) (pr : Nat → Int32) (wi : Int32) (M : ms_T) (hf : Int32) (lim : Int32) (nt : Int32) (lt : Int32) (nb : Nat → Int32) (su : Nat → Int32) (wt : Nat → Int32) (ch : Nat → Int32) (le : Nat → Int32) (fl : Nat → Int32) (ep : Int32) (L : List Nat) (hh : Nat → Nat) (ff : Nat → Nat) (rw : Nat → Nat → Int32) (x : Int64) (mm : Nat) (hk : k < 2 ^ 20) (hn : n < 2 ^ 20) (hhL : ∀ i, i < n + 1 → hh i ∈ L) (ffL : ∀ i, i < n + 1 → ff i ∈ L) (hm1 : 1 ≤ mm) (hm8 : mm ≤ 8) (hpf : pf < 1000) (hp : pn + mm ≤ 1000) : sd_I l D (tyL cI cZ cQ) y_V_feed b_V_feed 5 (.int) ({ frames := 1, cells := 0, slots := 0, locals := 22 }) [.ref qv, .long (x), .int (nI mm)] ((vW cI cQ cZ qv qp qr qj qg qs qh qn qu qw qH qF qc ql qf (nI (k)) (nI (n)) (ep) (nI (pf)) (nI (pn)) (1000) (pr) (wi) (M.2.2.2) (hf) (nI M.2.2.1) (lim) (nt) (lt) (nI (M.1)) (192) (M.2.1) (k) (nb) (k) (su) (k) (wt) (n + 1) (fun i => if i < n + 1 then some (hh i) else none) (n + 1) (fun i => if i < n + 1 then some (ff i) else none) (k) (ch) (8) (le) (n + 1) (fl)) ++ va_pl L (rowE cI rw)) (nI (pn + mm)) ((vW cI cQ cZ qv qp qr qj qg qs qh qn qu qw qH qF qc ql qf (nI (k)) (nI (n)) (ep) (nI (pf)) (nI (pn + mm)) (1000) (vf_f x pf pn mm pr) (wi) (M.2.2.2) (hf) (nI M.2.2.1) (lim) (nt) (lt) (nI (M.1)) (192) (M.2.1) (k) (nb) (k) (su) (k) (wt) (n + 1) (fun i => if i < n + 1 then some (hh i) else none) (n + 1) (fun i => if i < n + 1 then some (ff i) else none) (k) (ch) (8) (le) (n + 1) (fl)) ++ va_pl L (rowE cI rw)) := by
  refine sd_ofI (by decide) (Nat.le_of_ble_eq_true rfl) ?_
  intro p e s m below meth c A ls hx hb hr hml hlk hown hts hK hP hD hA hS hl
  have hl : lv_has ls 5 [(0, .ref qv), (1, .long (x)), (3, .int (nI mm))] := hl
  refine lv_iload_n hx hb d_V_feed_0 rfl (lv_at hl 2 rfl) ?_
  refine lv_iconst (v := nI 1) hx hb d_V_feed_1 (by decide) ?_
  refine lv_icmp_lt (tgt := 11) hx hb d_V_feed_2 rfl (fun hc2 => ?_) (fun hc2 => ?_)
  · skip
    exact absurd hc2 (nI_nlt (by omega) (by omega))
  · skip
    refine lv_iload_n hx hb d_V_feed_5 rfl (lv_at hl 2 rfl) ?_
    refine lv_bipush (v := nI 8) hx hb d_V_feed_6 (by decide) ?_
    refine lv_icmp_le (tgt := 21) hx hb d_V_feed_8 rfl (fun hc8 => ?_) (fun hc8 => ?_)
    · skip
      refine lv_aload_n hx hb d_V_feed_21 rfl (lv_at hl 0 rfl) ?_
      refine va_get (D := D) (ci := 4) (v := .ref qp) (C := R_V) (T := F_V) (N := 11) hx hb hts wl_V hown hK hP 0 rfl rfl 2 (by decide) (hts _ wf_V_10) (fun _ h9 => h9) rfl d_V_feed_22 ?_
      refine va_get (D := D) (ci := 0) (v := .int (nI (pn))) (C := R_P) (T := F_P) (N := 3) hx hb hts wl_P hown hK hP 1 rfl rfl 2 (by decide) (hts _ wf_V_77) (fun _ h9 => h9) rfl d_V_feed_25 ?_
      refine lv_iload_n hx hb d_V_feed_28 rfl (lv_at hl 2 rfl) ?_
      refine lv_iadd hx hb d_V_feed_29 ?_
      refine sd_top (y := nI (pn + mm)) (nI_add _ _) ?_
      refine lv_sipush (v := nI 1000) hx hb d_V_feed_30 (by decide) ?_
      refine lv_icmp_le (tgt := 46) hx hb d_V_feed_33 rfl (fun hc33 => ?_) (fun hc33 => ?_)
      · skip
        refine lv_iconst (v := 0) hx hb d_V_feed_46 (by decide) ?_
        refine sd_top (y := nI 0) (rfl) ?_
        refine lv_istore hx hb d_V_feed_47 hl (Nat.le_of_ble_eq_true rfl) (lv' := [(4, .int (nI 0)), (0, .ref qv), (1, .long (x)), (3, .int (nI mm))]) rfl (fun ls hl => ?_)
        have hl := lv_sub hl (l' := [(0, .ref qv), (1, .long (x)), (3, .int (nI mm)), (4, .int (nI 0))]) [1, 2, 3, 0] rfl
        have loop49 : ∀ (d : Nat) (j : Nat) (ls : Array Slot) (H : Heap) (locs : List Loc), mm - j = d → (j ≤ mm) → lv_has ls 5 [(0, .ref qv), (1, .long (x)), (3, .int (nI mm)), (4, .int (nI (j)))] → va_P D cls ((vW cI cQ cZ qv qp qr qj qg qs qh qn qu qw qH qF qc ql qf (nI (k)) (nI (n)) (ep) (nI (pf)) (nI (pn + j)) (1000) (vf_f x pf pn j pr) (wi) (M.2.2.2) (hf) (nI M.2.2.1) (lim) (nt) (lt) (nI (M.1)) (192) (M.2.1) (k) (nb) (k) (su) (k) (wt) (n + 1) (fun i => if i < n + 1 then some (hh i) else none) (n + 1) (fun i => if i < n + 1 then some (ff i) else none) (k) (ch) (8) (le) (n + 1) (fl)) ++ va_pl L (rowE cI rw)) H → va_D A ((vW cI cQ cZ qv qp qr qj qg qs qh qn qu qw qH qF qc ql qf (nI (k)) (nI (n)) (ep) (nI (pf)) (nI (pn + j)) (1000) (vf_f x pf pn j pr) (wi) (M.2.2.2) (hf) (nI M.2.2.1) (lim) (nt) (lt) (nI (M.1)) (192) (M.2.1) (k) (nb) (k) (su) (k) (wt) (n + 1) (fun i => if i < n + 1 then some (hh i) else none) (n + 1) (fun i => if i < n + 1 then some (ff i) else none) (k) (ch) (8) (le) (n + 1) (fl)) ++ va_pl L (rowE cI rw)) → va_S A s.heap H locs → W p l e ({ frames := 1, cells := 0, slots := 0, locals := 22 }) s m ([.ref qv, .long (x), .int (nI mm)] : List Value).toArray below meth c H locs 0 0 (MQ below (sd_qi D (nI (pn + mm)) ((vW cI cQ cZ qv qp qr qj qg qs qh qn qu qw qH qF qc ql qf (nI (k)) (nI (n)) (ep) (nI (pf)) (nI (pn + mm)) (1000) (vf_f x pf pn mm pr) (wi) (M.2.2.2) (hf) (nI M.2.2.1) (lim) (nt) (lt) (nI (M.1)) (192) (M.2.1) (k) (nb) (k) (su) (k) (wt) (n + 1) (fun i => if i < n + 1 then some (hh i) else none) (n + 1) (fun i => if i < n + 1 then some (ff i) else none) (k) (ch) (8) (le) (n + 1) (fl)) ++ va_pl L (rowE cI rw)) A) ([.ref qv, .long (x), .int (nI mm)] : List Value).toArray s 0 0 A) (F0 m 49 ls []) := by
          intro d
          induction d using Nat.strongRecOn with
          | _ d ih49 =>
          intro j ls H locs hd hj hl hP hD hS
          subst hd
          refine lv_iload hx hb d_V_feed_49 (lv_at hl 3 rfl) ?_
          refine lv_iload_n hx hb d_V_feed_51 rfl (lv_at hl 2 rfl) ?_
          refine lv_icmp_ge (tgt := 74) hx hb d_V_feed_52 rfl (fun hc52 => ?_) (fun hc52 => ?_)
          · skip
            rw [nI_leI (by omega) (by omega)] at hc52
            refine lv_aload_n hx hb d_V_feed_74 rfl (lv_at hl 0 rfl) ?_
            refine va_get (D := D) (ci := 4) (v := .ref qp) (C := R_V) (T := F_V) (N := 11) hx hb hts wl_V hown hK hP 0 rfl rfl 2 (by decide) (hts _ wf_V_10) (fun _ h9 => h9) rfl d_V_feed_75 ?_
            refine va_get (D := D) (ci := 0) (v := .int (nI (pn + j))) (C := R_P) (T := F_P) (N := 3) hx hb hts wl_P hown hK hP 1 rfl rfl 2 (by decide) (hts _ wf_V_77) (fun _ h9 => h9) rfl d_V_feed_78 ?_
            have hjm : mm = j := by omega
            subst hjm
            exact sd_iret hx hb hr hlk hP hS (Nat.le_of_ble_eq_true rfl) (Nat.le_of_ble_eq_true rfl) (rfl) d_V_feed_81
          · skip
            rw [nI_leI (by omega) (by omega)] at hc52
            refine lv_aload_n hx hb d_V_feed_55 rfl (lv_at hl 0 rfl) ?_
            refine va_get (D := D) (ci := 4) (v := .ref qp) (C := R_V) (T := F_V) (N := 11) hx hb hts wl_V hown hK hP 0 rfl rfl 2 (by decide) (hts _ wf_V_10) (fun _ h9 => h9) rfl d_V_feed_56 ?_
            refine lv_lload_n hx hb d_V_feed_59 rfl (lv_at hl 1 rfl) ?_
            refine lv_iload hx hb d_V_feed_60 (lv_at hl 3 rfl) ?_
            refine sd_callSI (As := [.long (x), .int (nI j)]) (rest := [.ref qp]) (cx := []) (w1 := []) (c_B_ofLong l D cI cZ cQ (x) (j) (by omega)) ⟨wc_B_ofLong, wm_V_85, wi_B, by decide, by decide, show (parseMethodDescriptor y_B_ofLong.desc).map (fun d => d.parameters.length) = some 2 by decide +kernel⟩ ws_B_ofLong hx hb hml hown hts hl.1 ⟨Nat.le_of_ble_eq_true rfl, Nat.le_of_ble_eq_true rfl⟩ ⟨Nat.le_of_ble_eq_true rfl, Nat.le_of_ble_eq_true rfl⟩ hK hP hD hS hA [] rfl (by decide) rfl rfl rfl (Nat.le_of_ble_eq_true rfl) d_V_feed_62 (fun H locs hP hD hS => ?_)
            have hP : va_P D cls ((vW cI cQ cZ qv qp qr qj qg qs qh qn qu qw qH qF qc ql qf (nI (k)) (nI (n)) (ep) (nI (pf)) (nI (pn + j)) (1000) (vf_f x pf pn j pr) (wi) (M.2.2.2) (hf) (nI M.2.2.1) (lim) (nt) (lt) (nI (M.1)) (192) (M.2.1) (k) (nb) (k) (su) (k) (wt) (n + 1) (fun i => if i < n + 1 then some (hh i) else none) (n + 1) (fun i => if i < n + 1 then some (ff i) else none) (k) (ch) (8) (le) (n + 1) (fl)) ++ va_pl L (rowE cI rw)) H := hP
            have hD : va_D A ((vW cI cQ cZ qv qp qr qj qg qs qh qn qu qw qH qF qc ql qf (nI (k)) (nI (n)) (ep) (nI (pf)) (nI (pn + j)) (1000) (vf_f x pf pn j pr) (wi) (M.2.2.2) (hf) (nI M.2.2.1) (lim) (nt) (lt) (nI (M.1)) (192) (M.2.1) (k) (nb) (k) (su) (k) (wt) (n + 1) (fun i => if i < n + 1 then some (hh i) else none) (n + 1) (fun i => if i < n + 1 then some (ff i) else none) (k) (ch) (8) (le) (n + 1) (fl)) ++ va_pl L (rowE cI rw)) := hD
            refine sd_callVV (As := [.int (bI (lb x j))]) (rest := []) (cx := [(qp, .inr (0, [.ref qr, .int (nI (pf)), .int (nI ((pn + j)))])), (qr, .inl (cI, 1000, .inl (vf_f x pf pn j pr)))]) (w1 := [(qp, .inr (0, [.ref qr, .int (nI (pf)), .int (nI ((pn + j) + 1))])), (qr, .inl (cI, 1000, .inl (upd (vf_f x pf pn j pr) ((pf + (pn + j)) % 1000) (bI (lb x j)))))]) (c_P_put l D cI cZ cQ (qp) (qr) (pf) (pn + j) (vf_f x pf pn j pr) (bI (lb x j)) (hpf) (by omega)) ⟨wc_P_put, wm_V_91, wi_P, by decide, by decide, show (parseMethodDescriptor y_P_put.desc).map (fun d => d.parameters.length) = some 1 by decide +kernel⟩ wo_P_put wz_P_put hx hb hml hown hts hl.1 ⟨Nat.le_of_ble_eq_true rfl, Nat.le_of_ble_eq_true rfl⟩ ⟨Nat.le_of_ble_eq_true rfl, Nat.le_of_ble_eq_true rfl⟩ hK hP hD hS hA [1, 2] rfl (by decide) rfl rfl (q0 := 0) rfl rfl rfl (Nat.le_of_ble_eq_true rfl) d_V_feed_65 (fun H locs hP hD hS => ?_)
            have hP : va_P D cls ((vW cI cQ cZ qv qp qr qj qg qs qh qn qu qw qH qF qc ql qf (nI (k)) (nI (n)) (ep) (nI (pf)) (nI ((pn + j) + 1)) (1000) (upd (vf_f x pf pn j pr) ((pf + (pn + j)) % 1000) (bI (lb x j))) (wi) (M.2.2.2) (hf) (nI M.2.2.1) (lim) (nt) (lt) (nI (M.1)) (192) (M.2.1) (k) (nb) (k) (su) (k) (wt) (n + 1) (fun i => if i < n + 1 then some (hh i) else none) (n + 1) (fun i => if i < n + 1 then some (ff i) else none) (k) (ch) (8) (le) (n + 1) (fl)) ++ va_pl L (rowE cI rw)) H := hP
            have hD : va_D A ((vW cI cQ cZ qv qp qr qj qg qs qh qn qu qw qH qF qc ql qf (nI (k)) (nI (n)) (ep) (nI (pf)) (nI ((pn + j) + 1)) (1000) (upd (vf_f x pf pn j pr) ((pf + (pn + j)) % 1000) (bI (lb x j))) (wi) (M.2.2.2) (hf) (nI M.2.2.1) (lim) (nt) (lt) (nI (M.1)) (192) (M.2.1) (k) (nb) (k) (su) (k) (wt) (n + 1) (fun i => if i < n + 1 then some (hh i) else none) (n + 1) (fun i => if i < n + 1 then some (ff i) else none) (k) (ch) (8) (le) (n + 1) (fl)) ++ va_pl L (rowE cI rw)) := hD
            refine lv_iinc hx hb d_V_feed_68 hl (k := 3) rfl (v := nI (j + 1)) (ii_1 _) (Nat.le_of_ble_eq_true rfl) (lv' := [(4, .int (nI (j + 1))), (0, .ref qv), (1, .long (x)), (3, .int (nI mm))]) rfl (fun ls hl => ?_)
            refine lv_goto (tgt := 49) hx hb d_V_feed_71 rfl ?_
            have hl := lv_sub hl (l' := [(0, .ref qv), (1, .long (x)), (3, .int (nI mm)), (4, .int (nI (j + 1)))]) [1, 2, 3, 0] rfl
            exact ih49 _ (by omega) (j + 1) ls _ _ rfl (by omega) hl hP hD hS
        exact loop49 _ (0) ls _ _ rfl (Nat.zero_le _) hl hP hD hS
      · skip
        exact absurd (nI_le (by omega) (by omega)) hc33
    · skip
      exact absurd (nI_le (by omega) (by omega)) hc8
