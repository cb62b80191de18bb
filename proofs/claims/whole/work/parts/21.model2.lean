/-- t bytes are taken of the first j: (taken, pool) -/
def tq_f (t : Nat) : Nat → (Nat → Int32) × (Nat → Int32) → (Nat → Int32) × (Nat → Int32)
  | 0, S => S
  | j + 1, S => if j < t then (upd (tq_f t j S).1 j ((tq_f t j S).2 j), (tq_f t j S).2) else ((tq_f t j S).1, upd (tq_f t j S).2 (j - t) ((tq_f t j S).2 j))
/-- coefficients 1 .. t of the byte at o get a taken byte each -/
def dl_f (tk : Nat → Int32) (o nx : Nat) : Nat → (Nat → Int32) → Nat → Int32
  | 0, fr => fr
  | t + 1, fr => upd (dl_f tk o nx t fr) (o + (t + 1)) (dl_f tk o nx t fr (o + (t + 1)) ^^^ tk (nx + t))
def dm_f (fb tb : Nat → BitVec 8) (nx : Nat) : Nat → BitVec 8 := fun j => if j = 0 then fb 0 else fb j ^^^ tb (nx + (j - 1))
theorem dl_i (tk : Nat → Int32) (o nx t : Nat) (fr : Nat → Int32) : ∀ j, dl_f tk o nx t fr (o + j) = if 1 ≤ j ∧ j ≤ t then fr (o + j) ^^^ tk (nx + (j - 1)) else fr (o + j) := by
  induction t with
  | zero => intro j; rw [if_neg (by omega)]; rfl
  | succ t ih =>
    intro j
    show upd (dl_f tk o nx t fr) (o + (t + 1)) (dl_f tk o nx t fr (o + (t + 1)) ^^^ tk (nx + t)) (o + j) = _
    unfold upd
    by_cases h : j = t + 1
    · rw [if_pos (by omega), ih, if_neg (by omega), if_pos (by omega), h]; rfl
    · rw [if_neg (by omega), ih]
      by_cases h2 : 1 ≤ j ∧ j ≤ t
      · rw [if_pos h2, if_pos (by omega)]
      · rw [if_neg h2, if_neg (by omega)]
theorem dm_b {tk fr : Nat → Int32} {o nx k : Nat} {fb tb : Nat → BitVec 8} (hfr : ∀ j, j < k → fr (o + j) = bI (fb j)) (htk : ∀ i, i < 1000 → tk i = bI (tb i)) (hnx : nx + (k - 1) ≤ 1000) (hk1 : 1 ≤ k) : ∀ j, j < k → dl_f tk o nx (k - 1) fr (o + j) = bI (dm_f fb tb nx j) := by
  intro j hj
  rw [dl_i]
  unfold dm_f
  by_cases h : j = 0
  · subst h
    rw [if_neg (by omega), if_pos rfl, hfr 0 (by omega)]
  · rw [if_pos (by omega), if_neg h, hfr j hj, htk _ (by omega), bI_xor]
def ds_f (vb : Nat → BitVec 8) : Nat → mm_T → mm_T
  | 0, M => M
  | u + 1, M => mm_s (ds_f vb u M) 0 (nI (u + 1)) (bI (vb (u + 1)))
theorem ds_b (vb : Nat → BitVec 8) (u : Nat) (M : mm_T) : (ds_f vb u M).1 ≤ M.1 + u := by
  induction u with
  | zero => exact Nat.le_refl _
  | succ u ih =>
    have := mm_b (ds_f vb u M) 0 (nI (u + 1)) (bI (vb (u + 1)))
    show (mm_s (ds_f vb u M) 0 (nI (u + 1)) (bI (vb (u + 1)))).1 ≤ _
    omega
/-- boxes from i on are told to tidy until the job is cut: (messages, the first that was not) -/
def mt_f : Nat → Nat → mm_T × Nat → mm_T × Nat
  | 0, _, S => S
  | d + 1, i, S => if S.1.2.2.2 = 0 then mt_f d (i + 1) (mm_s S.1 0 (nI i) 257, if (mm_s S.1 0 (nI i) 257).2.2.2 = 0 then i + 1 else i) else S
theorem mt_e {d i f2 : Nat} {M2 : mm_T} (h : ¬ M2.2.2.2 = 0) : mt_f d i (M2, f2) = (M2, f2) := by
  cases d with
  | zero => rfl
  | succ d => exact if_neg h
theorem mt_S {g i f2 : Nat} {M2 : mm_T} (hi : i ≤ g) (h : M2.2.2.2 = 0) : mt_f (g + 1 - i) i (M2, f2) = mt_f (g + 1 - (i + 1)) (i + 1) (mm_s M2 0 (nI i) 257, if (mm_s M2 0 (nI i) 257).2.2.2 = 0 then i + 1 else i) := by
  rw [show g + 1 - i = (g + 1 - (i + 1)) + 1 by omega]
  exact if_pos h
theorem d_M_take_0 : decode b_M_take 0 = .ok (.iconst 0, 1) := by decide +kernel
theorem d_M_take_1 : decode b_M_take 1 = .ok (.istore_n 2, 1) := by decide +kernel
theorem d_M_take_2 : decode b_M_take 2 = .ok (.iload_n 2, 1) := by decide +kernel
theorem d_M_take_3 : decode b_M_take 3 = .ok (.aload_n 0, 1) := by decide +kernel
theorem d_M_take_4 : decode b_M_take 4 = .ok (.getfield 58, 3) := by decide +kernel
theorem d_M_take_7 : decode b_M_take 7 = .ok (.if_icmp .ge 43, 3) := by decide +kernel
theorem d_M_take_10 : decode b_M_take 10 = .ok (.iload_n 2, 1) := by decide +kernel
theorem d_M_take_11 : decode b_M_take 11 = .ok (.iload_n 1, 1) := by decide +kernel
theorem d_M_take_12 : decode b_M_take 12 = .ok (.if_icmp .ge 18, 3) := by decide +kernel
theorem d_M_take_15 : decode b_M_take 15 = .ok (.aload_n 0, 1) := by decide +kernel
theorem d_M_take_16 : decode b_M_take 16 = .ok (.getfield 13, 3) := by decide +kernel
theorem d_M_take_19 : decode b_M_take 19 = .ok (.iload_n 2, 1) := by decide +kernel
theorem d_M_take_20 : decode b_M_take 20 = .ok (.aload_n 0, 1) := by decide +kernel
theorem d_M_take_21 : decode b_M_take 21 = .ok (.getfield 7, 3) := by decide +kernel
theorem d_M_take_24 : decode b_M_take 24 = .ok (.iload_n 2, 1) := by decide +kernel
theorem d_M_take_25 : decode b_M_take 25 = .ok (.iaload, 1) := by decide +kernel
theorem d_M_take_26 : decode b_M_take 26 = .ok (.iastore, 1) := by decide +kernel
theorem d_M_take_27 : decode b_M_take 27 = .ok (.goto 17, 3) := by decide +kernel
theorem d_M_take_30 : decode b_M_take 30 = .ok (.aload_n 0, 1) := by decide +kernel
theorem d_M_take_31 : decode b_M_take 31 = .ok (.getfield 7, 3) := by decide +kernel
theorem d_M_take_34 : decode b_M_take 34 = .ok (.iload_n 2, 1) := by decide +kernel
theorem d_M_take_35 : decode b_M_take 35 = .ok (.iload_n 1, 1) := by decide +kernel
theorem d_M_take_36 : decode b_M_take 36 = .ok (.isub, 1) := by decide +kernel
theorem d_M_take_37 : decode b_M_take 37 = .ok (.aload_n 0, 1) := by decide +kernel
theorem d_M_take_38 : decode b_M_take 38 = .ok (.getfield 7, 3) := by decide +kernel
theorem d_M_take_41 : decode b_M_take 41 = .ok (.iload_n 2, 1) := by decide +kernel
theorem d_M_take_42 : decode b_M_take 42 = .ok (.iaload, 1) := by decide +kernel
theorem d_M_take_43 : decode b_M_take 43 = .ok (.iastore, 1) := by decide +kernel
theorem d_M_take_44 : decode b_M_take 44 = .ok (.iinc 2 1, 3) := by decide +kernel
theorem d_M_take_47 : decode b_M_take 47 = .ok (.goto (-45), 3) := by decide +kernel
theorem d_M_take_50 : decode b_M_take 50 = .ok (.aload_n 0, 1) := by decide +kernel
theorem d_M_take_51 : decode b_M_take 51 = .ok (.aload_n 0, 1) := by decide +kernel
theorem d_M_take_52 : decode b_M_take 52 = .ok (.getfield 58, 3) := by decide +kernel
theorem d_M_take_55 : decode b_M_take 55 = .ok (.iload_n 1, 1) := by decide +kernel
theorem d_M_take_56 : decode b_M_take 56 = .ok (.isub, 1) := by decide +kernel
theorem d_M_take_57 : decode b_M_take 57 = .ok (.putfield 58, 3) := by decide +kernel
theorem d_M_take_60 : decode b_M_take 60 = .ok (.aload_n 0, 1) := by decide +kernel
theorem d_M_take_61 : decode b_M_take 61 = .ok (.iconst 0, 1) := by decide +kernel
theorem d_M_take_62 : decode b_M_take 62 = .ok (.putfield 63, 3) := by decide +kernel
theorem d_M_take_65 : decode b_M_take 65 = .ok (.return_, 1) := by decide +kernel
theorem d_M_valueAt_0 : decode b_M_valueAt 0 = .ok (.iconst 0, 1) := by decide +kernel
theorem d_M_valueAt_1 : decode b_M_valueAt 1 = .ok (.istore 4, 2) := by decide +kernel
theorem d_M_valueAt_3 : decode b_M_valueAt 3 = .ok (.aload_n 0, 1) := by decide +kernel
theorem d_M_valueAt_4 : decode b_M_valueAt 4 = .ok (.getfield 48, 3) := by decide +kernel
theorem d_M_valueAt_7 : decode b_M_valueAt 7 = .ok (.iconst 1, 1) := by decide +kernel
theorem d_M_valueAt_8 : decode b_M_valueAt 8 = .ok (.isub, 1) := by decide +kernel
theorem d_M_valueAt_9 : decode b_M_valueAt 9 = .ok (.istore 5, 2) := by decide +kernel
theorem d_M_valueAt_11 : decode b_M_valueAt 11 = .ok (.iload 5, 2) := by decide +kernel
theorem d_M_valueAt_13 : decode b_M_valueAt 13 = .ok (.ifCond .lt 24, 3) := by decide +kernel
theorem d_M_valueAt_16 : decode b_M_valueAt 16 = .ok (.iload 4, 2) := by decide +kernel
theorem d_M_valueAt_18 : decode b_M_valueAt 18 = .ok (.iload_n 3, 1) := by decide +kernel
theorem d_M_valueAt_19 : decode b_M_valueAt 19 = .ok (.invokestatic 54, 3) := by decide +kernel
theorem d_M_valueAt_22 : decode b_M_valueAt 22 = .ok (.aload_n 1, 1) := by decide +kernel
theorem d_M_valueAt_23 : decode b_M_valueAt 23 = .ok (.iload_n 2, 1) := by decide +kernel
theorem d_M_valueAt_24 : decode b_M_valueAt 24 = .ok (.iload 5, 2) := by decide +kernel
theorem d_M_valueAt_26 : decode b_M_valueAt 26 = .ok (.iadd, 1) := by decide +kernel
theorem d_M_valueAt_27 : decode b_M_valueAt 27 = .ok (.iaload, 1) := by decide +kernel
theorem d_M_valueAt_28 : decode b_M_valueAt 28 = .ok (.ixor, 1) := by decide +kernel
theorem d_M_valueAt_29 : decode b_M_valueAt 29 = .ok (.istore 4, 2) := by decide +kernel
theorem d_M_valueAt_31 : decode b_M_valueAt 31 = .ok (.iinc 5 (-1), 3) := by decide +kernel
theorem d_M_valueAt_34 : decode b_M_valueAt 34 = .ok (.goto (-23), 3) := by decide +kernel
theorem d_M_valueAt_37 : decode b_M_valueAt 37 = .ok (.iload 4, 2) := by decide +kernel
theorem d_M_valueAt_39 : decode b_M_valueAt 39 = .ok (.ireturn, 1) := by decide +kernel
theorem d_M_deal_0 : decode b_M_deal 0 = .ok (.bipush 9, 2) := by decide +kernel
theorem d_M_deal_2 : decode b_M_deal 2 = .ok (.bipush 8, 2) := by decide +kernel
theorem d_M_deal_4 : decode b_M_deal 4 = .ok (.iload_n 1, 1) := by decide +kernel
theorem d_M_deal_5 : decode b_M_deal 5 = .ok (.imul, 1) := by decide +kernel
theorem d_M_deal_6 : decode b_M_deal 6 = .ok (.iload_n 2, 1) := by decide +kernel
theorem d_M_deal_7 : decode b_M_deal 7 = .ok (.iadd, 1) := by decide +kernel
theorem d_M_deal_8 : decode b_M_deal 8 = .ok (.imul, 1) := by decide +kernel
theorem d_M_deal_9 : decode b_M_deal 9 = .ok (.istore_n 3, 1) := by decide +kernel
theorem d_M_deal_10 : decode b_M_deal 10 = .ok (.iconst 1, 1) := by decide +kernel
theorem d_M_deal_11 : decode b_M_deal 11 = .ok (.istore 4, 2) := by decide +kernel
theorem d_M_deal_13 : decode b_M_deal 13 = .ok (.iload 4, 2) := by decide +kernel
theorem d_M_deal_15 : decode b_M_deal 15 = .ok (.aload_n 0, 1) := by decide +kernel
theorem d_M_deal_16 : decode b_M_deal 16 = .ok (.getfield 48, 3) := by decide +kernel
theorem d_M_deal_19 : decode b_M_deal 19 = .ok (.if_icmp .ge 32, 3) := by decide +kernel
theorem d_M_deal_22 : decode b_M_deal 22 = .ok (.aload_n 0, 1) := by decide +kernel
theorem d_M_deal_23 : decode b_M_deal 23 = .ok (.getfield 22, 3) := by decide +kernel
theorem d_M_deal_26 : decode b_M_deal 26 = .ok (.iload_n 3, 1) := by decide +kernel
theorem d_M_deal_27 : decode b_M_deal 27 = .ok (.iload 4, 2) := by decide +kernel
theorem d_M_deal_29 : decode b_M_deal 29 = .ok (.iadd, 1) := by decide +kernel
theorem d_M_deal_30 : decode b_M_deal 30 = .ok (.aload_n 0, 1) := by decide +kernel
theorem d_M_deal_31 : decode b_M_deal 31 = .ok (.getfield 22, 3) := by decide +kernel
theorem d_M_deal_34 : decode b_M_deal 34 = .ok (.iload_n 3, 1) := by decide +kernel
theorem d_M_deal_35 : decode b_M_deal 35 = .ok (.iload 4, 2) := by decide +kernel
theorem d_M_deal_37 : decode b_M_deal 37 = .ok (.iadd, 1) := by decide +kernel
theorem d_M_deal_38 : decode b_M_deal 38 = .ok (.iaload, 1) := by decide +kernel
theorem d_M_deal_39 : decode b_M_deal 39 = .ok (.aload_n 0, 1) := by decide +kernel
theorem d_M_deal_40 : decode b_M_deal 40 = .ok (.invokevirtual 73, 3) := by decide +kernel
theorem d_M_deal_43 : decode b_M_deal 43 = .ok (.ixor, 1) := by decide +kernel
theorem d_M_deal_44 : decode b_M_deal 44 = .ok (.iastore, 1) := by decide +kernel
theorem d_M_deal_45 : decode b_M_deal 45 = .ok (.iinc 4 1, 3) := by decide +kernel
theorem d_M_deal_48 : decode b_M_deal 48 = .ok (.goto (-35), 3) := by decide +kernel
theorem d_M_deal_51 : decode b_M_deal 51 = .ok (.iconst 1, 1) := by decide +kernel
theorem d_M_deal_52 : decode b_M_deal 52 = .ok (.istore 4, 2) := by decide +kernel
theorem d_M_deal_54 : decode b_M_deal 54 = .ok (.iload 4, 2) := by decide +kernel
theorem d_M_deal_56 : decode b_M_deal 56 = .ok (.aload_n 0, 1) := by decide +kernel
theorem d_M_deal_57 : decode b_M_deal 57 = .ok (.getfield 45, 3) := by decide +kernel
theorem d_M_deal_60 : decode b_M_deal 60 = .ok (.if_icmp .gt 27, 3) := by decide +kernel
theorem d_M_deal_63 : decode b_M_deal 63 = .ok (.aload_n 0, 1) := by decide +kernel
theorem d_M_deal_64 : decode b_M_deal 64 = .ok (.iconst 0, 1) := by decide +kernel
theorem d_M_deal_65 : decode b_M_deal 65 = .ok (.iload 4, 2) := by decide +kernel
theorem d_M_deal_67 : decode b_M_deal 67 = .ok (.aload_n 0, 1) := by decide +kernel
theorem d_M_deal_68 : decode b_M_deal 68 = .ok (.aload_n 0, 1) := by decide +kernel
theorem d_M_deal_69 : decode b_M_deal 69 = .ok (.getfield 22, 3) := by decide +kernel
theorem d_M_deal_72 : decode b_M_deal 72 = .ok (.iload_n 3, 1) := by decide +kernel
theorem d_M_deal_73 : decode b_M_deal 73 = .ok (.iload 4, 2) := by decide +kernel
theorem d_M_deal_75 : decode b_M_deal 75 = .ok (.invokevirtual 77, 3) := by decide +kernel
theorem d_M_deal_78 : decode b_M_deal 78 = .ok (.invokevirtual 81, 3) := by decide +kernel
theorem d_M_deal_81 : decode b_M_deal 81 = .ok (.iinc 4 1, 3) := by decide +kernel
theorem d_M_deal_84 : decode b_M_deal 84 = .ok (.goto (-30), 3) := by decide +kernel
theorem d_M_deal_87 : decode b_M_deal 87 = .ok (.return_, 1) := by decide +kernel
theorem d_M_tidy_0 : decode b_M_tidy 0 = .ok (.aload_n 0, 1) := by decide +kernel
theorem d_M_tidy_1 : decode b_M_tidy 1 = .ok (.getfield 91, 3) := by decide +kernel
theorem d_M_tidy_4 : decode b_M_tidy 4 = .ok (.istore_n 1, 1) := by decide +kernel
theorem d_M_tidy_5 : decode b_M_tidy 5 = .ok (.iload_n 1, 1) := by decide +kernel
theorem d_M_tidy_6 : decode b_M_tidy 6 = .ok (.aload_n 0, 1) := by decide +kernel
theorem d_M_tidy_7 : decode b_M_tidy 7 = .ok (.getfield 94, 3) := by decide +kernel
theorem d_M_tidy_10 : decode b_M_tidy 10 = .ok (.if_icmp .gt 43, 3) := by decide +kernel
theorem d_M_tidy_13 : decode b_M_tidy 13 = .ok (.aload_n 0, 1) := by decide +kernel
theorem d_M_tidy_14 : decode b_M_tidy 14 = .ok (.getfield 66, 3) := by decide +kernel
theorem d_M_tidy_17 : decode b_M_tidy 17 = .ok (.ifCond .ne 36, 3) := by decide +kernel
theorem d_M_tidy_20 : decode b_M_tidy 20 = .ok (.aload_n 0, 1) := by decide +kernel
theorem d_M_tidy_21 : decode b_M_tidy 21 = .ok (.iconst 0, 1) := by decide +kernel
theorem d_M_tidy_22 : decode b_M_tidy 22 = .ok (.iload_n 1, 1) := by decide +kernel
theorem d_M_tidy_23 : decode b_M_tidy 23 = .ok (.sipush 257, 3) := by decide +kernel
theorem d_M_tidy_26 : decode b_M_tidy 26 = .ok (.invokevirtual 81, 3) := by decide +kernel
theorem d_M_tidy_29 : decode b_M_tidy 29 = .ok (.aload_n 0, 1) := by decide +kernel
theorem d_M_tidy_30 : decode b_M_tidy 30 = .ok (.aload_n 0, 1) := by decide +kernel
theorem d_M_tidy_31 : decode b_M_tidy 31 = .ok (.getfield 66, 3) := by decide +kernel
theorem d_M_tidy_34 : decode b_M_tidy 34 = .ok (.ifCond .eq 7, 3) := by decide +kernel
theorem d_M_tidy_37 : decode b_M_tidy 37 = .ok (.iload_n 1, 1) := by decide +kernel
theorem d_M_tidy_38 : decode b_M_tidy 38 = .ok (.goto 6, 3) := by decide +kernel
theorem d_M_tidy_41 : decode b_M_tidy 41 = .ok (.iload_n 1, 1) := by decide +kernel
theorem d_M_tidy_42 : decode b_M_tidy 42 = .ok (.iconst 1, 1) := by decide +kernel
theorem d_M_tidy_43 : decode b_M_tidy 43 = .ok (.iadd, 1) := by decide +kernel
theorem d_M_tidy_44 : decode b_M_tidy 44 = .ok (.putfield 91, 3) := by decide +kernel
theorem d_M_tidy_47 : decode b_M_tidy 47 = .ok (.iinc 1 1, 3) := by decide +kernel
theorem d_M_tidy_50 : decode b_M_tidy 50 = .ok (.goto (-45), 3) := by decide +kernel
theorem d_M_tidy_53 : decode b_M_tidy 53 = .ok (.return_, 1) := by decide +kernel
theorem d_M_flip_0 : decode b_M_flip 0 = .ok (.aload_n 0, 1) := by decide +kernel
theorem d_M_flip_1 : decode b_M_flip 1 = .ok (.iconst 1, 1) := by decide +kernel
theorem d_M_flip_2 : decode b_M_flip 2 = .ok (.putfield 97, 3) := by decide +kernel
theorem d_M_flip_5 : decode b_M_flip 5 = .ok (.aload_n 0, 1) := by decide +kernel
theorem d_M_flip_6 : decode b_M_flip 6 = .ok (.getfield 100, 3) := by decide +kernel
theorem d_M_flip_9 : decode b_M_flip 9 = .ok (.iconst 1, 1) := by decide +kernel
theorem d_M_flip_10 : decode b_M_flip 10 = .ok (.if_icmp .ne 16, 3) := by decide +kernel
theorem d_M_flip_13 : decode b_M_flip 13 = .ok (.aload_n 0, 1) := by decide +kernel
theorem d_M_flip_14 : decode b_M_flip 14 = .ok (.getfield 16, 3) := by decide +kernel
theorem d_M_flip_17 : decode b_M_flip 17 = .ok (.aload_n 0, 1) := by decide +kernel
theorem d_M_flip_18 : decode b_M_flip 18 = .ok (.getfield 103, 3) := by decide +kernel
theorem d_M_flip_21 : decode b_M_flip 21 = .ok (.aload_n 0, 1) := by decide +kernel
theorem d_M_flip_22 : decode b_M_flip 22 = .ok (.getfield 106, 3) := by decide +kernel
theorem d_M_flip_25 : decode b_M_flip 25 = .ok (.iastore, 1) := by decide +kernel
theorem d_M_flip_26 : decode b_M_flip 26 = .ok (.aload_n 0, 1) := by decide +kernel
theorem d_M_flip_27 : decode b_M_flip 27 = .ok (.getfield 100, 3) := by decide +kernel
theorem d_M_flip_30 : decode b_M_flip 30 = .ok (.iconst 3, 1) := by decide +kernel
theorem d_M_flip_31 : decode b_M_flip 31 = .ok (.if_icmp .ne 16, 3) := by decide +kernel
theorem d_M_flip_34 : decode b_M_flip 34 = .ok (.aload_n 0, 1) := by decide +kernel
theorem d_M_flip_35 : decode b_M_flip 35 = .ok (.getfield 25, 3) := by decide +kernel
theorem d_M_flip_38 : decode b_M_flip 38 = .ok (.aload_n 0, 1) := by decide +kernel
theorem d_M_flip_39 : decode b_M_flip 39 = .ok (.getfield 85, 3) := by decide +kernel
theorem d_M_flip_42 : decode b_M_flip 42 = .ok (.iconst 0, 1) := by decide +kernel
theorem d_M_flip_43 : decode b_M_flip 43 = .ok (.bastore, 1) := by decide +kernel
theorem d_M_flip_44 : decode b_M_flip 44 = .ok (.goto 30, 3) := by decide +kernel
theorem d_M_flip_47 : decode b_M_flip 47 = .ok (.iconst 0, 1) := by decide +kernel
theorem d_M_flip_48 : decode b_M_flip 48 = .ok (.istore_n 1, 1) := by decide +kernel
theorem d_M_flip_49 : decode b_M_flip 49 = .ok (.iload_n 1, 1) := by decide +kernel
theorem d_M_flip_50 : decode b_M_flip 50 = .ok (.sipush 576, 3) := by decide +kernel
theorem d_M_flip_53 : decode b_M_flip 53 = .ok (.if_icmp .ge 21, 3) := by decide +kernel
theorem d_M_flip_56 : decode b_M_flip 56 = .ok (.aload_n 0, 1) := by decide +kernel
theorem d_M_flip_57 : decode b_M_flip 57 = .ok (.getfield 19, 3) := by decide +kernel
theorem d_M_flip_60 : decode b_M_flip 60 = .ok (.iload_n 1, 1) := by decide +kernel
theorem d_M_flip_61 : decode b_M_flip 61 = .ok (.aload_n 0, 1) := by decide +kernel
theorem d_M_flip_62 : decode b_M_flip 62 = .ok (.getfield 22, 3) := by decide +kernel
theorem d_M_flip_65 : decode b_M_flip 65 = .ok (.iload_n 1, 1) := by decide +kernel
theorem d_M_flip_66 : decode b_M_flip 66 = .ok (.iaload, 1) := by decide +kernel
theorem d_M_flip_67 : decode b_M_flip 67 = .ok (.iastore, 1) := by decide +kernel
theorem d_M_flip_68 : decode b_M_flip 68 = .ok (.iinc 1 1, 3) := by decide +kernel
theorem d_M_flip_71 : decode b_M_flip 71 = .ok (.goto (-22), 3) := by decide +kernel
theorem d_M_flip_74 : decode b_M_flip 74 = .ok (.aload_n 0, 1) := by decide +kernel
theorem d_M_flip_75 : decode b_M_flip 75 = .ok (.aload_n 0, 1) := by decide +kernel
theorem d_M_flip_76 : decode b_M_flip 76 = .ok (.getfield 100, 3) := by decide +kernel
theorem d_M_flip_79 : decode b_M_flip 79 = .ok (.iconst 2, 1) := by decide +kernel
theorem d_M_flip_80 : decode b_M_flip 80 = .ok (.if_icmp .ne 12, 3) := by decide +kernel
theorem d_M_flip_83 : decode b_M_flip 83 = .ok (.aload_n 0, 1) := by decide +kernel
theorem d_M_flip_84 : decode b_M_flip 84 = .ok (.getfield 109, 3) := by decide +kernel
theorem d_M_flip_87 : decode b_M_flip 87 = .ok (.iconst 1, 1) := by decide +kernel
theorem d_M_flip_88 : decode b_M_flip 88 = .ok (.iadd, 1) := by decide +kernel
theorem d_M_flip_89 : decode b_M_flip 89 = .ok (.goto 7, 3) := by decide +kernel
theorem d_M_flip_92 : decode b_M_flip 92 = .ok (.aload_n 0, 1) := by decide +kernel
theorem d_M_flip_93 : decode b_M_flip 93 = .ok (.getfield 109, 3) := by decide +kernel
theorem d_M_flip_96 : decode b_M_flip 96 = .ok (.putfield 109, 3) := by decide +kernel
theorem d_M_flip_99 : decode b_M_flip 99 = .ok (.return_, 1) := by decide +kernel
set_option maxHeartbeats 4000000 in
set_option maxRecDepth 100000 in
theorem c_M_take (l : Launch) (D : va_G) (cI cZ cQ : ClassId) (qm : Nat) (mp : Nat) (mt : Nat) (ml : Nat) (mc : Nat) (mf : Nat) (me : Nat) (mg : Nat) (mh : Nat) (mu : Nat) (k : Nat) (n : Nat) (pn : Nat) (nx : Nat) (cd : Int32) (ep : Int32) (M : mm_T) (wi : Int32) (jb : Int32) (fp : Int32) (tf : Int32) (tt : Int32) (fi : Int32) (ln : Int32) (bx : Int32) (pr : Nat → Int32) (tk : Nat → Int32) (le : Nat → Int32) (co : Nat → Int32) (fr : Nat → Int32) (em : Nat → Int32) (nb : Nat → Int32) (su : Nat → Int32) (t : Nat) (hk : k ≤ 9) (hn : n ≤ 9) (ht : t ≤ pn) (hpn : pn ≤ 1000) : sd_V l D (tyL cI cZ cQ) y_M_take b_M_take 3 ({ frames := 0, cells := 0, slots := 0, locals := 0 }) [.ref qm, .int (nI t)] (mW cI cZ qm mp mt ml mc mf me mg mh mu (cd) (nI k) (nI n) (nI (pn)) (nI (nx)) (ep) (nI (M.1)) (M.2.2.1) (M.2.2.2) (wi) (jb) (fp) (tf) (tt) (fi) (ln) (bx) (1000) (pr) (1000) (tk) (8) (le) (576) (co) (576) (fr) (10) (em) (192) (M.2.1) (10) (nb) (10) (su)) (mW cI cZ qm mp mt ml mc mf me mg mh mu (cd) (nI k) (nI n) (nI (pn - t)) (nI (0)) (ep) (nI (M.1)) (M.2.2.1) (M.2.2.2) (wi) (jb) (fp) (tf) (tt) (fi) (ln) (bx) (1000) ((tq_f t pn (tk, pr)).2) (1000) ((tq_f t pn (tk, pr)).1) (8) (le) (576) (co) (576) (fr) (10) (em) (192) (M.2.1) (10) (nb) (10) (su)) := by
  refine sd_ofV (by decide) (Nat.le_of_ble_eq_true rfl) ?_
  intro p e s m below meth c A ls hx hb hr hml hlk hown hts hK hP hD hA hS hl
  have hl : lv_has ls 3 [(0, .ref qm), (1, .int (nI t))] := hl
  refine lv_iconst (v := 0) hx hb d_M_take_0 (by decide) ?_
  refine sd_top (y := nI 0) (rfl) ?_
  refine lv_istore_n hx hb d_M_take_1 rfl hl (Nat.le_of_ble_eq_true rfl) (lv' := [(2, .int (nI 0)), (0, .ref qm), (1, .int (nI t))]) rfl (fun ls hl => ?_)
  have hl := lv_sub hl (l' := [(0, .ref qm), (1, .int (nI t)), (2, .int (nI 0))]) [1, 2, 0] rfl
  have loop2 : ∀ (d : Nat) (j : Nat) (ls : Array Slot) (H : Heap) (locs : List Loc), pn - j = d → (j ≤ pn) → lv_has ls 3 [(0, .ref qm), (1, .int (nI t)), (2, .int (nI (j)))] → va_P D cls (mW cI cZ qm mp mt ml mc mf me mg mh mu (cd) (nI k) (nI n) (nI (pn)) (nI (nx)) (ep) (nI (M.1)) (M.2.2.1) (M.2.2.2) (wi) (jb) (fp) (tf) (tt) (fi) (ln) (bx) (1000) ((tq_f t j (tk, pr)).2) (1000) ((tq_f t j (tk, pr)).1) (8) (le) (576) (co) (576) (fr) (10) (em) (192) (M.2.1) (10) (nb) (10) (su)) H → va_D A (mW cI cZ qm mp mt ml mc mf me mg mh mu (cd) (nI k) (nI n) (nI (pn)) (nI (nx)) (ep) (nI (M.1)) (M.2.2.1) (M.2.2.2) (wi) (jb) (fp) (tf) (tt) (fi) (ln) (bx) (1000) ((tq_f t j (tk, pr)).2) (1000) ((tq_f t j (tk, pr)).1) (8) (le) (576) (co) (576) (fr) (10) (em) (192) (M.2.1) (10) (nb) (10) (su)) → va_S A s.heap H locs → W p l e ({ frames := 0, cells := 0, slots := 0, locals := 0 }) s m ([.ref qm, .int (nI t)] : List Value).toArray below meth c H locs 0 0 (MQ below (sd_qv D (mW cI cZ qm mp mt ml mc mf me mg mh mu (cd) (nI k) (nI n) (nI (pn - t)) (nI (0)) (ep) (nI (M.1)) (M.2.2.1) (M.2.2.2) (wi) (jb) (fp) (tf) (tt) (fi) (ln) (bx) (1000) ((tq_f t pn (tk, pr)).2) (1000) ((tq_f t pn (tk, pr)).1) (8) (le) (576) (co) (576) (fr) (10) (em) (192) (M.2.1) (10) (nb) (10) (su)) A) ([.ref qm, .int (nI t)] : List Value).toArray s 0 0 A) (F0 m 2 ls []) := by
    intro d
    induction d using Nat.strongRecOn with
    | _ d ih2 =>
    intro j ls H locs hd hj hl hP hD hS
    subst hd
    refine lv_iload_n hx hb d_M_take_2 rfl (lv_at hl 2 rfl) ?_
    refine lv_aload_n hx hb d_M_take_3 rfl (lv_at hl 0 rfl) ?_
    refine va_get (D := D) (ci := 5) (v := .int (nI (pn))) (C := R_M) (T := F_M) (N := 26) hx hb hts wl_M hown hK hP 0 rfl rfl 3 (by decide) (hts _ wf_M_58) (fun _ h9 => h9) rfl d_M_take_4 ?_
    refine lv_icmp_ge (tgt := 50) hx hb d_M_take_7 rfl (fun hc7 => ?_) (fun hc7 => ?_)
    · skip
      rw [nI_leI (by omega) (by omega)] at hc7
      have hj9 : pn = j := by omega
      subst hj9
      refine lv_aload_n hx hb d_M_take_50 rfl (lv_at hl 0 rfl) ?_
      refine lv_aload_n hx hb d_M_take_51 rfl (lv_at hl 0 rfl) ?_
      refine va_get (D := D) (ci := 5) (v := .int (nI (pn))) (C := R_M) (T := F_M) (N := 26) hx hb hts wl_M hown hK hP 0 rfl rfl 3 (by decide) (hts _ wf_M_58) (fun _ h9 => h9) rfl d_M_take_52 ?_
      refine lv_iload_n hx hb d_M_take_55 rfl (lv_at hl 1 rfl) ?_
      refine lv_isub hx hb d_M_take_56 ?_
      refine sd_top (y := nI (pn - t)) (pk_sub ht) ?_
      refine va_put (D := D) (ci := 5) (v := .int (nI (pn - t))) (ty := .int) (C := R_M) (T := F_M) (N := 26) hx hb hts wl_M t_M t_M_ok n_M hown hK hP hD hS 0 rfl rfl 3 (by decide) (hts _ wf_M_58) (fun _ h9 => h9) rfl (by decide +kernel) rfl rfl (Nat.le_of_ble_eq_true rfl) d_M_take_57 (fun H locs hP hD hS => ?_)
      have hP : va_P D cls (mW cI cZ qm mp mt ml mc mf me mg mh mu (cd) (nI k) (nI n) (nI (pn - t)) (nI (nx)) (ep) (nI (M.1)) (M.2.2.1) (M.2.2.2) (wi) (jb) (fp) (tf) (tt) (fi) (ln) (bx) (1000) ((tq_f t pn (tk, pr)).2) (1000) ((tq_f t pn (tk, pr)).1) (8) (le) (576) (co) (576) (fr) (10) (em) (192) (M.2.1) (10) (nb) (10) (su)) H := hP
      have hD : va_D A (mW cI cZ qm mp mt ml mc mf me mg mh mu (cd) (nI k) (nI n) (nI (pn - t)) (nI (nx)) (ep) (nI (M.1)) (M.2.2.1) (M.2.2.2) (wi) (jb) (fp) (tf) (tt) (fi) (ln) (bx) (1000) ((tq_f t pn (tk, pr)).2) (1000) ((tq_f t pn (tk, pr)).1) (8) (le) (576) (co) (576) (fr) (10) (em) (192) (M.2.1) (10) (nb) (10) (su)) := hD
      refine lv_aload_n hx hb d_M_take_60 rfl (lv_at hl 0 rfl) ?_
      refine lv_iconst (v := nI 0) hx hb d_M_take_61 (by decide) ?_
      refine va_put (D := D) (ci := 5) (v := .int (nI 0)) (ty := .int) (C := R_M) (T := F_M) (N := 26) hx hb hts wl_M t_M t_M_ok n_M hown hK hP hD hS 0 rfl rfl 6 (by decide) (hts _ wf_M_63) (fun _ h9 => h9) rfl (by decide +kernel) rfl rfl (Nat.le_of_ble_eq_true rfl) d_M_take_62 (fun H locs hP hD hS => ?_)
      have hP : va_P D cls (mW cI cZ qm mp mt ml mc mf me mg mh mu (cd) (nI k) (nI n) (nI (pn - t)) (nI 0) (ep) (nI (M.1)) (M.2.2.1) (M.2.2.2) (wi) (jb) (fp) (tf) (tt) (fi) (ln) (bx) (1000) ((tq_f t pn (tk, pr)).2) (1000) ((tq_f t pn (tk, pr)).1) (8) (le) (576) (co) (576) (fr) (10) (em) (192) (M.2.1) (10) (nb) (10) (su)) H := hP
      have hD : va_D A (mW cI cZ qm mp mt ml mc mf me mg mh mu (cd) (nI k) (nI n) (nI (pn - t)) (nI 0) (ep) (nI (M.1)) (M.2.2.1) (M.2.2.2) (wi) (jb) (fp) (tf) (tt) (fi) (ln) (bx) (1000) ((tq_f t pn (tk, pr)).2) (1000) ((tq_f t pn (tk, pr)).1) (8) (le) (576) (co) (576) (fr) (10) (em) (192) (M.2.1) (10) (nb) (10) (su)) := hD
      exact sd_vret hx hb hr hlk hP hS (Nat.le_of_ble_eq_true rfl) (Nat.le_of_ble_eq_true rfl) d_M_take_65
    · skip
      rw [nI_leI (by omega) (by omega)] at hc7
      refine lv_iload_n hx hb d_M_take_10 rfl (lv_at hl 2 rfl) ?_
      refine lv_iload_n hx hb d_M_take_11 rfl (lv_at hl 1 rfl) ?_
      refine lv_icmp_ge (tgt := 30) hx hb d_M_take_12 rfl (fun hc12 => ?_) (fun hc12 => ?_)
      · skip
        rw [nI_leI (by omega) (by omega)] at hc12
        have hq9 : tq_f t (j + 1) (tk, pr) = ((tq_f t j (tk, pr)).1, upd (tq_f t j (tk, pr)).2 (j - t) ((tq_f t j (tk, pr)).2 j)) := if_neg (by omega)
        refine lv_aload_n hx hb d_M_take_30 rfl (lv_at hl 0 rfl) ?_
        refine va_get (D := D) (ci := 5) (v := .ref mp) (C := R_M) (T := F_M) (N := 26) hx hb hts wl_M hown hK hP 0 rfl rfl 4 (by decide) (hts _ wf_M_7) (fun _ h9 => h9) rfl d_M_take_31 ?_
        refine lv_iload_n hx hb d_M_take_34 rfl (lv_at hl 2 rfl) ?_
        refine lv_iload_n hx hb d_M_take_35 rfl (lv_at hl 1 rfl) ?_
        refine lv_isub hx hb d_M_take_36 ?_
        refine sd_top (y := nI (j - t)) (pk_sub (by omega)) ?_
        refine lv_aload_n hx hb d_M_take_37 rfl (lv_at hl 0 rfl) ?_
        refine va_get (D := D) (ci := 5) (v := .ref mp) (C := R_M) (T := F_M) (N := 26) hx hb hts wl_M hown hK hP 0 rfl rfl 4 (by decide) (hts _ wf_M_7) (fun _ h9 => h9) rfl d_M_take_38 ?_
        refine lv_iload_n hx hb d_M_take_41 rfl (lv_at hl 2 rfl) ?_
        refine sd_iald (j := j) hx hb hK hP 1 0 rfl rfl (by omega) (by omega) d_M_take_42 ?_
        refine sd_iast (j := j - t) hx hb hK hP hD hS 1 0 rfl rfl (by omega) (by omega) d_M_take_43 (fun H locs hP hD hS => ?_)
        have hP : va_P D cls (mW cI cZ qm mp mt ml mc mf me mg mh mu (cd) (nI k) (nI n) (nI (pn)) (nI (nx)) (ep) (nI (M.1)) (M.2.2.1) (M.2.2.2) (wi) (jb) (fp) (tf) (tt) (fi) (ln) (bx) (1000) (upd ((tq_f t j (tk, pr)).2) (j - t) (((tq_f t j (tk, pr)).2) (j))) (1000) ((tq_f t j (tk, pr)).1) (8) (le) (576) (co) (576) (fr) (10) (em) (192) (M.2.1) (10) (nb) (10) (su)) H := hP
        have hD : va_D A (mW cI cZ qm mp mt ml mc mf me mg mh mu (cd) (nI k) (nI n) (nI (pn)) (nI (nx)) (ep) (nI (M.1)) (M.2.2.1) (M.2.2.2) (wi) (jb) (fp) (tf) (tt) (fi) (ln) (bx) (1000) (upd ((tq_f t j (tk, pr)).2) (j - t) (((tq_f t j (tk, pr)).2) (j))) (1000) ((tq_f t j (tk, pr)).1) (8) (le) (576) (co) (576) (fr) (10) (em) (192) (M.2.1) (10) (nb) (10) (su)) := hD
        refine lv_iinc hx hb d_M_take_44 hl (k := 2) rfl (v := nI (j + 1)) (ii_1 _) (Nat.le_of_ble_eq_true rfl) (lv' := [(2, .int (nI (j + 1))), (0, .ref qm), (1, .int (nI t))]) rfl (fun ls hl => ?_)
        refine lv_goto (tgt := 2) hx hb d_M_take_47 rfl ?_
        have hl := lv_sub hl (l' := [(0, .ref qm), (1, .int (nI t)), (2, .int (nI (j + 1)))]) [1, 2, 0] rfl
        exact ih2 _ (by omega) (j + 1) ls _ _ rfl (by omega) hl (by rw [hq9]; exact hP) (by rw [hq9]; exact hD) hS
      · skip
        rw [nI_leI (by omega) (by omega)] at hc12
        have hq9 : tq_f t (j + 1) (tk, pr) = (upd (tq_f t j (tk, pr)).1 j ((tq_f t j (tk, pr)).2 j), (tq_f t j (tk, pr)).2) := if_pos (by omega)
        refine lv_aload_n hx hb d_M_take_15 rfl (lv_at hl 0 rfl) ?_
        refine va_get (D := D) (ci := 5) (v := .ref mt) (C := R_M) (T := F_M) (N := 26) hx hb hts wl_M hown hK hP 0 rfl rfl 5 (by decide) (hts _ wf_M_13) (fun _ h9 => h9) rfl d_M_take_16 ?_
        refine lv_iload_n hx hb d_M_take_19 rfl (lv_at hl 2 rfl) ?_
        refine lv_aload_n hx hb d_M_take_20 rfl (lv_at hl 0 rfl) ?_
        refine va_get (D := D) (ci := 5) (v := .ref mp) (C := R_M) (T := F_M) (N := 26) hx hb hts wl_M hown hK hP 0 rfl rfl 4 (by decide) (hts _ wf_M_7) (fun _ h9 => h9) rfl d_M_take_21 ?_
        refine lv_iload_n hx hb d_M_take_24 rfl (lv_at hl 2 rfl) ?_
        refine sd_iald (j := j) hx hb hK hP 1 0 rfl rfl (by omega) (by omega) d_M_take_25 ?_
        refine sd_iast (j := j) hx hb hK hP hD hS 2 0 rfl rfl (by omega) (by omega) d_M_take_26 (fun H locs hP hD hS => ?_)
        have hP : va_P D cls (mW cI cZ qm mp mt ml mc mf me mg mh mu (cd) (nI k) (nI n) (nI (pn)) (nI (nx)) (ep) (nI (M.1)) (M.2.2.1) (M.2.2.2) (wi) (jb) (fp) (tf) (tt) (fi) (ln) (bx) (1000) ((tq_f t j (tk, pr)).2) (1000) (upd ((tq_f t j (tk, pr)).1) (j) (((tq_f t j (tk, pr)).2) (j))) (8) (le) (576) (co) (576) (fr) (10) (em) (192) (M.2.1) (10) (nb) (10) (su)) H := hP
        have hD : va_D A (mW cI cZ qm mp mt ml mc mf me mg mh mu (cd) (nI k) (nI n) (nI (pn)) (nI (nx)) (ep) (nI (M.1)) (M.2.2.1) (M.2.2.2) (wi) (jb) (fp) (tf) (tt) (fi) (ln) (bx) (1000) ((tq_f t j (tk, pr)).2) (1000) (upd ((tq_f t j (tk, pr)).1) (j) (((tq_f t j (tk, pr)).2) (j))) (8) (le) (576) (co) (576) (fr) (10) (em) (192) (M.2.1) (10) (nb) (10) (su)) := hD
        refine lv_goto (tgt := 44) hx hb d_M_take_27 rfl ?_
        refine lv_iinc hx hb d_M_take_44 hl (k := 2) rfl (v := nI (j + 1)) (ii_1 _) (Nat.le_of_ble_eq_true rfl) (lv' := [(2, .int (nI (j + 1))), (0, .ref qm), (1, .int (nI t))]) rfl (fun ls hl => ?_)
        refine lv_goto (tgt := 2) hx hb d_M_take_47 rfl ?_
        have hl := lv_sub hl (l' := [(0, .ref qm), (1, .int (nI t)), (2, .int (nI (j + 1)))]) [1, 2, 0] rfl
        exact ih2 _ (by omega) (j + 1) ls _ _ rfl (by omega) hl (by rw [hq9]; exact hP) (by rw [hq9]; exact hD) hS
  exact loop2 _ (0) ls _ _ rfl (Nat.zero_le _) hl hP hD hS
set_option maxHeartbeats 4000000 in
set_option maxRecDepth 100000 in
theorem c_M_valueAt_f (l : Launch) (D : va_G) (cI cZ cQ : ClassId) (qm : Nat) (mp : Nat) (mt : Nat) (ml : Nat) (mc : Nat) (mf : Nat) (me : Nat) (mg : Nat) (mh : Nat) (mu : Nat) (k : Nat) (n : Nat) (pn : Nat) (nx : Nat) (cd : Int32) (ep : Int32) (M : mm_T) (wi : Int32) (jb : Int32) (fp : Int32) (tf : Int32) (tt : Int32) (fi : Int32) (ln : Int32) (bx : Int32) (pr : Nat → Int32) (tk : Nat → Int32) (le : Nat → Int32) (co : Nat → Int32) (fr : Nat → Int32) (em : Nat → Int32) (nb : Nat → Int32) (su : Nat → Int32) (o : Nat) (cb : Nat → BitVec 8) (y : BitVec 8) (hk : k ≤ 9) (hn : n ≤ 9) (ho : o + k ≤ 576) (hco : ∀ j, j < k → fr (o + j) = bI (cb j)) : sd_I l D (tyL cI cZ cQ) y_M_valueAt b_M_valueAt 6 (.int) ({ frames := 1, cells := 0, slots := 0, locals := 23 }) [.ref qm, .ref mf, .int (nI o), .int (bI y)] (mW cI cZ qm mp mt ml mc mf me mg mh mu (cd) (nI k) (nI n) (nI (pn)) (nI (nx)) (ep) (nI (M.1)) (M.2.2.1) (M.2.2.2) (wi) (jb) (fp) (tf) (tt) (fi) (ln) (bx) (1000) (pr) (1000) (tk) (8) (le) (576) (co) (576) (fr) (10) (em) (192) (M.2.1) (10) (nb) (10) (su)) (bI (gf_h cb y k 0#8)) (mW cI cZ qm mp mt ml mc mf me mg mh mu (cd) (nI k) (nI n) (nI (pn)) (nI (nx)) (ep) (nI (M.1)) (M.2.2.1) (M.2.2.2) (wi) (jb) (fp) (tf) (tt) (fi) (ln) (bx) (1000) (pr) (1000) (tk) (8) (le) (576) (co) (576) (fr) (10) (em) (192) (M.2.1) (10) (nb) (10) (su)) := by
  refine sd_ofI (by decide) (Nat.le_of_ble_eq_true rfl) ?_
  intro p e s m below meth c A ls hx hb hr hml hlk hown hts hK hP hD hA hS hl
  have hl : lv_has ls 6 [(0, .ref qm), (1, .ref mf), (2, .int (nI o)), (3, .int (bI y))] := hl
  refine lv_iconst (v := 0) hx hb d_M_valueAt_0 (by decide) ?_
  refine sd_top (y := bI 0#8) (bI_0.symm) ?_
  refine lv_istore hx hb d_M_valueAt_1 hl (Nat.le_of_ble_eq_true rfl) (lv' := [(4, .int (bI 0#8)), (0, .ref qm), (1, .ref mf), (2, .int (nI o)), (3, .int (bI y))]) rfl (fun ls hl => ?_)
  refine lv_aload_n hx hb d_M_valueAt_3 rfl (lv_at hl 1 rfl) ?_
  refine va_get (D := D) (ci := 5) (v := .int (nI k)) (C := R_M) (T := F_M) (N := 26) hx hb hts wl_M hown hK hP 0 rfl rfl 1 (by decide) (hts _ wf_M_48) (fun _ h9 => h9) rfl d_M_valueAt_4 ?_
  refine lv_iconst (v := 1) hx hb d_M_valueAt_7 (by decide) ?_
  refine lv_isub hx hb d_M_valueAt_8 ?_
  refine lv_istore hx hb d_M_valueAt_9 hl (Nat.le_of_ble_eq_true rfl) (lv' := [(5, .int ((nI k) - (1))), (4, .int (bI 0#8)), (0, .ref qm), (1, .ref mf), (2, .int (nI o)), (3, .int (bI y))]) rfl (fun ls hl => ?_)
  have hl := lv_sub hl (l' := [(0, .ref qm), (1, .ref mf), (2, .int (nI o)), (3, .int (bI y)), (4, .int (bI 0#8)), (5, .int ((nI k) - (1)))]) [2, 3, 4, 5, 1, 0] rfl
  have loop11 : ∀ (d : Nat) (i : Nat) (v : BitVec 8) (ls : Array Slot) (H : Heap) (locs : List Loc), i = d → (i ≤ k) → (gf_h cb y i v = gf_h cb y k 0#8) → lv_has ls 6 [(0, .ref qm), (1, .ref mf), (2, .int (nI o)), (3, .int (bI y)), (4, .int (bI v)), (5, .int (nI (i) - 1))] → va_P D cls (mW cI cZ qm mp mt ml mc mf me mg mh mu (cd) (nI k) (nI n) (nI (pn)) (nI (nx)) (ep) (nI (M.1)) (M.2.2.1) (M.2.2.2) (wi) (jb) (fp) (tf) (tt) (fi) (ln) (bx) (1000) (pr) (1000) (tk) (8) (le) (576) (co) (576) (fr) (10) (em) (192) (M.2.1) (10) (nb) (10) (su)) H → va_D A (mW cI cZ qm mp mt ml mc mf me mg mh mu (cd) (nI k) (nI n) (nI (pn)) (nI (nx)) (ep) (nI (M.1)) (M.2.2.1) (M.2.2.2) (wi) (jb) (fp) (tf) (tt) (fi) (ln) (bx) (1000) (pr) (1000) (tk) (8) (le) (576) (co) (576) (fr) (10) (em) (192) (M.2.1) (10) (nb) (10) (su)) → va_S A s.heap H locs → W p l e ({ frames := 1, cells := 0, slots := 0, locals := 23 }) s m ([.ref qm, .ref mf, .int (nI o), .int (bI y)] : List Value).toArray below meth c H locs 0 0 (MQ below (sd_qi D (bI (gf_h cb y k 0#8)) (mW cI cZ qm mp mt ml mc mf me mg mh mu (cd) (nI k) (nI n) (nI (pn)) (nI (nx)) (ep) (nI (M.1)) (M.2.2.1) (M.2.2.2) (wi) (jb) (fp) (tf) (tt) (fi) (ln) (bx) (1000) (pr) (1000) (tk) (8) (le) (576) (co) (576) (fr) (10) (em) (192) (M.2.1) (10) (nb) (10) (su)) A) ([.ref qm, .ref mf, .int (nI o), .int (bI y)] : List Value).toArray s 0 0 A) (F0 m 11 ls []) := by
    intro d
    induction d using Nat.strongRecOn with
    | _ d ih11 =>
    intro i v ls H locs hd hin hv hl hP hD hS
    subst hd
    refine lv_iload hx hb d_M_valueAt_11 (lv_at hl 5 rfl) ?_
    refine lv_if_lt (tgt := 37) hx hb d_M_valueAt_13 rfl (fun hc13 => ?_) (fun hc13 => ?_)
    · skip
      have hi0 : i = 0 := (nI_p1 (by omega)).mp hc13
      subst hi0
      refine lv_iload hx hb d_M_valueAt_37 (lv_at hl 4 rfl) ?_
      exact sd_iret hx hb hr hlk hP hS (Nat.le_of_ble_eq_true rfl) (Nat.le_of_ble_eq_true rfl) (by rw [← hv]; rfl) d_M_valueAt_39
    · skip
      have hne : i ≠ 0 := fun h => hc13 ((nI_p1 (by omega)).mpr h)
      obtain ⟨i, rfl⟩ : ∃ z, i = z + 1 := ⟨i - 1, by omega⟩
      rw [nI_pred i] at hl
      refine lv_iload hx hb d_M_valueAt_16 (lv_at hl 4 rfl) ?_
      refine lv_iload_n hx hb d_M_valueAt_18 rfl (lv_at hl 3 rfl) ?_
      refine sd_callSI (As := [.int (bI v), .int (bI y)]) (rest := []) (cx := []) (w1 := []) (c_M_product l D cI cZ cQ (v) (y)) ⟨wc_M_product, wm_M_54, wi_M, by decide, by decide, show (parseMethodDescriptor y_M_product.desc).map (fun d => d.parameters.length) = some 2 by decide +kernel⟩ ws_M_product hx hb hml hown hts hl.1 ⟨Nat.le_of_ble_eq_true rfl, Nat.le_of_ble_eq_true rfl⟩ ⟨Nat.le_of_ble_eq_true rfl, Nat.le_of_ble_eq_true rfl⟩ hK hP hD hS hA [] rfl (by decide) rfl rfl rfl (Nat.le_of_ble_eq_true rfl) d_M_valueAt_19 (fun H locs hP hD hS => ?_)
      have hP : va_P D cls (mW cI cZ qm mp mt ml mc mf me mg mh mu (cd) (nI k) (nI n) (nI (pn)) (nI (nx)) (ep) (nI (M.1)) (M.2.2.1) (M.2.2.2) (wi) (jb) (fp) (tf) (tt) (fi) (ln) (bx) (1000) (pr) (1000) (tk) (8) (le) (576) (co) (576) (fr) (10) (em) (192) (M.2.1) (10) (nb) (10) (su)) H := hP
      have hD : va_D A (mW cI cZ qm mp mt ml mc mf me mg mh mu (cd) (nI k) (nI n) (nI (pn)) (nI (nx)) (ep) (nI (M.1)) (M.2.2.1) (M.2.2.2) (wi) (jb) (fp) (tf) (tt) (fi) (ln) (bx) (1000) (pr) (1000) (tk) (8) (le) (576) (co) (576) (fr) (10) (em) (192) (M.2.1) (10) (nb) (10) (su)) := hD
      refine lv_aload_n hx hb d_M_valueAt_22 rfl (lv_at hl 1 rfl) ?_
      refine lv_iload_n hx hb d_M_valueAt_23 rfl (lv_at hl 2 rfl) ?_
      refine lv_iload hx hb d_M_valueAt_24 (lv_at hl 5 rfl) ?_
      refine lv_iadd hx hb d_M_valueAt_26 ?_
      refine sd_top (y := nI (o + i)) (nI_add _ _) ?_
      refine sd_iald (j := o + i) hx hb hK hP 5 0 rfl rfl (by omega) (by omega) d_M_valueAt_27 ?_
      refine sd_top (y := bI (cb i)) (hco i (by omega)) ?_
      refine lv_ixor hx hb d_M_valueAt_28 ?_
      refine sd_top (y := bI (gf_m v y ^^^ cb i)) (bI_xor _ _) ?_
      refine lv_istore hx hb d_M_valueAt_29 hl (Nat.le_of_ble_eq_true rfl) (lv' := [(4, .int (bI (gf_m v y ^^^ cb i))), (0, .ref qm), (1, .ref mf), (2, .int (nI o)), (3, .int (bI y)), (5, .int (nI (i)))]) rfl (fun ls hl => ?_)
      refine lv_iinc hx hb d_M_valueAt_31 hl (k := 5) rfl (v := nI (i) - 1) (ii_sub _) (Nat.le_of_ble_eq_true rfl) (lv' := [(5, .int (nI (i) - 1)), (4, .int (bI (gf_m v y ^^^ cb i))), (0, .ref qm), (1, .ref mf), (2, .int (nI o)), (3, .int (bI y))]) rfl (fun ls hl => ?_)
      refine lv_goto (tgt := 11) hx hb d_M_valueAt_34 rfl ?_
      have hl := lv_sub hl (l' := [(0, .ref qm), (1, .ref mf), (2, .int (nI o)), (3, .int (bI y)), (4, .int (bI (gf_m v y ^^^ cb i))), (5, .int (nI (i) - 1))]) [2, 3, 4, 5, 1, 0] rfl
      exact ih11 _ (by omega) (i) _ ls _ _ rfl (by omega) (hv) hl hP hD hS
  exact loop11 _ (k) (0#8) ls _ _ rfl (Nat.le_refl k) (rfl) hl hP hD hS
set_option maxHeartbeats 4000000 in
set_option maxRecDepth 100000 in
theorem c_M_valueAt_c (l : Launch) (D : va_G) (cI cZ cQ : ClassId) (qm : Nat) (mp : Nat) (mt : Nat) (ml : Nat) (mc : Nat) (mf : Nat) (me : Nat) (mg : Nat) (mh : Nat) (mu : Nat) (k : Nat) (n : Nat) (pn : Nat) (nx : Nat) (cd : Int32) (ep : Int32) (M : mm_T) (wi : Int32) (jb : Int32) (fp : Int32) (tf : Int32) (tt : Int32) (fi : Int32) (ln : Int32) (bx : Int32) (pr : Nat → Int32) (tk : Nat → Int32) (le : Nat → Int32) (co : Nat → Int32) (fr : Nat → Int32) (em : Nat → Int32) (nb : Nat → Int32) (su : Nat → Int32) (o : Nat) (cb : Nat → BitVec 8) (y : BitVec 8) (hk : k ≤ 9) (hn : n ≤ 9) (ho : o + k ≤ 576) (hco : ∀ j, j < k → co (o + j) = bI (cb j)) : sd_I l D (tyL cI cZ cQ) y_M_valueAt b_M_valueAt 6 (.int) ({ frames := 1, cells := 0, slots := 0, locals := 23 }) [.ref qm, .ref mc, .int (nI o), .int (bI y)] (mW cI cZ qm mp mt ml mc mf me mg mh mu (cd) (nI k) (nI n) (nI (pn)) (nI (nx)) (ep) (nI (M.1)) (M.2.2.1) (M.2.2.2) (wi) (jb) (fp) (tf) (tt) (fi) (ln) (bx) (1000) (pr) (1000) (tk) (8) (le) (576) (co) (576) (fr) (10) (em) (192) (M.2.1) (10) (nb) (10) (su)) (bI (gf_h cb y k 0#8)) (mW cI cZ qm mp mt ml mc mf me mg mh mu (cd) (nI k) (nI n) (nI (pn)) (nI (nx)) (ep) (nI (M.1)) (M.2.2.1) (M.2.2.2) (wi) (jb) (fp) (tf) (tt) (fi) (ln) (bx) (1000) (pr) (1000) (tk) (8) (le) (576) (co) (576) (fr) (10) (em) (192) (M.2.1) (10) (nb) (10) (su)) := by
  refine sd_ofI (by decide) (Nat.le_of_ble_eq_true rfl) ?_
  intro p e s m below meth c A ls hx hb hr hml hlk hown hts hK hP hD hA hS hl
  have hl : lv_has ls 6 [(0, .ref qm), (1, .ref mc), (2, .int (nI o)), (3, .int (bI y))] := hl
  refine lv_iconst (v := 0) hx hb d_M_valueAt_0 (by decide) ?_
  refine sd_top (y := bI 0#8) (bI_0.symm) ?_
  refine lv_istore hx hb d_M_valueAt_1 hl (Nat.le_of_ble_eq_true rfl) (lv' := [(4, .int (bI 0#8)), (0, .ref qm), (1, .ref mc), (2, .int (nI o)), (3, .int (bI y))]) rfl (fun ls hl => ?_)
  refine lv_aload_n hx hb d_M_valueAt_3 rfl (lv_at hl 1 rfl) ?_
  refine va_get (D := D) (ci := 5) (v := .int (nI k)) (C := R_M) (T := F_M) (N := 26) hx hb hts wl_M hown hK hP 0 rfl rfl 1 (by decide) (hts _ wf_M_48) (fun _ h9 => h9) rfl d_M_valueAt_4 ?_
  refine lv_iconst (v := 1) hx hb d_M_valueAt_7 (by decide) ?_
  refine lv_isub hx hb d_M_valueAt_8 ?_
  refine lv_istore hx hb d_M_valueAt_9 hl (Nat.le_of_ble_eq_true rfl) (lv' := [(5, .int ((nI k) - (1))), (4, .int (bI 0#8)), (0, .ref qm), (1, .ref mc), (2, .int (nI o)), (3, .int (bI y))]) rfl (fun ls hl => ?_)
  have hl := lv_sub hl (l' := [(0, .ref qm), (1, .ref mc), (2, .int (nI o)), (3, .int (bI y)), (4, .int (bI 0#8)), (5, .int ((nI k) - (1)))]) [2, 3, 4, 5, 1, 0] rfl
  have loop11 : ∀ (d : Nat) (i : Nat) (v : BitVec 8) (ls : Array Slot) (H : Heap) (locs : List Loc), i = d → (i ≤ k) → (gf_h cb y i v = gf_h cb y k 0#8) → lv_has ls 6 [(0, .ref qm), (1, .ref mc), (2, .int (nI o)), (3, .int (bI y)), (4, .int (bI v)), (5, .int (nI (i) - 1))] → va_P D cls (mW cI cZ qm mp mt ml mc mf me mg mh mu (cd) (nI k) (nI n) (nI (pn)) (nI (nx)) (ep) (nI (M.1)) (M.2.2.1) (M.2.2.2) (wi) (jb) (fp) (tf) (tt) (fi) (ln) (bx) (1000) (pr) (1000) (tk) (8) (le) (576) (co) (576) (fr) (10) (em) (192) (M.2.1) (10) (nb) (10) (su)) H → va_D A (mW cI cZ qm mp mt ml mc mf me mg mh mu (cd) (nI k) (nI n) (nI (pn)) (nI (nx)) (ep) (nI (M.1)) (M.2.2.1) (M.2.2.2) (wi) (jb) (fp) (tf) (tt) (fi) (ln) (bx) (1000) (pr) (1000) (tk) (8) (le) (576) (co) (576) (fr) (10) (em) (192) (M.2.1) (10) (nb) (10) (su)) → va_S A s.heap H locs → W p l e ({ frames := 1, cells := 0, slots := 0, locals := 23 }) s m ([.ref qm, .ref mc, .int (nI o), .int (bI y)] : List Value).toArray below meth c H locs 0 0 (MQ below (sd_qi D (bI (gf_h cb y k 0#8)) (mW cI cZ qm mp mt ml mc mf me mg mh mu (cd) (nI k) (nI n) (nI (pn)) (nI (nx)) (ep) (nI (M.1)) (M.2.2.1) (M.2.2.2) (wi) (jb) (fp) (tf) (tt) (fi) (ln) (bx) (1000) (pr) (1000) (tk) (8) (le) (576) (co) (576) (fr) (10) (em) (192) (M.2.1) (10) (nb) (10) (su)) A) ([.ref qm, .ref mc, .int (nI o), .int (bI y)] : List Value).toArray s 0 0 A) (F0 m 11 ls []) := by
    intro d
    induction d using Nat.strongRecOn with
    | _ d ih11 =>
    intro i v ls H locs hd hin hv hl hP hD hS
    subst hd
    refine lv_iload hx hb d_M_valueAt_11 (lv_at hl 5 rfl) ?_
    refine lv_if_lt (tgt := 37) hx hb d_M_valueAt_13 rfl (fun hc13 => ?_) (fun hc13 => ?_)
    · skip
      have hi0 : i = 0 := (nI_p1 (by omega)).mp hc13
      subst hi0
      refine lv_iload hx hb d_M_valueAt_37 (lv_at hl 4 rfl) ?_
      exact sd_iret hx hb hr hlk hP hS (Nat.le_of_ble_eq_true rfl) (Nat.le_of_ble_eq_true rfl) (by rw [← hv]; rfl) d_M_valueAt_39
    · skip
      have hne : i ≠ 0 := fun h => hc13 ((nI_p1 (by omega)).mpr h)
      obtain ⟨i, rfl⟩ : ∃ z, i = z + 1 := ⟨i - 1, by omega⟩
      rw [nI_pred i] at hl
      refine lv_iload hx hb d_M_valueAt_16 (lv_at hl 4 rfl) ?_
      refine lv_iload_n hx hb d_M_valueAt_18 rfl (lv_at hl 3 rfl) ?_
      refine sd_callSI (As := [.int (bI v), .int (bI y)]) (rest := []) (cx := []) (w1 := []) (c_M_product l D cI cZ cQ (v) (y)) ⟨wc_M_product, wm_M_54, wi_M, by decide, by decide, show (parseMethodDescriptor y_M_product.desc).map (fun d => d.parameters.length) = some 2 by decide +kernel⟩ ws_M_product hx hb hml hown hts hl.1 ⟨Nat.le_of_ble_eq_true rfl, Nat.le_of_ble_eq_true rfl⟩ ⟨Nat.le_of_ble_eq_true rfl, Nat.le_of_ble_eq_true rfl⟩ hK hP hD hS hA [] rfl (by decide) rfl rfl rfl (Nat.le_of_ble_eq_true rfl) d_M_valueAt_19 (fun H locs hP hD hS => ?_)
      have hP : va_P D cls (mW cI cZ qm mp mt ml mc mf me mg mh mu (cd) (nI k) (nI n) (nI (pn)) (nI (nx)) (ep) (nI (M.1)) (M.2.2.1) (M.2.2.2) (wi) (jb) (fp) (tf) (tt) (fi) (ln) (bx) (1000) (pr) (1000) (tk) (8) (le) (576) (co) (576) (fr) (10) (em) (192) (M.2.1) (10) (nb) (10) (su)) H := hP
      have hD : va_D A (mW cI cZ qm mp mt ml mc mf me mg mh mu (cd) (nI k) (nI n) (nI (pn)) (nI (nx)) (ep) (nI (M.1)) (M.2.2.1) (M.2.2.2) (wi) (jb) (fp) (tf) (tt) (fi) (ln) (bx) (1000) (pr) (1000) (tk) (8) (le) (576) (co) (576) (fr) (10) (em) (192) (M.2.1) (10) (nb) (10) (su)) := hD
      refine lv_aload_n hx hb d_M_valueAt_22 rfl (lv_at hl 1 rfl) ?_
      refine lv_iload_n hx hb d_M_valueAt_23 rfl (lv_at hl 2 rfl) ?_
      refine lv_iload hx hb d_M_valueAt_24 (lv_at hl 5 rfl) ?_
      refine lv_iadd hx hb d_M_valueAt_26 ?_
      refine sd_top (y := nI (o + i)) (nI_add _ _) ?_
      refine sd_iald (j := o + i) hx hb hK hP 4 0 rfl rfl (by omega) (by omega) d_M_valueAt_27 ?_
      refine sd_top (y := bI (cb i)) (hco i (by omega)) ?_
      refine lv_ixor hx hb d_M_valueAt_28 ?_
      refine sd_top (y := bI (gf_m v y ^^^ cb i)) (bI_xor _ _) ?_
      refine lv_istore hx hb d_M_valueAt_29 hl (Nat.le_of_ble_eq_true rfl) (lv' := [(4, .int (bI (gf_m v y ^^^ cb i))), (0, .ref qm), (1, .ref mc), (2, .int (nI o)), (3, .int (bI y)), (5, .int (nI (i)))]) rfl (fun ls hl => ?_)
      refine lv_iinc hx hb d_M_valueAt_31 hl (k := 5) rfl (v := nI (i) - 1) (ii_sub _) (Nat.le_of_ble_eq_true rfl) (lv' := [(5, .int (nI (i) - 1)), (4, .int (bI (gf_m v y ^^^ cb i))), (0, .ref qm), (1, .ref mc), (2, .int (nI o)), (3, .int (bI y))]) rfl (fun ls hl => ?_)
      refine lv_goto (tgt := 11) hx hb d_M_valueAt_34 rfl ?_
      have hl := lv_sub hl (l' := [(0, .ref qm), (1, .ref mc), (2, .int (nI o)), (3, .int (bI y)), (4, .int (bI (gf_m v y ^^^ cb i))), (5, .int (nI (i) - 1))]) [2, 3, 4, 5, 1, 0] rfl
      exact ih11 _ (by omega) (i) _ ls _ _ rfl (by omega) (hv) hl hP hD hS
  exact loop11 _ (k) (0#8) ls _ _ rfl (Nat.le_refl k) (rfl) hl hP hD hS
set_option maxHeartbeats 4000000 in
set_option maxRecDepth 100000 in
theorem c_M_deal (l : Launch) (D : va_G) (cI cZ cQ : ClassId) (qm : Nat) (mp : Nat) (mt : Nat) (ml : Nat) (mc : Nat) (mf : Nat) (me : Nat) (mg : Nat) (mh : Nat) (mu : Nat) (k : Nat) (n : Nat) (pn : Nat) (nx : Nat) (cd : Int32) (ep : Int32) (M : mm_T) (wi : Int32) (jb : Int32) (fp : Int32) (tf : Int32) (tt : Int32) (fi : Int32) (ln : Int32) (bx : Int32) (pr : Nat → Int32) (tk : Nat → Int32) (le : Nat → Int32) (co : Nat → Int32) (fr : Nat → Int32) (em : Nat → Int32) (nb : Nat → Int32) (su : Nat → Int32) (f : Nat) (b : Nat) (fb : Nat → BitVec 8) (tb : Nat → BitVec 8) (hk : k ≤ 9) (hn : n ≤ 9) (hf8 : f < 8) (hb8 : b < 8) (hk1 : 1 ≤ k) (hnx : nx + (k - 1) ≤ 1000) (hfr : ∀ j, j < k → fr (9 * (8 * f + b) + j) = bI (fb j)) (htk : ∀ i, i < 1000 → tk i = bI (tb i)) (hT : M.1 + n < 2 ^ 31) : sd_V l D (tyL cI cZ cQ) y_M_deal b_M_deal 5 ({ frames := 2, cells := 0, slots := 0, locals := 48 }) [.ref qm, .int (nI f), .int (nI b)] (mW cI cZ qm mp mt ml mc mf me mg mh mu (cd) (nI k) (nI n) (nI (pn)) (nI (nx)) (ep) (nI (M.1)) (M.2.2.1) (M.2.2.2) (wi) (jb) (fp) (tf) (tt) (fi) (ln) (bx) (1000) (pr) (1000) (tk) (8) (le) (576) (co) (576) (fr) (10) (em) (192) (M.2.1) (10) (nb) (10) (su)) (mW cI cZ qm mp mt ml mc mf me mg mh mu (cd) (nI k) (nI n) (nI (pn)) (nI (nx + (k - 1))) (ep) (nI ((ds_f (fun i => gf_h (dm_f fb tb nx) (BitVec.ofNat 8 i) k 0#8) n M).1)) ((ds_f (fun i => gf_h (dm_f fb tb nx) (BitVec.ofNat 8 i) k 0#8) n M).2.2.1) ((ds_f (fun i => gf_h (dm_f fb tb nx) (BitVec.ofNat 8 i) k 0#8) n M).2.2.2) (wi) (jb) (fp) (tf) (tt) (fi) (ln) (bx) (1000) (pr) (1000) (tk) (8) (le) (576) (co) (576) (dl_f tk (9 * (8 * f + b)) nx (k - 1) fr) (10) (em) (192) ((ds_f (fun i => gf_h (dm_f fb tb nx) (BitVec.ofNat 8 i) k 0#8) n M).2.1) (10) (nb) (10) (su)) := by
  refine sd_ofV (by decide) (Nat.le_of_ble_eq_true rfl) ?_
  intro p e s m below meth c A ls hx hb hr hml hlk hown hts hK hP hD hA hS hl
  have hl : lv_has ls 5 [(0, .ref qm), (1, .int (nI f)), (2, .int (nI b))] := hl
  refine lv_bipush (v := nI 9) hx hb d_M_deal_0 (by decide) ?_
  refine lv_bipush (v := nI 8) hx hb d_M_deal_2 (by decide) ?_
  refine lv_iload_n hx hb d_M_deal_4 rfl (lv_at hl 1 rfl) ?_
  refine lv_imul hx hb d_M_deal_5 ?_
  refine sd_top (y := nI (8 * f)) (pk_mul _ _) ?_
  refine lv_iload_n hx hb d_M_deal_6 rfl (lv_at hl 2 rfl) ?_
  refine lv_iadd hx hb d_M_deal_7 ?_
  refine sd_top (y := nI (8 * f + b)) (nI_add _ _) ?_
  refine lv_imul hx hb d_M_deal_8 ?_
  refine sd_top (y := nI (9 * (8 * f + b))) (pk_mul _ _) ?_
  refine lv_istore_n hx hb d_M_deal_9 rfl hl (Nat.le_of_ble_eq_true rfl) (lv' := [(3, .int (nI (9 * (8 * f + b)))), (0, .ref qm), (1, .int (nI f)), (2, .int (nI b))]) rfl (fun ls hl => ?_)
  refine lv_iconst (v := 1) hx hb d_M_deal_10 (by decide) ?_
  refine sd_top (y := nI (0 + 1)) (rfl) ?_
  refine lv_istore hx hb d_M_deal_11 hl (Nat.le_of_ble_eq_true rfl) (lv' := [(4, .int (nI (0 + 1))), (3, .int (nI (9 * (8 * f + b)))), (0, .ref qm), (1, .int (nI f)), (2, .int (nI b))]) rfl (fun ls hl => ?_)
  have hl := lv_sub hl (l' := [(0, .ref qm), (1, .int (nI f)), (2, .int (nI b)), (3, .int (nI (9 * (8 * f + b)))), (4, .int (nI (0 + 1)))]) [2, 3, 4, 1, 0] rfl
  have loop13 : ∀ (d : Nat) (t : Nat) (ls : Array Slot) (H : Heap) (locs : List Loc), k - t = d → (t + 1 ≤ k) → lv_has ls 5 [(0, .ref qm), (1, .int (nI f)), (2, .int (nI b)), (3, .int (nI (9 * (8 * f + b)))), (4, .int (nI (t + 1)))] → va_P D cls (mW cI cZ qm mp mt ml mc mf me mg mh mu (cd) (nI k) (nI n) (nI (pn)) (nI (nx + t)) (ep) (nI (M.1)) (M.2.2.1) (M.2.2.2) (wi) (jb) (fp) (tf) (tt) (fi) (ln) (bx) (1000) (pr) (1000) (tk) (8) (le) (576) (co) (576) (dl_f tk (9 * (8 * f + b)) nx t fr) (10) (em) (192) (M.2.1) (10) (nb) (10) (su)) H → va_D A (mW cI cZ qm mp mt ml mc mf me mg mh mu (cd) (nI k) (nI n) (nI (pn)) (nI (nx + t)) (ep) (nI (M.1)) (M.2.2.1) (M.2.2.2) (wi) (jb) (fp) (tf) (tt) (fi) (ln) (bx) (1000) (pr) (1000) (tk) (8) (le) (576) (co) (576) (dl_f tk (9 * (8 * f + b)) nx t fr) (10) (em) (192) (M.2.1) (10) (nb) (10) (su)) → va_S A s.heap H locs → W p l e ({ frames := 2, cells := 0, slots := 0, locals := 48 }) s m ([.ref qm, .int (nI f), .int (nI b)] : List Value).toArray below meth c H locs 0 0 (MQ below (sd_qv D (mW cI cZ qm mp mt ml mc mf me mg mh mu (cd) (nI k) (nI n) (nI (pn)) (nI (nx + (k - 1))) (ep) (nI ((ds_f (fun i => gf_h (dm_f fb tb nx) (BitVec.ofNat 8 i) k 0#8) n M).1)) ((ds_f (fun i => gf_h (dm_f fb tb nx) (BitVec.ofNat 8 i) k 0#8) n M).2.2.1) ((ds_f (fun i => gf_h (dm_f fb tb nx) (BitVec.ofNat 8 i) k 0#8) n M).2.2.2) (wi) (jb) (fp) (tf) (tt) (fi) (ln) (bx) (1000) (pr) (1000) (tk) (8) (le) (576) (co) (576) (dl_f tk (9 * (8 * f + b)) nx (k - 1) fr) (10) (em) (192) ((ds_f (fun i => gf_h (dm_f fb tb nx) (BitVec.ofNat 8 i) k 0#8) n M).2.1) (10) (nb) (10) (su)) A) ([.ref qm, .int (nI f), .int (nI b)] : List Value).toArray s 0 0 A) (F0 m 13 ls []) := by
    intro d
    induction d using Nat.strongRecOn with
    | _ d ih13 =>
    intro t ls H locs hd ht hl hP hD hS
    subst hd
    refine lv_iload hx hb d_M_deal_13 (lv_at hl 4 rfl) ?_
    refine lv_aload_n hx hb d_M_deal_15 rfl (lv_at hl 0 rfl) ?_
    refine va_get (D := D) (ci := 5) (v := .int (nI k)) (C := R_M) (T := F_M) (N := 26) hx hb hts wl_M hown hK hP 0 rfl rfl 1 (by decide) (hts _ wf_M_48) (fun _ h9 => h9) rfl d_M_deal_16 ?_
    refine lv_icmp_ge (tgt := 51) hx hb d_M_deal_19 rfl (fun hc19 => ?_) (fun hc19 => ?_)
    · skip
      rw [nI_leI (by omega) (by omega)] at hc19
      have ht2 : k - 1 = t := by omega
      subst ht2
      refine lv_iconst (v := 1) hx hb d_M_deal_51 (by decide) ?_
      refine sd_top (y := nI (0 + 1)) (rfl) ?_
      refine lv_istore hx hb d_M_deal_52 hl (Nat.le_of_ble_eq_true rfl) (lv' := [(4, .int (nI (0 + 1))), (0, .ref qm), (1, .int (nI f)), (2, .int (nI b)), (3, .int (nI (9 * (8 * f + b))))]) rfl (fun ls hl => ?_)
      have hl := lv_sub hl (l' := [(0, .ref qm), (1, .int (nI f)), (2, .int (nI b)), (3, .int (nI (9 * (8 * f + b)))), (4, .int (nI (0 + 1)))]) [1, 2, 3, 4, 0] rfl
      have loop54 : ∀ (d : Nat) (u : Nat) (ls : Array Slot) (H : Heap) (locs : List Loc), n - u = d → (u ≤ n) → lv_has ls 5 [(0, .ref qm), (1, .int (nI f)), (2, .int (nI b)), (3, .int (nI (9 * (8 * f + b)))), (4, .int (nI (u + 1)))] → va_P D cls (mW cI cZ qm mp mt ml mc mf me mg mh mu (cd) (nI k) (nI n) (nI (pn)) (nI (nx + (k - 1))) (ep) (nI ((ds_f (fun i => gf_h (dm_f fb tb nx) (BitVec.ofNat 8 i) k 0#8) u M).1)) ((ds_f (fun i => gf_h (dm_f fb tb nx) (BitVec.ofNat 8 i) k 0#8) u M).2.2.1) ((ds_f (fun i => gf_h (dm_f fb tb nx) (BitVec.ofNat 8 i) k 0#8) u M).2.2.2) (wi) (jb) (fp) (tf) (tt) (fi) (ln) (bx) (1000) (pr) (1000) (tk) (8) (le) (576) (co) (576) (dl_f tk (9 * (8 * f + b)) nx (k - 1) fr) (10) (em) (192) ((ds_f (fun i => gf_h (dm_f fb tb nx) (BitVec.ofNat 8 i) k 0#8) u M).2.1) (10) (nb) (10) (su)) H → va_D A (mW cI cZ qm mp mt ml mc mf me mg mh mu (cd) (nI k) (nI n) (nI (pn)) (nI (nx + (k - 1))) (ep) (nI ((ds_f (fun i => gf_h (dm_f fb tb nx) (BitVec.ofNat 8 i) k 0#8) u M).1)) ((ds_f (fun i => gf_h (dm_f fb tb nx) (BitVec.ofNat 8 i) k 0#8) u M).2.2.1) ((ds_f (fun i => gf_h (dm_f fb tb nx) (BitVec.ofNat 8 i) k 0#8) u M).2.2.2) (wi) (jb) (fp) (tf) (tt) (fi) (ln) (bx) (1000) (pr) (1000) (tk) (8) (le) (576) (co) (576) (dl_f tk (9 * (8 * f + b)) nx (k - 1) fr) (10) (em) (192) ((ds_f (fun i => gf_h (dm_f fb tb nx) (BitVec.ofNat 8 i) k 0#8) u M).2.1) (10) (nb) (10) (su)) → va_S A s.heap H locs → W p l e ({ frames := 2, cells := 0, slots := 0, locals := 48 }) s m ([.ref qm, .int (nI f), .int (nI b)] : List Value).toArray below meth c H locs 0 0 (MQ below (sd_qv D (mW cI cZ qm mp mt ml mc mf me mg mh mu (cd) (nI k) (nI n) (nI (pn)) (nI (nx + (k - 1))) (ep) (nI ((ds_f (fun i => gf_h (dm_f fb tb nx) (BitVec.ofNat 8 i) k 0#8) n M).1)) ((ds_f (fun i => gf_h (dm_f fb tb nx) (BitVec.ofNat 8 i) k 0#8) n M).2.2.1) ((ds_f (fun i => gf_h (dm_f fb tb nx) (BitVec.ofNat 8 i) k 0#8) n M).2.2.2) (wi) (jb) (fp) (tf) (tt) (fi) (ln) (bx) (1000) (pr) (1000) (tk) (8) (le) (576) (co) (576) (dl_f tk (9 * (8 * f + b)) nx (k - 1) fr) (10) (em) (192) ((ds_f (fun i => gf_h (dm_f fb tb nx) (BitVec.ofNat 8 i) k 0#8) n M).2.1) (10) (nb) (10) (su)) A) ([.ref qm, .int (nI f), .int (nI b)] : List Value).toArray s 0 0 A) (F0 m 54 ls []) := by
        intro d
        induction d using Nat.strongRecOn with
        | _ d ih54 =>
        intro u ls H locs hd hu hl hP hD hS
        subst hd
        refine lv_iload hx hb d_M_deal_54 (lv_at hl 4 rfl) ?_
        refine lv_aload_n hx hb d_M_deal_56 rfl (lv_at hl 0 rfl) ?_
        refine va_get (D := D) (ci := 5) (v := .int (nI n)) (C := R_M) (T := F_M) (N := 26) hx hb hts wl_M hown hK hP 0 rfl rfl 2 (by decide) (hts _ wf_M_45) (fun _ h9 => h9) rfl d_M_deal_57 ?_
        refine lv_icmp_gt (tgt := 87) hx hb d_M_deal_60 rfl (fun hc60 => ?_) (fun hc60 => ?_)
        · skip
          rw [nI_ltI (by omega) (by omega)] at hc60
          have hun : n = u := by omega
          subst hun
          exact sd_vret hx hb hr hlk hP hS (Nat.le_of_ble_eq_true rfl) (Nat.le_of_ble_eq_true rfl) d_M_deal_87
        · skip
          rw [nI_ltI (by omega) (by omega)] at hc60
          have hTu : (ds_f (fun i => gf_h (dm_f fb tb nx) (BitVec.ofNat 8 i) k 0#8) u M).1 < 2 ^ 31 := by
            have := ds_b (fun i => gf_h (dm_f fb tb nx) (BitVec.ofNat 8 i) k 0#8) u M
            omega
          refine lv_aload_n hx hb d_M_deal_63 rfl (lv_at hl 0 rfl) ?_
          refine lv_iconst (v := 0) hx hb d_M_deal_64 (by decide) ?_
          refine lv_iload hx hb d_M_deal_65 (lv_at hl 4 rfl) ?_
          refine lv_aload_n hx hb d_M_deal_67 rfl (lv_at hl 0 rfl) ?_
          refine lv_aload_n hx hb d_M_deal_68 rfl (lv_at hl 0 rfl) ?_
          refine va_get (D := D) (ci := 5) (v := .ref mf) (C := R_M) (T := F_M) (N := 26) hx hb hts wl_M hown hK hP 0 rfl rfl 9 (by decide) (hts _ wf_M_22) (fun _ h9 => h9) rfl d_M_deal_69 ?_
          refine lv_iload_n hx hb d_M_deal_72 rfl (lv_at hl 3 rfl) ?_
          refine lv_iload hx hb d_M_deal_73 (lv_at hl 4 rfl) ?_
          refine sd_top (y := bI (BitVec.ofNat 8 (u + 1))) (bI_of (by omega)) ?_
          refine sd_allVI (As := [.ref mf, .int (nI (9 * (8 * f + b))), .int (bI (BitVec.ofNat 8 (u + 1)))]) (rest := [.int (nI (u + 1)), .int (0), .ref qm]) (w1 := (mW cI cZ qm mp mt ml mc mf me mg mh mu (cd) (nI k) (nI n) (nI (pn)) (nI ((nx + (k - 1)))) (ep) (nI ((ds_f (fun i => gf_h (dm_f fb tb nx) (BitVec.ofNat 8 i) k 0#8) u M).1)) ((ds_f (fun i => gf_h (dm_f fb tb nx) (BitVec.ofNat 8 i) k 0#8) u M).2.2.1) ((ds_f (fun i => gf_h (dm_f fb tb nx) (BitVec.ofNat 8 i) k 0#8) u M).2.2.2) (wi) (jb) (fp) (tf) (tt) (fi) (ln) (bx) (1000) (pr) (1000) (tk) (8) (le) (576) (co) (576) (dl_f tk (9 * (8 * f + b)) nx (k - 1) fr) (10) (em) (192) ((ds_f (fun i => gf_h (dm_f fb tb nx) (BitVec.ofNat 8 i) k 0#8) u M).2.1) (10) (nb) (10) (su))) (c_M_valueAt_f l D cI cZ cQ (qm) (mp) (mt) (ml) (mc) (mf) (me) (mg) (mh) (mu) (k) (n) (pn) (nx + (k - 1)) (cd) (ep) ((ds_f (fun i => gf_h (dm_f fb tb nx) (BitVec.ofNat 8 i) k 0#8) u M)) (wi) (jb) (fp) (tf) (tt) (fi) (ln) (bx) (pr) (tk) (le) (co) (dl_f tk (9 * (8 * f + b)) nx (k - 1) fr) (em) (nb) (su) (9 * (8 * f + b)) (dm_f fb tb nx) (BitVec.ofNat 8 (u + 1)) (hk) (hn) (by omega) (dm_b hfr htk hnx hk1)) ⟨wc_M_valueAt, wm_M_77, wi_M, by decide, by decide, show (parseMethodDescriptor y_M_valueAt.desc).map (fun d => d.parameters.length) = some 3 by decide +kernel⟩ wo_M_valueAt wz_M_valueAt hx hb hml hown hts hl.1 ⟨Nat.le_of_ble_eq_true rfl, Nat.le_of_ble_eq_true rfl⟩ ⟨Nat.le_of_ble_eq_true rfl, Nat.le_of_ble_eq_true rfl⟩ hK hP hD hS hA (rfl) (q0 := 0) rfl rfl rfl (Nat.le_of_ble_eq_true rfl) d_M_deal_75 (fun H locs hP hD hS => ?_)
          have hP : va_P D cls (mW cI cZ qm mp mt ml mc mf me mg mh mu (cd) (nI k) (nI n) (nI (pn)) (nI ((nx + (k - 1)))) (ep) (nI ((ds_f (fun i => gf_h (dm_f fb tb nx) (BitVec.ofNat 8 i) k 0#8) u M).1)) ((ds_f (fun i => gf_h (dm_f fb tb nx) (BitVec.ofNat 8 i) k 0#8) u M).2.2.1) ((ds_f (fun i => gf_h (dm_f fb tb nx) (BitVec.ofNat 8 i) k 0#8) u M).2.2.2) (wi) (jb) (fp) (tf) (tt) (fi) (ln) (bx) (1000) (pr) (1000) (tk) (8) (le) (576) (co) (576) (dl_f tk (9 * (8 * f + b)) nx (k - 1) fr) (10) (em) (192) ((ds_f (fun i => gf_h (dm_f fb tb nx) (BitVec.ofNat 8 i) k 0#8) u M).2.1) (10) (nb) (10) (su)) H := hP
          have hD : va_D A (mW cI cZ qm mp mt ml mc mf me mg mh mu (cd) (nI k) (nI n) (nI (pn)) (nI ((nx + (k - 1)))) (ep) (nI ((ds_f (fun i => gf_h (dm_f fb tb nx) (BitVec.ofNat 8 i) k 0#8) u M).1)) ((ds_f (fun i => gf_h (dm_f fb tb nx) (BitVec.ofNat 8 i) k 0#8) u M).2.2.1) ((ds_f (fun i => gf_h (dm_f fb tb nx) (BitVec.ofNat 8 i) k 0#8) u M).2.2.2) (wi) (jb) (fp) (tf) (tt) (fi) (ln) (bx) (1000) (pr) (1000) (tk) (8) (le) (576) (co) (576) (dl_f tk (9 * (8 * f + b)) nx (k - 1) fr) (10) (em) (192) ((ds_f (fun i => gf_h (dm_f fb tb nx) (BitVec.ofNat 8 i) k 0#8) u M).2.1) (10) (nb) (10) (su)) := hD
          refine sd_allVV (As := [.int (0), .int (nI (u + 1)), .int (bI (gf_h (dm_f fb tb nx) (BitVec.ofNat 8 (u + 1)) k 0#8))]) (rest := []) (w1 := (mW cI cZ qm mp mt ml mc mf me mg mh mu (cd) (nI k) (nI n) (nI (pn)) (nI ((nx + (k - 1)))) (ep) (nI ((mm_s (ds_f (fun i => gf_h (dm_f fb tb nx) (BitVec.ofNat 8 i) k 0#8) u M) 0 (nI (u + 1)) (bI (gf_h (dm_f fb tb nx) (BitVec.ofNat 8 (u + 1)) k 0#8))).1)) ((mm_s (ds_f (fun i => gf_h (dm_f fb tb nx) (BitVec.ofNat 8 i) k 0#8) u M) 0 (nI (u + 1)) (bI (gf_h (dm_f fb tb nx) (BitVec.ofNat 8 (u + 1)) k 0#8))).2.2.1) ((mm_s (ds_f (fun i => gf_h (dm_f fb tb nx) (BitVec.ofNat 8 i) k 0#8) u M) 0 (nI (u + 1)) (bI (gf_h (dm_f fb tb nx) (BitVec.ofNat 8 (u + 1)) k 0#8))).2.2.2) (wi) (jb) (fp) (tf) (tt) (fi) (ln) (bx) (1000) (pr) (1000) (tk) (8) (le) (576) (co) (576) (dl_f tk (9 * (8 * f + b)) nx (k - 1) fr) (10) (em) (192) ((mm_s (ds_f (fun i => gf_h (dm_f fb tb nx) (BitVec.ofNat 8 i) k 0#8) u M) 0 (nI (u + 1)) (bI (gf_h (dm_f fb tb nx) (BitVec.ofNat 8 (u + 1)) k 0#8))).2.1) (10) (nb) (10) (su))) (c_M_send l D cI cZ cQ (qm) (mp) (mt) (ml) (mc) (mf) (me) (mg) (mh) (mu) (k) (n) (pn) ((nx + (k - 1))) (cd) (ep) ((ds_f (fun i => gf_h (dm_f fb tb nx) (BitVec.ofNat 8 i) k 0#8) u M)) (wi) (jb) (fp) (tf) (tt) (fi) (ln) (bx) (pr) (tk) (le) (co) (dl_f tk (9 * (8 * f + b)) nx (k - 1) fr) (em) (nb) (su) (0) (nI (u + 1)) (bI (gf_h (dm_f fb tb nx) (BitVec.ofNat 8 (u + 1)) k 0#8)) (hk) (hn) (hTu)) ⟨wc_M_send, wm_M_81, wi_M, by decide, by decide, show (parseMethodDescriptor y_M_send.desc).map (fun d => d.parameters.length) = some 3 by decide +kernel⟩ wo_M_send wz_M_send hx hb hml hown hts hl.1 ⟨Nat.le_of_ble_eq_true rfl, Nat.le_of_ble_eq_true rfl⟩ ⟨Nat.le_of_ble_eq_true rfl, Nat.le_of_ble_eq_true rfl⟩ hK hP hD hS hA (rfl) (q0 := 0) rfl rfl rfl (Nat.le_of_ble_eq_true rfl) d_M_deal_78 (fun H locs hP hD hS => ?_)
          have hP : va_P D cls (mW cI cZ qm mp mt ml mc mf me mg mh mu (cd) (nI k) (nI n) (nI (pn)) (nI ((nx + (k - 1)))) (ep) (nI ((mm_s (ds_f (fun i => gf_h (dm_f fb tb nx) (BitVec.ofNat 8 i) k 0#8) u M) 0 (nI (u + 1)) (bI (gf_h (dm_f fb tb nx) (BitVec.ofNat 8 (u + 1)) k 0#8))).1)) ((mm_s (ds_f (fun i => gf_h (dm_f fb tb nx) (BitVec.ofNat 8 i) k 0#8) u M) 0 (nI (u + 1)) (bI (gf_h (dm_f fb tb nx) (BitVec.ofNat 8 (u + 1)) k 0#8))).2.2.1) ((mm_s (ds_f (fun i => gf_h (dm_f fb tb nx) (BitVec.ofNat 8 i) k 0#8) u M) 0 (nI (u + 1)) (bI (gf_h (dm_f fb tb nx) (BitVec.ofNat 8 (u + 1)) k 0#8))).2.2.2) (wi) (jb) (fp) (tf) (tt) (fi) (ln) (bx) (1000) (pr) (1000) (tk) (8) (le) (576) (co) (576) (dl_f tk (9 * (8 * f + b)) nx (k - 1) fr) (10) (em) (192) ((mm_s (ds_f (fun i => gf_h (dm_f fb tb nx) (BitVec.ofNat 8 i) k 0#8) u M) 0 (nI (u + 1)) (bI (gf_h (dm_f fb tb nx) (BitVec.ofNat 8 (u + 1)) k 0#8))).2.1) (10) (nb) (10) (su)) H := hP
          have hD : va_D A (mW cI cZ qm mp mt ml mc mf me mg mh mu (cd) (nI k) (nI n) (nI (pn)) (nI ((nx + (k - 1)))) (ep) (nI ((mm_s (ds_f (fun i => gf_h (dm_f fb tb nx) (BitVec.ofNat 8 i) k 0#8) u M) 0 (nI (u + 1)) (bI (gf_h (dm_f fb tb nx) (BitVec.ofNat 8 (u + 1)) k 0#8))).1)) ((mm_s (ds_f (fun i => gf_h (dm_f fb tb nx) (BitVec.ofNat 8 i) k 0#8) u M) 0 (nI (u + 1)) (bI (gf_h (dm_f fb tb nx) (BitVec.ofNat 8 (u + 1)) k 0#8))).2.2.1) ((mm_s (ds_f (fun i => gf_h (dm_f fb tb nx) (BitVec.ofNat 8 i) k 0#8) u M) 0 (nI (u + 1)) (bI (gf_h (dm_f fb tb nx) (BitVec.ofNat 8 (u + 1)) k 0#8))).2.2.2) (wi) (jb) (fp) (tf) (tt) (fi) (ln) (bx) (1000) (pr) (1000) (tk) (8) (le) (576) (co) (576) (dl_f tk (9 * (8 * f + b)) nx (k - 1) fr) (10) (em) (192) ((mm_s (ds_f (fun i => gf_h (dm_f fb tb nx) (BitVec.ofNat 8 i) k 0#8) u M) 0 (nI (u + 1)) (bI (gf_h (dm_f fb tb nx) (BitVec.ofNat 8 (u + 1)) k 0#8))).2.1) (10) (nb) (10) (su)) := hD
          refine lv_iinc hx hb d_M_deal_81 hl (k := 4) rfl (v := nI (u + 1 + 1)) (ii_1 _) (Nat.le_of_ble_eq_true rfl) (lv' := [(4, .int (nI (u + 1 + 1))), (0, .ref qm), (1, .int (nI f)), (2, .int (nI b)), (3, .int (nI (9 * (8 * f + b))))]) rfl (fun ls hl => ?_)
          refine lv_goto (tgt := 54) hx hb d_M_deal_84 rfl ?_
          have hl := lv_sub hl (l' := [(0, .ref qm), (1, .int (nI f)), (2, .int (nI b)), (3, .int (nI (9 * (8 * f + b)))), (4, .int (nI (u + 1 + 1)))]) [1, 2, 3, 4, 0] rfl
          exact ih54 _ (by omega) (u + 1) ls _ _ rfl (by omega) hl hP hD hS
      exact loop54 _ (0) ls _ _ rfl (Nat.zero_le _) hl hP hD hS
    · skip
      rw [nI_leI (by omega) (by omega)] at hc19
      refine lv_aload_n hx hb d_M_deal_22 rfl (lv_at hl 0 rfl) ?_
      refine va_get (D := D) (ci := 5) (v := .ref mf) (C := R_M) (T := F_M) (N := 26) hx hb hts wl_M hown hK hP 0 rfl rfl 9 (by decide) (hts _ wf_M_22) (fun _ h9 => h9) rfl d_M_deal_23 ?_
      refine lv_iload_n hx hb d_M_deal_26 rfl (lv_at hl 3 rfl) ?_
      refine lv_iload hx hb d_M_deal_27 (lv_at hl 4 rfl) ?_
      refine lv_iadd hx hb d_M_deal_29 ?_
      refine sd_top (y := nI (9 * (8 * f + b) + (t + 1))) (nI_add _ _) ?_
      refine lv_aload_n hx hb d_M_deal_30 rfl (lv_at hl 0 rfl) ?_
      refine va_get (D := D) (ci := 5) (v := .ref mf) (C := R_M) (T := F_M) (N := 26) hx hb hts wl_M hown hK hP 0 rfl rfl 9 (by decide) (hts _ wf_M_22) (fun _ h9 => h9) rfl d_M_deal_31 ?_
      refine lv_iload_n hx hb d_M_deal_34 rfl (lv_at hl 3 rfl) ?_
      refine lv_iload hx hb d_M_deal_35 (lv_at hl 4 rfl) ?_
      refine lv_iadd hx hb d_M_deal_37 ?_
      refine sd_top (y := nI (9 * (8 * f + b) + (t + 1))) (nI_add _ _) ?_
      refine sd_iald (j := 9 * (8 * f + b) + (t + 1)) hx hb hK hP 5 0 rfl rfl (by omega) (by omega) d_M_deal_38 ?_
      refine lv_aload_n hx hb d_M_deal_39 rfl (lv_at hl 0 rfl) ?_
      refine sd_allVI (As := []) (rest := [.int ((dl_f tk (9 * (8 * f + b)) nx t fr) (9 * (8 * f + b) + (t + 1))), .int (nI (9 * (8 * f + b) + (t + 1))), .ref mf]) (w1 := (mW cI cZ qm mp mt ml mc mf me mg mh mu (cd) (nI k) (nI n) (nI (pn)) (nI ((nx + t) + 1)) (ep) (nI (M.1)) (M.2.2.1) (M.2.2.2) (wi) (jb) (fp) (tf) (tt) (fi) (ln) (bx) (1000) (pr) (1000) (tk) (8) (le) (576) (co) (576) (dl_f tk (9 * (8 * f + b)) nx t fr) (10) (em) (192) (M.2.1) (10) (nb) (10) (su))) (c_M_nextTaken l D cI cZ cQ (qm) (mp) (mt) (ml) (mc) (mf) (me) (mg) (mh) (mu) (k) (n) (pn) (nx + t) (cd) (ep) (M) (wi) (jb) (fp) (tf) (tt) (fi) (ln) (bx) (pr) (tk) (le) (co) (dl_f tk (9 * (8 * f + b)) nx t fr) (em) (nb) (su) (hk) (hn) (by omega)) ⟨wc_M_nextTaken, wm_M_73, wi_M, by decide, by decide, show (parseMethodDescriptor y_M_nextTaken.desc).map (fun d => d.parameters.length) = some 0 by decide +kernel⟩ wo_M_nextTaken wz_M_nextTaken hx hb hml hown hts hl.1 ⟨Nat.le_of_ble_eq_true rfl, Nat.le_of_ble_eq_true rfl⟩ ⟨Nat.le_of_ble_eq_true rfl, Nat.le_of_ble_eq_true rfl⟩ hK hP hD hS hA (rfl) (q0 := 0) rfl rfl rfl (Nat.le_of_ble_eq_true rfl) d_M_deal_40 (fun H locs hP hD hS => ?_)
      have hP : va_P D cls (mW cI cZ qm mp mt ml mc mf me mg mh mu (cd) (nI k) (nI n) (nI (pn)) (nI ((nx + t) + 1)) (ep) (nI (M.1)) (M.2.2.1) (M.2.2.2) (wi) (jb) (fp) (tf) (tt) (fi) (ln) (bx) (1000) (pr) (1000) (tk) (8) (le) (576) (co) (576) (dl_f tk (9 * (8 * f + b)) nx t fr) (10) (em) (192) (M.2.1) (10) (nb) (10) (su)) H := hP
      have hD : va_D A (mW cI cZ qm mp mt ml mc mf me mg mh mu (cd) (nI k) (nI n) (nI (pn)) (nI ((nx + t) + 1)) (ep) (nI (M.1)) (M.2.2.1) (M.2.2.2) (wi) (jb) (fp) (tf) (tt) (fi) (ln) (bx) (1000) (pr) (1000) (tk) (8) (le) (576) (co) (576) (dl_f tk (9 * (8 * f + b)) nx t fr) (10) (em) (192) (M.2.1) (10) (nb) (10) (su)) := hD
      refine lv_ixor hx hb d_M_deal_43 ?_
      refine sd_iast (j := 9 * (8 * f + b) + (t + 1)) hx hb hK hP hD hS 5 0 rfl rfl (by omega) (by omega) d_M_deal_44 (fun H locs hP hD hS => ?_)
      have hP : va_P D cls (mW cI cZ qm mp mt ml mc mf me mg mh mu (cd) (nI k) (nI n) (nI (pn)) (nI ((nx + t) + 1)) (ep) (nI (M.1)) (M.2.2.1) (M.2.2.2) (wi) (jb) (fp) (tf) (tt) (fi) (ln) (bx) (1000) (pr) (1000) (tk) (8) (le) (576) (co) (576) (upd (dl_f tk (9 * (8 * f + b)) nx t fr) (9 * (8 * f + b) + (t + 1)) (((dl_f tk (9 * (8 * f + b)) nx t fr) (9 * (8 * f + b) + (t + 1))) ^^^ (tk (nx + t)))) (10) (em) (192) (M.2.1) (10) (nb) (10) (su)) H := hP
      have hD : va_D A (mW cI cZ qm mp mt ml mc mf me mg mh mu (cd) (nI k) (nI n) (nI (pn)) (nI ((nx + t) + 1)) (ep) (nI (M.1)) (M.2.2.1) (M.2.2.2) (wi) (jb) (fp) (tf) (tt) (fi) (ln) (bx) (1000) (pr) (1000) (tk) (8) (le) (576) (co) (576) (upd (dl_f tk (9 * (8 * f + b)) nx t fr) (9 * (8 * f + b) + (t + 1)) (((dl_f tk (9 * (8 * f + b)) nx t fr) (9 * (8 * f + b) + (t + 1))) ^^^ (tk (nx + t)))) (10) (em) (192) (M.2.1) (10) (nb) (10) (su)) := hD
      refine lv_iinc hx hb d_M_deal_45 hl (k := 4) rfl (v := nI (t + 1 + 1)) (ii_1 _) (Nat.le_of_ble_eq_true rfl) (lv' := [(4, .int (nI (t + 1 + 1))), (0, .ref qm), (1, .int (nI f)), (2, .int (nI b)), (3, .int (nI (9 * (8 * f + b))))]) rfl (fun ls hl => ?_)
      refine lv_goto (tgt := 13) hx hb d_M_deal_48 rfl ?_
      have hl := lv_sub hl (l' := [(0, .ref qm), (1, .int (nI f)), (2, .int (nI b)), (3, .int (nI (9 * (8 * f + b)))), (4, .int (nI (t + 1 + 1)))]) [1, 2, 3, 4, 0] rfl
      exact ih13 _ (by omega) (t + 1) ls _ _ rfl (by omega) hl hP hD hS
  exact loop13 _ (0) ls _ _ rfl (by omega) hl hP hD hS
set_option maxHeartbeats 4000000 in
set_option maxRecDepth 100000 in
theorem c_M_tidy (l : Launch) (D : va_G) (cI cZ cQ : ClassId) (qm : Nat) (mp : Nat) (mt : Nat) (ml : Nat) (mc : Nat) (mf : Nat) (me : Nat) (mg : Nat) (mh : Nat) (mu : Nat) (k : Nat) (n : Nat) (pn : Nat) (nx : Nat) (cd : Int32) (ep : Int32) (M : mm_T) (wi : Int32) (jb : Int32) (fp : Int32) (fi : Int32) (ln : Int32) (bx : Int32) (pr : Nat → Int32) (tk : Nat → Int32) (le : Nat → Int32) (co : Nat → Int32) (fr : Nat → Int32) (em : Nat → Int32) (nb : Nat → Int32) (su : Nat → Int32) (f : Nat) (g : Nat) (hk : k ≤ 9) (hn : n ≤ 9) (hT : M.1 + (g + 1 - f) < 2 ^ 31) (hf1 : f < 2 ^ 30) (hg1 : g < 2 ^ 30) : sd_V l D (tyL cI cZ cQ) y_M_tidy b_M_tidy 2 ({ frames := 1, cells := 0, slots := 0, locals := 24 }) [.ref qm] (mW cI cZ qm mp mt ml mc mf me mg mh mu (cd) (nI k) (nI n) (nI (pn)) (nI (nx)) (ep) (nI (M.1)) (M.2.2.1) (M.2.2.2) (wi) (jb) (fp) (nI f) (nI g) (fi) (ln) (bx) (1000) (pr) (1000) (tk) (8) (le) (576) (co) (576) (fr) (10) (em) (192) (M.2.1) (10) (nb) (10) (su)) (mW cI cZ qm mp mt ml mc mf me mg mh mu (cd) (nI k) (nI n) (nI (pn)) (nI (nx)) (ep) (nI ((mt_f (g + 1 - f) f (M, f)).1.1)) ((mt_f (g + 1 - f) f (M, f)).1.2.2.1) ((mt_f (g + 1 - f) f (M, f)).1.2.2.2) (wi) (jb) (fp) (nI (mt_f (g + 1 - f) f (M, f)).2) (nI g) (fi) (ln) (bx) (1000) (pr) (1000) (tk) (8) (le) (576) (co) (576) (fr) (10) (em) (192) ((mt_f (g + 1 - f) f (M, f)).1.2.1) (10) (nb) (10) (su)) := by
  refine sd_ofV (by decide) (Nat.le_of_ble_eq_true rfl) ?_
  intro p e s m below meth c A ls hx hb hr hml hlk hown hts hK hP hD hA hS hl
  have hl : lv_has ls 2 [(0, .ref qm)] := hl
  refine lv_aload_n hx hb d_M_tidy_0 rfl (lv_at hl 0 rfl) ?_
  refine va_get (D := D) (ci := 5) (v := .int (nI f)) (C := R_M) (T := F_M) (N := 26) hx hb hts wl_M hown hK hP 0 rfl rfl 19 (by decide) (hts _ wf_M_91) (fun _ h9 => h9) rfl d_M_tidy_1 ?_
  refine lv_istore_n hx hb d_M_tidy_4 rfl hl (Nat.le_of_ble_eq_true rfl) (lv' := [(1, .int (nI f)), (0, .ref qm)]) rfl (fun ls hl => ?_)
  have hl := lv_sub hl (l' := [(0, .ref qm), (1, .int (nI f))]) [1, 0] rfl
  have loop5 : ∀ (d : Nat) (i : Nat) (M2 : mm_T) (f2 : Nat) (ls : Array Slot) (H : Heap) (locs : List Loc), g + 1 - i = d → (M2.1 + (g + 1 - i) < 2 ^ 31) → (i < 2 ^ 31) → (mt_f (g + 1 - i) i (M2, f2) = mt_f (g + 1 - f) f (M, f)) → lv_has ls 2 [(0, .ref qm), (1, .int (nI (i)))] → va_P D cls (mW cI cZ qm mp mt ml mc mf me mg mh mu (cd) (nI k) (nI n) (nI (pn)) (nI (nx)) (ep) (nI (M2.1)) (M2.2.2.1) (M2.2.2.2) (wi) (jb) (fp) (nI f2) (nI g) (fi) (ln) (bx) (1000) (pr) (1000) (tk) (8) (le) (576) (co) (576) (fr) (10) (em) (192) (M2.2.1) (10) (nb) (10) (su)) H → va_D A (mW cI cZ qm mp mt ml mc mf me mg mh mu (cd) (nI k) (nI n) (nI (pn)) (nI (nx)) (ep) (nI (M2.1)) (M2.2.2.1) (M2.2.2.2) (wi) (jb) (fp) (nI f2) (nI g) (fi) (ln) (bx) (1000) (pr) (1000) (tk) (8) (le) (576) (co) (576) (fr) (10) (em) (192) (M2.2.1) (10) (nb) (10) (su)) → va_S A s.heap H locs → W p l e ({ frames := 1, cells := 0, slots := 0, locals := 24 }) s m ([.ref qm] : List Value).toArray below meth c H locs 0 0 (MQ below (sd_qv D (mW cI cZ qm mp mt ml mc mf me mg mh mu (cd) (nI k) (nI n) (nI (pn)) (nI (nx)) (ep) (nI ((mt_f (g + 1 - f) f (M, f)).1.1)) ((mt_f (g + 1 - f) f (M, f)).1.2.2.1) ((mt_f (g + 1 - f) f (M, f)).1.2.2.2) (wi) (jb) (fp) (nI (mt_f (g + 1 - f) f (M, f)).2) (nI g) (fi) (ln) (bx) (1000) (pr) (1000) (tk) (8) (le) (576) (co) (576) (fr) (10) (em) (192) ((mt_f (g + 1 - f) f (M, f)).1.2.1) (10) (nb) (10) (su)) A) ([.ref qm] : List Value).toArray s 0 0 A) (F0 m 5 ls []) := by
    intro d
    induction d using Nat.strongRecOn with
    | _ d ih5 =>
    intro i M2 f2 ls H locs hd hT2 hi3 hM hl hP hD hS
    subst hd
    refine lv_iload_n hx hb d_M_tidy_5 rfl (lv_at hl 1 rfl) ?_
    refine lv_aload_n hx hb d_M_tidy_6 rfl (lv_at hl 0 rfl) ?_
    refine va_get (D := D) (ci := 5) (v := .int (nI g)) (C := R_M) (T := F_M) (N := 26) hx hb hts wl_M hown hK hP 0 rfl rfl 20 (by decide) (hts _ wf_M_94) (fun _ h9 => h9) rfl d_M_tidy_7 ?_
    refine lv_icmp_gt (tgt := 53) hx hb d_M_tidy_10 rfl (fun hc10 => ?_) (fun hc10 => ?_)
    · skip
      rw [nI_ltI (by omega) (by omega)] at hc10
      have he : mt_f (g + 1 - f) f (M, f) = (M2, f2) := by rw [← hM, show g + 1 - i = 0 by omega]; rfl
      have hP : va_P D cls (mW cI cZ qm mp mt ml mc mf me mg mh mu (cd) (nI k) (nI n) (nI (pn)) (nI (nx)) (ep) (nI ((mt_f (g + 1 - f) f (M, f)).1.1)) ((mt_f (g + 1 - f) f (M, f)).1.2.2.1) ((mt_f (g + 1 - f) f (M, f)).1.2.2.2) (wi) (jb) (fp) (nI (mt_f (g + 1 - f) f (M, f)).2) (nI g) (fi) (ln) (bx) (1000) (pr) (1000) (tk) (8) (le) (576) (co) (576) (fr) (10) (em) (192) ((mt_f (g + 1 - f) f (M, f)).1.2.1) (10) (nb) (10) (su)) H := by rw [he]; exact hP
      exact sd_vret hx hb hr hlk hP hS (Nat.le_of_ble_eq_true rfl) (Nat.le_of_ble_eq_true rfl) d_M_tidy_53
    · skip
      rw [nI_ltI (by omega) (by omega)] at hc10
      have hig : i ≤ g := by omega
      have hTn : (mm_s M2 0 (nI i) 257).1 + (g + 1 - (i + 1)) < 2 ^ 31 := by
        have := mm_b M2 0 (nI i) 257
        omega
      refine lv_aload_n hx hb d_M_tidy_13 rfl (lv_at hl 0 rfl) ?_
      refine va_get (D := D) (ci := 5) (v := .int (M2.2.2.2)) (C := R_M) (T := F_M) (N := 26) hx hb hts wl_M hown hK hP 0 rfl rfl 15 (by decide) (hts _ wf_M_66) (fun _ h9 => h9) rfl d_M_tidy_14 ?_
      refine lv_if_ne (tgt := 53) hx hb d_M_tidy_17 rfl (fun hc17 => ?_) (fun hc17 => ?_)
      · skip
        have he : mt_f (g + 1 - f) f (M, f) = (M2, f2) := by rw [← hM]; exact mt_e hc17
        have hP : va_P D cls (mW cI cZ qm mp mt ml mc mf me mg mh mu (cd) (nI k) (nI n) (nI (pn)) (nI (nx)) (ep) (nI ((mt_f (g + 1 - f) f (M, f)).1.1)) ((mt_f (g + 1 - f) f (M, f)).1.2.2.1) ((mt_f (g + 1 - f) f (M, f)).1.2.2.2) (wi) (jb) (fp) (nI (mt_f (g + 1 - f) f (M, f)).2) (nI g) (fi) (ln) (bx) (1000) (pr) (1000) (tk) (8) (le) (576) (co) (576) (fr) (10) (em) (192) ((mt_f (g + 1 - f) f (M, f)).1.2.1) (10) (nb) (10) (su)) H := by rw [he]; exact hP
        exact sd_vret hx hb hr hlk hP hS (Nat.le_of_ble_eq_true rfl) (Nat.le_of_ble_eq_true rfl) d_M_tidy_53
      · skip
        refine lv_aload_n hx hb d_M_tidy_20 rfl (lv_at hl 0 rfl) ?_
        refine lv_iconst (v := 0) hx hb d_M_tidy_21 (by decide) ?_
        refine lv_iload_n hx hb d_M_tidy_22 rfl (lv_at hl 1 rfl) ?_
        refine lv_sipush (v := 257) hx hb d_M_tidy_23 (by decide) ?_
        refine sd_allVV (As := [.int (0), .int (nI i), .int (257)]) (rest := []) (w1 := (mW cI cZ qm mp mt ml mc mf me mg mh mu (cd) (nI k) (nI n) (nI (pn)) (nI (nx)) (ep) (nI ((mm_s M2 0 (nI i) 257).1)) ((mm_s M2 0 (nI i) 257).2.2.1) ((mm_s M2 0 (nI i) 257).2.2.2) (wi) (jb) (fp) (nI f2) (nI g) (fi) (ln) (bx) (1000) (pr) (1000) (tk) (8) (le) (576) (co) (576) (fr) (10) (em) (192) ((mm_s M2 0 (nI i) 257).2.1) (10) (nb) (10) (su))) (c_M_send l D cI cZ cQ (qm) (mp) (mt) (ml) (mc) (mf) (me) (mg) (mh) (mu) (k) (n) (pn) (nx) (cd) (ep) (M2) (wi) (jb) (fp) (nI f2) (nI g) (fi) (ln) (bx) (pr) (tk) (le) (co) (fr) (em) (nb) (su) (0) (nI i) (257) (hk) (hn) (by omega)) ⟨wc_M_send, wm_M_81, wi_M, by decide, by decide, show (parseMethodDescriptor y_M_send.desc).map (fun d => d.parameters.length) = some 3 by decide +kernel⟩ wo_M_send wz_M_send hx hb hml hown hts hl.1 ⟨Nat.le_of_ble_eq_true rfl, Nat.le_of_ble_eq_true rfl⟩ ⟨Nat.le_of_ble_eq_true rfl, Nat.le_of_ble_eq_true rfl⟩ hK hP hD hS hA (rfl) (q0 := 0) rfl rfl rfl (Nat.le_of_ble_eq_true rfl) d_M_tidy_26 (fun H locs hP hD hS => ?_)
        have hP : va_P D cls (mW cI cZ qm mp mt ml mc mf me mg mh mu (cd) (nI k) (nI n) (nI (pn)) (nI (nx)) (ep) (nI ((mm_s M2 0 (nI i) 257).1)) ((mm_s M2 0 (nI i) 257).2.2.1) ((mm_s M2 0 (nI i) 257).2.2.2) (wi) (jb) (fp) (nI f2) (nI g) (fi) (ln) (bx) (1000) (pr) (1000) (tk) (8) (le) (576) (co) (576) (fr) (10) (em) (192) ((mm_s M2 0 (nI i) 257).2.1) (10) (nb) (10) (su)) H := hP
        have hD : va_D A (mW cI cZ qm mp mt ml mc mf me mg mh mu (cd) (nI k) (nI n) (nI (pn)) (nI (nx)) (ep) (nI ((mm_s M2 0 (nI i) 257).1)) ((mm_s M2 0 (nI i) 257).2.2.1) ((mm_s M2 0 (nI i) 257).2.2.2) (wi) (jb) (fp) (nI f2) (nI g) (fi) (ln) (bx) (1000) (pr) (1000) (tk) (8) (le) (576) (co) (576) (fr) (10) (em) (192) ((mm_s M2 0 (nI i) 257).2.1) (10) (nb) (10) (su)) := hD
        refine lv_aload_n hx hb d_M_tidy_29 rfl (lv_at hl 0 rfl) ?_
        refine lv_aload_n hx hb d_M_tidy_30 rfl (lv_at hl 0 rfl) ?_
        refine va_get (D := D) (ci := 5) (v := .int ((mm_s M2 0 (nI i) 257).2.2.2)) (C := R_M) (T := F_M) (N := 26) hx hb hts wl_M hown hK hP 0 rfl rfl 15 (by decide) (hts _ wf_M_66) (fun _ h9 => h9) rfl d_M_tidy_31 ?_
        refine lv_if_eq (tgt := 41) hx hb d_M_tidy_34 rfl (fun hc34 => ?_) (fun hc34 => ?_)
        · skip
          have hMn : mt_f (g + 1 - (i + 1)) (i + 1) (mm_s M2 0 (nI i) 257, i + 1) = mt_f (g + 1 - f) f (M, f) := by rw [← hM, mt_S hig hc17, if_pos hc34]
          refine lv_iload_n hx hb d_M_tidy_41 rfl (lv_at hl 1 rfl) ?_
          refine lv_iconst (v := 1) hx hb d_M_tidy_42 (by decide) ?_
          refine lv_iadd hx hb d_M_tidy_43 ?_
          refine sd_top (y := nI (i + 1)) (nI_1 _) ?_
          refine va_put (D := D) (ci := 5) (v := .int (nI (i + 1))) (ty := .int) (C := R_M) (T := F_M) (N := 26) hx hb hts wl_M t_M t_M_ok n_M hown hK hP hD hS 0 rfl rfl 19 (by decide) (hts _ wf_M_91) (fun _ h9 => h9) rfl (by decide +kernel) rfl rfl (Nat.le_of_ble_eq_true rfl) d_M_tidy_44 (fun H locs hP hD hS => ?_)
          have hP : va_P D cls (mW cI cZ qm mp mt ml mc mf me mg mh mu (cd) (nI k) (nI n) (nI (pn)) (nI (nx)) (ep) (nI ((mm_s M2 0 (nI i) 257).1)) ((mm_s M2 0 (nI i) 257).2.2.1) ((mm_s M2 0 (nI i) 257).2.2.2) (wi) (jb) (fp) (nI (i + 1)) (nI g) (fi) (ln) (bx) (1000) (pr) (1000) (tk) (8) (le) (576) (co) (576) (fr) (10) (em) (192) ((mm_s M2 0 (nI i) 257).2.1) (10) (nb) (10) (su)) H := hP
          have hD : va_D A (mW cI cZ qm mp mt ml mc mf me mg mh mu (cd) (nI k) (nI n) (nI (pn)) (nI (nx)) (ep) (nI ((mm_s M2 0 (nI i) 257).1)) ((mm_s M2 0 (nI i) 257).2.2.1) ((mm_s M2 0 (nI i) 257).2.2.2) (wi) (jb) (fp) (nI (i + 1)) (nI g) (fi) (ln) (bx) (1000) (pr) (1000) (tk) (8) (le) (576) (co) (576) (fr) (10) (em) (192) ((mm_s M2 0 (nI i) 257).2.1) (10) (nb) (10) (su)) := hD
          refine lv_iinc hx hb d_M_tidy_47 hl (k := 1) rfl (v := nI (i + 1)) (ii_1 _) (Nat.le_of_ble_eq_true rfl) (lv' := [(1, .int (nI (i + 1))), (0, .ref qm)]) rfl (fun ls hl => ?_)
          refine lv_goto (tgt := 5) hx hb d_M_tidy_50 rfl ?_
          have hl := lv_sub hl (l' := [(0, .ref qm), (1, .int (nI (i + 1)))]) [1, 0] rfl
          exact ih5 _ (by omega) (i + 1) _ _ ls _ _ rfl (hTn) (by omega) (hMn) hl hP hD hS
        · skip
          have hMn : mt_f (g + 1 - (i + 1)) (i + 1) (mm_s M2 0 (nI i) 257, i) = mt_f (g + 1 - f) f (M, f) := by rw [← hM, mt_S hig hc17, if_neg hc34]
          refine lv_iload_n hx hb d_M_tidy_37 rfl (lv_at hl 1 rfl) ?_
          refine lv_goto (tgt := 44) hx hb d_M_tidy_38 rfl ?_
          refine va_put (D := D) (ci := 5) (v := .int (nI (i))) (ty := .int) (C := R_M) (T := F_M) (N := 26) hx hb hts wl_M t_M t_M_ok n_M hown hK hP hD hS 0 rfl rfl 19 (by decide) (hts _ wf_M_91) (fun _ h9 => h9) rfl (by decide +kernel) rfl rfl (Nat.le_of_ble_eq_true rfl) d_M_tidy_44 (fun H locs hP hD hS => ?_)
          have hP : va_P D cls (mW cI cZ qm mp mt ml mc mf me mg mh mu (cd) (nI k) (nI n) (nI (pn)) (nI (nx)) (ep) (nI ((mm_s M2 0 (nI i) 257).1)) ((mm_s M2 0 (nI i) 257).2.2.1) ((mm_s M2 0 (nI i) 257).2.2.2) (wi) (jb) (fp) (nI (i)) (nI g) (fi) (ln) (bx) (1000) (pr) (1000) (tk) (8) (le) (576) (co) (576) (fr) (10) (em) (192) ((mm_s M2 0 (nI i) 257).2.1) (10) (nb) (10) (su)) H := hP
          have hD : va_D A (mW cI cZ qm mp mt ml mc mf me mg mh mu (cd) (nI k) (nI n) (nI (pn)) (nI (nx)) (ep) (nI ((mm_s M2 0 (nI i) 257).1)) ((mm_s M2 0 (nI i) 257).2.2.1) ((mm_s M2 0 (nI i) 257).2.2.2) (wi) (jb) (fp) (nI (i)) (nI g) (fi) (ln) (bx) (1000) (pr) (1000) (tk) (8) (le) (576) (co) (576) (fr) (10) (em) (192) ((mm_s M2 0 (nI i) 257).2.1) (10) (nb) (10) (su)) := hD
          refine lv_iinc hx hb d_M_tidy_47 hl (k := 1) rfl (v := nI (i + 1)) (ii_1 _) (Nat.le_of_ble_eq_true rfl) (lv' := [(1, .int (nI (i + 1))), (0, .ref qm)]) rfl (fun ls hl => ?_)
          refine lv_goto (tgt := 5) hx hb d_M_tidy_50 rfl ?_
          have hl := lv_sub hl (l' := [(0, .ref qm), (1, .int (nI (i + 1)))]) [1, 0] rfl
          exact ih5 _ (by omega) (i + 1) _ _ ls _ _ rfl (hTn) (by omega) (hMn) hl hP hD hS
  exact loop5 _ (f) (M) (f) ls _ _ rfl (hT) (by omega) (rfl) hl hP hD hS
set_option maxHeartbeats 4000000 in
set_option maxRecDepth 100000 in
theorem c_M_flip_1 (l : Launch) (D : va_G) (cI cZ cQ : ClassId) (qm : Nat) (mp : Nat) (mt : Nat) (ml : Nat) (mc : Nat) (mf : Nat) (me : Nat) (mg : Nat) (mh : Nat) (mu : Nat) (k : Nat) (n : Nat) (pn : Nat) (nx : Nat) (cd : Int32) (ep : Int32) (M : mm_T) (wi : Int32) (fp : Int32) (tf : Int32) (tt : Int32) (ln : Int32) (bx : Int32) (pr : Nat → Int32) (tk : Nat → Int32) (le : Nat → Int32) (co : Nat → Int32) (fr : Nat → Int32) (em : Nat → Int32) (nb : Nat → Int32) (su : Nat → Int32) (fx : Nat) (hk : k ≤ 9) (hn : n ≤ 9) (hfx : fx < 8) : sd_V l D (tyL cI cZ cQ) y_M_flip b_M_flip 2 ({ frames := 0, cells := 0, slots := 0, locals := 0 }) [.ref qm] (mW cI cZ qm mp mt ml mc mf me mg mh mu (cd) (nI k) (nI n) (nI (pn)) (nI (nx)) (ep) (nI (M.1)) (M.2.2.1) (M.2.2.2) (wi) (1) (fp) (tf) (tt) (nI fx) (ln) (bx) (1000) (pr) (1000) (tk) (8) (le) (576) (co) (576) (fr) (10) (em) (192) (M.2.1) (10) (nb) (10) (su)) (mW cI cZ qm mp mt ml mc mf me mg mh mu (cd) (nI k) (nI n) (nI (pn)) (nI (nx)) (ep) (nI (M.1)) (M.2.2.1) (M.2.2.2) (wi) (1) (1) (tf) (tt) (nI fx) (ln) (bx) (1000) (pr) (1000) (tk) (8) (upd le fx ln) (576) (cp_f fr 576 co) (576) (fr) (10) (em) (192) (M.2.1) (10) (nb) (10) (su)) := by
  refine sd_ofV (by decide) (Nat.le_of_ble_eq_true rfl) ?_
  intro p e s m below meth c A ls hx hb hr hml hlk hown hts hK hP hD hA hS hl
  have hl : lv_has ls 2 [(0, .ref qm)] := hl
  refine lv_aload_n hx hb d_M_flip_0 rfl (lv_at hl 0 rfl) ?_
  refine lv_iconst (v := 1) hx hb d_M_flip_1 (by decide) ?_
  refine va_put (D := D) (ci := 5) (v := .int (1)) (ty := .boolean) (C := R_M) (T := F_M) (N := 26) hx hb hts wl_M t_M t_M_ok n_M hown hK hP hD hS 0 rfl rfl 18 (by decide) (hts _ wf_M_97) (fun _ h9 => h9) rfl (by decide +kernel) rfl rfl (Nat.le_of_ble_eq_true rfl) d_M_flip_2 (fun H locs hP hD hS => ?_)
  have hP : va_P D cls (mW cI cZ qm mp mt ml mc mf me mg mh mu (cd) (nI k) (nI n) (nI (pn)) (nI (nx)) (ep) (nI (M.1)) (M.2.2.1) (M.2.2.2) (wi) (1) (1) (tf) (tt) (nI fx) (ln) (bx) (1000) (pr) (1000) (tk) (8) (le) (576) (co) (576) (fr) (10) (em) (192) (M.2.1) (10) (nb) (10) (su)) H := hP
  have hD : va_D A (mW cI cZ qm mp mt ml mc mf me mg mh mu (cd) (nI k) (nI n) (nI (pn)) (nI (nx)) (ep) (nI (M.1)) (M.2.2.1) (M.2.2.2) (wi) (1) (1) (tf) (tt) (nI fx) (ln) (bx) (1000) (pr) (1000) (tk) (8) (le) (576) (co) (576) (fr) (10) (em) (192) (M.2.1) (10) (nb) (10) (su)) := hD
  refine lv_aload_n hx hb d_M_flip_5 rfl (lv_at hl 0 rfl) ?_
  refine va_get (D := D) (ci := 5) (v := .int (1)) (C := R_M) (T := F_M) (N := 26) hx hb hts wl_M hown hK hP 0 rfl rfl 17 (by decide) (hts _ wf_M_100) (fun _ h9 => h9) rfl d_M_flip_6 ?_
  refine lv_iconst (v := 1) hx hb d_M_flip_9 (by decide) ?_
  refine lv_icmp_ne (tgt := 26) hx hb d_M_flip_10 rfl (fun hc10 => ?_) (fun hc10 => ?_)
  · skip
    exact False.elim (by revert hc10; decide)
  · skip
    refine lv_aload_n hx hb d_M_flip_13 rfl (lv_at hl 0 rfl) ?_
    refine va_get (D := D) (ci := 5) (v := .ref ml) (C := R_M) (T := F_M) (N := 26) hx hb hts wl_M hown hK hP 0 rfl rfl 7 (by decide) (hts _ wf_M_16) (fun _ h9 => h9) rfl d_M_flip_14 ?_
    refine lv_aload_n hx hb d_M_flip_17 rfl (lv_at hl 0 rfl) ?_
    refine va_get (D := D) (ci := 5) (v := .int (nI fx)) (C := R_M) (T := F_M) (N := 26) hx hb hts wl_M hown hK hP 0 rfl rfl 21 (by decide) (hts _ wf_M_103) (fun _ h9 => h9) rfl d_M_flip_18 ?_
    refine lv_aload_n hx hb d_M_flip_21 rfl (lv_at hl 0 rfl) ?_
    refine va_get (D := D) (ci := 5) (v := .int (ln)) (C := R_M) (T := F_M) (N := 26) hx hb hts wl_M hown hK hP 0 rfl rfl 22 (by decide) (hts _ wf_M_106) (fun _ h9 => h9) rfl d_M_flip_22 ?_
    refine sd_iast (j := fx) hx hb hK hP hD hS 3 0 rfl rfl (by omega) (by omega) d_M_flip_25 (fun H locs hP hD hS => ?_)
    have hP : va_P D cls (mW cI cZ qm mp mt ml mc mf me mg mh mu (cd) (nI k) (nI n) (nI (pn)) (nI (nx)) (ep) (nI (M.1)) (M.2.2.1) (M.2.2.2) (wi) (1) (1) (tf) (tt) (nI fx) (ln) (bx) (1000) (pr) (1000) (tk) (8) (upd (le) (fx) (ln)) (576) (co) (576) (fr) (10) (em) (192) (M.2.1) (10) (nb) (10) (su)) H := hP
    have hD : va_D A (mW cI cZ qm mp mt ml mc mf me mg mh mu (cd) (nI k) (nI n) (nI (pn)) (nI (nx)) (ep) (nI (M.1)) (M.2.2.1) (M.2.2.2) (wi) (1) (1) (tf) (tt) (nI fx) (ln) (bx) (1000) (pr) (1000) (tk) (8) (upd (le) (fx) (ln)) (576) (co) (576) (fr) (10) (em) (192) (M.2.1) (10) (nb) (10) (su)) := hD
    refine lv_aload_n hx hb d_M_flip_26 rfl (lv_at hl 0 rfl) ?_
    refine va_get (D := D) (ci := 5) (v := .int (1)) (C := R_M) (T := F_M) (N := 26) hx hb hts wl_M hown hK hP 0 rfl rfl 17 (by decide) (hts _ wf_M_100) (fun _ h9 => h9) rfl d_M_flip_27 ?_
    refine lv_iconst (v := 3) hx hb d_M_flip_30 (by decide) ?_
    refine lv_icmp_ne (tgt := 47) hx hb d_M_flip_31 rfl (fun hc31 => ?_) (fun hc31 => ?_)
    · skip
      refine lv_iconst (v := 0) hx hb d_M_flip_47 (by decide) ?_
      refine sd_top (y := nI 0) (rfl) ?_
      refine lv_istore_n hx hb d_M_flip_48 rfl hl (Nat.le_of_ble_eq_true rfl) (lv' := [(1, .int (nI 0)), (0, .ref qm)]) rfl (fun ls hl => ?_)
      have hl := lv_sub hl (l' := [(0, .ref qm), (1, .int (nI 0))]) [1, 0] rfl
      have loop49 : ∀ (d : Nat) (j : Nat) (ls : Array Slot) (H : Heap) (locs : List Loc), 576 - j = d → (j ≤ 576) → lv_has ls 2 [(0, .ref qm), (1, .int (nI (j)))] → va_P D cls (mW cI cZ qm mp mt ml mc mf me mg mh mu (cd) (nI k) (nI n) (nI (pn)) (nI (nx)) (ep) (nI (M.1)) (M.2.2.1) (M.2.2.2) (wi) (1) (1) (tf) (tt) (nI fx) (ln) (bx) (1000) (pr) (1000) (tk) (8) (upd le fx ln) (576) (cp_f fr j co) (576) (fr) (10) (em) (192) (M.2.1) (10) (nb) (10) (su)) H → va_D A (mW cI cZ qm mp mt ml mc mf me mg mh mu (cd) (nI k) (nI n) (nI (pn)) (nI (nx)) (ep) (nI (M.1)) (M.2.2.1) (M.2.2.2) (wi) (1) (1) (tf) (tt) (nI fx) (ln) (bx) (1000) (pr) (1000) (tk) (8) (upd le fx ln) (576) (cp_f fr j co) (576) (fr) (10) (em) (192) (M.2.1) (10) (nb) (10) (su)) → va_S A s.heap H locs → W p l e ({ frames := 0, cells := 0, slots := 0, locals := 0 }) s m ([.ref qm] : List Value).toArray below meth c H locs 0 0 (MQ below (sd_qv D (mW cI cZ qm mp mt ml mc mf me mg mh mu (cd) (nI k) (nI n) (nI (pn)) (nI (nx)) (ep) (nI (M.1)) (M.2.2.1) (M.2.2.2) (wi) (1) (1) (tf) (tt) (nI fx) (ln) (bx) (1000) (pr) (1000) (tk) (8) (upd le fx ln) (576) (cp_f fr 576 co) (576) (fr) (10) (em) (192) (M.2.1) (10) (nb) (10) (su)) A) ([.ref qm] : List Value).toArray s 0 0 A) (F0 m 49 ls []) := by
        intro d
        induction d using Nat.strongRecOn with
        | _ d ih49 =>
        intro j ls H locs hd hj hl hP hD hS
        subst hd
        refine lv_iload_n hx hb d_M_flip_49 rfl (lv_at hl 1 rfl) ?_
        refine lv_sipush (v := nI 576) hx hb d_M_flip_50 (by decide) ?_
        refine lv_icmp_ge (tgt := 74) hx hb d_M_flip_53 rfl (fun hc53 => ?_) (fun hc53 => ?_)
        · skip
          rw [nI_leI (by omega) (by omega)] at hc53
          have hj8 : 576 = j := by omega
          subst hj8
          refine lv_aload_n hx hb d_M_flip_74 rfl (lv_at hl 0 rfl) ?_
          refine lv_aload_n hx hb d_M_flip_75 rfl (lv_at hl 0 rfl) ?_
          refine va_get (D := D) (ci := 5) (v := .int (1)) (C := R_M) (T := F_M) (N := 26) hx hb hts wl_M hown hK hP 0 rfl rfl 17 (by decide) (hts _ wf_M_100) (fun _ h9 => h9) rfl d_M_flip_76 ?_
          refine lv_iconst (v := 2) hx hb d_M_flip_79 (by decide) ?_
          refine lv_icmp_ne (tgt := 92) hx hb d_M_flip_80 rfl (fun hc80 => ?_) (fun hc80 => ?_)
          · skip
            refine lv_aload_n hx hb d_M_flip_92 rfl (lv_at hl 0 rfl) ?_
            refine va_get (D := D) (ci := 5) (v := .int (ep)) (C := R_M) (T := F_M) (N := 26) hx hb hts wl_M hown hK hP 0 rfl rfl 10 (by decide) (hts _ wf_M_109) (fun _ h9 => h9) rfl d_M_flip_93 ?_
            refine va_put (D := D) (ci := 5) (v := .int (ep)) (ty := .int) (C := R_M) (T := F_M) (N := 26) hx hb hts wl_M t_M t_M_ok n_M hown hK hP hD hS 0 rfl rfl 10 (by decide) (hts _ wf_M_109) (fun _ h9 => h9) rfl (by decide +kernel) rfl rfl (Nat.le_of_ble_eq_true rfl) d_M_flip_96 (fun H locs hP hD hS => ?_)
            have hP : va_P D cls (mW cI cZ qm mp mt ml mc mf me mg mh mu (cd) (nI k) (nI n) (nI (pn)) (nI (nx)) (ep) (nI (M.1)) (M.2.2.1) (M.2.2.2) (wi) (1) (1) (tf) (tt) (nI fx) (ln) (bx) (1000) (pr) (1000) (tk) (8) (upd le fx ln) (576) (cp_f fr 576 co) (576) (fr) (10) (em) (192) (M.2.1) (10) (nb) (10) (su)) H := hP
            have hD : va_D A (mW cI cZ qm mp mt ml mc mf me mg mh mu (cd) (nI k) (nI n) (nI (pn)) (nI (nx)) (ep) (nI (M.1)) (M.2.2.1) (M.2.2.2) (wi) (1) (1) (tf) (tt) (nI fx) (ln) (bx) (1000) (pr) (1000) (tk) (8) (upd le fx ln) (576) (cp_f fr 576 co) (576) (fr) (10) (em) (192) (M.2.1) (10) (nb) (10) (su)) := hD
            exact sd_vret hx hb hr hlk hP hS (Nat.le_of_ble_eq_true rfl) (Nat.le_of_ble_eq_true rfl) d_M_flip_99
          · skip
            exact False.elim (by revert hc80; decide)
        · skip
          rw [nI_leI (by omega) (by omega)] at hc53
          refine lv_aload_n hx hb d_M_flip_56 rfl (lv_at hl 0 rfl) ?_
          refine va_get (D := D) (ci := 5) (v := .ref mc) (C := R_M) (T := F_M) (N := 26) hx hb hts wl_M hown hK hP 0 rfl rfl 8 (by decide) (hts _ wf_M_19) (fun _ h9 => h9) rfl d_M_flip_57 ?_
          refine lv_iload_n hx hb d_M_flip_60 rfl (lv_at hl 1 rfl) ?_
          refine lv_aload_n hx hb d_M_flip_61 rfl (lv_at hl 0 rfl) ?_
          refine va_get (D := D) (ci := 5) (v := .ref mf) (C := R_M) (T := F_M) (N := 26) hx hb hts wl_M hown hK hP 0 rfl rfl 9 (by decide) (hts _ wf_M_22) (fun _ h9 => h9) rfl d_M_flip_62 ?_
          refine lv_iload_n hx hb d_M_flip_65 rfl (lv_at hl 1 rfl) ?_
          refine sd_iald (j := j) hx hb hK hP 5 0 rfl rfl (by omega) (by omega) d_M_flip_66 ?_
          refine sd_iast (j := j) hx hb hK hP hD hS 4 0 rfl rfl (by omega) (by omega) d_M_flip_67 (fun H locs hP hD hS => ?_)
          have hP : va_P D cls (mW cI cZ qm mp mt ml mc mf me mg mh mu (cd) (nI k) (nI n) (nI (pn)) (nI (nx)) (ep) (nI (M.1)) (M.2.2.1) (M.2.2.2) (wi) (1) (1) (tf) (tt) (nI fx) (ln) (bx) (1000) (pr) (1000) (tk) (8) (upd le fx ln) (576) (upd (cp_f fr j co) (j) (fr (j))) (576) (fr) (10) (em) (192) (M.2.1) (10) (nb) (10) (su)) H := hP
          have hD : va_D A (mW cI cZ qm mp mt ml mc mf me mg mh mu (cd) (nI k) (nI n) (nI (pn)) (nI (nx)) (ep) (nI (M.1)) (M.2.2.1) (M.2.2.2) (wi) (1) (1) (tf) (tt) (nI fx) (ln) (bx) (1000) (pr) (1000) (tk) (8) (upd le fx ln) (576) (upd (cp_f fr j co) (j) (fr (j))) (576) (fr) (10) (em) (192) (M.2.1) (10) (nb) (10) (su)) := hD
          refine lv_iinc hx hb d_M_flip_68 hl (k := 1) rfl (v := nI (j + 1)) (ii_1 _) (Nat.le_of_ble_eq_true rfl) (lv' := [(1, .int (nI (j + 1))), (0, .ref qm)]) rfl (fun ls hl => ?_)
          refine lv_goto (tgt := 49) hx hb d_M_flip_71 rfl ?_
          have hl := lv_sub hl (l' := [(0, .ref qm), (1, .int (nI (j + 1)))]) [1, 0] rfl
          exact ih49 _ (by omega) (j + 1) ls _ _ rfl (by omega) hl hP hD hS
      exact loop49 _ (0) ls _ _ rfl (by omega) hl hP hD hS
    · skip
      exact False.elim (by revert hc31; decide)
set_option maxHeartbeats 4000000 in
set_option maxRecDepth 100000 in
theorem c_M_flip_2 (l : Launch) (D : va_G) (cI cZ cQ : ClassId) (qm : Nat) (mp : Nat) (mt : Nat) (ml : Nat) (mc : Nat) (mf : Nat) (me : Nat) (mg : Nat) (mh : Nat) (mu : Nat) (k : Nat) (n : Nat) (pn : Nat) (nx : Nat) (cd : Int32) (ep : Int32) (M : mm_T) (wi : Int32) (fp : Int32) (tf : Int32) (tt : Int32) (fi : Int32) (ln : Int32) (bx : Int32) (pr : Nat → Int32) (tk : Nat → Int32) (le : Nat → Int32) (co : Nat → Int32) (fr : Nat → Int32) (em : Nat → Int32) (nb : Nat → Int32) (su : Nat → Int32) (hk : k ≤ 9) (hn : n ≤ 9) : sd_V l D (tyL cI cZ cQ) y_M_flip b_M_flip 2 ({ frames := 0, cells := 0, slots := 0, locals := 0 }) [.ref qm] (mW cI cZ qm mp mt ml mc mf me mg mh mu (cd) (nI k) (nI n) (nI (pn)) (nI (nx)) (ep) (nI (M.1)) (M.2.2.1) (M.2.2.2) (wi) (2) (fp) (tf) (tt) (fi) (ln) (bx) (1000) (pr) (1000) (tk) (8) (le) (576) (co) (576) (fr) (10) (em) (192) (M.2.1) (10) (nb) (10) (su)) (mW cI cZ qm mp mt ml mc mf me mg mh mu (cd) (nI k) (nI n) (nI (pn)) (nI (nx)) (ep + 1) (nI (M.1)) (M.2.2.1) (M.2.2.2) (wi) (2) (1) (tf) (tt) (fi) (ln) (bx) (1000) (pr) (1000) (tk) (8) (le) (576) (cp_f fr 576 co) (576) (fr) (10) (em) (192) (M.2.1) (10) (nb) (10) (su)) := by
  refine sd_ofV (by decide) (Nat.le_of_ble_eq_true rfl) ?_
  intro p e s m below meth c A ls hx hb hr hml hlk hown hts hK hP hD hA hS hl
  have hl : lv_has ls 2 [(0, .ref qm)] := hl
  refine lv_aload_n hx hb d_M_flip_0 rfl (lv_at hl 0 rfl) ?_
  refine lv_iconst (v := 1) hx hb d_M_flip_1 (by decide) ?_
  refine va_put (D := D) (ci := 5) (v := .int (1)) (ty := .boolean) (C := R_M) (T := F_M) (N := 26) hx hb hts wl_M t_M t_M_ok n_M hown hK hP hD hS 0 rfl rfl 18 (by decide) (hts _ wf_M_97) (fun _ h9 => h9) rfl (by decide +kernel) rfl rfl (Nat.le_of_ble_eq_true rfl) d_M_flip_2 (fun H locs hP hD hS => ?_)
  have hP : va_P D cls (mW cI cZ qm mp mt ml mc mf me mg mh mu (cd) (nI k) (nI n) (nI (pn)) (nI (nx)) (ep) (nI (M.1)) (M.2.2.1) (M.2.2.2) (wi) (2) (1) (tf) (tt) (fi) (ln) (bx) (1000) (pr) (1000) (tk) (8) (le) (576) (co) (576) (fr) (10) (em) (192) (M.2.1) (10) (nb) (10) (su)) H := hP
  have hD : va_D A (mW cI cZ qm mp mt ml mc mf me mg mh mu (cd) (nI k) (nI n) (nI (pn)) (nI (nx)) (ep) (nI (M.1)) (M.2.2.1) (M.2.2.2) (wi) (2) (1) (tf) (tt) (fi) (ln) (bx) (1000) (pr) (1000) (tk) (8) (le) (576) (co) (576) (fr) (10) (em) (192) (M.2.1) (10) (nb) (10) (su)) := hD
  refine lv_aload_n hx hb d_M_flip_5 rfl (lv_at hl 0 rfl) ?_
  refine va_get (D := D) (ci := 5) (v := .int (2)) (C := R_M) (T := F_M) (N := 26) hx hb hts wl_M hown hK hP 0 rfl rfl 17 (by decide) (hts _ wf_M_100) (fun _ h9 => h9) rfl d_M_flip_6 ?_
  refine lv_iconst (v := 1) hx hb d_M_flip_9 (by decide) ?_
  refine lv_icmp_ne (tgt := 26) hx hb d_M_flip_10 rfl (fun hc10 => ?_) (fun hc10 => ?_)
  · skip
    refine lv_aload_n hx hb d_M_flip_26 rfl (lv_at hl 0 rfl) ?_
    refine va_get (D := D) (ci := 5) (v := .int (2)) (C := R_M) (T := F_M) (N := 26) hx hb hts wl_M hown hK hP 0 rfl rfl 17 (by decide) (hts _ wf_M_100) (fun _ h9 => h9) rfl d_M_flip_27 ?_
    refine lv_iconst (v := 3) hx hb d_M_flip_30 (by decide) ?_
    refine lv_icmp_ne (tgt := 47) hx hb d_M_flip_31 rfl (fun hc31 => ?_) (fun hc31 => ?_)
    · skip
      refine lv_iconst (v := 0) hx hb d_M_flip_47 (by decide) ?_
      refine sd_top (y := nI 0) (rfl) ?_
      refine lv_istore_n hx hb d_M_flip_48 rfl hl (Nat.le_of_ble_eq_true rfl) (lv' := [(1, .int (nI 0)), (0, .ref qm)]) rfl (fun ls hl => ?_)
      have hl := lv_sub hl (l' := [(0, .ref qm), (1, .int (nI 0))]) [1, 0] rfl
      have loop49 : ∀ (d : Nat) (j : Nat) (ls : Array Slot) (H : Heap) (locs : List Loc), 576 - j = d → (j ≤ 576) → lv_has ls 2 [(0, .ref qm), (1, .int (nI (j)))] → va_P D cls (mW cI cZ qm mp mt ml mc mf me mg mh mu (cd) (nI k) (nI n) (nI (pn)) (nI (nx)) (ep) (nI (M.1)) (M.2.2.1) (M.2.2.2) (wi) (2) (1) (tf) (tt) (fi) (ln) (bx) (1000) (pr) (1000) (tk) (8) (le) (576) (cp_f fr j co) (576) (fr) (10) (em) (192) (M.2.1) (10) (nb) (10) (su)) H → va_D A (mW cI cZ qm mp mt ml mc mf me mg mh mu (cd) (nI k) (nI n) (nI (pn)) (nI (nx)) (ep) (nI (M.1)) (M.2.2.1) (M.2.2.2) (wi) (2) (1) (tf) (tt) (fi) (ln) (bx) (1000) (pr) (1000) (tk) (8) (le) (576) (cp_f fr j co) (576) (fr) (10) (em) (192) (M.2.1) (10) (nb) (10) (su)) → va_S A s.heap H locs → W p l e ({ frames := 0, cells := 0, slots := 0, locals := 0 }) s m ([.ref qm] : List Value).toArray below meth c H locs 0 0 (MQ below (sd_qv D (mW cI cZ qm mp mt ml mc mf me mg mh mu (cd) (nI k) (nI n) (nI (pn)) (nI (nx)) (ep + 1) (nI (M.1)) (M.2.2.1) (M.2.2.2) (wi) (2) (1) (tf) (tt) (fi) (ln) (bx) (1000) (pr) (1000) (tk) (8) (le) (576) (cp_f fr 576 co) (576) (fr) (10) (em) (192) (M.2.1) (10) (nb) (10) (su)) A) ([.ref qm] : List Value).toArray s 0 0 A) (F0 m 49 ls []) := by
        intro d
        induction d using Nat.strongRecOn with
        | _ d ih49 =>
        intro j ls H locs hd hj hl hP hD hS
        subst hd
        refine lv_iload_n hx hb d_M_flip_49 rfl (lv_at hl 1 rfl) ?_
        refine lv_sipush (v := nI 576) hx hb d_M_flip_50 (by decide) ?_
        refine lv_icmp_ge (tgt := 74) hx hb d_M_flip_53 rfl (fun hc53 => ?_) (fun hc53 => ?_)
        · skip
          rw [nI_leI (by omega) (by omega)] at hc53
          have hj8 : 576 = j := by omega
          subst hj8
          refine lv_aload_n hx hb d_M_flip_74 rfl (lv_at hl 0 rfl) ?_
          refine lv_aload_n hx hb d_M_flip_75 rfl (lv_at hl 0 rfl) ?_
          refine va_get (D := D) (ci := 5) (v := .int (2)) (C := R_M) (T := F_M) (N := 26) hx hb hts wl_M hown hK hP 0 rfl rfl 17 (by decide) (hts _ wf_M_100) (fun _ h9 => h9) rfl d_M_flip_76 ?_
          refine lv_iconst (v := 2) hx hb d_M_flip_79 (by decide) ?_
          refine lv_icmp_ne (tgt := 92) hx hb d_M_flip_80 rfl (fun hc80 => ?_) (fun hc80 => ?_)
          · skip
            exact False.elim (by revert hc80; decide)
          · skip
            refine lv_aload_n hx hb d_M_flip_83 rfl (lv_at hl 0 rfl) ?_
            refine va_get (D := D) (ci := 5) (v := .int (ep)) (C := R_M) (T := F_M) (N := 26) hx hb hts wl_M hown hK hP 0 rfl rfl 10 (by decide) (hts _ wf_M_109) (fun _ h9 => h9) rfl d_M_flip_84 ?_
            refine lv_iconst (v := 1) hx hb d_M_flip_87 (by decide) ?_
            refine lv_iadd hx hb d_M_flip_88 ?_
            refine lv_goto (tgt := 96) hx hb d_M_flip_89 rfl ?_
            refine va_put (D := D) (ci := 5) (v := .int ((ep) + (1))) (ty := .int) (C := R_M) (T := F_M) (N := 26) hx hb hts wl_M t_M t_M_ok n_M hown hK hP hD hS 0 rfl rfl 10 (by decide) (hts _ wf_M_109) (fun _ h9 => h9) rfl (by decide +kernel) rfl rfl (Nat.le_of_ble_eq_true rfl) d_M_flip_96 (fun H locs hP hD hS => ?_)
            have hP : va_P D cls (mW cI cZ qm mp mt ml mc mf me mg mh mu (cd) (nI k) (nI n) (nI (pn)) (nI (nx)) ((ep) + (1)) (nI (M.1)) (M.2.2.1) (M.2.2.2) (wi) (2) (1) (tf) (tt) (fi) (ln) (bx) (1000) (pr) (1000) (tk) (8) (le) (576) (cp_f fr 576 co) (576) (fr) (10) (em) (192) (M.2.1) (10) (nb) (10) (su)) H := hP
            have hD : va_D A (mW cI cZ qm mp mt ml mc mf me mg mh mu (cd) (nI k) (nI n) (nI (pn)) (nI (nx)) ((ep) + (1)) (nI (M.1)) (M.2.2.1) (M.2.2.2) (wi) (2) (1) (tf) (tt) (fi) (ln) (bx) (1000) (pr) (1000) (tk) (8) (le) (576) (cp_f fr 576 co) (576) (fr) (10) (em) (192) (M.2.1) (10) (nb) (10) (su)) := hD
            exact sd_vret hx hb hr hlk hP hS (Nat.le_of_ble_eq_true rfl) (Nat.le_of_ble_eq_true rfl) d_M_flip_99
        · skip
          rw [nI_leI (by omega) (by omega)] at hc53
          refine lv_aload_n hx hb d_M_flip_56 rfl (lv_at hl 0 rfl) ?_
          refine va_get (D := D) (ci := 5) (v := .ref mc) (C := R_M) (T := F_M) (N := 26) hx hb hts wl_M hown hK hP 0 rfl rfl 8 (by decide) (hts _ wf_M_19) (fun _ h9 => h9) rfl d_M_flip_57 ?_
          refine lv_iload_n hx hb d_M_flip_60 rfl (lv_at hl 1 rfl) ?_
          refine lv_aload_n hx hb d_M_flip_61 rfl (lv_at hl 0 rfl) ?_
          refine va_get (D := D) (ci := 5) (v := .ref mf) (C := R_M) (T := F_M) (N := 26) hx hb hts wl_M hown hK hP 0 rfl rfl 9 (by decide) (hts _ wf_M_22) (fun _ h9 => h9) rfl d_M_flip_62 ?_
          refine lv_iload_n hx hb d_M_flip_65 rfl (lv_at hl 1 rfl) ?_
          refine sd_iald (j := j) hx hb hK hP 5 0 rfl rfl (by omega) (by omega) d_M_flip_66 ?_
          refine sd_iast (j := j) hx hb hK hP hD hS 4 0 rfl rfl (by omega) (by omega) d_M_flip_67 (fun H locs hP hD hS => ?_)
          have hP : va_P D cls (mW cI cZ qm mp mt ml mc mf me mg mh mu (cd) (nI k) (nI n) (nI (pn)) (nI (nx)) (ep) (nI (M.1)) (M.2.2.1) (M.2.2.2) (wi) (2) (1) (tf) (tt) (fi) (ln) (bx) (1000) (pr) (1000) (tk) (8) (le) (576) (upd (cp_f fr j co) (j) (fr (j))) (576) (fr) (10) (em) (192) (M.2.1) (10) (nb) (10) (su)) H := hP
          have hD : va_D A (mW cI cZ qm mp mt ml mc mf me mg mh mu (cd) (nI k) (nI n) (nI (pn)) (nI (nx)) (ep) (nI (M.1)) (M.2.2.1) (M.2.2.2) (wi) (2) (1) (tf) (tt) (fi) (ln) (bx) (1000) (pr) (1000) (tk) (8) (le) (576) (upd (cp_f fr j co) (j) (fr (j))) (576) (fr) (10) (em) (192) (M.2.1) (10) (nb) (10) (su)) := hD
          refine lv_iinc hx hb d_M_flip_68 hl (k := 1) rfl (v := nI (j + 1)) (ii_1 _) (Nat.le_of_ble_eq_true rfl) (lv' := [(1, .int (nI (j + 1))), (0, .ref qm)]) rfl (fun ls hl => ?_)
          refine lv_goto (tgt := 49) hx hb d_M_flip_71 rfl ?_
          have hl := lv_sub hl (l' := [(0, .ref qm), (1, .int (nI (j + 1)))]) [1, 0] rfl
          exact ih49 _ (by omega) (j + 1) ls _ _ rfl (by omega) hl hP hD hS
      exact loop49 _ (0) ls _ _ rfl (by omega) hl hP hD hS
    · skip
      exact False.elim (by revert hc31; decide)
  · skip
    exact False.elim (by revert hc10; decide)
set_option maxHeartbeats 4000000 in
set_option maxRecDepth 100000 in
theorem c_M_flip_3 (l : Launch) (D : va_G) (cI cZ cQ : ClassId) (qm : Nat) (mp : Nat) (mt : Nat) (ml : Nat) (mc : Nat) (mf : Nat) (me : Nat) (mg : Nat) (mh : Nat) (mu : Nat) (k : Nat) (n : Nat) (pn : Nat) (nx : Nat) (cd : Int32) (ep : Int32) (M : mm_T) (wi : Int32) (fp : Int32) (tf : Int32) (tt : Int32) (fi : Int32) (ln : Int32) (pr : Nat → Int32) (tk : Nat → Int32) (le : Nat → Int32) (co : Nat → Int32) (fr : Nat → Int32) (em : Nat → Int32) (nb : Nat → Int32) (su : Nat → Int32) (x : Nat) (hk : k ≤ 9) (hn : n ≤ 9) (hx9 : x ≤ 9) : sd_V l D (tyL cI cZ cQ) y_M_flip b_M_flip 2 ({ frames := 0, cells := 0, slots := 0, locals := 0 }) [.ref qm] (mW cI cZ qm mp mt ml mc mf me mg mh mu (cd) (nI k) (nI n) (nI (pn)) (nI (nx)) (ep) (nI (M.1)) (M.2.2.1) (M.2.2.2) (wi) (3) (fp) (tf) (tt) (fi) (ln) (bI (BitVec.ofNat 8 x)) (1000) (pr) (1000) (tk) (8) (le) (576) (co) (576) (fr) (10) (em) (192) (M.2.1) (10) (nb) (10) (su)) (mW cI cZ qm mp mt ml mc mf me mg mh mu (cd) (nI k) (nI n) (nI (pn)) (nI (nx)) (ep) (nI (M.1)) (M.2.2.1) (M.2.2.2) (wi) (3) (1) (tf) (tt) (fi) (ln) (bI (BitVec.ofNat 8 x)) (1000) (pr) (1000) (tk) (8) (le) (576) (co) (576) (fr) (10) (upd em x 0) (192) (M.2.1) (10) (nb) (10) (su)) := by
  refine sd_ofV (by decide) (Nat.le_of_ble_eq_true rfl) ?_
  intro p e s m below meth c A ls hx hb hr hml hlk hown hts hK hP hD hA hS hl
  have hl : lv_has ls 2 [(0, .ref qm)] := hl
  refine lv_aload_n hx hb d_M_flip_0 rfl (lv_at hl 0 rfl) ?_
  refine lv_iconst (v := 1) hx hb d_M_flip_1 (by decide) ?_
  refine va_put (D := D) (ci := 5) (v := .int (1)) (ty := .boolean) (C := R_M) (T := F_M) (N := 26) hx hb hts wl_M t_M t_M_ok n_M hown hK hP hD hS 0 rfl rfl 18 (by decide) (hts _ wf_M_97) (fun _ h9 => h9) rfl (by decide +kernel) rfl rfl (Nat.le_of_ble_eq_true rfl) d_M_flip_2 (fun H locs hP hD hS => ?_)
  have hP : va_P D cls (mW cI cZ qm mp mt ml mc mf me mg mh mu (cd) (nI k) (nI n) (nI (pn)) (nI (nx)) (ep) (nI (M.1)) (M.2.2.1) (M.2.2.2) (wi) (3) (1) (tf) (tt) (fi) (ln) (bI (BitVec.ofNat 8 x)) (1000) (pr) (1000) (tk) (8) (le) (576) (co) (576) (fr) (10) (em) (192) (M.2.1) (10) (nb) (10) (su)) H := hP
  have hD : va_D A (mW cI cZ qm mp mt ml mc mf me mg mh mu (cd) (nI k) (nI n) (nI (pn)) (nI (nx)) (ep) (nI (M.1)) (M.2.2.1) (M.2.2.2) (wi) (3) (1) (tf) (tt) (fi) (ln) (bI (BitVec.ofNat 8 x)) (1000) (pr) (1000) (tk) (8) (le) (576) (co) (576) (fr) (10) (em) (192) (M.2.1) (10) (nb) (10) (su)) := hD
  refine lv_aload_n hx hb d_M_flip_5 rfl (lv_at hl 0 rfl) ?_
  refine va_get (D := D) (ci := 5) (v := .int (3)) (C := R_M) (T := F_M) (N := 26) hx hb hts wl_M hown hK hP 0 rfl rfl 17 (by decide) (hts _ wf_M_100) (fun _ h9 => h9) rfl d_M_flip_6 ?_
  refine lv_iconst (v := 1) hx hb d_M_flip_9 (by decide) ?_
  refine lv_icmp_ne (tgt := 26) hx hb d_M_flip_10 rfl (fun hc10 => ?_) (fun hc10 => ?_)
  · skip
    refine lv_aload_n hx hb d_M_flip_26 rfl (lv_at hl 0 rfl) ?_
    refine va_get (D := D) (ci := 5) (v := .int (3)) (C := R_M) (T := F_M) (N := 26) hx hb hts wl_M hown hK hP 0 rfl rfl 17 (by decide) (hts _ wf_M_100) (fun _ h9 => h9) rfl d_M_flip_27 ?_
    refine lv_iconst (v := 3) hx hb d_M_flip_30 (by decide) ?_
    refine lv_icmp_ne (tgt := 47) hx hb d_M_flip_31 rfl (fun hc31 => ?_) (fun hc31 => ?_)
    · skip
      exact False.elim (by revert hc31; decide)
    · skip
      refine lv_aload_n hx hb d_M_flip_34 rfl (lv_at hl 0 rfl) ?_
      refine va_get (D := D) (ci := 5) (v := .ref me) (C := R_M) (T := F_M) (N := 26) hx hb hts wl_M hown hK hP 0 rfl rfl 11 (by decide) (hts _ wf_M_25) (fun _ h9 => h9) rfl d_M_flip_35 ?_
      refine lv_aload_n hx hb d_M_flip_38 rfl (lv_at hl 0 rfl) ?_
      refine va_get (D := D) (ci := 5) (v := .int (bI (BitVec.ofNat 8 x))) (C := R_M) (T := F_M) (N := 26) hx hb hts wl_M hown hK hP 0 rfl rfl 23 (by decide) (hts _ wf_M_85) (fun _ h9 => h9) rfl d_M_flip_39 ?_
      refine sd_top (y := nI (x)) ((bI_of (by omega)).symm) ?_
      refine lv_iconst (v := 0) hx hb d_M_flip_42 (by decide) ?_
      refine sd_zast (j := x) hx hb hK hP hD hS 6 1 rfl rfl (by decide) (by omega) (by omega) d_M_flip_43 (fun H locs hP hD hS => ?_)
      have hP : va_P D cls (mW cI cZ qm mp mt ml mc mf me mg mh mu (cd) (nI k) (nI n) (nI (pn)) (nI (nx)) (ep) (nI (M.1)) (M.2.2.1) (M.2.2.2) (wi) (3) (1) (tf) (tt) (fi) (ln) (bI (BitVec.ofNat 8 x)) (1000) (pr) (1000) (tk) (8) (le) (576) (co) (576) (fr) (10) (upd (em) (x) (0)) (192) (M.2.1) (10) (nb) (10) (su)) H := hP
      have hD : va_D A (mW cI cZ qm mp mt ml mc mf me mg mh mu (cd) (nI k) (nI n) (nI (pn)) (nI (nx)) (ep) (nI (M.1)) (M.2.2.1) (M.2.2.2) (wi) (3) (1) (tf) (tt) (fi) (ln) (bI (BitVec.ofNat 8 x)) (1000) (pr) (1000) (tk) (8) (le) (576) (co) (576) (fr) (10) (upd (em) (x) (0)) (192) (M.2.1) (10) (nb) (10) (su)) := hD
      refine lv_goto (tgt := 74) hx hb d_M_flip_44 rfl ?_
      refine lv_aload_n hx hb d_M_flip_74 rfl (lv_at hl 0 rfl) ?_
      refine lv_aload_n hx hb d_M_flip_75 rfl (lv_at hl 0 rfl) ?_
      refine va_get (D := D) (ci := 5) (v := .int (3)) (C := R_M) (T := F_M) (N := 26) hx hb hts wl_M hown hK hP 0 rfl rfl 17 (by decide) (hts _ wf_M_100) (fun _ h9 => h9) rfl d_M_flip_76 ?_
      refine lv_iconst (v := 2) hx hb d_M_flip_79 (by decide) ?_
      refine lv_icmp_ne (tgt := 92) hx hb d_M_flip_80 rfl (fun hc80 => ?_) (fun hc80 => ?_)
      · skip
        refine lv_aload_n hx hb d_M_flip_92 rfl (lv_at hl 0 rfl) ?_
        refine va_get (D := D) (ci := 5) (v := .int (ep)) (C := R_M) (T := F_M) (N := 26) hx hb hts wl_M hown hK hP 0 rfl rfl 10 (by decide) (hts _ wf_M_109) (fun _ h9 => h9) rfl d_M_flip_93 ?_
        refine va_put (D := D) (ci := 5) (v := .int (ep)) (ty := .int) (C := R_M) (T := F_M) (N := 26) hx hb hts wl_M t_M t_M_ok n_M hown hK hP hD hS 0 rfl rfl 10 (by decide) (hts _ wf_M_109) (fun _ h9 => h9) rfl (by decide +kernel) rfl rfl (Nat.le_of_ble_eq_true rfl) d_M_flip_96 (fun H locs hP hD hS => ?_)
        have hP : va_P D cls (mW cI cZ qm mp mt ml mc mf me mg mh mu (cd) (nI k) (nI n) (nI (pn)) (nI (nx)) (ep) (nI (M.1)) (M.2.2.1) (M.2.2.2) (wi) (3) (1) (tf) (tt) (fi) (ln) (bI (BitVec.ofNat 8 x)) (1000) (pr) (1000) (tk) (8) (le) (576) (co) (576) (fr) (10) (upd (em) (x) (0)) (192) (M.2.1) (10) (nb) (10) (su)) H := hP
        have hD : va_D A (mW cI cZ qm mp mt ml mc mf me mg mh mu (cd) (nI k) (nI n) (nI (pn)) (nI (nx)) (ep) (nI (M.1)) (M.2.2.1) (M.2.2.2) (wi) (3) (1) (tf) (tt) (fi) (ln) (bI (BitVec.ofNat 8 x)) (1000) (pr) (1000) (tk) (8) (le) (576) (co) (576) (fr) (10) (upd (em) (x) (0)) (192) (M.2.1) (10) (nb) (10) (su)) := hD
        exact sd_vret hx hb hr hlk hP hS (Nat.le_of_ble_eq_true rfl) (Nat.le_of_ble_eq_true rfl) d_M_flip_99
      · skip
        exact False.elim (by revert hc80; decide)
  · skip
    exact False.elim (by revert hc10; decide)
