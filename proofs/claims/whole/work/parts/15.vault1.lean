abbrev vW (cI cQ cZ : ClassId) (qv qp qr qj qg qs qh qn qu qw qH qF qc ql qf : Nat) (x0_0 : Int32) (x0_1 : Int32) (x0_10 : Int32) (x1_1 : Int32) (x1_2 : Int32) (z2 : Nat) (f2 : Nat → Int32) (x3_1 : Int32) (x3_2 : Int32) (x3_3 : Int32) (x3_4 : Int32) (x3_5 : Int32) (x3_6 : Int32) (x3_7 : Int32) (x4_1 : Int32) (z5 : Nat) (f5 : Nat → Int32) (z7 : Nat) (f7 : Nat → Int32) (z8 : Nat) (f8 : Nat → Int32) (z9 : Nat) (f9 : Nat → Int32) (z10 : Nat) (f10 : Nat → Option Nat) (z11 : Nat) (f11 : Nat → Option Nat) (z12 : Nat) (f12 : Nat → Int32) (z13 : Nat) (f13 : Nat → Int32) (z14 : Nat) (f14 : Nat → Int32) : va_W := [(qv, .inr (4, [.int x0_0, .int x0_1, .ref qp, .ref qj, .ref qh, .ref qH, .ref qF, .ref qc, .ref ql, .ref qf, .int x0_10])), (qp, .inr (0, [.ref qr, .int x1_1, .int x1_2])), (qr, .inl (cI, z2, .inl (f2))), (qj, .inr (2, [.ref qg, .int x3_1, .int x3_2, .int x3_3, .int x3_4, .int x3_5, .int x3_6, .int x3_7])), (qg, .inr (1, [.ref qs, .int x4_1])), (qs, .inl (cI, z5, .inl (f5))), (qh, .inr (3, [.ref qn, .ref qu, .ref qw])), (qn, .inl (cI, z7, .inl (f7))), (qu, .inl (cI, z8, .inl (f8))), (qw, .inl (cI, z9, .inl (f9))), (qH, .inl (cQ, z10, .inr (.inr (.inr (.inr (f10)))))), (qF, .inl (cQ, z11, .inr (.inr (.inr (.inr (f11)))))), (qc, .inl (cI, z12, .inl (f12))), (ql, .inl (cI, z13, .inl (f13))), (qf, .inl (cZ, z14, .inl (f14)))]
def tpb (k q : Nat) : Nat := if q = 2 then k * (k - 1) else k - 1
def sm_b (ln : Nat → Nat) : Nat → Nat
  | 0 => 0
  | f + 1 => sm_b ln f + ln f
def sm_k (ln : Nat → Nat) : Nat → Nat
  | 0 => 0
  | f + 1 => if 0 < ln f then sm_k ln f + 1 else sm_k ln f
theorem sm_k0 {ln : Nat → Nat} {f : Nat} (h : ¬ 0 < ln f) : sm_k ln (f + 1) = sm_k ln f := if_neg h
theorem sm_k1 {ln : Nat → Nat} {f : Nat} (h : 0 < ln f) : sm_k ln (f + 1) = sm_k ln f + 1 := if_pos h
/-- how many of the boxes 1 .. b hold something -/
def sm_f (fl : Nat → Int32) : Nat → Nat
  | 0 => 0
  | b + 1 => if fl (b + 1) = 0 then sm_f fl b else sm_f fl b + 1
theorem sm_f0 {fl : Nat → Int32} {b : Nat} (h : fl (b + 1) = 0) : sm_f fl (b + 1) = sm_f fl b := if_pos h
theorem sm_f1 {fl : Nat → Int32} {b : Nat} (h : ¬ fl (b + 1) = 0) : sm_f fl (b + 1) = sm_f fl b + 1 := if_neg h
theorem d_H_term_0 : decode b_H_term 0 = .ok (.aload_n 2, 1) := by decide +kernel
theorem d_H_term_1 : decode b_H_term 1 = .ok (.aload_n 0, 1) := by decide +kernel
theorem d_H_term_2 : decode b_H_term 2 = .ok (.getfield 7, 3) := by decide +kernel
theorem d_H_term_5 : decode b_H_term 5 = .ok (.iload_n 1, 1) := by decide +kernel
theorem d_H_term_6 : decode b_H_term 6 = .ok (.iaload, 1) := by decide +kernel
theorem d_H_term_7 : decode b_H_term 7 = .ok (.aaload, 1) := by decide +kernel
theorem d_H_term_8 : decode b_H_term 8 = .ok (.iload_n 3, 1) := by decide +kernel
theorem d_H_term_9 : decode b_H_term 9 = .ok (.iaload, 1) := by decide +kernel
theorem d_H_term_10 : decode b_H_term 10 = .ok (.aload_n 0, 1) := by decide +kernel
theorem d_H_term_11 : decode b_H_term 11 = .ok (.getfield 16, 3) := by decide +kernel
theorem d_H_term_14 : decode b_H_term 14 = .ok (.iload_n 1, 1) := by decide +kernel
theorem d_H_term_15 : decode b_H_term 15 = .ok (.iaload, 1) := by decide +kernel
theorem d_H_term_16 : decode b_H_term 16 = .ok (.invokestatic 19, 3) := by decide +kernel
theorem d_H_term_19 : decode b_H_term 19 = .ok (.ireturn, 1) := by decide +kernel
theorem d_H_join_0 : decode b_H_join 0 = .ok (.iconst 0, 1) := by decide +kernel
theorem d_H_join_1 : decode b_H_join 1 = .ok (.istore_n 3, 1) := by decide +kernel
theorem d_H_join_2 : decode b_H_join 2 = .ok (.iconst 0, 1) := by decide +kernel
theorem d_H_join_3 : decode b_H_join 3 = .ok (.istore 4, 2) := by decide +kernel
theorem d_H_join_5 : decode b_H_join 5 = .ok (.iload 4, 2) := by decide +kernel
theorem d_H_join_7 : decode b_H_join 7 = .ok (.aload_n 0, 1) := by decide +kernel
theorem d_H_join_8 : decode b_H_join 8 = .ok (.getfield 7, 3) := by decide +kernel
theorem d_H_join_11 : decode b_H_join 11 = .ok (.arraylength, 1) := by decide +kernel
theorem d_H_join_12 : decode b_H_join 12 = .ok (.if_icmp .ge 20, 3) := by decide +kernel
theorem d_H_join_15 : decode b_H_join 15 = .ok (.iload_n 3, 1) := by decide +kernel
theorem d_H_join_16 : decode b_H_join 16 = .ok (.aload_n 0, 1) := by decide +kernel
theorem d_H_join_17 : decode b_H_join 17 = .ok (.iload 4, 2) := by decide +kernel
theorem d_H_join_19 : decode b_H_join 19 = .ok (.aload_n 1, 1) := by decide +kernel
theorem d_H_join_20 : decode b_H_join 20 = .ok (.iload_n 2, 1) := by decide +kernel
theorem d_H_join_21 : decode b_H_join 21 = .ok (.invokevirtual 28, 3) := by decide +kernel
theorem d_H_join_24 : decode b_H_join 24 = .ok (.ixor, 1) := by decide +kernel
theorem d_H_join_25 : decode b_H_join 25 = .ok (.istore_n 3, 1) := by decide +kernel
theorem d_H_join_26 : decode b_H_join 26 = .ok (.iinc 4 1, 3) := by decide +kernel
theorem d_H_join_29 : decode b_H_join 29 = .ok (.goto (-24), 3) := by decide +kernel
theorem d_H_join_32 : decode b_H_join 32 = .ok (.iload_n 3, 1) := by decide +kernel
theorem d_H_join_33 : decode b_H_join 33 = .ok (.ireturn, 1) := by decide +kernel
theorem d_V_slot_0 : decode b_V_slot 0 = .ok (.iload_n 0, 1) := by decide +kernel
theorem d_V_slot_1 : decode b_V_slot 1 = .ok (.bipush 8, 2) := by decide +kernel
theorem d_V_slot_3 : decode b_V_slot 3 = .ok (.imul, 1) := by decide +kernel
theorem d_V_slot_4 : decode b_V_slot 4 = .ok (.iload_n 1, 1) := by decide +kernel
theorem d_V_slot_5 : decode b_V_slot 5 = .ok (.iadd, 1) := by decide +kernel
theorem d_V_slot_6 : decode b_V_slot 6 = .ok (.ireturn, 1) := by decide +kernel
theorem d_V_takenPerByte_0 : decode b_V_takenPerByte 0 = .ok (.iload_n 1, 1) := by decide +kernel
theorem d_V_takenPerByte_1 : decode b_V_takenPerByte 1 = .ok (.iconst 2, 1) := by decide +kernel
theorem d_V_takenPerByte_2 : decode b_V_takenPerByte 2 = .ok (.if_icmp .ne 17, 3) := by decide +kernel
theorem d_V_takenPerByte_5 : decode b_V_takenPerByte 5 = .ok (.aload_n 0, 1) := by decide +kernel
theorem d_V_takenPerByte_6 : decode b_V_takenPerByte 6 = .ok (.getfield 43, 3) := by decide +kernel
theorem d_V_takenPerByte_9 : decode b_V_takenPerByte 9 = .ok (.aload_n 0, 1) := by decide +kernel
theorem d_V_takenPerByte_10 : decode b_V_takenPerByte 10 = .ok (.getfield 43, 3) := by decide +kernel
theorem d_V_takenPerByte_13 : decode b_V_takenPerByte 13 = .ok (.iconst 1, 1) := by decide +kernel
theorem d_V_takenPerByte_14 : decode b_V_takenPerByte 14 = .ok (.isub, 1) := by decide +kernel
theorem d_V_takenPerByte_15 : decode b_V_takenPerByte 15 = .ok (.imul, 1) := by decide +kernel
theorem d_V_takenPerByte_16 : decode b_V_takenPerByte 16 = .ok (.goto 9, 3) := by decide +kernel
theorem d_V_takenPerByte_19 : decode b_V_takenPerByte 19 = .ok (.aload_n 0, 1) := by decide +kernel
theorem d_V_takenPerByte_20 : decode b_V_takenPerByte 20 = .ok (.getfield 43, 3) := by decide +kernel
theorem d_V_takenPerByte_23 : decode b_V_takenPerByte 23 = .ok (.iconst 1, 1) := by decide +kernel
theorem d_V_takenPerByte_24 : decode b_V_takenPerByte 24 = .ok (.isub, 1) := by decide +kernel
theorem d_V_takenPerByte_25 : decode b_V_takenPerByte 25 = .ok (.ireturn, 1) := by decide +kernel
theorem d_V_keptBytes_0 : decode b_V_keptBytes 0 = .ok (.iconst 0, 1) := by decide +kernel
theorem d_V_keptBytes_1 : decode b_V_keptBytes 1 = .ok (.istore_n 1, 1) := by decide +kernel
theorem d_V_keptBytes_2 : decode b_V_keptBytes 2 = .ok (.iconst 0, 1) := by decide +kernel
theorem d_V_keptBytes_3 : decode b_V_keptBytes 3 = .ok (.istore_n 2, 1) := by decide +kernel
theorem d_V_keptBytes_4 : decode b_V_keptBytes 4 = .ok (.iload_n 2, 1) := by decide +kernel
theorem d_V_keptBytes_5 : decode b_V_keptBytes 5 = .ok (.bipush 8, 2) := by decide +kernel
theorem d_V_keptBytes_7 : decode b_V_keptBytes 7 = .ok (.if_icmp .ge 18, 3) := by decide +kernel
theorem d_V_keptBytes_10 : decode b_V_keptBytes 10 = .ok (.iload_n 1, 1) := by decide +kernel
theorem d_V_keptBytes_11 : decode b_V_keptBytes 11 = .ok (.aload_n 0, 1) := by decide +kernel
theorem d_V_keptBytes_12 : decode b_V_keptBytes 12 = .ok (.getfield 23, 3) := by decide +kernel
theorem d_V_keptBytes_15 : decode b_V_keptBytes 15 = .ok (.iload_n 2, 1) := by decide +kernel
theorem d_V_keptBytes_16 : decode b_V_keptBytes 16 = .ok (.iaload, 1) := by decide +kernel
theorem d_V_keptBytes_17 : decode b_V_keptBytes 17 = .ok (.iadd, 1) := by decide +kernel
theorem d_V_keptBytes_18 : decode b_V_keptBytes 18 = .ok (.istore_n 1, 1) := by decide +kernel
theorem d_V_keptBytes_19 : decode b_V_keptBytes 19 = .ok (.iinc 2 1, 3) := by decide +kernel
theorem d_V_keptBytes_22 : decode b_V_keptBytes 22 = .ok (.goto (-18), 3) := by decide +kernel
theorem d_V_keptBytes_25 : decode b_V_keptBytes 25 = .ok (.iload_n 1, 1) := by decide +kernel
theorem d_V_keptBytes_26 : decode b_V_keptBytes 26 = .ok (.ireturn, 1) := by decide +kernel
theorem d_V_keptFiles_0 : decode b_V_keptFiles 0 = .ok (.iconst 0, 1) := by decide +kernel
theorem d_V_keptFiles_1 : decode b_V_keptFiles 1 = .ok (.istore_n 1, 1) := by decide +kernel
theorem d_V_keptFiles_2 : decode b_V_keptFiles 2 = .ok (.iconst 0, 1) := by decide +kernel
theorem d_V_keptFiles_3 : decode b_V_keptFiles 3 = .ok (.istore_n 2, 1) := by decide +kernel
theorem d_V_keptFiles_4 : decode b_V_keptFiles 4 = .ok (.iload_n 2, 1) := by decide +kernel
theorem d_V_keptFiles_5 : decode b_V_keptFiles 5 = .ok (.bipush 8, 2) := by decide +kernel
theorem d_V_keptFiles_7 : decode b_V_keptFiles 7 = .ok (.if_icmp .ge 26, 3) := by decide +kernel
theorem d_V_keptFiles_10 : decode b_V_keptFiles 10 = .ok (.iload_n 1, 1) := by decide +kernel
theorem d_V_keptFiles_11 : decode b_V_keptFiles 11 = .ok (.aload_n 0, 1) := by decide +kernel
theorem d_V_keptFiles_12 : decode b_V_keptFiles 12 = .ok (.getfield 23, 3) := by decide +kernel
theorem d_V_keptFiles_15 : decode b_V_keptFiles 15 = .ok (.iload_n 2, 1) := by decide +kernel
theorem d_V_keptFiles_16 : decode b_V_keptFiles 16 = .ok (.iaload, 1) := by decide +kernel
theorem d_V_keptFiles_17 : decode b_V_keptFiles 17 = .ok (.ifCond .le 7, 3) := by decide +kernel
theorem d_V_keptFiles_20 : decode b_V_keptFiles 20 = .ok (.iconst 1, 1) := by decide +kernel
theorem d_V_keptFiles_21 : decode b_V_keptFiles 21 = .ok (.goto 4, 3) := by decide +kernel
theorem d_V_keptFiles_24 : decode b_V_keptFiles 24 = .ok (.iconst 0, 1) := by decide +kernel
theorem d_V_keptFiles_25 : decode b_V_keptFiles 25 = .ok (.iadd, 1) := by decide +kernel
theorem d_V_keptFiles_26 : decode b_V_keptFiles 26 = .ok (.istore_n 1, 1) := by decide +kernel
theorem d_V_keptFiles_27 : decode b_V_keptFiles 27 = .ok (.iinc 2 1, 3) := by decide +kernel
theorem d_V_keptFiles_30 : decode b_V_keptFiles 30 = .ok (.goto (-26), 3) := by decide +kernel
theorem d_V_keptFiles_33 : decode b_V_keptFiles 33 = .ok (.iload_n 1, 1) := by decide +kernel
theorem d_V_keptFiles_34 : decode b_V_keptFiles 34 = .ok (.ireturn, 1) := by decide +kernel
theorem d_V_filledBoxes_0 : decode b_V_filledBoxes 0 = .ok (.iconst 0, 1) := by decide +kernel
theorem d_V_filledBoxes_1 : decode b_V_filledBoxes 1 = .ok (.istore_n 1, 1) := by decide +kernel
theorem d_V_filledBoxes_2 : decode b_V_filledBoxes 2 = .ok (.iconst 1, 1) := by decide +kernel
theorem d_V_filledBoxes_3 : decode b_V_filledBoxes 3 = .ok (.istore_n 2, 1) := by decide +kernel
theorem d_V_filledBoxes_4 : decode b_V_filledBoxes 4 = .ok (.iload_n 2, 1) := by decide +kernel
theorem d_V_filledBoxes_5 : decode b_V_filledBoxes 5 = .ok (.aload_n 0, 1) := by decide +kernel
theorem d_V_filledBoxes_6 : decode b_V_filledBoxes 6 = .ok (.getfield 40, 3) := by decide +kernel
theorem d_V_filledBoxes_9 : decode b_V_filledBoxes 9 = .ok (.if_icmp .gt 26, 3) := by decide +kernel
theorem d_V_filledBoxes_12 : decode b_V_filledBoxes 12 = .ok (.iload_n 1, 1) := by decide +kernel
theorem d_V_filledBoxes_13 : decode b_V_filledBoxes 13 = .ok (.aload_n 0, 1) := by decide +kernel
theorem d_V_filledBoxes_14 : decode b_V_filledBoxes 14 = .ok (.getfield 66, 3) := by decide +kernel
theorem d_V_filledBoxes_17 : decode b_V_filledBoxes 17 = .ok (.iload_n 2, 1) := by decide +kernel
theorem d_V_filledBoxes_18 : decode b_V_filledBoxes 18 = .ok (.baload, 1) := by decide +kernel
theorem d_V_filledBoxes_19 : decode b_V_filledBoxes 19 = .ok (.ifCond .eq 7, 3) := by decide +kernel
theorem d_V_filledBoxes_22 : decode b_V_filledBoxes 22 = .ok (.iconst 1, 1) := by decide +kernel
theorem d_V_filledBoxes_23 : decode b_V_filledBoxes 23 = .ok (.goto 4, 3) := by decide +kernel
theorem d_V_filledBoxes_26 : decode b_V_filledBoxes 26 = .ok (.iconst 0, 1) := by decide +kernel
theorem d_V_filledBoxes_27 : decode b_V_filledBoxes 27 = .ok (.iadd, 1) := by decide +kernel
theorem d_V_filledBoxes_28 : decode b_V_filledBoxes 28 = .ok (.istore_n 1, 1) := by decide +kernel
theorem d_V_filledBoxes_29 : decode b_V_filledBoxes 29 = .ok (.iinc 2 1, 3) := by decide +kernel
theorem d_V_filledBoxes_32 : decode b_V_filledBoxes 32 = .ok (.goto (-28), 3) := by decide +kernel
theorem d_V_filledBoxes_35 : decode b_V_filledBoxes 35 = .ok (.iload_n 1, 1) := by decide +kernel
theorem d_V_filledBoxes_36 : decode b_V_filledBoxes 36 = .ok (.ireturn, 1) := by decide +kernel
theorem d_V_pool_0 : decode b_V_pool 0 = .ok (.aload_n 0, 1) := by decide +kernel
theorem d_V_pool_1 : decode b_V_pool 1 = .ok (.getfield 10, 3) := by decide +kernel
theorem d_V_pool_4 : decode b_V_pool 4 = .ok (.getfield 77, 3) := by decide +kernel
theorem d_V_pool_7 : decode b_V_pool 7 = .ok (.ireturn, 1) := by decide +kernel
theorem d_V_stopped_0 : decode b_V_stopped 0 = .ok (.aload_n 0, 1) := by decide +kernel
theorem d_V_stopped_1 : decode b_V_stopped 1 = .ok (.getfield 19, 3) := by decide +kernel
theorem d_V_stopped_4 : decode b_V_stopped 4 = .ok (.getfield 177, 3) := by decide +kernel
theorem d_V_stopped_7 : decode b_V_stopped 7 = .ok (.ireturn, 1) := by decide +kernel
theorem d_V_files_0 : decode b_V_files 0 = .ok (.aload_n 0, 1) := by decide +kernel
theorem d_V_files_1 : decode b_V_files 1 = .ok (.invokevirtual 199, 3) := by decide +kernel
theorem d_V_files_4 : decode b_V_files 4 = .ok (.ireturn, 1) := by decide +kernel
theorem d_V_epoch_0 : decode b_V_epoch 0 = .ok (.aload_n 0, 1) := by decide +kernel
theorem d_V_epoch_1 : decode b_V_epoch 1 = .ok (.getfield 27, 3) := by decide +kernel
theorem d_V_epoch_4 : decode b_V_epoch 4 = .ok (.ireturn, 1) := by decide +kernel
theorem d_V_sent_0 : decode b_V_sent 0 = .ok (.aload_n 0, 1) := by decide +kernel
theorem d_V_sent_1 : decode b_V_sent 1 = .ok (.getfield 19, 3) := by decide +kernel
theorem d_V_sent_4 : decode b_V_sent 4 = .ok (.getfield 204, 3) := by decide +kernel
theorem d_V_sent_7 : decode b_V_sent 7 = .ok (.getfield 208, 3) := by decide +kernel
theorem d_V_sent_10 : decode b_V_sent 10 = .ok (.ireturn, 1) := by decide +kernel
set_option maxHeartbeats 4000000 in
set_option maxRecDepth 100000 in
theorem c_H_term (l : Launch) (D : va_G) (cI cZ cQ : ClassId) (qv : Nat) (qp : Nat) (qr : Nat) (qj : Nat) (qg : Nat) (qs : Nat) (qh : Nat) (qn : Nat) (qu : Nat) (qw : Nat) (qH : Nat) (qF : Nat) (qc : Nat) (ql : Nat) (qf : Nat) (k : Nat) (n : Nat) (pf : Nat) (pn : Nat) (pr : Nat → Int32) (wi : Int32) (M : ms_T) (hf : Int32) (lim : Int32) (nt : Int32) (lt : Int32) (nb : Nat → Int32) (su : Nat → Int32) (wt : Nat → Int32) (ch : Nat → Int32) (le : Nat → Int32) (fl : Nat → Int32) (ep : Int32) (L : List Nat) (hh : Nat → Nat) (ff : Nat → Nat) (rw : Nat → Nat → Int32) (g : Nat) (j : Nat) (x : Nat) (sb : BitVec 8) (wb : BitVec 8) (hk : k < 2 ^ 20) (hn : n < 2 ^ 20) (hhL : ∀ i, i < n + 1 → hh i ∈ L) (ffL : ∀ i, i < n + 1 → ff i ∈ L) (hg : g < k) (hj : j < 64) (hx1 : nb g = nI x) (hx2 : x < n + 1) (hsb : rw (hh x) j = bI sb) (hwb : wt g = bI wb) : sd_I l D (tyL cI cZ cQ) y_H_term b_H_term 4 (.int) ({ frames := 1, cells := 0, slots := 0, locals := 24 }) [.ref qh, .int (nI g), .ref qH, .int (nI j)] ((vW cI cQ cZ qv qp qr qj qg qs qh qn qu qw qH qF qc ql qf (nI (k)) (nI (n)) (ep) (nI (pf)) (nI (pn)) (1000) (pr) (wi) (M.2.2.2) (hf) (nI M.2.2.1) (lim) (nt) (lt) (nI (M.1)) (192) (M.2.1) (k) (nb) (k) (su) (k) (wt) (n + 1) (fun i => if i < n + 1 then some (hh i) else none) (n + 1) (fun i => if i < n + 1 then some (ff i) else none) (k) (ch) (8) (le) (n + 1) (fl)) ++ va_pl L (rowE cI rw)) (bI (gf_m sb wb)) ((vW cI cQ cZ qv qp qr qj qg qs qh qn qu qw qH qF qc ql qf (nI (k)) (nI (n)) (ep) (nI (pf)) (nI (pn)) (1000) (pr) (wi) (M.2.2.2) (hf) (nI M.2.2.1) (lim) (nt) (lt) (nI (M.1)) (192) (M.2.1) (k) (nb) (k) (su) (k) (wt) (n + 1) (fun i => if i < n + 1 then some (hh i) else none) (n + 1) (fun i => if i < n + 1 then some (ff i) else none) (k) (ch) (8) (le) (n + 1) (fl)) ++ va_pl L (rowE cI rw)) := by
  refine sd_ofI (by decide) (Nat.le_of_ble_eq_true rfl) ?_
  intro p e s m below meth c A ls hx hb hr hml hlk hown hts hK hP hD hA hS hl
  have hl : lv_has ls 4 [(0, .ref qh), (1, .int (nI g)), (2, .ref qH), (3, .int (nI j))] := hl
  refine lv_aload_n hx hb d_H_term_0 rfl (lv_at hl 2 rfl) ?_
  refine lv_aload_n hx hb d_H_term_1 rfl (lv_at hl 0 rfl) ?_
  refine va_get (D := D) (ci := 3) (v := .ref qn) (C := R_H) (T := F_H) (N := 3) hx hb hts wl_H hown hK hP 6 rfl rfl 0 (by decide) (hts _ wf_H_7) (fun _ h9 => h9) rfl d_H_term_2 ?_
  refine lv_iload_n hx hb d_H_term_5 rfl (lv_at hl 1 rfl) ?_
  refine sd_iald (j := g) hx hb hK hP 7 0 rfl rfl (by omega) (by omega) d_H_term_6 ?_
  refine sd_top (y := nI (x)) (hx1) ?_
  refine sd_aald (j := x) (z := hh (x)) hx hb hK hP 10 2 rfl rfl (by omega) (by omega) (if_pos (by omega)) d_H_term_7 ?_
  refine lv_iload_n hx hb d_H_term_8 rfl (lv_at hl 3 rfl) ?_
  refine sd_rld (z := hh (x)) (j := j) hx hb hK hP (hhL (x) (by omega)) 0 rfl (by omega) d_H_term_9 ?_
  refine sd_top (y := bI (sb)) (hsb) ?_
  refine lv_aload_n hx hb d_H_term_10 rfl (lv_at hl 0 rfl) ?_
  refine va_get (D := D) (ci := 3) (v := .ref qw) (C := R_H) (T := F_H) (N := 3) hx hb hts wl_H hown hK hP 6 rfl rfl 2 (by decide) (hts _ wf_H_16) (fun _ h9 => h9) rfl d_H_term_11 ?_
  refine lv_iload_n hx hb d_H_term_14 rfl (lv_at hl 1 rfl) ?_
  refine sd_iald (j := g) hx hb hK hP 9 0 rfl rfl (by omega) (by omega) d_H_term_15 ?_
  refine sd_top (y := bI (wb)) (hwb) ?_
  refine sd_callSI (As := [.int (bI sb), .int (bI wb)]) (rest := []) (cx := []) (w1 := []) (c_B_product l D cI cZ cQ (sb) (wb)) ⟨wc_B_product, wm_H_19, wi_B, by decide, by decide, show (parseMethodDescriptor y_B_product.desc).map (fun d => d.parameters.length) = some 2 by decide +kernel⟩ ws_B_product hx hb hml hown hts hl.1 ⟨Nat.le_of_ble_eq_true rfl, Nat.le_of_ble_eq_true rfl⟩ ⟨Nat.le_of_ble_eq_true rfl, Nat.le_of_ble_eq_true rfl⟩ hK hP hD hS hA [] rfl (by decide) rfl rfl rfl (Nat.le_of_ble_eq_true rfl) d_H_term_16 (fun H locs hP hD hS => ?_)
  have hP : va_P D cls ((vW cI cQ cZ qv qp qr qj qg qs qh qn qu qw qH qF qc ql qf (nI (k)) (nI (n)) (ep) (nI (pf)) (nI (pn)) (1000) (pr) (wi) (M.2.2.2) (hf) (nI M.2.2.1) (lim) (nt) (lt) (nI (M.1)) (192) (M.2.1) (k) (nb) (k) (su) (k) (wt) (n + 1) (fun i => if i < n + 1 then some (hh i) else none) (n + 1) (fun i => if i < n + 1 then some (ff i) else none) (k) (ch) (8) (le) (n + 1) (fl)) ++ va_pl L (rowE cI rw)) H := hP
  have hD : va_D A ((vW cI cQ cZ qv qp qr qj qg qs qh qn qu qw qH qF qc ql qf (nI (k)) (nI (n)) (ep) (nI (pf)) (nI (pn)) (1000) (pr) (wi) (M.2.2.2) (hf) (nI M.2.2.1) (lim) (nt) (lt) (nI (M.1)) (192) (M.2.1) (k) (nb) (k) (su) (k) (wt) (n + 1) (fun i => if i < n + 1 then some (hh i) else none) (n + 1) (fun i => if i < n + 1 then some (ff i) else none) (k) (ch) (8) (le) (n + 1) (fl)) ++ va_pl L (rowE cI rw)) := hD
  exact sd_iret hx hb hr hlk hP hS (Nat.le_of_ble_eq_true rfl) (Nat.le_of_ble_eq_true rfl) (rfl) d_H_term_19
set_option maxHeartbeats 4000000 in
set_option maxRecDepth 100000 in
theorem c_H_join (l : Launch) (D : va_G) (cI cZ cQ : ClassId) (qv : Nat) (qp : Nat) (qr : Nat) (qj : Nat) (qg : Nat) (qs : Nat) (qh : Nat) (qn : Nat) (qu : Nat) (qw : Nat) (qH : Nat) (qF : Nat) (qc : Nat) (ql : Nat) (qf : Nat) (k : Nat) (n : Nat) (pf : Nat) (pn : Nat) (pr : Nat → Int32) (wi : Int32) (M : ms_T) (hf : Int32) (lim : Int32) (nt : Int32) (lt : Int32) (nb : Nat → Int32) (su : Nat → Int32) (wt : Nat → Int32) (ch : Nat → Int32) (le : Nat → Int32) (fl : Nat → Int32) (ep : Int32) (L : List Nat) (hh : Nat → Nat) (ff : Nat → Nat) (rw : Nat → Nat → Int32) (j : Nat) (xs : Nat → Nat) (sb : Nat → BitVec 8) (wb : Nat → BitVec 8) (hk : k < 2 ^ 20) (hn : n < 2 ^ 20) (hhL : ∀ i, i < n + 1 → hh i ∈ L) (ffL : ∀ i, i < n + 1 → ff i ∈ L) (hj : j < 64) (hx1 : ∀ g, g < k → nb g = nI (xs g)) (hx2 : ∀ g, g < k → xs g < n + 1) (hsb : ∀ g, g < k → rw (hh (xs g)) j = bI (sb g)) (hwb : ∀ g, g < k → wt g = bI (wb g)) : sd_I l D (tyL cI cZ cQ) y_H_join b_H_join 5 (.int) ({ frames := 2, cells := 0, slots := 0, locals := 47 }) [.ref qh, .ref qH, .int (nI j)] ((vW cI cQ cZ qv qp qr qj qg qs qh qn qu qw qH qF qc ql qf (nI (k)) (nI (n)) (ep) (nI (pf)) (nI (pn)) (1000) (pr) (wi) (M.2.2.2) (hf) (nI M.2.2.1) (lim) (nt) (lt) (nI (M.1)) (192) (M.2.1) (k) (nb) (k) (su) (k) (wt) (n + 1) (fun i => if i < n + 1 then some (hh i) else none) (n + 1) (fun i => if i < n + 1 then some (ff i) else none) (k) (ch) (8) (le) (n + 1) (fl)) ++ va_pl L (rowE cI rw)) (bI (gf_L sb wb k)) ((vW cI cQ cZ qv qp qr qj qg qs qh qn qu qw qH qF qc ql qf (nI (k)) (nI (n)) (ep) (nI (pf)) (nI (pn)) (1000) (pr) (wi) (M.2.2.2) (hf) (nI M.2.2.1) (lim) (nt) (lt) (nI (M.1)) (192) (M.2.1) (k) (nb) (k) (su) (k) (wt) (n + 1) (fun i => if i < n + 1 then some (hh i) else none) (n + 1) (fun i => if i < n + 1 then some (ff i) else none) (k) (ch) (8) (le) (n + 1) (fl)) ++ va_pl L (rowE cI rw)) := by
  refine sd_ofI (by decide) (Nat.le_of_ble_eq_true rfl) ?_
  intro p e s m below meth c A ls hx hb hr hml hlk hown hts hK hP hD hA hS hl
  have hl : lv_has ls 5 [(0, .ref qh), (1, .ref qH), (2, .int (nI j))] := hl
  refine lv_iconst (v := 0) hx hb d_H_join_0 (by decide) ?_
  refine sd_top (y := bI 0#8) (bI_0.symm) ?_
  refine lv_istore_n hx hb d_H_join_1 rfl hl (Nat.le_of_ble_eq_true rfl) (lv' := [(3, .int (bI 0#8)), (0, .ref qh), (1, .ref qH), (2, .int (nI j))]) rfl (fun ls hl => ?_)
  refine lv_iconst (v := 0) hx hb d_H_join_2 (by decide) ?_
  refine sd_top (y := nI 0) (rfl) ?_
  refine lv_istore hx hb d_H_join_3 hl (Nat.le_of_ble_eq_true rfl) (lv' := [(4, .int (nI 0)), (3, .int (bI 0#8)), (0, .ref qh), (1, .ref qH), (2, .int (nI j))]) rfl (fun ls hl => ?_)
  have hl := lv_sub hl (l' := [(0, .ref qh), (1, .ref qH), (2, .int (nI j)), (3, .int (bI 0#8)), (4, .int (nI 0))]) [2, 3, 4, 1, 0] rfl
  have loop5 : ∀ (d : Nat) (g : Nat) (ls : Array Slot) (H : Heap) (locs : List Loc), k - g = d → (g ≤ k) → lv_has ls 5 [(0, .ref qh), (1, .ref qH), (2, .int (nI j)), (3, .int (bI (gf_L sb wb g))), (4, .int (nI (g)))] → va_P D cls ((vW cI cQ cZ qv qp qr qj qg qs qh qn qu qw qH qF qc ql qf (nI (k)) (nI (n)) (ep) (nI (pf)) (nI (pn)) (1000) (pr) (wi) (M.2.2.2) (hf) (nI M.2.2.1) (lim) (nt) (lt) (nI (M.1)) (192) (M.2.1) (k) (nb) (k) (su) (k) (wt) (n + 1) (fun i => if i < n + 1 then some (hh i) else none) (n + 1) (fun i => if i < n + 1 then some (ff i) else none) (k) (ch) (8) (le) (n + 1) (fl)) ++ va_pl L (rowE cI rw)) H → va_D A ((vW cI cQ cZ qv qp qr qj qg qs qh qn qu qw qH qF qc ql qf (nI (k)) (nI (n)) (ep) (nI (pf)) (nI (pn)) (1000) (pr) (wi) (M.2.2.2) (hf) (nI M.2.2.1) (lim) (nt) (lt) (nI (M.1)) (192) (M.2.1) (k) (nb) (k) (su) (k) (wt) (n + 1) (fun i => if i < n + 1 then some (hh i) else none) (n + 1) (fun i => if i < n + 1 then some (ff i) else none) (k) (ch) (8) (le) (n + 1) (fl)) ++ va_pl L (rowE cI rw)) → va_S A s.heap H locs → W p l e ({ frames := 2, cells := 0, slots := 0, locals := 47 }) s m ([.ref qh, .ref qH, .int (nI j)] : List Value).toArray below meth c H locs 0 0 (MQ below (sd_qi D (bI (gf_L sb wb k)) ((vW cI cQ cZ qv qp qr qj qg qs qh qn qu qw qH qF qc ql qf (nI (k)) (nI (n)) (ep) (nI (pf)) (nI (pn)) (1000) (pr) (wi) (M.2.2.2) (hf) (nI M.2.2.1) (lim) (nt) (lt) (nI (M.1)) (192) (M.2.1) (k) (nb) (k) (su) (k) (wt) (n + 1) (fun i => if i < n + 1 then some (hh i) else none) (n + 1) (fun i => if i < n + 1 then some (ff i) else none) (k) (ch) (8) (le) (n + 1) (fl)) ++ va_pl L (rowE cI rw)) A) ([.ref qh, .ref qH, .int (nI j)] : List Value).toArray s 0 0 A) (F0 m 5 ls []) := by
    intro d
    induction d using Nat.strongRecOn with
    | _ d ih5 =>
    intro g ls H locs hd hg hl hP hD hS
    subst hd
    refine lv_iload hx hb d_H_join_5 (lv_at hl 4 rfl) ?_
    refine lv_aload_n hx hb d_H_join_7 rfl (lv_at hl 0 rfl) ?_
    refine va_get (D := D) (ci := 3) (v := .ref qn) (C := R_H) (T := F_H) (N := 3) hx hb hts wl_H hown hK hP 6 rfl rfl 0 (by decide) (hts _ wf_H_7) (fun _ h9 => h9) rfl d_H_join_8 ?_
    refine va_alen hx hb hK hP 7 0 rfl rfl (v := nI (k)) rfl d_H_join_11 ?_
    refine lv_icmp_ge (tgt := 32) hx hb d_H_join_12 rfl (fun hc12 => ?_) (fun hc12 => ?_)
    · skip
      rw [nI_leI (by omega) (by omega)] at hc12
      refine lv_iload_n hx hb d_H_join_32 rfl (lv_at hl 3 rfl) ?_
      have hgk : k = g := by omega
      subst hgk
      exact sd_iret hx hb hr hlk hP hS (Nat.le_of_ble_eq_true rfl) (Nat.le_of_ble_eq_true rfl) (rfl) d_H_join_33
    · skip
      rw [nI_leI (by omega) (by omega)] at hc12
      refine lv_iload_n hx hb d_H_join_15 rfl (lv_at hl 3 rfl) ?_
      refine lv_aload_n hx hb d_H_join_16 rfl (lv_at hl 0 rfl) ?_
      refine lv_iload hx hb d_H_join_17 (lv_at hl 4 rfl) ?_
      refine lv_aload_n hx hb d_H_join_19 rfl (lv_at hl 1 rfl) ?_
      refine lv_iload_n hx hb d_H_join_20 rfl (lv_at hl 2 rfl) ?_
      refine sd_allVI (As := [.int (nI g), .ref qH, .int (nI j)]) (rest := [.int (bI (gf_L sb wb g))]) (w1 := ((vW cI cQ cZ qv qp qr qj qg qs qh qn qu qw qH qF qc ql qf (nI (k)) (nI (n)) (ep) (nI (pf)) (nI (pn)) (1000) (pr) (wi) (M.2.2.2) (hf) (nI M.2.2.1) (lim) (nt) (lt) (nI (M.1)) (192) (M.2.1) (k) (nb) (k) (su) (k) (wt) (n + 1) (fun i => if i < n + 1 then some (hh i) else none) (n + 1) (fun i => if i < n + 1 then some (ff i) else none) (k) (ch) (8) (le) (n + 1) (fl)) ++ va_pl L (rowE cI rw))) (c_H_term l D cI cZ cQ (qv) (qp) (qr) (qj) (qg) (qs) (qh) (qn) (qu) (qw) (qH) (qF) (qc) (ql) (qf) (k) (n) (pf) (pn) (pr) (wi) (M) (hf) (lim) (nt) (lt) (nb) (su) (wt) (ch) (le) (fl) (ep) (L) (hh) (ff) (rw) (g) (j) (xs g) (sb g) (wb g) (hk) (hn) (hhL) (ffL) (by omega) (hj) (hx1 g (by omega)) (hx2 g (by omega)) (hsb g (by omega)) (hwb g (by omega))) ⟨wc_H_term, wm_H_28, wi_H, by decide, by decide, show (parseMethodDescriptor y_H_term.desc).map (fun d => d.parameters.length) = some 3 by decide +kernel⟩ wo_H_term wz_H_term hx hb hml hown hts hl.1 ⟨Nat.le_of_ble_eq_true rfl, Nat.le_of_ble_eq_true rfl⟩ ⟨Nat.le_of_ble_eq_true rfl, Nat.le_of_ble_eq_true rfl⟩ hK hP hD hS hA (rfl) (q0 := 6) rfl rfl rfl (Nat.le_of_ble_eq_true rfl) d_H_join_21 (fun H locs hP hD hS => ?_)
      have hP : va_P D cls ((vW cI cQ cZ qv qp qr qj qg qs qh qn qu qw qH qF qc ql qf (nI (k)) (nI (n)) (ep) (nI (pf)) (nI (pn)) (1000) (pr) (wi) (M.2.2.2) (hf) (nI M.2.2.1) (lim) (nt) (lt) (nI (M.1)) (192) (M.2.1) (k) (nb) (k) (su) (k) (wt) (n + 1) (fun i => if i < n + 1 then some (hh i) else none) (n + 1) (fun i => if i < n + 1 then some (ff i) else none) (k) (ch) (8) (le) (n + 1) (fl)) ++ va_pl L (rowE cI rw)) H := hP
      have hD : va_D A ((vW cI cQ cZ qv qp qr qj qg qs qh qn qu qw qH qF qc ql qf (nI (k)) (nI (n)) (ep) (nI (pf)) (nI (pn)) (1000) (pr) (wi) (M.2.2.2) (hf) (nI M.2.2.1) (lim) (nt) (lt) (nI (M.1)) (192) (M.2.1) (k) (nb) (k) (su) (k) (wt) (n + 1) (fun i => if i < n + 1 then some (hh i) else none) (n + 1) (fun i => if i < n + 1 then some (ff i) else none) (k) (ch) (8) (le) (n + 1) (fl)) ++ va_pl L (rowE cI rw)) := hD
      refine lv_ixor hx hb d_H_join_24 ?_
      refine sd_top (y := bI (gf_L sb wb g ^^^ gf_m (sb g) (wb g))) (bI_xor _ _) ?_
      refine lv_istore_n hx hb d_H_join_25 rfl hl (Nat.le_of_ble_eq_true rfl) (lv' := [(3, .int (bI (gf_L sb wb g ^^^ gf_m (sb g) (wb g)))), (0, .ref qh), (1, .ref qH), (2, .int (nI j)), (4, .int (nI (g)))]) rfl (fun ls hl => ?_)
      refine lv_iinc hx hb d_H_join_26 hl (k := 4) rfl (v := nI (g + 1)) (ii_1 _) (Nat.le_of_ble_eq_true rfl) (lv' := [(4, .int (nI (g + 1))), (3, .int (bI (gf_L sb wb g ^^^ gf_m (sb g) (wb g)))), (0, .ref qh), (1, .ref qH), (2, .int (nI j))]) rfl (fun ls hl => ?_)
      refine lv_goto (tgt := 5) hx hb d_H_join_29 rfl ?_
      have hl := lv_sub hl (l' := [(0, .ref qh), (1, .ref qH), (2, .int (nI j)), (3, .int (bI (gf_L sb wb g ^^^ gf_m (sb g) (wb g)))), (4, .int (nI (g + 1)))]) [2, 3, 4, 1, 0] rfl
      exact ih5 _ (by omega) (g + 1) ls _ _ rfl (by omega) hl hP hD hS
  exact loop5 _ (0) ls _ _ rfl (Nat.zero_le _) hl hP hD hS
set_option maxHeartbeats 4000000 in
set_option maxRecDepth 100000 in
theorem c_V_slot (l : Launch) (D : va_G) (cI cZ cQ : ClassId) (f : Nat) (b : Nat) : sd_I l D (tyL cI cZ cQ) y_V_slot b_V_slot 2 (.int) ({ frames := 0, cells := 0, slots := 0, locals := 0 }) [.int (nI f), .int (nI b)] [] (nI (f * 8 + b)) [] := by
  refine sd_ofI (by decide) (Nat.le_of_ble_eq_true rfl) ?_
  intro p e s m below meth c A ls hx hb hr hml hlk hown hts hK hP hD hA hS hl
  have hl : lv_has ls 2 [(0, .int (nI f)), (1, .int (nI b))] := hl
  refine lv_iload_n hx hb d_V_slot_0 rfl (lv_at hl 0 rfl) ?_
  refine lv_bipush (v := nI 8) hx hb d_V_slot_1 (by decide) ?_
  refine lv_imul hx hb d_V_slot_3 ?_
  refine sd_top (y := nI (f * 8)) (pk_mul _ _) ?_
  refine lv_iload_n hx hb d_V_slot_4 rfl (lv_at hl 1 rfl) ?_
  refine lv_iadd hx hb d_V_slot_5 ?_
  refine sd_top (y := nI (f * 8 + b)) (nI_add _ _) ?_
  exact sd_iret hx hb hr hlk hP hS (Nat.le_of_ble_eq_true rfl) (Nat.le_of_ble_eq_true rfl) (rfl) d_V_slot_6
set_option maxHeartbeats 4000000 in
set_option maxRecDepth 100000 in
theorem c_V_takenPerByte (l : Launch) (D : va_G) (cI cZ cQ : ClassId) (qv : Nat) (qp : Nat) (qr : Nat) (qj : Nat) (qg : Nat) (qs : Nat) (qh : Nat) (qn : Nat) (qu : Nat) (qw : Nat) (qH : Nat) (qF : Nat) (qc : Nat) (ql : Nat) (qf : Nat) (k : Nat) (n : Nat) (pf : Nat) (pn : Nat) (pr : Nat → Int32) (wi : Int32) (M : ms_T) (hf : Int32) (lim : Int32) (nt : Int32) (lt : Int32) (nb : Nat → Int32) (su : Nat → Int32) (wt : Nat → Int32) (ch : Nat → Int32) (le : Nat → Int32) (fl : Nat → Int32) (ep : Int32) (L : List Nat) (hh : Nat → Nat) (ff : Nat → Nat) (rw : Nat → Nat → Int32) (q : Nat) (hk : k < 2 ^ 20) (hn : n < 2 ^ 20) (hhL : ∀ i, i < n + 1 → hh i ∈ L) (ffL : ∀ i, i < n + 1 → ff i ∈ L) (hk2 : 2 ≤ k) (hq : q < 2 ^ 20) : sd_I l D (tyL cI cZ cQ) y_V_takenPerByte b_V_takenPerByte 2 (.int) ({ frames := 0, cells := 0, slots := 0, locals := 0 }) [.ref qv, .int (nI q)] ((vW cI cQ cZ qv qp qr qj qg qs qh qn qu qw qH qF qc ql qf (nI (k)) (nI (n)) (ep) (nI (pf)) (nI (pn)) (1000) (pr) (wi) (M.2.2.2) (hf) (nI M.2.2.1) (lim) (nt) (lt) (nI (M.1)) (192) (M.2.1) (k) (nb) (k) (su) (k) (wt) (n + 1) (fun i => if i < n + 1 then some (hh i) else none) (n + 1) (fun i => if i < n + 1 then some (ff i) else none) (k) (ch) (8) (le) (n + 1) (fl)) ++ va_pl L (rowE cI rw)) (nI (tpb k q)) ((vW cI cQ cZ qv qp qr qj qg qs qh qn qu qw qH qF qc ql qf (nI (k)) (nI (n)) (ep) (nI (pf)) (nI (pn)) (1000) (pr) (wi) (M.2.2.2) (hf) (nI M.2.2.1) (lim) (nt) (lt) (nI (M.1)) (192) (M.2.1) (k) (nb) (k) (su) (k) (wt) (n + 1) (fun i => if i < n + 1 then some (hh i) else none) (n + 1) (fun i => if i < n + 1 then some (ff i) else none) (k) (ch) (8) (le) (n + 1) (fl)) ++ va_pl L (rowE cI rw)) := by
  refine sd_ofI (by decide) (Nat.le_of_ble_eq_true rfl) ?_
  intro p e s m below meth c A ls hx hb hr hml hlk hown hts hK hP hD hA hS hl
  have hl : lv_has ls 2 [(0, .ref qv), (1, .int (nI q))] := hl
  refine lv_iload_n hx hb d_V_takenPerByte_0 rfl (lv_at hl 1 rfl) ?_
  refine lv_iconst (v := nI 2) hx hb d_V_takenPerByte_1 (by decide) ?_
  refine lv_icmp_ne (tgt := 19) hx hb d_V_takenPerByte_2 rfl (fun hc2 => ?_) (fun hc2 => ?_)
  · skip
    have hq2 : ¬ q = 2 := fun h => hc2 (by rw [h])
    refine lv_aload_n hx hb d_V_takenPerByte_19 rfl (lv_at hl 0 rfl) ?_
    refine va_get (D := D) (ci := 4) (v := .int (nI (k))) (C := R_V) (T := F_V) (N := 11) hx hb hts wl_V hown hK hP 0 rfl rfl 0 (by decide) (hts _ wf_V_43) (fun _ h9 => h9) rfl d_V_takenPerByte_20 ?_
    refine lv_iconst (v := 1) hx hb d_V_takenPerByte_23 (by decide) ?_
    refine lv_isub hx hb d_V_takenPerByte_24 ?_
    refine sd_top (y := nI (k - 1)) (ni_pred (by omega)) ?_
    exact sd_iret hx hb hr hlk hP hS (Nat.le_of_ble_eq_true rfl) (Nat.le_of_ble_eq_true rfl) (by unfold tpb; first | rw [if_pos hq2] | rw [if_neg hq2]) d_V_takenPerByte_25
  · skip
    have hq2 : q = 2 := (nI_eq (by omega) (by omega)).mp hc2
    refine lv_aload_n hx hb d_V_takenPerByte_5 rfl (lv_at hl 0 rfl) ?_
    refine va_get (D := D) (ci := 4) (v := .int (nI (k))) (C := R_V) (T := F_V) (N := 11) hx hb hts wl_V hown hK hP 0 rfl rfl 0 (by decide) (hts _ wf_V_43) (fun _ h9 => h9) rfl d_V_takenPerByte_6 ?_
    refine lv_aload_n hx hb d_V_takenPerByte_9 rfl (lv_at hl 0 rfl) ?_
    refine va_get (D := D) (ci := 4) (v := .int (nI (k))) (C := R_V) (T := F_V) (N := 11) hx hb hts wl_V hown hK hP 0 rfl rfl 0 (by decide) (hts _ wf_V_43) (fun _ h9 => h9) rfl d_V_takenPerByte_10 ?_
    refine lv_iconst (v := 1) hx hb d_V_takenPerByte_13 (by decide) ?_
    refine lv_isub hx hb d_V_takenPerByte_14 ?_
    refine sd_top (y := nI (k - 1)) (ni_pred (by omega)) ?_
    refine lv_imul hx hb d_V_takenPerByte_15 ?_
    refine sd_top (y := nI (k * (k - 1))) (pk_mul _ _) ?_
    refine lv_goto (tgt := 25) hx hb d_V_takenPerByte_16 rfl ?_
    exact sd_iret hx hb hr hlk hP hS (Nat.le_of_ble_eq_true rfl) (Nat.le_of_ble_eq_true rfl) (by unfold tpb; first | rw [if_pos hq2] | rw [if_neg hq2]) d_V_takenPerByte_25
set_option maxHeartbeats 4000000 in
set_option maxRecDepth 100000 in
theorem c_V_keptBytes (l : Launch) (D : va_G) (cI cZ cQ : ClassId) (qv : Nat) (qp : Nat) (qr : Nat) (qj : Nat) (qg : Nat) (qs : Nat) (qh : Nat) (qn : Nat) (qu : Nat) (qw : Nat) (qH : Nat) (qF : Nat) (qc : Nat) (ql : Nat) (qf : Nat) (k : Nat) (n : Nat) (pf : Nat) (pn : Nat) (pr : Nat → Int32) (wi : Int32) (M : ms_T) (hf : Int32) (lim : Int32) (nt : Int32) (lt : Int32) (nb : Nat → Int32) (su : Nat → Int32) (wt : Nat → Int32) (ch : Nat → Int32) (le : Nat → Int32) (fl : Nat → Int32) (ep : Int32) (L : List Nat) (hh : Nat → Nat) (ff : Nat → Nat) (rw : Nat → Nat → Int32) (ln : Nat → Nat) (hk : k < 2 ^ 20) (hn : n < 2 ^ 20) (hhL : ∀ i, i < n + 1 → hh i ∈ L) (ffL : ∀ i, i < n + 1 → ff i ∈ L) (hle : ∀ i, i < 8 → le i = nI (ln i)) (hln : ∀ i, i < 8 → ln i ≤ 8) : sd_I l D (tyL cI cZ cQ) y_V_keptBytes b_V_keptBytes 3 (.int) ({ frames := 0, cells := 0, slots := 0, locals := 0 }) [.ref qv] ((vW cI cQ cZ qv qp qr qj qg qs qh qn qu qw qH qF qc ql qf (nI (k)) (nI (n)) (ep) (nI (pf)) (nI (pn)) (1000) (pr) (wi) (M.2.2.2) (hf) (nI M.2.2.1) (lim) (nt) (lt) (nI (M.1)) (192) (M.2.1) (k) (nb) (k) (su) (k) (wt) (n + 1) (fun i => if i < n + 1 then some (hh i) else none) (n + 1) (fun i => if i < n + 1 then some (ff i) else none) (k) (ch) (8) (le) (n + 1) (fl)) ++ va_pl L (rowE cI rw)) (nI (sm_b ln 8)) ((vW cI cQ cZ qv qp qr qj qg qs qh qn qu qw qH qF qc ql qf (nI (k)) (nI (n)) (ep) (nI (pf)) (nI (pn)) (1000) (pr) (wi) (M.2.2.2) (hf) (nI M.2.2.1) (lim) (nt) (lt) (nI (M.1)) (192) (M.2.1) (k) (nb) (k) (su) (k) (wt) (n + 1) (fun i => if i < n + 1 then some (hh i) else none) (n + 1) (fun i => if i < n + 1 then some (ff i) else none) (k) (ch) (8) (le) (n + 1) (fl)) ++ va_pl L (rowE cI rw)) := by
  refine sd_ofI (by decide) (Nat.le_of_ble_eq_true rfl) ?_
  intro p e s m below meth c A ls hx hb hr hml hlk hown hts hK hP hD hA hS hl
  have hl : lv_has ls 3 [(0, .ref qv)] := hl
  refine lv_iconst (v := 0) hx hb d_V_keptBytes_0 (by decide) ?_
  refine sd_top (y := nI 0) (rfl) ?_
  refine lv_istore_n hx hb d_V_keptBytes_1 rfl hl (Nat.le_of_ble_eq_true rfl) (lv' := [(1, .int (nI 0)), (0, .ref qv)]) rfl (fun ls hl => ?_)
  refine lv_iconst (v := 0) hx hb d_V_keptBytes_2 (by decide) ?_
  refine sd_top (y := nI 0) (rfl) ?_
  refine lv_istore_n hx hb d_V_keptBytes_3 rfl hl (Nat.le_of_ble_eq_true rfl) (lv' := [(2, .int (nI 0)), (1, .int (nI 0)), (0, .ref qv)]) rfl (fun ls hl => ?_)
  have hl := lv_sub hl (l' := [(0, .ref qv), (1, .int (nI 0)), (2, .int (nI 0))]) [2, 1, 0] rfl
  have loop4 : ∀ (d : Nat) (f : Nat) (ls : Array Slot) (H : Heap) (locs : List Loc), 8 - f = d → (f ≤ 8) → lv_has ls 3 [(0, .ref qv), (1, .int (nI (sm_b ln f))), (2, .int (nI (f)))] → va_P D cls ((vW cI cQ cZ qv qp qr qj qg qs qh qn qu qw qH qF qc ql qf (nI (k)) (nI (n)) (ep) (nI (pf)) (nI (pn)) (1000) (pr) (wi) (M.2.2.2) (hf) (nI M.2.2.1) (lim) (nt) (lt) (nI (M.1)) (192) (M.2.1) (k) (nb) (k) (su) (k) (wt) (n + 1) (fun i => if i < n + 1 then some (hh i) else none) (n + 1) (fun i => if i < n + 1 then some (ff i) else none) (k) (ch) (8) (le) (n + 1) (fl)) ++ va_pl L (rowE cI rw)) H → va_D A ((vW cI cQ cZ qv qp qr qj qg qs qh qn qu qw qH qF qc ql qf (nI (k)) (nI (n)) (ep) (nI (pf)) (nI (pn)) (1000) (pr) (wi) (M.2.2.2) (hf) (nI M.2.2.1) (lim) (nt) (lt) (nI (M.1)) (192) (M.2.1) (k) (nb) (k) (su) (k) (wt) (n + 1) (fun i => if i < n + 1 then some (hh i) else none) (n + 1) (fun i => if i < n + 1 then some (ff i) else none) (k) (ch) (8) (le) (n + 1) (fl)) ++ va_pl L (rowE cI rw)) → va_S A s.heap H locs → W p l e ({ frames := 0, cells := 0, slots := 0, locals := 0 }) s m ([.ref qv] : List Value).toArray below meth c H locs 0 0 (MQ below (sd_qi D (nI (sm_b ln 8)) ((vW cI cQ cZ qv qp qr qj qg qs qh qn qu qw qH qF qc ql qf (nI (k)) (nI (n)) (ep) (nI (pf)) (nI (pn)) (1000) (pr) (wi) (M.2.2.2) (hf) (nI M.2.2.1) (lim) (nt) (lt) (nI (M.1)) (192) (M.2.1) (k) (nb) (k) (su) (k) (wt) (n + 1) (fun i => if i < n + 1 then some (hh i) else none) (n + 1) (fun i => if i < n + 1 then some (ff i) else none) (k) (ch) (8) (le) (n + 1) (fl)) ++ va_pl L (rowE cI rw)) A) ([.ref qv] : List Value).toArray s 0 0 A) (F0 m 4 ls []) := by
    intro d
    induction d using Nat.strongRecOn with
    | _ d ih4 =>
    intro f ls H locs hd hf8 hl hP hD hS
    subst hd
    refine lv_iload_n hx hb d_V_keptBytes_4 rfl (lv_at hl 2 rfl) ?_
    refine lv_bipush (v := nI 8) hx hb d_V_keptBytes_5 (by decide) ?_
    refine lv_icmp_ge (tgt := 25) hx hb d_V_keptBytes_7 rfl (fun hc7 => ?_) (fun hc7 => ?_)
    · skip
      rw [nI_leI (by omega) (by omega)] at hc7
      refine lv_iload_n hx hb d_V_keptBytes_25 rfl (lv_at hl 1 rfl) ?_
      have hf8 : 8 = f := by omega
      subst hf8
      exact sd_iret hx hb hr hlk hP hS (Nat.le_of_ble_eq_true rfl) (Nat.le_of_ble_eq_true rfl) (rfl) d_V_keptBytes_26
    · skip
      rw [nI_leI (by omega) (by omega)] at hc7
      refine lv_iload_n hx hb d_V_keptBytes_10 rfl (lv_at hl 1 rfl) ?_
      refine lv_aload_n hx hb d_V_keptBytes_11 rfl (lv_at hl 0 rfl) ?_
      refine va_get (D := D) (ci := 4) (v := .ref ql) (C := R_V) (T := F_V) (N := 11) hx hb hts wl_V hown hK hP 0 rfl rfl 8 (by decide) (hts _ wf_V_23) (fun _ h9 => h9) rfl d_V_keptBytes_12 ?_
      refine lv_iload_n hx hb d_V_keptBytes_15 rfl (lv_at hl 2 rfl) ?_
      refine sd_iald (j := f) hx hb hK hP 13 0 rfl rfl (by omega) (by omega) d_V_keptBytes_16 ?_
      refine sd_top (y := nI (ln f)) (hle f (by omega)) ?_
      refine lv_iadd hx hb d_V_keptBytes_17 ?_
      refine sd_top (y := nI (sm_b ln f + ln f)) (nI_add _ _) ?_
      refine lv_istore_n hx hb d_V_keptBytes_18 rfl hl (Nat.le_of_ble_eq_true rfl) (lv' := [(1, .int (nI (sm_b ln f + ln f))), (0, .ref qv), (2, .int (nI (f)))]) rfl (fun ls hl => ?_)
      refine lv_iinc hx hb d_V_keptBytes_19 hl (k := 2) rfl (v := nI (f + 1)) (ii_1 _) (Nat.le_of_ble_eq_true rfl) (lv' := [(2, .int (nI (f + 1))), (1, .int (nI (sm_b ln f + ln f))), (0, .ref qv)]) rfl (fun ls hl => ?_)
      refine lv_goto (tgt := 4) hx hb d_V_keptBytes_22 rfl ?_
      have hl := lv_sub hl (l' := [(0, .ref qv), (1, .int (nI (sm_b ln f + ln f))), (2, .int (nI (f + 1)))]) [2, 1, 0] rfl
      exact ih4 _ (by omega) (f + 1) ls _ _ rfl (by omega) hl hP hD hS
  exact loop4 _ (0) ls _ _ rfl (Nat.zero_le _) hl hP hD hS
set_option maxHeartbeats 4000000 in
set_option maxRecDepth 100000 in
theorem c_V_keptFiles (l : Launch) (D : va_G) (cI cZ cQ : ClassId) (qv : Nat) (qp : Nat) (qr : Nat) (qj : Nat) (qg : Nat) (qs : Nat) (qh : Nat) (qn : Nat) (qu : Nat) (qw : Nat) (qH : Nat) (qF : Nat) (qc : Nat) (ql : Nat) (qf : Nat) (k : Nat) (n : Nat) (pf : Nat) (pn : Nat) (pr : Nat → Int32) (wi : Int32) (M : ms_T) (hf : Int32) (lim : Int32) (nt : Int32) (lt : Int32) (nb : Nat → Int32) (su : Nat → Int32) (wt : Nat → Int32) (ch : Nat → Int32) (le : Nat → Int32) (fl : Nat → Int32) (ep : Int32) (L : List Nat) (hh : Nat → Nat) (ff : Nat → Nat) (rw : Nat → Nat → Int32) (ln : Nat → Nat) (hk : k < 2 ^ 20) (hn : n < 2 ^ 20) (hhL : ∀ i, i < n + 1 → hh i ∈ L) (ffL : ∀ i, i < n + 1 → ff i ∈ L) (hle : ∀ i, i < 8 → le i = nI (ln i)) (hln : ∀ i, i < 8 → ln i ≤ 8) : sd_I l D (tyL cI cZ cQ) y_V_keptFiles b_V_keptFiles 3 (.int) ({ frames := 0, cells := 0, slots := 0, locals := 0 }) [.ref qv] ((vW cI cQ cZ qv qp qr qj qg qs qh qn qu qw qH qF qc ql qf (nI (k)) (nI (n)) (ep) (nI (pf)) (nI (pn)) (1000) (pr) (wi) (M.2.2.2) (hf) (nI M.2.2.1) (lim) (nt) (lt) (nI (M.1)) (192) (M.2.1) (k) (nb) (k) (su) (k) (wt) (n + 1) (fun i => if i < n + 1 then some (hh i) else none) (n + 1) (fun i => if i < n + 1 then some (ff i) else none) (k) (ch) (8) (le) (n + 1) (fl)) ++ va_pl L (rowE cI rw)) (nI (sm_k ln 8)) ((vW cI cQ cZ qv qp qr qj qg qs qh qn qu qw qH qF qc ql qf (nI (k)) (nI (n)) (ep) (nI (pf)) (nI (pn)) (1000) (pr) (wi) (M.2.2.2) (hf) (nI M.2.2.1) (lim) (nt) (lt) (nI (M.1)) (192) (M.2.1) (k) (nb) (k) (su) (k) (wt) (n + 1) (fun i => if i < n + 1 then some (hh i) else none) (n + 1) (fun i => if i < n + 1 then some (ff i) else none) (k) (ch) (8) (le) (n + 1) (fl)) ++ va_pl L (rowE cI rw)) := by
  refine sd_ofI (by decide) (Nat.le_of_ble_eq_true rfl) ?_
  intro p e s m below meth c A ls hx hb hr hml hlk hown hts hK hP hD hA hS hl
  have hl : lv_has ls 3 [(0, .ref qv)] := hl
  refine lv_iconst (v := 0) hx hb d_V_keptFiles_0 (by decide) ?_
  refine sd_top (y := nI 0) (rfl) ?_
  refine lv_istore_n hx hb d_V_keptFiles_1 rfl hl (Nat.le_of_ble_eq_true rfl) (lv' := [(1, .int (nI 0)), (0, .ref qv)]) rfl (fun ls hl => ?_)
  refine lv_iconst (v := 0) hx hb d_V_keptFiles_2 (by decide) ?_
  refine sd_top (y := nI 0) (rfl) ?_
  refine lv_istore_n hx hb d_V_keptFiles_3 rfl hl (Nat.le_of_ble_eq_true rfl) (lv' := [(2, .int (nI 0)), (1, .int (nI 0)), (0, .ref qv)]) rfl (fun ls hl => ?_)
  have hl := lv_sub hl (l' := [(0, .ref qv), (1, .int (nI 0)), (2, .int (nI 0))]) [2, 1, 0] rfl
  have loop4 : ∀ (d : Nat) (f : Nat) (ls : Array Slot) (H : Heap) (locs : List Loc), 8 - f = d → (f ≤ 8) → lv_has ls 3 [(0, .ref qv), (1, .int (nI (sm_k ln f))), (2, .int (nI (f)))] → va_P D cls ((vW cI cQ cZ qv qp qr qj qg qs qh qn qu qw qH qF qc ql qf (nI (k)) (nI (n)) (ep) (nI (pf)) (nI (pn)) (1000) (pr) (wi) (M.2.2.2) (hf) (nI M.2.2.1) (lim) (nt) (lt) (nI (M.1)) (192) (M.2.1) (k) (nb) (k) (su) (k) (wt) (n + 1) (fun i => if i < n + 1 then some (hh i) else none) (n + 1) (fun i => if i < n + 1 then some (ff i) else none) (k) (ch) (8) (le) (n + 1) (fl)) ++ va_pl L (rowE cI rw)) H → va_D A ((vW cI cQ cZ qv qp qr qj qg qs qh qn qu qw qH qF qc ql qf (nI (k)) (nI (n)) (ep) (nI (pf)) (nI (pn)) (1000) (pr) (wi) (M.2.2.2) (hf) (nI M.2.2.1) (lim) (nt) (lt) (nI (M.1)) (192) (M.2.1) (k) (nb) (k) (su) (k) (wt) (n + 1) (fun i => if i < n + 1 then some (hh i) else none) (n + 1) (fun i => if i < n + 1 then some (ff i) else none) (k) (ch) (8) (le) (n + 1) (fl)) ++ va_pl L (rowE cI rw)) → va_S A s.heap H locs → W p l e ({ frames := 0, cells := 0, slots := 0, locals := 0 }) s m ([.ref qv] : List Value).toArray below meth c H locs 0 0 (MQ below (sd_qi D (nI (sm_k ln 8)) ((vW cI cQ cZ qv qp qr qj qg qs qh qn qu qw qH qF qc ql qf (nI (k)) (nI (n)) (ep) (nI (pf)) (nI (pn)) (1000) (pr) (wi) (M.2.2.2) (hf) (nI M.2.2.1) (lim) (nt) (lt) (nI (M.1)) (192) (M.2.1) (k) (nb) (k) (su) (k) (wt) (n + 1) (fun i => if i < n + 1 then some (hh i) else none) (n + 1) (fun i => if i < n + 1 then some (ff i) else none) (k) (ch) (8) (le) (n + 1) (fl)) ++ va_pl L (rowE cI rw)) A) ([.ref qv] : List Value).toArray s 0 0 A) (F0 m 4 ls []) := by
    intro d
    induction d using Nat.strongRecOn with
    | _ d ih4 =>
    intro f ls H locs hd hf8 hl hP hD hS
    subst hd
    refine lv_iload_n hx hb d_V_keptFiles_4 rfl (lv_at hl 2 rfl) ?_
    refine lv_bipush (v := nI 8) hx hb d_V_keptFiles_5 (by decide) ?_
    refine lv_icmp_ge (tgt := 33) hx hb d_V_keptFiles_7 rfl (fun hc7 => ?_) (fun hc7 => ?_)
    · skip
      rw [nI_leI (by omega) (by omega)] at hc7
      refine lv_iload_n hx hb d_V_keptFiles_33 rfl (lv_at hl 1 rfl) ?_
      have hf8 : 8 = f := by omega
      subst hf8
      exact sd_iret hx hb hr hlk hP hS (Nat.le_of_ble_eq_true rfl) (Nat.le_of_ble_eq_true rfl) (rfl) d_V_keptFiles_34
    · skip
      rw [nI_leI (by omega) (by omega)] at hc7
      have hl9 := hln f (by omega)
      refine lv_iload_n hx hb d_V_keptFiles_10 rfl (lv_at hl 1 rfl) ?_
      refine lv_aload_n hx hb d_V_keptFiles_11 rfl (lv_at hl 0 rfl) ?_
      refine va_get (D := D) (ci := 4) (v := .ref ql) (C := R_V) (T := F_V) (N := 11) hx hb hts wl_V hown hK hP 0 rfl rfl 8 (by decide) (hts _ wf_V_23) (fun _ h9 => h9) rfl d_V_keptFiles_12 ?_
      refine lv_iload_n hx hb d_V_keptFiles_15 rfl (lv_at hl 2 rfl) ?_
      refine sd_iald (j := f) hx hb hK hP 13 0 rfl rfl (by omega) (by omega) d_V_keptFiles_16 ?_
      refine sd_top (y := nI (ln f)) (hle f (by omega)) ?_
      refine lv_if_le (tgt := 24) hx hb d_V_keptFiles_17 rfl (fun hc17 => ?_) (fun hc17 => ?_)
      · skip
        have hn9 : nI (sm_k ln f) + nI 0 = nI (sm_k ln (f + 1)) := by rw [nI_add, sm_k0 (by rw [show (0 : Int32) = nI 0 from rfl, nI_leI (by omega) (by omega)] at hc17; omega)]; rfl
        refine lv_iconst (v := nI 0) hx hb d_V_keptFiles_24 (by decide) ?_
        refine lv_iadd hx hb d_V_keptFiles_25 ?_
        refine sd_top (y := nI (sm_k ln (f + 1))) (hn9) ?_
        refine lv_istore_n hx hb d_V_keptFiles_26 rfl hl (Nat.le_of_ble_eq_true rfl) (lv' := [(1, .int (nI (sm_k ln (f + 1)))), (0, .ref qv), (2, .int (nI (f)))]) rfl (fun ls hl => ?_)
        refine lv_iinc hx hb d_V_keptFiles_27 hl (k := 2) rfl (v := nI (f + 1)) (ii_1 _) (Nat.le_of_ble_eq_true rfl) (lv' := [(2, .int (nI (f + 1))), (1, .int (nI (sm_k ln (f + 1)))), (0, .ref qv)]) rfl (fun ls hl => ?_)
        refine lv_goto (tgt := 4) hx hb d_V_keptFiles_30 rfl ?_
        have hl := lv_sub hl (l' := [(0, .ref qv), (1, .int (nI (sm_k ln (f + 1)))), (2, .int (nI (f + 1)))]) [2, 1, 0] rfl
        exact ih4 _ (by omega) (f + 1) ls _ _ rfl (by omega) hl hP hD hS
      · skip
        have hn9 : nI (sm_k ln f) + nI 1 = nI (sm_k ln (f + 1)) := by rw [nI_add, sm_k1 (by rw [show (0 : Int32) = nI 0 from rfl, nI_leI (by omega) (by omega)] at hc17; omega)]
        refine lv_iconst (v := nI 1) hx hb d_V_keptFiles_20 (by decide) ?_
        refine lv_goto (tgt := 25) hx hb d_V_keptFiles_21 rfl ?_
        refine lv_iadd hx hb d_V_keptFiles_25 ?_
        refine sd_top (y := nI (sm_k ln (f + 1))) (hn9) ?_
        refine lv_istore_n hx hb d_V_keptFiles_26 rfl hl (Nat.le_of_ble_eq_true rfl) (lv' := [(1, .int (nI (sm_k ln (f + 1)))), (0, .ref qv), (2, .int (nI (f)))]) rfl (fun ls hl => ?_)
        refine lv_iinc hx hb d_V_keptFiles_27 hl (k := 2) rfl (v := nI (f + 1)) (ii_1 _) (Nat.le_of_ble_eq_true rfl) (lv' := [(2, .int (nI (f + 1))), (1, .int (nI (sm_k ln (f + 1)))), (0, .ref qv)]) rfl (fun ls hl => ?_)
        refine lv_goto (tgt := 4) hx hb d_V_keptFiles_30 rfl ?_
        have hl := lv_sub hl (l' := [(0, .ref qv), (1, .int (nI (sm_k ln (f + 1)))), (2, .int (nI (f + 1)))]) [2, 1, 0] rfl
        exact ih4 _ (by omega) (f + 1) ls _ _ rfl (by omega) hl hP hD hS
  exact loop4 _ (0) ls _ _ rfl (Nat.zero_le _) hl hP hD hS
set_option maxHeartbeats 4000000 in
set_option maxRecDepth 100000 in
theorem c_V_filledBoxes (l : Launch) (D : va_G) (cI cZ cQ : ClassId) (qv : Nat) (qp : Nat) (qr : Nat) (qj : Nat) (qg : Nat) (qs : Nat) (qh : Nat) (qn : Nat) (qu : Nat) (qw : Nat) (qH : Nat) (qF : Nat) (qc : Nat) (ql : Nat) (qf : Nat) (k : Nat) (n : Nat) (pf : Nat) (pn : Nat) (pr : Nat → Int32) (wi : Int32) (M : ms_T) (hf : Int32) (lim : Int32) (nt : Int32) (lt : Int32) (nb : Nat → Int32) (su : Nat → Int32) (wt : Nat → Int32) (ch : Nat → Int32) (le : Nat → Int32) (fl : Nat → Int32) (ep : Int32) (L : List Nat) (hh : Nat → Nat) (ff : Nat → Nat) (rw : Nat → Nat → Int32) (hk : k < 2 ^ 20) (hn : n < 2 ^ 20) (hhL : ∀ i, i < n + 1 → hh i ∈ L) (ffL : ∀ i, i < n + 1 → ff i ∈ L) : sd_I l D (tyL cI cZ cQ) y_V_filledBoxes b_V_filledBoxes 3 (.int) ({ frames := 0, cells := 0, slots := 0, locals := 0 }) [.ref qv] ((vW cI cQ cZ qv qp qr qj qg qs qh qn qu qw qH qF qc ql qf (nI (k)) (nI (n)) (ep) (nI (pf)) (nI (pn)) (1000) (pr) (wi) (M.2.2.2) (hf) (nI M.2.2.1) (lim) (nt) (lt) (nI (M.1)) (192) (M.2.1) (k) (nb) (k) (su) (k) (wt) (n + 1) (fun i => if i < n + 1 then some (hh i) else none) (n + 1) (fun i => if i < n + 1 then some (ff i) else none) (k) (ch) (8) (le) (n + 1) (fl)) ++ va_pl L (rowE cI rw)) (nI (sm_f fl n)) ((vW cI cQ cZ qv qp qr qj qg qs qh qn qu qw qH qF qc ql qf (nI (k)) (nI (n)) (ep) (nI (pf)) (nI (pn)) (1000) (pr) (wi) (M.2.2.2) (hf) (nI M.2.2.1) (lim) (nt) (lt) (nI (M.1)) (192) (M.2.1) (k) (nb) (k) (su) (k) (wt) (n + 1) (fun i => if i < n + 1 then some (hh i) else none) (n + 1) (fun i => if i < n + 1 then some (ff i) else none) (k) (ch) (8) (le) (n + 1) (fl)) ++ va_pl L (rowE cI rw)) := by
  refine sd_ofI (by decide) (Nat.le_of_ble_eq_true rfl) ?_
  intro p e s m below meth c A ls hx hb hr hml hlk hown hts hK hP hD hA hS hl
  have hl : lv_has ls 3 [(0, .ref qv)] := hl
  refine lv_iconst (v := 0) hx hb d_V_filledBoxes_0 (by decide) ?_
  refine sd_top (y := nI 0) (rfl) ?_
  refine lv_istore_n hx hb d_V_filledBoxes_1 rfl hl (Nat.le_of_ble_eq_true rfl) (lv' := [(1, .int (nI 0)), (0, .ref qv)]) rfl (fun ls hl => ?_)
  refine lv_iconst (v := 1) hx hb d_V_filledBoxes_2 (by decide) ?_
  refine sd_top (y := nI 1) (rfl) ?_
  refine lv_istore_n hx hb d_V_filledBoxes_3 rfl hl (Nat.le_of_ble_eq_true rfl) (lv' := [(2, .int (nI 1)), (1, .int (nI 0)), (0, .ref qv)]) rfl (fun ls hl => ?_)
  have hl := lv_sub hl (l' := [(0, .ref qv), (1, .int (nI 0)), (2, .int (nI 1))]) [2, 1, 0] rfl
  have loop4 : ∀ (d : Nat) (b : Nat) (ls : Array Slot) (H : Heap) (locs : List Loc), n - b = d → (b ≤ n) → lv_has ls 3 [(0, .ref qv), (1, .int (nI (sm_f fl b))), (2, .int (nI (b + 1)))] → va_P D cls ((vW cI cQ cZ qv qp qr qj qg qs qh qn qu qw qH qF qc ql qf (nI (k)) (nI (n)) (ep) (nI (pf)) (nI (pn)) (1000) (pr) (wi) (M.2.2.2) (hf) (nI M.2.2.1) (lim) (nt) (lt) (nI (M.1)) (192) (M.2.1) (k) (nb) (k) (su) (k) (wt) (n + 1) (fun i => if i < n + 1 then some (hh i) else none) (n + 1) (fun i => if i < n + 1 then some (ff i) else none) (k) (ch) (8) (le) (n + 1) (fl)) ++ va_pl L (rowE cI rw)) H → va_D A ((vW cI cQ cZ qv qp qr qj qg qs qh qn qu qw qH qF qc ql qf (nI (k)) (nI (n)) (ep) (nI (pf)) (nI (pn)) (1000) (pr) (wi) (M.2.2.2) (hf) (nI M.2.2.1) (lim) (nt) (lt) (nI (M.1)) (192) (M.2.1) (k) (nb) (k) (su) (k) (wt) (n + 1) (fun i => if i < n + 1 then some (hh i) else none) (n + 1) (fun i => if i < n + 1 then some (ff i) else none) (k) (ch) (8) (le) (n + 1) (fl)) ++ va_pl L (rowE cI rw)) → va_S A s.heap H locs → W p l e ({ frames := 0, cells := 0, slots := 0, locals := 0 }) s m ([.ref qv] : List Value).toArray below meth c H locs 0 0 (MQ below (sd_qi D (nI (sm_f fl n)) ((vW cI cQ cZ qv qp qr qj qg qs qh qn qu qw qH qF qc ql qf (nI (k)) (nI (n)) (ep) (nI (pf)) (nI (pn)) (1000) (pr) (wi) (M.2.2.2) (hf) (nI M.2.2.1) (lim) (nt) (lt) (nI (M.1)) (192) (M.2.1) (k) (nb) (k) (su) (k) (wt) (n + 1) (fun i => if i < n + 1 then some (hh i) else none) (n + 1) (fun i => if i < n + 1 then some (ff i) else none) (k) (ch) (8) (le) (n + 1) (fl)) ++ va_pl L (rowE cI rw)) A) ([.ref qv] : List Value).toArray s 0 0 A) (F0 m 4 ls []) := by
    intro d
    induction d using Nat.strongRecOn with
    | _ d ih4 =>
    intro b ls H locs hd hb8 hl hP hD hS
    subst hd
    refine lv_iload_n hx hb d_V_filledBoxes_4 rfl (lv_at hl 2 rfl) ?_
    refine lv_aload_n hx hb d_V_filledBoxes_5 rfl (lv_at hl 0 rfl) ?_
    refine va_get (D := D) (ci := 4) (v := .int (nI (n))) (C := R_V) (T := F_V) (N := 11) hx hb hts wl_V hown hK hP 0 rfl rfl 1 (by decide) (hts _ wf_V_40) (fun _ h9 => h9) rfl d_V_filledBoxes_6 ?_
    refine lv_icmp_gt (tgt := 35) hx hb d_V_filledBoxes_9 rfl (fun hc9 => ?_) (fun hc9 => ?_)
    · skip
      rw [nI_ltI (by omega) (by omega)] at hc9
      refine lv_iload_n hx hb d_V_filledBoxes_35 rfl (lv_at hl 1 rfl) ?_
      have hb8 : n = b := by omega
      subst hb8
      exact sd_iret hx hb hr hlk hP hS (Nat.le_of_ble_eq_true rfl) (Nat.le_of_ble_eq_true rfl) (rfl) d_V_filledBoxes_36
    · skip
      rw [nI_ltI (by omega) (by omega)] at hc9
      refine lv_iload_n hx hb d_V_filledBoxes_12 rfl (lv_at hl 1 rfl) ?_
      refine lv_aload_n hx hb d_V_filledBoxes_13 rfl (lv_at hl 0 rfl) ?_
      refine va_get (D := D) (ci := 4) (v := .ref qf) (C := R_V) (T := F_V) (N := 11) hx hb hts wl_V hown hK hP 0 rfl rfl 9 (by decide) (hts _ wf_V_66) (fun _ h9 => h9) rfl d_V_filledBoxes_14 ?_
      refine lv_iload_n hx hb d_V_filledBoxes_17 rfl (lv_at hl 2 rfl) ?_
      refine sd_zald (j := b + 1) hx hb hK hP 14 1 rfl rfl (by omega) (by omega) d_V_filledBoxes_18 ?_
      refine lv_if_eq (tgt := 26) hx hb d_V_filledBoxes_19 rfl (fun hc19 => ?_) (fun hc19 => ?_)
      · skip
        have hn9 : nI (sm_f fl b) + nI 0 = nI (sm_f fl (b + 1)) := by rw [nI_add, sm_f0 hc19]; rfl
        refine lv_iconst (v := nI 0) hx hb d_V_filledBoxes_26 (by decide) ?_
        refine lv_iadd hx hb d_V_filledBoxes_27 ?_
        refine sd_top (y := nI (sm_f fl (b + 1))) (hn9) ?_
        refine lv_istore_n hx hb d_V_filledBoxes_28 rfl hl (Nat.le_of_ble_eq_true rfl) (lv' := [(1, .int (nI (sm_f fl (b + 1)))), (0, .ref qv), (2, .int (nI (b + 1)))]) rfl (fun ls hl => ?_)
        refine lv_iinc hx hb d_V_filledBoxes_29 hl (k := 2) rfl (v := nI (b + 1 + 1)) (ii_1 _) (Nat.le_of_ble_eq_true rfl) (lv' := [(2, .int (nI (b + 1 + 1))), (1, .int (nI (sm_f fl (b + 1)))), (0, .ref qv)]) rfl (fun ls hl => ?_)
        refine lv_goto (tgt := 4) hx hb d_V_filledBoxes_32 rfl ?_
        have hl := lv_sub hl (l' := [(0, .ref qv), (1, .int (nI (sm_f fl (b + 1)))), (2, .int (nI (b + 1 + 1)))]) [2, 1, 0] rfl
        exact ih4 _ (by omega) (b + 1) ls _ _ rfl (by omega) hl hP hD hS
      · skip
        have hn9 : nI (sm_f fl b) + nI 1 = nI (sm_f fl (b + 1)) := by rw [nI_add, sm_f1 hc19]
        refine lv_iconst (v := nI 1) hx hb d_V_filledBoxes_22 (by decide) ?_
        refine lv_goto (tgt := 27) hx hb d_V_filledBoxes_23 rfl ?_
        refine lv_iadd hx hb d_V_filledBoxes_27 ?_
        refine sd_top (y := nI (sm_f fl (b + 1))) (hn9) ?_
        refine lv_istore_n hx hb d_V_filledBoxes_28 rfl hl (Nat.le_of_ble_eq_true rfl) (lv' := [(1, .int (nI (sm_f fl (b + 1)))), (0, .ref qv), (2, .int (nI (b + 1)))]) rfl (fun ls hl => ?_)
        refine lv_iinc hx hb d_V_filledBoxes_29 hl (k := 2) rfl (v := nI (b + 1 + 1)) (ii_1 _) (Nat.le_of_ble_eq_true rfl) (lv' := [(2, .int (nI (b + 1 + 1))), (1, .int (nI (sm_f fl (b + 1)))), (0, .ref qv)]) rfl (fun ls hl => ?_)
        refine lv_goto (tgt := 4) hx hb d_V_filledBoxes_32 rfl ?_
        have hl := lv_sub hl (l' := [(0, .ref qv), (1, .int (nI (sm_f fl (b + 1)))), (2, .int (nI (b + 1 + 1)))]) [2, 1, 0] rfl
        exact ih4 _ (by omega) (b + 1) ls _ _ rfl (by omega) hl hP hD hS
  exact loop4 _ (0) ls _ _ rfl (Nat.zero_le _) hl hP hD hS
set_option maxHeartbeats 4000000 in
set_option maxRecDepth 100000 in
theorem c_V_pool (l : Launch) (D : va_G) (cI cZ cQ : ClassId) (qv : Nat) (qp : Nat) (qr : Nat) (qj : Nat) (qg : Nat) (qs : Nat) (qh : Nat) (qn : Nat) (qu : Nat) (qw : Nat) (qH : Nat) (qF : Nat) (qc : Nat) (ql : Nat) (qf : Nat) (k : Nat) (n : Nat) (pf : Nat) (pn : Nat) (pr : Nat → Int32) (wi : Int32) (M : ms_T) (hf : Int32) (lim : Int32) (nt : Int32) (lt : Int32) (nb : Nat → Int32) (su : Nat → Int32) (wt : Nat → Int32) (ch : Nat → Int32) (le : Nat → Int32) (fl : Nat → Int32) (ep : Int32) (L : List Nat) (hh : Nat → Nat) (ff : Nat → Nat) (rw : Nat → Nat → Int32) (hk : k < 2 ^ 20) (hn : n < 2 ^ 20) (hhL : ∀ i, i < n + 1 → hh i ∈ L) (ffL : ∀ i, i < n + 1 → ff i ∈ L) : sd_I l D (tyL cI cZ cQ) y_V_pool b_V_pool 1 (.int) ({ frames := 0, cells := 0, slots := 0, locals := 0 }) [.ref qv] ((vW cI cQ cZ qv qp qr qj qg qs qh qn qu qw qH qF qc ql qf (nI (k)) (nI (n)) (ep) (nI (pf)) (nI (pn)) (1000) (pr) (wi) (M.2.2.2) (hf) (nI M.2.2.1) (lim) (nt) (lt) (nI (M.1)) (192) (M.2.1) (k) (nb) (k) (su) (k) (wt) (n + 1) (fun i => if i < n + 1 then some (hh i) else none) (n + 1) (fun i => if i < n + 1 then some (ff i) else none) (k) (ch) (8) (le) (n + 1) (fl)) ++ va_pl L (rowE cI rw)) (nI pn) ((vW cI cQ cZ qv qp qr qj qg qs qh qn qu qw qH qF qc ql qf (nI (k)) (nI (n)) (ep) (nI (pf)) (nI (pn)) (1000) (pr) (wi) (M.2.2.2) (hf) (nI M.2.2.1) (lim) (nt) (lt) (nI (M.1)) (192) (M.2.1) (k) (nb) (k) (su) (k) (wt) (n + 1) (fun i => if i < n + 1 then some (hh i) else none) (n + 1) (fun i => if i < n + 1 then some (ff i) else none) (k) (ch) (8) (le) (n + 1) (fl)) ++ va_pl L (rowE cI rw)) := by
  refine sd_ofI (by decide) (Nat.le_of_ble_eq_true rfl) ?_
  intro p e s m below meth c A ls hx hb hr hml hlk hown hts hK hP hD hA hS hl
  have hl : lv_has ls 1 [(0, .ref qv)] := hl
  refine lv_aload_n hx hb d_V_pool_0 rfl (lv_at hl 0 rfl) ?_
  refine va_get (D := D) (ci := 4) (v := .ref qp) (C := R_V) (T := F_V) (N := 11) hx hb hts wl_V hown hK hP 0 rfl rfl 2 (by decide) (hts _ wf_V_10) (fun _ h9 => h9) rfl d_V_pool_1 ?_
  refine va_get (D := D) (ci := 0) (v := .int (nI (pn))) (C := R_P) (T := F_P) (N := 3) hx hb hts wl_P hown hK hP 1 rfl rfl 2 (by decide) (hts _ wf_V_77) (fun _ h9 => h9) rfl d_V_pool_4 ?_
  exact sd_iret hx hb hr hlk hP hS (Nat.le_of_ble_eq_true rfl) (Nat.le_of_ble_eq_true rfl) (rfl) d_V_pool_7
set_option maxHeartbeats 4000000 in
set_option maxRecDepth 100000 in
theorem c_V_stopped (l : Launch) (D : va_G) (cI cZ cQ : ClassId) (qv : Nat) (qp : Nat) (qr : Nat) (qj : Nat) (qg : Nat) (qs : Nat) (qh : Nat) (qn : Nat) (qu : Nat) (qw : Nat) (qH : Nat) (qF : Nat) (qc : Nat) (ql : Nat) (qf : Nat) (k : Nat) (n : Nat) (pf : Nat) (pn : Nat) (pr : Nat → Int32) (wi : Int32) (M : ms_T) (hf : Int32) (lim : Int32) (nt : Int32) (lt : Int32) (nb : Nat → Int32) (su : Nat → Int32) (wt : Nat → Int32) (ch : Nat → Int32) (le : Nat → Int32) (fl : Nat → Int32) (ep : Int32) (L : List Nat) (hh : Nat → Nat) (ff : Nat → Nat) (rw : Nat → Nat → Int32) (hk : k < 2 ^ 20) (hn : n < 2 ^ 20) (hhL : ∀ i, i < n + 1 → hh i ∈ L) (ffL : ∀ i, i < n + 1 → ff i ∈ L) (hz : narrow .boolean (.int M.2.2.2) = .int M.2.2.2) : sd_I l D (tyL cI cZ cQ) y_V_stopped b_V_stopped 1 (.boolean) ({ frames := 0, cells := 0, slots := 0, locals := 0 }) [.ref qv] ((vW cI cQ cZ qv qp qr qj qg qs qh qn qu qw qH qF qc ql qf (nI (k)) (nI (n)) (ep) (nI (pf)) (nI (pn)) (1000) (pr) (wi) (M.2.2.2) (hf) (nI M.2.2.1) (lim) (nt) (lt) (nI (M.1)) (192) (M.2.1) (k) (nb) (k) (su) (k) (wt) (n + 1) (fun i => if i < n + 1 then some (hh i) else none) (n + 1) (fun i => if i < n + 1 then some (ff i) else none) (k) (ch) (8) (le) (n + 1) (fl)) ++ va_pl L (rowE cI rw)) (M.2.2.2) ((vW cI cQ cZ qv qp qr qj qg qs qh qn qu qw qH qF qc ql qf (nI (k)) (nI (n)) (ep) (nI (pf)) (nI (pn)) (1000) (pr) (wi) (M.2.2.2) (hf) (nI M.2.2.1) (lim) (nt) (lt) (nI (M.1)) (192) (M.2.1) (k) (nb) (k) (su) (k) (wt) (n + 1) (fun i => if i < n + 1 then some (hh i) else none) (n + 1) (fun i => if i < n + 1 then some (ff i) else none) (k) (ch) (8) (le) (n + 1) (fl)) ++ va_pl L (rowE cI rw)) := by
  refine sd_ofI (by decide) (Nat.le_of_ble_eq_true rfl) ?_
  intro p e s m below meth c A ls hx hb hr hml hlk hown hts hK hP hD hA hS hl
  have hl : lv_has ls 1 [(0, .ref qv)] := hl
  refine lv_aload_n hx hb d_V_stopped_0 rfl (lv_at hl 0 rfl) ?_
  refine va_get (D := D) (ci := 4) (v := .ref qj) (C := R_V) (T := F_V) (N := 11) hx hb hts wl_V hown hK hP 0 rfl rfl 3 (by decide) (hts _ wf_V_19) (fun _ h9 => h9) rfl d_V_stopped_1 ?_
  refine va_get (D := D) (ci := 2) (v := .int (M.2.2.2)) (C := R_J) (T := F_J) (N := 8) hx hb hts wl_J hown hK hP 3 rfl rfl 2 (by decide) (hts _ wf_V_177) (fun _ h9 => h9) rfl d_V_stopped_4 ?_
  exact sd_zret hx hb hr hlk hP hS (Nat.le_of_ble_eq_true rfl) (Nat.le_of_ble_eq_true rfl) (rfl) (hz) d_V_stopped_7
set_option maxHeartbeats 4000000 in
set_option maxRecDepth 100000 in
theorem c_V_files (l : Launch) (D : va_G) (cI cZ cQ : ClassId) (qv : Nat) (qp : Nat) (qr : Nat) (qj : Nat) (qg : Nat) (qs : Nat) (qh : Nat) (qn : Nat) (qu : Nat) (qw : Nat) (qH : Nat) (qF : Nat) (qc : Nat) (ql : Nat) (qf : Nat) (k : Nat) (n : Nat) (pf : Nat) (pn : Nat) (pr : Nat → Int32) (wi : Int32) (M : ms_T) (hf : Int32) (lim : Int32) (nt : Int32) (lt : Int32) (nb : Nat → Int32) (su : Nat → Int32) (wt : Nat → Int32) (ch : Nat → Int32) (le : Nat → Int32) (fl : Nat → Int32) (ep : Int32) (L : List Nat) (hh : Nat → Nat) (ff : Nat → Nat) (rw : Nat → Nat → Int32) (ln : Nat → Nat) (hk : k < 2 ^ 20) (hn : n < 2 ^ 20) (hhL : ∀ i, i < n + 1 → hh i ∈ L) (ffL : ∀ i, i < n + 1 → ff i ∈ L) (hle : ∀ i, i < 8 → le i = nI (ln i)) (hln : ∀ i, i < 8 → ln i ≤ 8) : sd_I l D (tyL cI cZ cQ) y_V_files b_V_files 1 (.int) ({ frames := 1, cells := 0, slots := 0, locals := 22 }) [.ref qv] ((vW cI cQ cZ qv qp qr qj qg qs qh qn qu qw qH qF qc ql qf (nI (k)) (nI (n)) (ep) (nI (pf)) (nI (pn)) (1000) (pr) (wi) (M.2.2.2) (hf) (nI M.2.2.1) (lim) (nt) (lt) (nI (M.1)) (192) (M.2.1) (k) (nb) (k) (su) (k) (wt) (n + 1) (fun i => if i < n + 1 then some (hh i) else none) (n + 1) (fun i => if i < n + 1 then some (ff i) else none) (k) (ch) (8) (le) (n + 1) (fl)) ++ va_pl L (rowE cI rw)) (nI (sm_k ln 8)) ((vW cI cQ cZ qv qp qr qj qg qs qh qn qu qw qH qF qc ql qf (nI (k)) (nI (n)) (ep) (nI (pf)) (nI (pn)) (1000) (pr) (wi) (M.2.2.2) (hf) (nI M.2.2.1) (lim) (nt) (lt) (nI (M.1)) (192) (M.2.1) (k) (nb) (k) (su) (k) (wt) (n + 1) (fun i => if i < n + 1 then some (hh i) else none) (n + 1) (fun i => if i < n + 1 then some (ff i) else none) (k) (ch) (8) (le) (n + 1) (fl)) ++ va_pl L (rowE cI rw)) := by
  refine sd_ofI (by decide) (Nat.le_of_ble_eq_true rfl) ?_
  intro p e s m below meth c A ls hx hb hr hml hlk hown hts hK hP hD hA hS hl
  have hl : lv_has ls 1 [(0, .ref qv)] := hl
  refine lv_aload_n hx hb d_V_files_0 rfl (lv_at hl 0 rfl) ?_
  refine sd_allVI (As := []) (rest := []) (w1 := ((vW cI cQ cZ qv qp qr qj qg qs qh qn qu qw qH qF qc ql qf (nI (k)) (nI (n)) (ep) (nI (pf)) (nI (pn)) (1000) (pr) (wi) (M.2.2.2) (hf) (nI M.2.2.1) (lim) (nt) (lt) (nI (M.1)) (192) (M.2.1) (k) (nb) (k) (su) (k) (wt) (n + 1) (fun i => if i < n + 1 then some (hh i) else none) (n + 1) (fun i => if i < n + 1 then some (ff i) else none) (k) (ch) (8) (le) (n + 1) (fl)) ++ va_pl L (rowE cI rw))) (c_V_keptFiles l D cI cZ cQ (qv) (qp) (qr) (qj) (qg) (qs) (qh) (qn) (qu) (qw) (qH) (qF) (qc) (ql) (qf) (k) (n) (pf) (pn) (pr) (wi) (M) (hf) (lim) (nt) (lt) (nb) (su) (wt) (ch) (le) (fl) (ep) (L) (hh) (ff) (rw) (ln) (hk) (hn) (hhL) (ffL) (hle) (hln)) ⟨wc_V_keptFiles, wm_V_199, wi_V, by decide, by decide, show (parseMethodDescriptor y_V_keptFiles.desc).map (fun d => d.parameters.length) = some 0 by decide +kernel⟩ wo_V_keptFiles wz_V_keptFiles hx hb hml hown hts hl.1 ⟨Nat.le_of_ble_eq_true rfl, Nat.le_of_ble_eq_true rfl⟩ ⟨Nat.le_of_ble_eq_true rfl, Nat.le_of_ble_eq_true rfl⟩ hK hP hD hS hA (rfl) (q0 := 0) rfl rfl rfl (Nat.le_of_ble_eq_true rfl) d_V_files_1 (fun H locs hP hD hS => ?_)
  have hP : va_P D cls ((vW cI cQ cZ qv qp qr qj qg qs qh qn qu qw qH qF qc ql qf (nI (k)) (nI (n)) (ep) (nI (pf)) (nI (pn)) (1000) (pr) (wi) (M.2.2.2) (hf) (nI M.2.2.1) (lim) (nt) (lt) (nI (M.1)) (192) (M.2.1) (k) (nb) (k) (su) (k) (wt) (n + 1) (fun i => if i < n + 1 then some (hh i) else none) (n + 1) (fun i => if i < n + 1 then some (ff i) else none) (k) (ch) (8) (le) (n + 1) (fl)) ++ va_pl L (rowE cI rw)) H := hP
  have hD : va_D A ((vW cI cQ cZ qv qp qr qj qg qs qh qn qu qw qH qF qc ql qf (nI (k)) (nI (n)) (ep) (nI (pf)) (nI (pn)) (1000) (pr) (wi) (M.2.2.2) (hf) (nI M.2.2.1) (lim) (nt) (lt) (nI (M.1)) (192) (M.2.1) (k) (nb) (k) (su) (k) (wt) (n + 1) (fun i => if i < n + 1 then some (hh i) else none) (n + 1) (fun i => if i < n + 1 then some (ff i) else none) (k) (ch) (8) (le) (n + 1) (fl)) ++ va_pl L (rowE cI rw)) := hD
  exact sd_iret hx hb hr hlk hP hS (Nat.le_of_ble_eq_true rfl) (Nat.le_of_ble_eq_true rfl) (rfl) d_V_files_4
set_option maxHeartbeats 4000000 in
set_option maxRecDepth 100000 in
theorem c_V_epoch (l : Launch) (D : va_G) (cI cZ cQ : ClassId) (qv : Nat) (qp : Nat) (qr : Nat) (qj : Nat) (qg : Nat) (qs : Nat) (qh : Nat) (qn : Nat) (qu : Nat) (qw : Nat) (qH : Nat) (qF : Nat) (qc : Nat) (ql : Nat) (qf : Nat) (k : Nat) (n : Nat) (pf : Nat) (pn : Nat) (pr : Nat → Int32) (wi : Int32) (M : ms_T) (hf : Int32) (lim : Int32) (nt : Int32) (lt : Int32) (nb : Nat → Int32) (su : Nat → Int32) (wt : Nat → Int32) (ch : Nat → Int32) (le : Nat → Int32) (fl : Nat → Int32) (ep : Int32) (L : List Nat) (hh : Nat → Nat) (ff : Nat → Nat) (rw : Nat → Nat → Int32) (hk : k < 2 ^ 20) (hn : n < 2 ^ 20) (hhL : ∀ i, i < n + 1 → hh i ∈ L) (ffL : ∀ i, i < n + 1 → ff i ∈ L) : sd_I l D (tyL cI cZ cQ) y_V_epoch b_V_epoch 1 (.int) ({ frames := 0, cells := 0, slots := 0, locals := 0 }) [.ref qv] ((vW cI cQ cZ qv qp qr qj qg qs qh qn qu qw qH qF qc ql qf (nI (k)) (nI (n)) (ep) (nI (pf)) (nI (pn)) (1000) (pr) (wi) (M.2.2.2) (hf) (nI M.2.2.1) (lim) (nt) (lt) (nI (M.1)) (192) (M.2.1) (k) (nb) (k) (su) (k) (wt) (n + 1) (fun i => if i < n + 1 then some (hh i) else none) (n + 1) (fun i => if i < n + 1 then some (ff i) else none) (k) (ch) (8) (le) (n + 1) (fl)) ++ va_pl L (rowE cI rw)) (ep) ((vW cI cQ cZ qv qp qr qj qg qs qh qn qu qw qH qF qc ql qf (nI (k)) (nI (n)) (ep) (nI (pf)) (nI (pn)) (1000) (pr) (wi) (M.2.2.2) (hf) (nI M.2.2.1) (lim) (nt) (lt) (nI (M.1)) (192) (M.2.1) (k) (nb) (k) (su) (k) (wt) (n + 1) (fun i => if i < n + 1 then some (hh i) else none) (n + 1) (fun i => if i < n + 1 then some (ff i) else none) (k) (ch) (8) (le) (n + 1) (fl)) ++ va_pl L (rowE cI rw)) := by
  refine sd_ofI (by decide) (Nat.le_of_ble_eq_true rfl) ?_
  intro p e s m below meth c A ls hx hb hr hml hlk hown hts hK hP hD hA hS hl
  have hl : lv_has ls 1 [(0, .ref qv)] := hl
  refine lv_aload_n hx hb d_V_epoch_0 rfl (lv_at hl 0 rfl) ?_
  refine va_get (D := D) (ci := 4) (v := .int (ep)) (C := R_V) (T := F_V) (N := 11) hx hb hts wl_V hown hK hP 0 rfl rfl 10 (by decide) (hts _ wf_V_27) (fun _ h9 => h9) rfl d_V_epoch_1 ?_
  exact sd_iret hx hb hr hlk hP hS (Nat.le_of_ble_eq_true rfl) (Nat.le_of_ble_eq_true rfl) (rfl) d_V_epoch_4
set_option maxHeartbeats 4000000 in
set_option maxRecDepth 100000 in
theorem c_V_sent (l : Launch) (D : va_G) (cI cZ cQ : ClassId) (qv : Nat) (qp : Nat) (qr : Nat) (qj : Nat) (qg : Nat) (qs : Nat) (qh : Nat) (qn : Nat) (qu : Nat) (qw : Nat) (qH : Nat) (qF : Nat) (qc : Nat) (ql : Nat) (qf : Nat) (k : Nat) (n : Nat) (pf : Nat) (pn : Nat) (pr : Nat → Int32) (wi : Int32) (M : ms_T) (hf : Int32) (lim : Int32) (nt : Int32) (lt : Int32) (nb : Nat → Int32) (su : Nat → Int32) (wt : Nat → Int32) (ch : Nat → Int32) (le : Nat → Int32) (fl : Nat → Int32) (ep : Int32) (L : List Nat) (hh : Nat → Nat) (ff : Nat → Nat) (rw : Nat → Nat → Int32) (hk : k < 2 ^ 20) (hn : n < 2 ^ 20) (hhL : ∀ i, i < n + 1 → hh i ∈ L) (ffL : ∀ i, i < n + 1 → ff i ∈ L) : sd_I l D (tyL cI cZ cQ) y_V_sent b_V_sent 1 (.int) ({ frames := 0, cells := 0, slots := 0, locals := 0 }) [.ref qv] ((vW cI cQ cZ qv qp qr qj qg qs qh qn qu qw qH qF qc ql qf (nI (k)) (nI (n)) (ep) (nI (pf)) (nI (pn)) (1000) (pr) (wi) (M.2.2.2) (hf) (nI M.2.2.1) (lim) (nt) (lt) (nI (M.1)) (192) (M.2.1) (k) (nb) (k) (su) (k) (wt) (n + 1) (fun i => if i < n + 1 then some (hh i) else none) (n + 1) (fun i => if i < n + 1 then some (ff i) else none) (k) (ch) (8) (le) (n + 1) (fl)) ++ va_pl L (rowE cI rw)) (nI M.1) ((vW cI cQ cZ qv qp qr qj qg qs qh qn qu qw qH qF qc ql qf (nI (k)) (nI (n)) (ep) (nI (pf)) (nI (pn)) (1000) (pr) (wi) (M.2.2.2) (hf) (nI M.2.2.1) (lim) (nt) (lt) (nI (M.1)) (192) (M.2.1) (k) (nb) (k) (su) (k) (wt) (n + 1) (fun i => if i < n + 1 then some (hh i) else none) (n + 1) (fun i => if i < n + 1 then some (ff i) else none) (k) (ch) (8) (le) (n + 1) (fl)) ++ va_pl L (rowE cI rw)) := by
  refine sd_ofI (by decide) (Nat.le_of_ble_eq_true rfl) ?_
  intro p e s m below meth c A ls hx hb hr hml hlk hown hts hK hP hD hA hS hl
  have hl : lv_has ls 1 [(0, .ref qv)] := hl
  refine lv_aload_n hx hb d_V_sent_0 rfl (lv_at hl 0 rfl) ?_
  refine va_get (D := D) (ci := 4) (v := .ref qj) (C := R_V) (T := F_V) (N := 11) hx hb hts wl_V hown hK hP 0 rfl rfl 3 (by decide) (hts _ wf_V_19) (fun _ h9 => h9) rfl d_V_sent_1 ?_
  refine va_get (D := D) (ci := 2) (v := .ref qg) (C := R_J) (T := F_J) (N := 8) hx hb hts wl_J hown hK hP 3 rfl rfl 0 (by decide) (hts _ wf_V_204) (fun _ h9 => h9) rfl d_V_sent_4 ?_
  refine va_get (D := D) (ci := 1) (v := .int (nI (M.1))) (C := R_G) (T := F_G) (N := 2) hx hb hts wl_G hown hK hP 4 rfl rfl 1 (by decide) (hts _ wf_V_208) (fun _ h9 => h9) rfl d_V_sent_7 ?_
  exact sd_iret hx hb hr hlk hP hS (Nat.le_of_ble_eq_true rfl) (Nat.le_of_ble_eq_true rfl) (rfl) d_V_sent_10
