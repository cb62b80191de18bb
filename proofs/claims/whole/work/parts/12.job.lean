/-! the messages: (total, the log's ring, sent in this job, stopped) -/
abbrev ms_T : Type := Nat × (Nat → Int32) × Nat × Int32
def ms_0 (M : ms_T) : ms_T := (M.1, M.2.1, 0, M.2.2.2)
/-- a message is sent, or the job stops -/
def ms_s (lim : Int32) (M : ms_T) (a b x : Int32) : ms_T := if nI M.2.2.1 = lim then (M.1, M.2.1, M.2.2.1, 1) else (M.1 + 1, lg_put M.2.1 M.1 a b x, M.2.2.1 + 1, M.2.2.2)
/-- whether it was sent -/
def ms_r (lim : Int32) (M : ms_T) : Int32 := if nI M.2.2.1 = lim then 0 else 1
theorem ms_sn {lim : Int32} {M : ms_T} {a b x : Int32} (h : nI M.2.2.1 = lim) : ms_s lim M a b x = (M.1, M.2.1, M.2.2.1, 1) := if_pos h
theorem ms_sy {lim : Int32} {M : ms_T} {a b x : Int32} (h : ¬ nI M.2.2.1 = lim) : ms_s lim M a b x = (M.1 + 1, lg_put M.2.1 M.1 a b x, M.2.2.1 + 1, M.2.2.2) := if_neg h
theorem ms_rn {lim : Int32} {M : ms_T} (h : nI M.2.2.1 = lim) : ms_r lim M = 0 := if_pos h
theorem ms_ry {lim : Int32} {M : ms_T} (h : ¬ nI M.2.2.1 = lim) : ms_r lim M = 1 := if_neg h
theorem ms_rz (lim : Int32) (M : ms_T) : narrow .boolean (.int (ms_r lim M)) = .int (ms_r lim M) := by unfold ms_r; split <;> rfl
theorem ms_rf (lim : Int32) (M : ms_T) : fits .boolean (.int (ms_r lim M)) = true := by unfold ms_r; split <;> rfl
theorem d_J_begin_0 : decode b_J_begin 0 = .ok (.aload_n 0, 1) := by decide +kernel
theorem d_J_begin_1 : decode b_J_begin 1 = .ok (.aload_n 0, 1) := by decide +kernel
theorem d_J_begin_2 : decode b_J_begin 2 = .ok (.getfield 18, 3) := by decide +kernel
theorem d_J_begin_5 : decode b_J_begin 5 = .ok (.putfield 32, 3) := by decide +kernel
theorem d_J_begin_8 : decode b_J_begin 8 = .ok (.aload_n 0, 1) := by decide +kernel
theorem d_J_begin_9 : decode b_J_begin 9 = .ok (.iconst (-1), 1) := by decide +kernel
theorem d_J_begin_10 : decode b_J_begin 10 = .ok (.putfield 18, 3) := by decide +kernel
theorem d_J_begin_13 : decode b_J_begin 13 = .ok (.aload_n 0, 1) := by decide +kernel
theorem d_J_begin_14 : decode b_J_begin 14 = .ok (.iconst 0, 1) := by decide +kernel
theorem d_J_begin_15 : decode b_J_begin 15 = .ok (.putfield 29, 3) := by decide +kernel
theorem d_J_begin_18 : decode b_J_begin 18 = .ok (.return_, 1) := by decide +kernel
theorem d_J_send_0 : decode b_J_send 0 = .ok (.aload_n 0, 1) := by decide +kernel
theorem d_J_send_1 : decode b_J_send 1 = .ok (.getfield 29, 3) := by decide +kernel
theorem d_J_send_4 : decode b_J_send 4 = .ok (.aload_n 0, 1) := by decide +kernel
theorem d_J_send_5 : decode b_J_send 5 = .ok (.getfield 32, 3) := by decide +kernel
theorem d_J_send_8 : decode b_J_send 8 = .ok (.if_icmp .ne 10, 3) := by decide +kernel
theorem d_J_send_11 : decode b_J_send 11 = .ok (.aload_n 0, 1) := by decide +kernel
theorem d_J_send_12 : decode b_J_send 12 = .ok (.iconst 1, 1) := by decide +kernel
theorem d_J_send_13 : decode b_J_send 13 = .ok (.putfield 22, 3) := by decide +kernel
theorem d_J_send_16 : decode b_J_send 16 = .ok (.iconst 0, 1) := by decide +kernel
theorem d_J_send_17 : decode b_J_send 17 = .ok (.ireturn, 1) := by decide +kernel
theorem d_J_send_18 : decode b_J_send 18 = .ok (.aload_n 0, 1) := by decide +kernel
theorem d_J_send_19 : decode b_J_send 19 = .ok (.getfield 12, 3) := by decide +kernel
theorem d_J_send_22 : decode b_J_send 22 = .ok (.iload_n 1, 1) := by decide +kernel
theorem d_J_send_23 : decode b_J_send 23 = .ok (.iload_n 2, 1) := by decide +kernel
theorem d_J_send_24 : decode b_J_send 24 = .ok (.iload_n 3, 1) := by decide +kernel
theorem d_J_send_25 : decode b_J_send 25 = .ok (.invokevirtual 41, 3) := by decide +kernel
theorem d_J_send_28 : decode b_J_send 28 = .ok (.aload_n 0, 1) := by decide +kernel
theorem d_J_send_29 : decode b_J_send 29 = .ok (.dup, 1) := by decide +kernel
theorem d_J_send_30 : decode b_J_send 30 = .ok (.getfield 29, 3) := by decide +kernel
theorem d_J_send_33 : decode b_J_send 33 = .ok (.iconst 1, 1) := by decide +kernel
theorem d_J_send_34 : decode b_J_send 34 = .ok (.iadd, 1) := by decide +kernel
theorem d_J_send_35 : decode b_J_send 35 = .ok (.putfield 29, 3) := by decide +kernel
theorem d_J_send_38 : decode b_J_send 38 = .ok (.iconst 1, 1) := by decide +kernel
theorem d_J_send_39 : decode b_J_send 39 = .ok (.ireturn, 1) := by decide +kernel
theorem d_J_flip_0 : decode b_J_flip 0 = .ok (.aload_n 0, 1) := by decide +kernel
theorem d_J_flip_1 : decode b_J_flip 1 = .ok (.aload_n 0, 1) := by decide +kernel
theorem d_J_flip_2 : decode b_J_flip 2 = .ok (.iconst 0, 1) := by decide +kernel
theorem d_J_flip_3 : decode b_J_flip 3 = .ok (.iconst 0, 1) := by decide +kernel
theorem d_J_flip_4 : decode b_J_flip 4 = .ok (.sipush 256, 3) := by decide +kernel
theorem d_J_flip_7 : decode b_J_flip 7 = .ok (.invokevirtual 45, 3) := by decide +kernel
theorem d_J_flip_10 : decode b_J_flip 10 = .ok (.putfield 26, 3) := by decide +kernel
theorem d_J_flip_13 : decode b_J_flip 13 = .ok (.aload_n 0, 1) := by decide +kernel
theorem d_J_flip_14 : decode b_J_flip 14 = .ok (.getfield 26, 3) := by decide +kernel
theorem d_J_flip_17 : decode b_J_flip 17 = .ok (.ireturn, 1) := by decide +kernel
set_option maxHeartbeats 4000000 in
set_option maxRecDepth 100000 in
theorem c_J_begin (l : Launch) (D : va_G) (cI cZ cQ : ClassId) (qj : Nat) (qg : Nat) (qs : Nat) (wi : Int32) (M : ms_T) (hf : Int32) (lim : Int32) (nt : Int32) (lt : Int32) : sd_V l D (tyL cI cZ cQ) y_J_begin b_J_begin 1 ({ frames := 0, cells := 0, slots := 0, locals := 0 }) [.ref qj] [(qj, .inr (2, [.ref qg, .int (wi), .int (M.2.2.2), .int (hf), .int (nI M.2.2.1), .int (lim), .int (nt), .int (lt)])), (qg, .inr (1, [.ref qs, .int (nI (M.1))])), (qs, .inl (cI, 192, .inl (M.2.1)))] [(qj, .inr (2, [.ref qg, .int ((-1)), .int ((ms_0 M).2.2.2), .int (hf), .int (nI (ms_0 M).2.2.1), .int (wi), .int (nt), .int (lt)])), (qg, .inr (1, [.ref qs, .int (nI ((ms_0 M).1))])), (qs, .inl (cI, 192, .inl ((ms_0 M).2.1)))] := by
  refine sd_ofV (by decide) (Nat.le_of_ble_eq_true rfl) ?_
  intro p e s m below meth c A ls hx hb hr hml hlk hown hts hK hP hD hA hS hl
  have hl : lv_has ls 1 [(0, .ref qj)] := hl
  refine lv_aload_n hx hb d_J_begin_0 rfl (lv_at hl 0 rfl) ?_
  refine lv_aload_n hx hb d_J_begin_1 rfl (lv_at hl 0 rfl) ?_
  refine va_get (D := D) (ci := 2) (v := .int (wi)) (C := R_J) (T := F_J) (N := 8) hx hb hts wl_J hown hK hP 0 rfl rfl 1 (by decide) (hts _ wf_J_18) (fun _ h9 => h9) rfl d_J_begin_2 ?_
  refine va_put (D := D) (ci := 2) (v := .int (wi)) (ty := .int) (C := R_J) (T := F_J) (N := 8) hx hb hts wl_J t_J t_J_ok n_J hown hK hP hD hS 0 rfl rfl 5 (by decide) (hts _ wf_J_32) (fun _ h9 => h9) rfl (by decide +kernel) rfl rfl (Nat.le_of_ble_eq_true rfl) d_J_begin_5 (fun H locs hP hD hS => ?_)
  have hP : va_P D cls [(qj, .inr (2, [.ref qg, .int (wi), .int (M.2.2.2), .int (hf), .int (nI M.2.2.1), .int (wi), .int (nt), .int (lt)])), (qg, .inr (1, [.ref qs, .int (nI (M.1))])), (qs, .inl (cI, 192, .inl (M.2.1)))] H := hP
  have hD : va_D A [(qj, .inr (2, [.ref qg, .int (wi), .int (M.2.2.2), .int (hf), .int (nI M.2.2.1), .int (wi), .int (nt), .int (lt)])), (qg, .inr (1, [.ref qs, .int (nI (M.1))])), (qs, .inl (cI, 192, .inl (M.2.1)))] := hD
  refine lv_aload_n hx hb d_J_begin_8 rfl (lv_at hl 0 rfl) ?_
  refine lv_iconst (v := (-1)) hx hb d_J_begin_9 (by decide) ?_
  refine va_put (D := D) (ci := 2) (v := .int ((-1))) (ty := .int) (C := R_J) (T := F_J) (N := 8) hx hb hts wl_J t_J t_J_ok n_J hown hK hP hD hS 0 rfl rfl 1 (by decide) (hts _ wf_J_18) (fun _ h9 => h9) rfl (by decide +kernel) rfl rfl (Nat.le_of_ble_eq_true rfl) d_J_begin_10 (fun H locs hP hD hS => ?_)
  have hP : va_P D cls [(qj, .inr (2, [.ref qg, .int ((-1)), .int (M.2.2.2), .int (hf), .int (nI M.2.2.1), .int (wi), .int (nt), .int (lt)])), (qg, .inr (1, [.ref qs, .int (nI (M.1))])), (qs, .inl (cI, 192, .inl (M.2.1)))] H := hP
  have hD : va_D A [(qj, .inr (2, [.ref qg, .int ((-1)), .int (M.2.2.2), .int (hf), .int (nI M.2.2.1), .int (wi), .int (nt), .int (lt)])), (qg, .inr (1, [.ref qs, .int (nI (M.1))])), (qs, .inl (cI, 192, .inl (M.2.1)))] := hD
  refine lv_aload_n hx hb d_J_begin_13 rfl (lv_at hl 0 rfl) ?_
  refine lv_iconst (v := nI 0) hx hb d_J_begin_14 (by decide) ?_
  refine va_put (D := D) (ci := 2) (v := .int (nI 0)) (ty := .int) (C := R_J) (T := F_J) (N := 8) hx hb hts wl_J t_J t_J_ok n_J hown hK hP hD hS 0 rfl rfl 4 (by decide) (hts _ wf_J_29) (fun _ h9 => h9) rfl (by decide +kernel) rfl rfl (Nat.le_of_ble_eq_true rfl) d_J_begin_15 (fun H locs hP hD hS => ?_)
  have hP : va_P D cls [(qj, .inr (2, [.ref qg, .int ((-1)), .int (M.2.2.2), .int (hf), .int (nI 0), .int (wi), .int (nt), .int (lt)])), (qg, .inr (1, [.ref qs, .int (nI (M.1))])), (qs, .inl (cI, 192, .inl (M.2.1)))] H := hP
  have hD : va_D A [(qj, .inr (2, [.ref qg, .int ((-1)), .int (M.2.2.2), .int (hf), .int (nI 0), .int (wi), .int (nt), .int (lt)])), (qg, .inr (1, [.ref qs, .int (nI (M.1))])), (qs, .inl (cI, 192, .inl (M.2.1)))] := hD
  have hP : va_P D cls [(qj, .inr (2, [.ref qg, .int ((-1)), .int ((ms_0 M).2.2.2), .int (hf), .int (nI (ms_0 M).2.2.1), .int (wi), .int (nt), .int (lt)])), (qg, .inr (1, [.ref qs, .int (nI ((ms_0 M).1))])), (qs, .inl (cI, 192, .inl ((ms_0 M).2.1)))] H := hP
  exact sd_vret hx hb hr hlk hP hS (Nat.le_of_ble_eq_true rfl) (Nat.le_of_ble_eq_true rfl) d_J_begin_18
set_option maxHeartbeats 4000000 in
set_option maxRecDepth 100000 in
theorem c_J_send (l : Launch) (D : va_G) (cI cZ cQ : ClassId) (qj : Nat) (qg : Nat) (qs : Nat) (wi : Int32) (M : ms_T) (hf : Int32) (lim : Int32) (nt : Int32) (lt : Int32) (a : Int32) (b : Int32) (x : Int32) (hT : M.1 < 2 ^ 31) : sd_I l D (tyL cI cZ cQ) y_J_send b_J_send 4 (.boolean) ({ frames := 1, cells := 0, slots := 0, locals := 24 }) [.ref qj, .int (a), .int (b), .int (x)] [(qj, .inr (2, [.ref qg, .int (wi), .int (M.2.2.2), .int (hf), .int (nI M.2.2.1), .int (lim), .int (nt), .int (lt)])), (qg, .inr (1, [.ref qs, .int (nI (M.1))])), (qs, .inl (cI, 192, .inl (M.2.1)))] (ms_r lim M) [(qj, .inr (2, [.ref qg, .int (wi), .int ((ms_s lim M a b x).2.2.2), .int (hf), .int (nI (ms_s lim M a b x).2.2.1), .int (lim), .int (nt), .int (lt)])), (qg, .inr (1, [.ref qs, .int (nI ((ms_s lim M a b x).1))])), (qs, .inl (cI, 192, .inl ((ms_s lim M a b x).2.1)))] := by
  refine sd_ofI (by decide) (Nat.le_of_ble_eq_true rfl) ?_
  intro p e s m below meth c A ls hx hb hr hml hlk hown hts hK hP hD hA hS hl
  have hl : lv_has ls 4 [(0, .ref qj), (1, .int (a)), (2, .int (b)), (3, .int (x))] := hl
  refine lv_aload_n hx hb d_J_send_0 rfl (lv_at hl 0 rfl) ?_
  refine va_get (D := D) (ci := 2) (v := .int (nI M.2.2.1)) (C := R_J) (T := F_J) (N := 8) hx hb hts wl_J hown hK hP 0 rfl rfl 4 (by decide) (hts _ wf_J_29) (fun _ h9 => h9) rfl d_J_send_1 ?_
  refine lv_aload_n hx hb d_J_send_4 rfl (lv_at hl 0 rfl) ?_
  refine va_get (D := D) (ci := 2) (v := .int (lim)) (C := R_J) (T := F_J) (N := 8) hx hb hts wl_J hown hK hP 0 rfl rfl 5 (by decide) (hts _ wf_J_32) (fun _ h9 => h9) rfl d_J_send_5 ?_
  refine lv_icmp_ne (tgt := 18) hx hb d_J_send_8 rfl (fun hc8 => ?_) (fun hc8 => ?_)
  · skip
    refine lv_aload_n hx hb d_J_send_18 rfl (lv_at hl 0 rfl) ?_
    refine va_get (D := D) (ci := 2) (v := .ref qg) (C := R_J) (T := F_J) (N := 8) hx hb hts wl_J hown hK hP 0 rfl rfl 0 (by decide) (hts _ wf_J_12) (fun _ h9 => h9) rfl d_J_send_19 ?_
    refine lv_iload_n hx hb d_J_send_22 rfl (lv_at hl 1 rfl) ?_
    refine lv_iload_n hx hb d_J_send_23 rfl (lv_at hl 2 rfl) ?_
    refine lv_iload_n hx hb d_J_send_24 rfl (lv_at hl 3 rfl) ?_
    refine sd_callVV (As := [.int (a), .int (b), .int (x)]) (rest := []) (cx := [(qg, .inr (1, [.ref qs, .int (nI (M.1))])), (qs, .inl (cI, 192, .inl (M.2.1)))]) (w1 := [(qg, .inr (1, [.ref qs, .int (nI (M.1 + 1))])), (qs, .inl (cI, 192, .inl (lg_put M.2.1 M.1 a b x)))]) (c_G_note l D cI cZ cQ (qg) (qs) (M.1) (M.2.1) (a) (b) (x) (hT)) ⟨wc_G_note, wm_J_41, wi_G, by decide, by decide, show (parseMethodDescriptor y_G_note.desc).map (fun d => d.parameters.length) = some 3 by decide +kernel⟩ wo_G_note wz_G_note hx hb hml hown hts hl.1 ⟨Nat.le_of_ble_eq_true rfl, Nat.le_of_ble_eq_true rfl⟩ ⟨Nat.le_of_ble_eq_true rfl, Nat.le_of_ble_eq_true rfl⟩ hK hP hD hS hA [1, 2] rfl (by decide) rfl rfl (q0 := 0) rfl rfl rfl (Nat.le_of_ble_eq_true rfl) d_J_send_25 (fun H locs hP hD hS => ?_)
    have hP : va_P D cls [(qj, .inr (2, [.ref qg, .int (wi), .int (M.2.2.2), .int (hf), .int (nI M.2.2.1), .int (lim), .int (nt), .int (lt)])), (qg, .inr (1, [.ref qs, .int (nI (M.1 + 1))])), (qs, .inl (cI, 192, .inl (lg_put M.2.1 M.1 a b x)))] H := hP
    have hD : va_D A [(qj, .inr (2, [.ref qg, .int (wi), .int (M.2.2.2), .int (hf), .int (nI M.2.2.1), .int (lim), .int (nt), .int (lt)])), (qg, .inr (1, [.ref qs, .int (nI (M.1 + 1))])), (qs, .inl (cI, 192, .inl (lg_put M.2.1 M.1 a b x)))] := hD
    refine lv_aload_n hx hb d_J_send_28 rfl (lv_at hl 0 rfl) ?_
    refine lv_dup hx hb d_J_send_29 rfl ?_
    refine va_get (D := D) (ci := 2) (v := .int (nI M.2.2.1)) (C := R_J) (T := F_J) (N := 8) hx hb hts wl_J hown hK hP 0 rfl rfl 4 (by decide) (hts _ wf_J_29) (fun _ h9 => h9) rfl d_J_send_30 ?_
    refine lv_iconst (v := 1) hx hb d_J_send_33 (by decide) ?_
    refine lv_iadd hx hb d_J_send_34 ?_
    refine sd_top (y := nI (M.2.2.1 + 1)) (nI_1 _) ?_
    refine va_put (D := D) (ci := 2) (v := .int (nI (M.2.2.1 + 1))) (ty := .int) (C := R_J) (T := F_J) (N := 8) hx hb hts wl_J t_J t_J_ok n_J hown hK hP hD hS 0 rfl rfl 4 (by decide) (hts _ wf_J_29) (fun _ h9 => h9) rfl (by decide +kernel) rfl rfl (Nat.le_of_ble_eq_true rfl) d_J_send_35 (fun H locs hP hD hS => ?_)
    have hP : va_P D cls [(qj, .inr (2, [.ref qg, .int (wi), .int (M.2.2.2), .int (hf), .int (nI (M.2.2.1 + 1)), .int (lim), .int (nt), .int (lt)])), (qg, .inr (1, [.ref qs, .int (nI (M.1 + 1))])), (qs, .inl (cI, 192, .inl (lg_put M.2.1 M.1 a b x)))] H := hP
    have hD : va_D A [(qj, .inr (2, [.ref qg, .int (wi), .int (M.2.2.2), .int (hf), .int (nI (M.2.2.1 + 1)), .int (lim), .int (nt), .int (lt)])), (qg, .inr (1, [.ref qs, .int (nI (M.1 + 1))])), (qs, .inl (cI, 192, .inl (lg_put M.2.1 M.1 a b x)))] := hD
    refine lv_iconst (v := 1) hx hb d_J_send_38 (by decide) ?_
    have hP : va_P D cls [(qj, .inr (2, [.ref qg, .int (wi), .int ((ms_s lim M a b x).2.2.2), .int (hf), .int (nI (ms_s lim M a b x).2.2.1), .int (lim), .int (nt), .int (lt)])), (qg, .inr (1, [.ref qs, .int (nI ((ms_s lim M a b x).1))])), (qs, .inl (cI, 192, .inl ((ms_s lim M a b x).2.1)))] H := by rw [ms_sy hc8]; exact hP
    exact sd_zret hx hb hr hlk hP hS (Nat.le_of_ble_eq_true rfl) (Nat.le_of_ble_eq_true rfl) ((ms_ry hc8).symm) (by decide) d_J_send_39
  · skip
    refine lv_aload_n hx hb d_J_send_11 rfl (lv_at hl 0 rfl) ?_
    refine lv_iconst (v := 1) hx hb d_J_send_12 (by decide) ?_
    refine va_put (D := D) (ci := 2) (v := .int (1)) (ty := .boolean) (C := R_J) (T := F_J) (N := 8) hx hb hts wl_J t_J t_J_ok n_J hown hK hP hD hS 0 rfl rfl 2 (by decide) (hts _ wf_J_22) (fun _ h9 => h9) rfl (by decide +kernel) rfl rfl (Nat.le_of_ble_eq_true rfl) d_J_send_13 (fun H locs hP hD hS => ?_)
    have hP : va_P D cls [(qj, .inr (2, [.ref qg, .int (wi), .int (1), .int (hf), .int (nI M.2.2.1), .int (lim), .int (nt), .int (lt)])), (qg, .inr (1, [.ref qs, .int (nI (M.1))])), (qs, .inl (cI, 192, .inl (M.2.1)))] H := hP
    have hD : va_D A [(qj, .inr (2, [.ref qg, .int (wi), .int (1), .int (hf), .int (nI M.2.2.1), .int (lim), .int (nt), .int (lt)])), (qg, .inr (1, [.ref qs, .int (nI (M.1))])), (qs, .inl (cI, 192, .inl (M.2.1)))] := hD
    refine lv_iconst (v := 0) hx hb d_J_send_16 (by decide) ?_
    have hP : va_P D cls [(qj, .inr (2, [.ref qg, .int (wi), .int ((ms_s lim M a b x).2.2.2), .int (hf), .int (nI (ms_s lim M a b x).2.2.1), .int (lim), .int (nt), .int (lt)])), (qg, .inr (1, [.ref qs, .int (nI ((ms_s lim M a b x).1))])), (qs, .inl (cI, 192, .inl ((ms_s lim M a b x).2.1)))] H := by rw [ms_sn hc8]; exact hP
    exact sd_zret hx hb hr hlk hP hS (Nat.le_of_ble_eq_true rfl) (Nat.le_of_ble_eq_true rfl) ((ms_rn hc8).symm) (by decide) d_J_send_17
set_option maxHeartbeats 4000000 in
set_option maxRecDepth 100000 in
theorem c_J_flip (l : Launch) (D : va_G) (cI cZ cQ : ClassId) (qj : Nat) (qg : Nat) (qs : Nat) (wi : Int32) (M : ms_T) (hf : Int32) (lim : Int32) (nt : Int32) (lt : Int32) (hT : M.1 < 2 ^ 31) : sd_I l D (tyL cI cZ cQ) y_J_flip b_J_flip 1 (.boolean) ({ frames := 2, cells := 0, slots := 0, locals := 47 }) [.ref qj] [(qj, .inr (2, [.ref qg, .int (wi), .int (M.2.2.2), .int (hf), .int (nI M.2.2.1), .int (lim), .int (nt), .int (lt)])), (qg, .inr (1, [.ref qs, .int (nI (M.1))])), (qs, .inl (cI, 192, .inl (M.2.1)))] (ms_r lim M) [(qj, .inr (2, [.ref qg, .int (wi), .int ((ms_s lim M 0 0 256).2.2.2), .int (ms_r lim M), .int (nI (ms_s lim M 0 0 256).2.2.1), .int (lim), .int (nt), .int (lt)])), (qg, .inr (1, [.ref qs, .int (nI ((ms_s lim M 0 0 256).1))])), (qs, .inl (cI, 192, .inl ((ms_s lim M 0 0 256).2.1)))] := by
  refine sd_ofI (by decide) (Nat.le_of_ble_eq_true rfl) ?_
  intro p e s m below meth c A ls hx hb hr hml hlk hown hts hK hP hD hA hS hl
  have hl : lv_has ls 1 [(0, .ref qj)] := hl
  refine lv_aload_n hx hb d_J_flip_0 rfl (lv_at hl 0 rfl) ?_
  refine lv_aload_n hx hb d_J_flip_1 rfl (lv_at hl 0 rfl) ?_
  refine lv_iconst (v := 0) hx hb d_J_flip_2 (by decide) ?_
  refine lv_iconst (v := 0) hx hb d_J_flip_3 (by decide) ?_
  refine lv_sipush (v := 256) hx hb d_J_flip_4 (by decide) ?_
  refine sd_callVI (As := [.int (0), .int (0), .int (256)]) (rest := [.ref qj]) (cx := [(qj, .inr (2, [.ref qg, .int (wi), .int (M.2.2.2), .int (hf), .int (nI M.2.2.1), .int (lim), .int (nt), .int (lt)])), (qg, .inr (1, [.ref qs, .int (nI (M.1))])), (qs, .inl (cI, 192, .inl (M.2.1)))]) (w1 := [(qj, .inr (2, [.ref qg, .int (wi), .int ((ms_s lim M 0 0 256).2.2.2), .int (hf), .int (nI (ms_s lim M 0 0 256).2.2.1), .int (lim), .int (nt), .int (lt)])), (qg, .inr (1, [.ref qs, .int (nI ((ms_s lim M 0 0 256).1))])), (qs, .inl (cI, 192, .inl ((ms_s lim M 0 0 256).2.1)))]) (c_J_send l D cI cZ cQ (qj) (qg) (qs) (wi) (M) (hf) (lim) (nt) (lt) (0) (0) (256) (hT)) ⟨wc_J_send, wm_J_45, wi_J, by decide, by decide, show (parseMethodDescriptor y_J_send.desc).map (fun d => d.parameters.length) = some 3 by decide +kernel⟩ wo_J_send wz_J_send hx hb hml hown hts hl.1 ⟨Nat.le_of_ble_eq_true rfl, Nat.le_of_ble_eq_true rfl⟩ ⟨Nat.le_of_ble_eq_true rfl, Nat.le_of_ble_eq_true rfl⟩ hK hP hD hS hA [0, 1, 2] rfl (by decide) rfl rfl (q0 := 0) rfl rfl rfl (Nat.le_of_ble_eq_true rfl) d_J_flip_7 (fun H locs hP hD hS => ?_)
  have hP : va_P D cls [(qj, .inr (2, [.ref qg, .int (wi), .int ((ms_s lim M 0 0 256).2.2.2), .int (hf), .int (nI (ms_s lim M 0 0 256).2.2.1), .int (lim), .int (nt), .int (lt)])), (qg, .inr (1, [.ref qs, .int (nI ((ms_s lim M 0 0 256).1))])), (qs, .inl (cI, 192, .inl ((ms_s lim M 0 0 256).2.1)))] H := hP
  have hD : va_D A [(qj, .inr (2, [.ref qg, .int (wi), .int ((ms_s lim M 0 0 256).2.2.2), .int (hf), .int (nI (ms_s lim M 0 0 256).2.2.1), .int (lim), .int (nt), .int (lt)])), (qg, .inr (1, [.ref qs, .int (nI ((ms_s lim M 0 0 256).1))])), (qs, .inl (cI, 192, .inl ((ms_s lim M 0 0 256).2.1)))] := hD
  refine va_put (D := D) (ci := 2) (v := .int (ms_r lim M)) (ty := .boolean) (C := R_J) (T := F_J) (N := 8) hx hb hts wl_J t_J t_J_ok n_J hown hK hP hD hS 0 rfl rfl 3 (by decide) (hts _ wf_J_26) (fun _ h9 => h9) rfl (by decide +kernel) (ms_rz lim M) (ms_rf lim M) (Nat.le_of_ble_eq_true rfl) d_J_flip_10 (fun H locs hP hD hS => ?_)
  have hP : va_P D cls [(qj, .inr (2, [.ref qg, .int (wi), .int ((ms_s lim M 0 0 256).2.2.2), .int (ms_r lim M), .int (nI (ms_s lim M 0 0 256).2.2.1), .int (lim), .int (nt), .int (lt)])), (qg, .inr (1, [.ref qs, .int (nI ((ms_s lim M 0 0 256).1))])), (qs, .inl (cI, 192, .inl ((ms_s lim M 0 0 256).2.1)))] H := hP
  have hD : va_D A [(qj, .inr (2, [.ref qg, .int (wi), .int ((ms_s lim M 0 0 256).2.2.2), .int (ms_r lim M), .int (nI (ms_s lim M 0 0 256).2.2.1), .int (lim), .int (nt), .int (lt)])), (qg, .inr (1, [.ref qs, .int (nI ((ms_s lim M 0 0 256).1))])), (qs, .inl (cI, 192, .inl ((ms_s lim M 0 0 256).2.1)))] := hD
  refine lv_aload_n hx hb d_J_flip_13 rfl (lv_at hl 0 rfl) ?_
  refine va_get (D := D) (ci := 2) (v := .int (ms_r lim M)) (C := R_J) (T := F_J) (N := 8) hx hb hts wl_J hown hK hP 0 rfl rfl 3 (by decide) (hts _ wf_J_26) (fun _ h9 => h9) rfl d_J_flip_14 ?_
  exact sd_zret hx hb hr hlk hP hS (Nat.le_of_ble_eq_true rfl) (Nat.le_of_ble_eq_true rfl) (rfl) (ms_rz lim M) d_J_flip_17
