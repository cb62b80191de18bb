theorem d_P_init_0 : decode b_P_init 0 = .ok (.aload_n 0, 1) := by decide +kernel
theorem d_P_init_1 : decode b_P_init 1 = .ok (.invokespecial 1, 3) := by decide +kernel
theorem d_P_init_4 : decode b_P_init 4 = .ok (.aload_n 0, 1) := by decide +kernel
theorem d_P_init_5 : decode b_P_init 5 = .ok (.sipush 1000, 3) := by decide +kernel
theorem d_P_init_8 : decode b_P_init 8 = .ok (.newarray .int, 2) := by decide +kernel
theorem d_P_init_10 : decode b_P_init 10 = .ok (.putfield 9, 3) := by decide +kernel
theorem d_P_init_13 : decode b_P_init 13 = .ok (.aload_n 0, 1) := by decide +kernel
theorem d_P_init_14 : decode b_P_init 14 = .ok (.iconst 0, 1) := by decide +kernel
theorem d_P_init_15 : decode b_P_init 15 = .ok (.putfield 13, 3) := by decide +kernel
theorem d_P_init_18 : decode b_P_init 18 = .ok (.aload_n 0, 1) := by decide +kernel
theorem d_P_init_19 : decode b_P_init 19 = .ok (.iconst 0, 1) := by decide +kernel
theorem d_P_init_20 : decode b_P_init 20 = .ok (.putfield 17, 3) := by decide +kernel
theorem d_P_init_23 : decode b_P_init 23 = .ok (.return_, 1) := by decide +kernel
theorem d_G_init_0 : decode b_G_init 0 = .ok (.aload_n 0, 1) := by decide +kernel
theorem d_G_init_1 : decode b_G_init 1 = .ok (.invokespecial 1, 3) := by decide +kernel
theorem d_G_init_4 : decode b_G_init 4 = .ok (.aload_n 0, 1) := by decide +kernel
theorem d_G_init_5 : decode b_G_init 5 = .ok (.sipush 192, 3) := by decide +kernel
theorem d_G_init_8 : decode b_G_init 8 = .ok (.newarray .int, 2) := by decide +kernel
theorem d_G_init_10 : decode b_G_init 10 = .ok (.putfield 9, 3) := by decide +kernel
theorem d_G_init_13 : decode b_G_init 13 = .ok (.aload_n 0, 1) := by decide +kernel
theorem d_G_init_14 : decode b_G_init 14 = .ok (.iconst 0, 1) := by decide +kernel
theorem d_G_init_15 : decode b_G_init 15 = .ok (.putfield 13, 3) := by decide +kernel
theorem d_G_init_18 : decode b_G_init 18 = .ok (.return_, 1) := by decide +kernel
theorem d_J_init_0 : decode b_J_init 0 = .ok (.aload_n 0, 1) := by decide +kernel
theorem d_J_init_1 : decode b_J_init 1 = .ok (.invokespecial 3, 3) := by decide +kernel
theorem d_J_init_4 : decode b_J_init 4 = .ok (.aload_n 0, 1) := by decide +kernel
theorem d_J_init_5 : decode b_J_init 5 = .ok (.new 9, 3) := by decide +kernel
theorem d_J_init_8 : decode b_J_init 8 = .ok (.dup, 1) := by decide +kernel
theorem d_J_init_9 : decode b_J_init 9 = .ok (.invokespecial 11, 3) := by decide +kernel
theorem d_J_init_12 : decode b_J_init 12 = .ok (.putfield 12, 3) := by decide +kernel
theorem d_J_init_15 : decode b_J_init 15 = .ok (.aload_n 0, 1) := by decide +kernel
theorem d_J_init_16 : decode b_J_init 16 = .ok (.iconst (-1), 1) := by decide +kernel
theorem d_J_init_17 : decode b_J_init 17 = .ok (.putfield 18, 3) := by decide +kernel
theorem d_J_init_20 : decode b_J_init 20 = .ok (.aload_n 0, 1) := by decide +kernel
theorem d_J_init_21 : decode b_J_init 21 = .ok (.iconst 0, 1) := by decide +kernel
theorem d_J_init_22 : decode b_J_init 22 = .ok (.putfield 22, 3) := by decide +kernel
theorem d_J_init_25 : decode b_J_init 25 = .ok (.aload_n 0, 1) := by decide +kernel
theorem d_J_init_26 : decode b_J_init 26 = .ok (.iconst 0, 1) := by decide +kernel
theorem d_J_init_27 : decode b_J_init 27 = .ok (.putfield 26, 3) := by decide +kernel
theorem d_J_init_30 : decode b_J_init 30 = .ok (.aload_n 0, 1) := by decide +kernel
theorem d_J_init_31 : decode b_J_init 31 = .ok (.iconst 0, 1) := by decide +kernel
theorem d_J_init_32 : decode b_J_init 32 = .ok (.putfield 29, 3) := by decide +kernel
theorem d_J_init_35 : decode b_J_init 35 = .ok (.aload_n 0, 1) := by decide +kernel
theorem d_J_init_36 : decode b_J_init 36 = .ok (.iconst (-1), 1) := by decide +kernel
theorem d_J_init_37 : decode b_J_init 37 = .ok (.putfield 32, 3) := by decide +kernel
theorem d_J_init_40 : decode b_J_init 40 = .ok (.aload_n 0, 1) := by decide +kernel
theorem d_J_init_41 : decode b_J_init 41 = .ok (.iconst 0, 1) := by decide +kernel
theorem d_J_init_42 : decode b_J_init 42 = .ok (.putfield 35, 3) := by decide +kernel
theorem d_J_init_45 : decode b_J_init 45 = .ok (.aload_n 0, 1) := by decide +kernel
theorem d_J_init_46 : decode b_J_init 46 = .ok (.iconst 0, 1) := by decide +kernel
theorem d_J_init_47 : decode b_J_init 47 = .ok (.putfield 38, 3) := by decide +kernel
theorem d_J_init_50 : decode b_J_init 50 = .ok (.return_, 1) := by decide +kernel
theorem d_H_init_0 : decode b_H_init 0 = .ok (.aload_n 0, 1) := by decide +kernel
theorem d_H_init_1 : decode b_H_init 1 = .ok (.invokespecial 1, 3) := by decide +kernel
theorem d_H_init_4 : decode b_H_init 4 = .ok (.aload_n 0, 1) := by decide +kernel
theorem d_H_init_5 : decode b_H_init 5 = .ok (.iload_n 1, 1) := by decide +kernel
theorem d_H_init_6 : decode b_H_init 6 = .ok (.newarray .int, 2) := by decide +kernel
theorem d_H_init_8 : decode b_H_init 8 = .ok (.putfield 7, 3) := by decide +kernel
theorem d_H_init_11 : decode b_H_init 11 = .ok (.aload_n 0, 1) := by decide +kernel
theorem d_H_init_12 : decode b_H_init 12 = .ok (.iload_n 1, 1) := by decide +kernel
theorem d_H_init_13 : decode b_H_init 13 = .ok (.newarray .int, 2) := by decide +kernel
theorem d_H_init_15 : decode b_H_init 15 = .ok (.putfield 13, 3) := by decide +kernel
theorem d_H_init_18 : decode b_H_init 18 = .ok (.aload_n 0, 1) := by decide +kernel
theorem d_H_init_19 : decode b_H_init 19 = .ok (.iload_n 1, 1) := by decide +kernel
theorem d_H_init_20 : decode b_H_init 20 = .ok (.newarray .int, 2) := by decide +kernel
theorem d_H_init_22 : decode b_H_init 22 = .ok (.putfield 16, 3) := by decide +kernel
theorem d_H_init_25 : decode b_H_init 25 = .ok (.return_, 1) := by decide +kernel
set_option maxHeartbeats 4000000 in
set_option maxRecDepth 100000 in
theorem c_P_init (l : Launch) (D : va_G) (cI cZ cQ : ClassId) (qp : Nat) : sd_N l D (tyL cI cZ cQ) y_P_init b_P_init 1 ({ frames := 2, cells := 1, slots := 1000, locals := 40 }) [.ref qp] [(qp, .inr (0, [.null, .int (0), .int (0)]))] (fun w9 => ∃ (qr : Nat), w9 = [(qp, .inr (0, [.ref qr, .int (nI 0), .int (nI 0)])), (qr, .inl (cI, 1000, .inl (fun _ => 0)))]) := by
  refine sd_ofN (by decide) rfl (Nat.le_of_ble_eq_true rfl) ?_
  intro p e s m below meth c A ls hx hb hr hml hlk hown hts hK hP hD hA hS hl hZ hin
  have hl : lv_has ls 1 [(0, .ref qp)] := hl
  refine lv_aload_n hx hb d_P_init_0 rfl (lv_at hl 0 rfl) ?_
  refine W.objInit hx hb hown (hts _ wm_P_1) (hts _ wo_object) (hts _ wc_object) rfl (by rw [hml]; exact hl.1) rfl d_P_init_1 (Nat.le_of_ble_eq_true rfl) (Nat.le_of_ble_eq_true rfl) ?_
  refine W.eq (g2 := F0 m 4 ls []) rfl ?_
  refine lv_aload_n hx hb d_P_init_4 rfl (lv_at hl 0 rfl) ?_
  refine lv_sipush (v := nI 1000) hx hb d_P_init_5 (by decide) ?_
  refine sd_newI (N := 1000) hx hb hts hK hP hD hS hA (by omega) (by dsimp only; omega) (by dsimp only; omega) d_P_init_8 (fun qr H hP hD hS => ?_)
  have hP : va_P D cls [(qp, .inr (0, [.null, .int (0), .int (0)])), (qr, .inl (cI, 1000, .inl (fun _ => 0)))] H := hP
  have hD : va_D A [(qp, .inr (0, [.null, .int (0), .int (0)])), (qr, .inl (cI, 1000, .inl (fun _ => 0)))] := hD
  refine va_putF (D := D) (ci := 0) (v := .ref qr) (ty := .array .int) (C := R_P) (T := F_P) (N := 3) hx hb hts wl_P t_P t_P_ok n_P hown hK hP hD hS 0 rfl rfl 0 (by decide) (hts _ wf_P_9) (fun _ h9 => h9) rfl hin rfl (by decide +kernel) rfl rfl (Nat.le_of_ble_eq_true rfl) d_P_init_10 (fun H locs hP hD hS => ?_)
  have hP : va_P D cls [(qp, .inr (0, [.ref qr, .int (0), .int (0)])), (qr, .inl (cI, 1000, .inl (fun _ => 0)))] H := hP
  have hD : va_D A [(qp, .inr (0, [.ref qr, .int (0), .int (0)])), (qr, .inl (cI, 1000, .inl (fun _ => 0)))] := hD
  refine lv_aload_n hx hb d_P_init_13 rfl (lv_at hl 0 rfl) ?_
  refine lv_iconst (v := nI 0) hx hb d_P_init_14 (by decide) ?_
  refine va_put (D := D) (ci := 0) (v := .int (nI 0)) (ty := .int) (C := R_P) (T := F_P) (N := 3) hx hb hts wl_P t_P t_P_ok n_P hown hK hP hD hS 0 rfl rfl 1 (by decide) (hts _ wf_P_13) (fun _ h9 => h9) rfl (by decide +kernel) rfl rfl (Nat.le_of_ble_eq_true rfl) d_P_init_15 (fun H locs hP hD hS => ?_)
  have hP : va_P D cls [(qp, .inr (0, [.ref qr, .int (nI 0), .int (0)])), (qr, .inl (cI, 1000, .inl (fun _ => 0)))] H := hP
  have hD : va_D A [(qp, .inr (0, [.ref qr, .int (nI 0), .int (0)])), (qr, .inl (cI, 1000, .inl (fun _ => 0)))] := hD
  refine lv_aload_n hx hb d_P_init_18 rfl (lv_at hl 0 rfl) ?_
  refine lv_iconst (v := nI 0) hx hb d_P_init_19 (by decide) ?_
  refine va_put (D := D) (ci := 0) (v := .int (nI 0)) (ty := .int) (C := R_P) (T := F_P) (N := 3) hx hb hts wl_P t_P t_P_ok n_P hown hK hP hD hS 0 rfl rfl 2 (by decide) (hts _ wf_P_17) (fun _ h9 => h9) rfl (by decide +kernel) rfl rfl (Nat.le_of_ble_eq_true rfl) d_P_init_20 (fun H locs hP hD hS => ?_)
  have hP : va_P D cls [(qp, .inr (0, [.ref qr, .int (nI 0), .int (nI 0)])), (qr, .inl (cI, 1000, .inl (fun _ => 0)))] H := hP
  have hD : va_D A [(qp, .inr (0, [.ref qr, .int (nI 0), .int (nI 0)])), (qr, .inl (cI, 1000, .inl (fun _ => 0)))] := hD
  exact sd_nret hx hb hr hlk hP hD hS (by first | omega | (dsimp only; omega)) (by first | omega | (dsimp only; omega)) ⟨qr, rfl⟩ d_P_init_23
set_option maxHeartbeats 4000000 in
set_option maxRecDepth 100000 in
theorem c_G_init (l : Launch) (D : va_G) (cI cZ cQ : ClassId) (qg : Nat) : sd_N l D (tyL cI cZ cQ) y_G_init b_G_init 1 ({ frames := 2, cells := 1, slots := 192, locals := 40 }) [.ref qg] [(qg, .inr (1, [.null, .int (0)]))] (fun w9 => ∃ (qs : Nat), w9 = [(qg, .inr (1, [.ref qs, .int (nI 0)])), (qs, .inl (cI, 192, .inl (fun _ => 0)))]) := by
  refine sd_ofN (by decide) rfl (Nat.le_of_ble_eq_true rfl) ?_
  intro p e s m below meth c A ls hx hb hr hml hlk hown hts hK hP hD hA hS hl hZ hin
  have hl : lv_has ls 1 [(0, .ref qg)] := hl
  refine lv_aload_n hx hb d_G_init_0 rfl (lv_at hl 0 rfl) ?_
  refine W.objInit hx hb hown (hts _ wm_G_1) (hts _ wo_object) (hts _ wc_object) rfl (by rw [hml]; exact hl.1) rfl d_G_init_1 (Nat.le_of_ble_eq_true rfl) (Nat.le_of_ble_eq_true rfl) ?_
  refine W.eq (g2 := F0 m 4 ls []) rfl ?_
  refine lv_aload_n hx hb d_G_init_4 rfl (lv_at hl 0 rfl) ?_
  refine lv_sipush (v := nI 192) hx hb d_G_init_5 (by decide) ?_
  refine sd_newI (N := 192) hx hb hts hK hP hD hS hA (by omega) (by dsimp only; omega) (by dsimp only; omega) d_G_init_8 (fun qs H hP hD hS => ?_)
  have hP : va_P D cls [(qg, .inr (1, [.null, .int (0)])), (qs, .inl (cI, 192, .inl (fun _ => 0)))] H := hP
  have hD : va_D A [(qg, .inr (1, [.null, .int (0)])), (qs, .inl (cI, 192, .inl (fun _ => 0)))] := hD
  refine va_putF (D := D) (ci := 1) (v := .ref qs) (ty := .array .int) (C := R_G) (T := F_G) (N := 2) hx hb hts wl_G t_G t_G_ok n_G hown hK hP hD hS 0 rfl rfl 0 (by decide) (hts _ wf_G_9) (fun _ h9 => h9) rfl hin rfl (by decide +kernel) rfl rfl (Nat.le_of_ble_eq_true rfl) d_G_init_10 (fun H locs hP hD hS => ?_)
  have hP : va_P D cls [(qg, .inr (1, [.ref qs, .int (0)])), (qs, .inl (cI, 192, .inl (fun _ => 0)))] H := hP
  have hD : va_D A [(qg, .inr (1, [.ref qs, .int (0)])), (qs, .inl (cI, 192, .inl (fun _ => 0)))] := hD
  refine lv_aload_n hx hb d_G_init_13 rfl (lv_at hl 0 rfl) ?_
  refine lv_iconst (v := nI 0) hx hb d_G_init_14 (by decide) ?_
  refine va_put (D := D) (ci := 1) (v := .int (nI 0)) (ty := .int) (C := R_G) (T := F_G) (N := 2) hx hb hts wl_G t_G t_G_ok n_G hown hK hP hD hS 0 rfl rfl 1 (by decide) (hts _ wf_G_13) (fun _ h9 => h9) rfl (by decide +kernel) rfl rfl (Nat.le_of_ble_eq_true rfl) d_G_init_15 (fun H locs hP hD hS => ?_)
  have hP : va_P D cls [(qg, .inr (1, [.ref qs, .int (nI 0)])), (qs, .inl (cI, 192, .inl (fun _ => 0)))] H := hP
  have hD : va_D A [(qg, .inr (1, [.ref qs, .int (nI 0)])), (qs, .inl (cI, 192, .inl (fun _ => 0)))] := hD
  exact sd_nret hx hb hr hlk hP hD hS (by first | omega | (dsimp only; omega)) (by first | omega | (dsimp only; omega)) ⟨qs, rfl⟩ d_G_init_18
set_option maxHeartbeats 4000000 in
set_option maxRecDepth 100000 in
theorem c_J_init (l : Launch) (D : va_G) (cI cZ cQ : ClassId) (qj : Nat) : sd_N l D (tyL cI cZ cQ) y_J_init b_J_init 1 ({ frames := 3, cells := 2, slots := 194, locals := 60 }) [.ref qj] [(qj, .inr (2, [.null, .int (0), .int (0), .int (0), .int (0), .int (0), .int (0), .int (0)]))] (fun w9 => ∃ (qg : Nat) (qs : Nat), w9 = [(qj, .inr (2, [.ref qg, .int ((-1)), .int (0), .int (0), .int (nI 0), .int ((-1)), .int (nI 0), .int (nI 0)])), (qg, .inr (1, [.ref qs, .int (nI 0)])), (qs, .inl (cI, 192, .inl (fun _ => 0)))]) := by
  refine sd_ofN (by decide) rfl (Nat.le_of_ble_eq_true rfl) ?_
  intro p e s m below meth c A ls hx hb hr hml hlk hown hts hK hP hD hA hS hl hZ hin
  have hl : lv_has ls 1 [(0, .ref qj)] := hl
  refine lv_aload_n hx hb d_J_init_0 rfl (lv_at hl 0 rfl) ?_
  refine W.objInit hx hb hown (hts _ wm_J_3) (hts _ wo_object) (hts _ wc_object) rfl (by rw [hml]; exact hl.1) rfl d_J_init_1 (Nat.le_of_ble_eq_true rfl) (Nat.le_of_ble_eq_true rfl) ?_
  refine W.eq (g2 := F0 m 4 ls []) rfl ?_
  refine lv_aload_n hx hb d_J_init_4 rfl (lv_at hl 0 rfl) ?_
  refine va_new (ci := 1) (fs := [.null, .int (0)]) (C := R_G) (T := F_G) (N := 2) hx hb hts wl_G t_G t_G_ok hown (hts _ wk_J_9) (hts _ wn_G) (hts _ wi_G) hK hP hD hS hA rfl (fun j hj => by have h9 : j = 0 ∨ j = 1 := (by omega); rcases h9 with rfl | rfl <;> rfl) (by dsimp only; omega) (by dsimp only; omega) d_J_init_5 (fun qg H hP hD hS => ?_)
  have hP : va_P D cls [(qj, .inr (2, [.null, .int (0), .int (0), .int (0), .int (0), .int (0), .int (0), .int (0)])), (qg, .inr (1, [.null, .int (0)]))] H := hP
  have hD : va_D A [(qj, .inr (2, [.null, .int (0), .int (0), .int (0), .int (0), .int (0), .int (0), .int (0)])), (qg, .inr (1, [.null, .int (0)]))] := hD
  refine lv_dup hx hb d_J_init_8 rfl ?_
  refine sd_callM (As := []) (rest := [.ref qg, .ref qj]) (cx := [(qg, .inr (1, [.null, .int (0)]))]) (wr := [(qj, .inr (2, [.null, .int (0), .int (0), .int (0), .int (0), .int (0), .int (0), .int (0)]))]) (c_G_init l D cI cZ cQ (qg)) wc_G_init (host := R_V) (by decide) wi_G ⟨by decide, by decide, show (parseMethodDescriptor y_G_init.desc).map (fun d => d.parameters.length) = some 0 by decide +kernel⟩ wo_G_init rfl hx hb hml hown hts hl.1 ⟨Nat.le_of_ble_eq_true rfl, Nat.le_of_ble_eq_true rfl⟩ ⟨by dsimp only; omega, by dsimp only; omega⟩ hK hP hD hS hA hZ [1] [0] rfl (by decide) rfl (by decide) (by decide) rfl (Nat.le_of_ble_eq_true rfl) d_J_init_9 (fun w9 H locs h9 hP hD hS => ?_)
  obtain ⟨qs, rfl⟩ := h9
  have hP : va_P D cls [(qj, .inr (2, [.null, .int (0), .int (0), .int (0), .int (0), .int (0), .int (0), .int (0)])), (qg, .inr (1, [.ref qs, .int (nI 0)])), (qs, .inl (cI, 192, .inl (fun _ => 0)))] H := hP
  have hD : va_D A [(qj, .inr (2, [.null, .int (0), .int (0), .int (0), .int (0), .int (0), .int (0), .int (0)])), (qg, .inr (1, [.ref qs, .int (nI 0)])), (qs, .inl (cI, 192, .inl (fun _ => 0)))] := hD
  refine va_putF (D := D) (ci := 2) (v := .ref qg) (ty := .object "SplitVault$Log") (C := R_J) (T := F_J) (N := 8) hx hb hts wl_J t_J t_J_ok n_J hown hK hP hD hS 0 rfl rfl 0 (by decide) (hts _ wf_J_12) (fun _ h9 => h9) rfl hin rfl (by decide +kernel) rfl rfl (Nat.le_of_ble_eq_true rfl) d_J_init_12 (fun H locs hP hD hS => ?_)
  have hP : va_P D cls [(qj, .inr (2, [.ref qg, .int (0), .int (0), .int (0), .int (0), .int (0), .int (0), .int (0)])), (qg, .inr (1, [.ref qs, .int (nI 0)])), (qs, .inl (cI, 192, .inl (fun _ => 0)))] H := hP
  have hD : va_D A [(qj, .inr (2, [.ref qg, .int (0), .int (0), .int (0), .int (0), .int (0), .int (0), .int (0)])), (qg, .inr (1, [.ref qs, .int (nI 0)])), (qs, .inl (cI, 192, .inl (fun _ => 0)))] := hD
  refine lv_aload_n hx hb d_J_init_15 rfl (lv_at hl 0 rfl) ?_
  refine lv_iconst (v := (-1)) hx hb d_J_init_16 (by decide) ?_
  refine va_put (D := D) (ci := 2) (v := .int ((-1))) (ty := .int) (C := R_J) (T := F_J) (N := 8) hx hb hts wl_J t_J t_J_ok n_J hown hK hP hD hS 0 rfl rfl 1 (by decide) (hts _ wf_J_18) (fun _ h9 => h9) rfl (by decide +kernel) rfl rfl (Nat.le_of_ble_eq_true rfl) d_J_init_17 (fun H locs hP hD hS => ?_)
  have hP : va_P D cls [(qj, .inr (2, [.ref qg, .int ((-1)), .int (0), .int (0), .int (0), .int (0), .int (0), .int (0)])), (qg, .inr (1, [.ref qs, .int (nI 0)])), (qs, .inl (cI, 192, .inl (fun _ => 0)))] H := hP
  have hD : va_D A [(qj, .inr (2, [.ref qg, .int ((-1)), .int (0), .int (0), .int (0), .int (0), .int (0), .int (0)])), (qg, .inr (1, [.ref qs, .int (nI 0)])), (qs, .inl (cI, 192, .inl (fun _ => 0)))] := hD
  refine lv_aload_n hx hb d_J_init_20 rfl (lv_at hl 0 rfl) ?_
  refine lv_iconst (v := 0) hx hb d_J_init_21 (by decide) ?_
  refine va_put (D := D) (ci := 2) (v := .int (0)) (ty := .boolean) (C := R_J) (T := F_J) (N := 8) hx hb hts wl_J t_J t_J_ok n_J hown hK hP hD hS 0 rfl rfl 2 (by decide) (hts _ wf_J_22) (fun _ h9 => h9) rfl (by decide +kernel) rfl rfl (Nat.le_of_ble_eq_true rfl) d_J_init_22 (fun H locs hP hD hS => ?_)
  have hP : va_P D cls [(qj, .inr (2, [.ref qg, .int ((-1)), .int (0), .int (0), .int (0), .int (0), .int (0), .int (0)])), (qg, .inr (1, [.ref qs, .int (nI 0)])), (qs, .inl (cI, 192, .inl (fun _ => 0)))] H := hP
  have hD : va_D A [(qj, .inr (2, [.ref qg, .int ((-1)), .int (0), .int (0), .int (0), .int (0), .int (0), .int (0)])), (qg, .inr (1, [.ref qs, .int (nI 0)])), (qs, .inl (cI, 192, .inl (fun _ => 0)))] := hD
  refine lv_aload_n hx hb d_J_init_25 rfl (lv_at hl 0 rfl) ?_
  refine lv_iconst (v := 0) hx hb d_J_init_26 (by decide) ?_
  refine va_put (D := D) (ci := 2) (v := .int (0)) (ty := .boolean) (C := R_J) (T := F_J) (N := 8) hx hb hts wl_J t_J t_J_ok n_J hown hK hP hD hS 0 rfl rfl 3 (by decide) (hts _ wf_J_26) (fun _ h9 => h9) rfl (by decide +kernel) rfl rfl (Nat.le_of_ble_eq_true rfl) d_J_init_27 (fun H locs hP hD hS => ?_)
  have hP : va_P D cls [(qj, .inr (2, [.ref qg, .int ((-1)), .int (0), .int (0), .int (0), .int (0), .int (0), .int (0)])), (qg, .inr (1, [.ref qs, .int (nI 0)])), (qs, .inl (cI, 192, .inl (fun _ => 0)))] H := hP
  have hD : va_D A [(qj, .inr (2, [.ref qg, .int ((-1)), .int (0), .int (0), .int (0), .int (0), .int (0), .int (0)])), (qg, .inr (1, [.ref qs, .int (nI 0)])), (qs, .inl (cI, 192, .inl (fun _ => 0)))] := hD
  refine lv_aload_n hx hb d_J_init_30 rfl (lv_at hl 0 rfl) ?_
  refine lv_iconst (v := nI 0) hx hb d_J_init_31 (by decide) ?_
  refine va_put (D := D) (ci := 2) (v := .int (nI 0)) (ty := .int) (C := R_J) (T := F_J) (N := 8) hx hb hts wl_J t_J t_J_ok n_J hown hK hP hD hS 0 rfl rfl 4 (by decide) (hts _ wf_J_29) (fun _ h9 => h9) rfl (by decide +kernel) rfl rfl (Nat.le_of_ble_eq_true rfl) d_J_init_32 (fun H locs hP hD hS => ?_)
  have hP : va_P D cls [(qj, .inr (2, [.ref qg, .int ((-1)), .int (0), .int (0), .int (nI 0), .int (0), .int (0), .int (0)])), (qg, .inr (1, [.ref qs, .int (nI 0)])), (qs, .inl (cI, 192, .inl (fun _ => 0)))] H := hP
  have hD : va_D A [(qj, .inr (2, [.ref qg, .int ((-1)), .int (0), .int (0), .int (nI 0), .int (0), .int (0), .int (0)])), (qg, .inr (1, [.ref qs, .int (nI 0)])), (qs, .inl (cI, 192, .inl (fun _ => 0)))] := hD
  refine lv_aload_n hx hb d_J_init_35 rfl (lv_at hl 0 rfl) ?_
  refine lv_iconst (v := (-1)) hx hb d_J_init_36 (by decide) ?_
  refine va_put (D := D) (ci := 2) (v := .int ((-1))) (ty := .int) (C := R_J) (T := F_J) (N := 8) hx hb hts wl_J t_J t_J_ok n_J hown hK hP hD hS 0 rfl rfl 5 (by decide) (hts _ wf_J_32) (fun _ h9 => h9) rfl (by decide +kernel) rfl rfl (Nat.le_of_ble_eq_true rfl) d_J_init_37 (fun H locs hP hD hS => ?_)
  have hP : va_P D cls [(qj, .inr (2, [.ref qg, .int ((-1)), .int (0), .int (0), .int (nI 0), .int ((-1)), .int (0), .int (0)])), (qg, .inr (1, [.ref qs, .int (nI 0)])), (qs, .inl (cI, 192, .inl (fun _ => 0)))] H := hP
  have hD : va_D A [(qj, .inr (2, [.ref qg, .int ((-1)), .int (0), .int (0), .int (nI 0), .int ((-1)), .int (0), .int (0)])), (qg, .inr (1, [.ref qs, .int (nI 0)])), (qs, .inl (cI, 192, .inl (fun _ => 0)))] := hD
  refine lv_aload_n hx hb d_J_init_40 rfl (lv_at hl 0 rfl) ?_
  refine lv_iconst (v := nI 0) hx hb d_J_init_41 (by decide) ?_
  refine va_put (D := D) (ci := 2) (v := .int (nI 0)) (ty := .int) (C := R_J) (T := F_J) (N := 8) hx hb hts wl_J t_J t_J_ok n_J hown hK hP hD hS 0 rfl rfl 6 (by decide) (hts _ wf_J_35) (fun _ h9 => h9) rfl (by decide +kernel) rfl rfl (Nat.le_of_ble_eq_true rfl) d_J_init_42 (fun H locs hP hD hS => ?_)
  have hP : va_P D cls [(qj, .inr (2, [.ref qg, .int ((-1)), .int (0), .int (0), .int (nI 0), .int ((-1)), .int (nI 0), .int (0)])), (qg, .inr (1, [.ref qs, .int (nI 0)])), (qs, .inl (cI, 192, .inl (fun _ => 0)))] H := hP
  have hD : va_D A [(qj, .inr (2, [.ref qg, .int ((-1)), .int (0), .int (0), .int (nI 0), .int ((-1)), .int (nI 0), .int (0)])), (qg, .inr (1, [.ref qs, .int (nI 0)])), (qs, .inl (cI, 192, .inl (fun _ => 0)))] := hD
  refine lv_aload_n hx hb d_J_init_45 rfl (lv_at hl 0 rfl) ?_
  refine lv_iconst (v := nI 0) hx hb d_J_init_46 (by decide) ?_
  refine va_put (D := D) (ci := 2) (v := .int (nI 0)) (ty := .int) (C := R_J) (T := F_J) (N := 8) hx hb hts wl_J t_J t_J_ok n_J hown hK hP hD hS 0 rfl rfl 7 (by decide) (hts _ wf_J_38) (fun _ h9 => h9) rfl (by decide +kernel) rfl rfl (Nat.le_of_ble_eq_true rfl) d_J_init_47 (fun H locs hP hD hS => ?_)
  have hP : va_P D cls [(qj, .inr (2, [.ref qg, .int ((-1)), .int (0), .int (0), .int (nI 0), .int ((-1)), .int (nI 0), .int (nI 0)])), (qg, .inr (1, [.ref qs, .int (nI 0)])), (qs, .inl (cI, 192, .inl (fun _ => 0)))] H := hP
  have hD : va_D A [(qj, .inr (2, [.ref qg, .int ((-1)), .int (0), .int (0), .int (nI 0), .int ((-1)), .int (nI 0), .int (nI 0)])), (qg, .inr (1, [.ref qs, .int (nI 0)])), (qs, .inl (cI, 192, .inl (fun _ => 0)))] := hD
  exact sd_nret hx hb hr hlk hP hD hS (by first | omega | (dsimp only; omega)) (by first | omega | (dsimp only; omega)) ⟨qg, qs, rfl⟩ d_J_init_50
set_option maxHeartbeats 4000000 in
set_option maxRecDepth 100000 in
theorem c_H_init (l : Launch) (D : va_G) (cI cZ cQ : ClassId) (qh : Nat) (k : Nat) (hk : k < 2 ^ 20) (hk9 : k ≤ 9) : sd_N l D (tyL cI cZ cQ) y_H_init b_H_init 2 ({ frames := 2, cells := 3, slots := 27, locals := 40 }) [.ref qh, .int (nI k)] [(qh, .inr (3, [.null, .null, .null]))] (fun w9 => ∃ (qn : Nat) (qu : Nat) (qw : Nat), w9 = [(qh, .inr (3, [.ref qn, .ref qu, .ref qw])), (qn, .inl (cI, k, .inl (fun _ => 0))), (qu, .inl (cI, k, .inl (fun _ => 0))), (qw, .inl (cI, k, .inl (fun _ => 0)))]) := by
  refine sd_ofN (by decide) rfl (Nat.le_of_ble_eq_true rfl) ?_
  intro p e s m below meth c A ls hx hb hr hml hlk hown hts hK hP hD hA hS hl hZ hin
  have hl : lv_has ls 2 [(0, .ref qh), (1, .int (nI k))] := hl
  refine lv_aload_n hx hb d_H_init_0 rfl (lv_at hl 0 rfl) ?_
  refine W.objInit hx hb hown (hts _ wm_H_1) (hts _ wo_object) (hts _ wc_object) rfl (by rw [hml]; exact hl.1) rfl d_H_init_1 (Nat.le_of_ble_eq_true rfl) (Nat.le_of_ble_eq_true rfl) ?_
  refine W.eq (g2 := F0 m 4 ls []) rfl ?_
  refine lv_aload_n hx hb d_H_init_4 rfl (lv_at hl 0 rfl) ?_
  refine lv_iload_n hx hb d_H_init_5 rfl (lv_at hl 1 rfl) ?_
  refine sd_newI (N := k) hx hb hts hK hP hD hS hA (by omega) (by dsimp only; omega) (by dsimp only; omega) d_H_init_6 (fun qn H hP hD hS => ?_)
  have hP : va_P D cls [(qh, .inr (3, [.null, .null, .null])), (qn, .inl (cI, k, .inl (fun _ => 0)))] H := hP
  have hD : va_D A [(qh, .inr (3, [.null, .null, .null])), (qn, .inl (cI, k, .inl (fun _ => 0)))] := hD
  refine va_putF (D := D) (ci := 3) (v := .ref qn) (ty := .array .int) (C := R_H) (T := F_H) (N := 3) hx hb hts wl_H t_H t_H_ok n_H hown hK hP hD hS 0 rfl rfl 0 (by decide) (hts _ wf_H_7) (fun _ h9 => h9) rfl hin rfl (by decide +kernel) rfl rfl (Nat.le_of_ble_eq_true rfl) d_H_init_8 (fun H locs hP hD hS => ?_)
  have hP : va_P D cls [(qh, .inr (3, [.ref qn, .null, .null])), (qn, .inl (cI, k, .inl (fun _ => 0)))] H := hP
  have hD : va_D A [(qh, .inr (3, [.ref qn, .null, .null])), (qn, .inl (cI, k, .inl (fun _ => 0)))] := hD
  refine lv_aload_n hx hb d_H_init_11 rfl (lv_at hl 0 rfl) ?_
  refine lv_iload_n hx hb d_H_init_12 rfl (lv_at hl 1 rfl) ?_
  refine sd_newI (N := k) hx hb hts hK hP hD hS hA (by omega) (by dsimp only; omega) (by dsimp only; omega) d_H_init_13 (fun qu H hP hD hS => ?_)
  have hP : va_P D cls [(qh, .inr (3, [.ref qn, .null, .null])), (qn, .inl (cI, k, .inl (fun _ => 0))), (qu, .inl (cI, k, .inl (fun _ => 0)))] H := hP
  have hD : va_D A [(qh, .inr (3, [.ref qn, .null, .null])), (qn, .inl (cI, k, .inl (fun _ => 0))), (qu, .inl (cI, k, .inl (fun _ => 0)))] := hD
  refine va_putF (D := D) (ci := 3) (v := .ref qu) (ty := .array .int) (C := R_H) (T := F_H) (N := 3) hx hb hts wl_H t_H t_H_ok n_H hown hK hP hD hS 0 rfl rfl 1 (by decide) (hts _ wf_H_13) (fun _ h9 => h9) rfl hin rfl (by decide +kernel) rfl rfl (Nat.le_of_ble_eq_true rfl) d_H_init_15 (fun H locs hP hD hS => ?_)
  have hP : va_P D cls [(qh, .inr (3, [.ref qn, .ref qu, .null])), (qn, .inl (cI, k, .inl (fun _ => 0))), (qu, .inl (cI, k, .inl (fun _ => 0)))] H := hP
  have hD : va_D A [(qh, .inr (3, [.ref qn, .ref qu, .null])), (qn, .inl (cI, k, .inl (fun _ => 0))), (qu, .inl (cI, k, .inl (fun _ => 0)))] := hD
  refine lv_aload_n hx hb d_H_init_18 rfl (lv_at hl 0 rfl) ?_
  refine lv_iload_n hx hb d_H_init_19 rfl (lv_at hl 1 rfl) ?_
  refine sd_newI (N := k) hx hb hts hK hP hD hS hA (by omega) (by dsimp only; omega) (by dsimp only; omega) d_H_init_20 (fun qw H hP hD hS => ?_)
  have hP : va_P D cls [(qh, .inr (3, [.ref qn, .ref qu, .null])), (qn, .inl (cI, k, .inl (fun _ => 0))), (qu, .inl (cI, k, .inl (fun _ => 0))), (qw, .inl (cI, k, .inl (fun _ => 0)))] H := hP
  have hD : va_D A [(qh, .inr (3, [.ref qn, .ref qu, .null])), (qn, .inl (cI, k, .inl (fun _ => 0))), (qu, .inl (cI, k, .inl (fun _ => 0))), (qw, .inl (cI, k, .inl (fun _ => 0)))] := hD
  refine va_putF (D := D) (ci := 3) (v := .ref qw) (ty := .array .int) (C := R_H) (T := F_H) (N := 3) hx hb hts wl_H t_H t_H_ok n_H hown hK hP hD hS 0 rfl rfl 2 (by decide) (hts _ wf_H_16) (fun _ h9 => h9) rfl hin rfl (by decide +kernel) rfl rfl (Nat.le_of_ble_eq_true rfl) d_H_init_22 (fun H locs hP hD hS => ?_)
  have hP : va_P D cls [(qh, .inr (3, [.ref qn, .ref qu, .ref qw])), (qn, .inl (cI, k, .inl (fun _ => 0))), (qu, .inl (cI, k, .inl (fun _ => 0))), (qw, .inl (cI, k, .inl (fun _ => 0)))] H := hP
  have hD : va_D A [(qh, .inr (3, [.ref qn, .ref qu, .ref qw])), (qn, .inl (cI, k, .inl (fun _ => 0))), (qu, .inl (cI, k, .inl (fun _ => 0))), (qw, .inl (cI, k, .inl (fun _ => 0)))] := hD
  exact sd_nret hx hb hr hlk hP hD hS (by first | omega | (dsimp only; omega)) (by first | omega | (dsimp only; omega)) ⟨qn, qu, qw, rfl⟩ d_H_init_25
