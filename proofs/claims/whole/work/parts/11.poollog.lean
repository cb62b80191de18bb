/-- a message at its place in the log -/
def lg_put (g : Nat → Int32) (T : Nat) (a b x : Int32) : Nat → Int32 := upd (upd (upd g (T % 64 * 3) a) (T % 64 * 3 + 1) b) (T % 64 * 3 + 2) x
theorem d_P_put_0 : decode b_P_put 0 = .ok (.aload_n 0, 1) := by decide +kernel
theorem d_P_put_1 : decode b_P_put 1 = .ok (.getfield 9, 3) := by decide +kernel
theorem d_P_put_4 : decode b_P_put 4 = .ok (.aload_n 0, 1) := by decide +kernel
theorem d_P_put_5 : decode b_P_put 5 = .ok (.getfield 13, 3) := by decide +kernel
theorem d_P_put_8 : decode b_P_put 8 = .ok (.aload_n 0, 1) := by decide +kernel
theorem d_P_put_9 : decode b_P_put 9 = .ok (.getfield 17, 3) := by decide +kernel
theorem d_P_put_12 : decode b_P_put 12 = .ok (.iadd, 1) := by decide +kernel
theorem d_P_put_13 : decode b_P_put 13 = .ok (.sipush 1000, 3) := by decide +kernel
theorem d_P_put_16 : decode b_P_put 16 = .ok (.irem, 1) := by decide +kernel
theorem d_P_put_17 : decode b_P_put 17 = .ok (.iload_n 1, 1) := by decide +kernel
theorem d_P_put_18 : decode b_P_put 18 = .ok (.iastore, 1) := by decide +kernel
theorem d_P_put_19 : decode b_P_put 19 = .ok (.aload_n 0, 1) := by decide +kernel
theorem d_P_put_20 : decode b_P_put 20 = .ok (.dup, 1) := by decide +kernel
theorem d_P_put_21 : decode b_P_put 21 = .ok (.getfield 17, 3) := by decide +kernel
theorem d_P_put_24 : decode b_P_put 24 = .ok (.iconst 1, 1) := by decide +kernel
theorem d_P_put_25 : decode b_P_put 25 = .ok (.iadd, 1) := by decide +kernel
theorem d_P_put_26 : decode b_P_put 26 = .ok (.putfield 17, 3) := by decide +kernel
theorem d_P_put_29 : decode b_P_put 29 = .ok (.return_, 1) := by decide +kernel
theorem d_P_take_0 : decode b_P_take 0 = .ok (.aload_n 0, 1) := by decide +kernel
theorem d_P_take_1 : decode b_P_take 1 = .ok (.getfield 9, 3) := by decide +kernel
theorem d_P_take_4 : decode b_P_take 4 = .ok (.aload_n 0, 1) := by decide +kernel
theorem d_P_take_5 : decode b_P_take 5 = .ok (.getfield 13, 3) := by decide +kernel
theorem d_P_take_8 : decode b_P_take 8 = .ok (.iaload, 1) := by decide +kernel
theorem d_P_take_9 : decode b_P_take 9 = .ok (.istore_n 1, 1) := by decide +kernel
theorem d_P_take_10 : decode b_P_take 10 = .ok (.aload_n 0, 1) := by decide +kernel
theorem d_P_take_11 : decode b_P_take 11 = .ok (.aload_n 0, 1) := by decide +kernel
theorem d_P_take_12 : decode b_P_take 12 = .ok (.getfield 13, 3) := by decide +kernel
theorem d_P_take_15 : decode b_P_take 15 = .ok (.iconst 1, 1) := by decide +kernel
theorem d_P_take_16 : decode b_P_take 16 = .ok (.iadd, 1) := by decide +kernel
theorem d_P_take_17 : decode b_P_take 17 = .ok (.sipush 1000, 3) := by decide +kernel
theorem d_P_take_20 : decode b_P_take 20 = .ok (.irem, 1) := by decide +kernel
theorem d_P_take_21 : decode b_P_take 21 = .ok (.putfield 13, 3) := by decide +kernel
theorem d_P_take_24 : decode b_P_take 24 = .ok (.aload_n 0, 1) := by decide +kernel
theorem d_P_take_25 : decode b_P_take 25 = .ok (.dup, 1) := by decide +kernel
theorem d_P_take_26 : decode b_P_take 26 = .ok (.getfield 17, 3) := by decide +kernel
theorem d_P_take_29 : decode b_P_take 29 = .ok (.iconst 1, 1) := by decide +kernel
theorem d_P_take_30 : decode b_P_take 30 = .ok (.isub, 1) := by decide +kernel
theorem d_P_take_31 : decode b_P_take 31 = .ok (.putfield 17, 3) := by decide +kernel
theorem d_P_take_34 : decode b_P_take 34 = .ok (.iload_n 1, 1) := by decide +kernel
theorem d_P_take_35 : decode b_P_take 35 = .ok (.ireturn, 1) := by decide +kernel
theorem d_G_note_0 : decode b_G_note 0 = .ok (.aload_n 0, 1) := by decide +kernel
theorem d_G_note_1 : decode b_G_note 1 = .ok (.getfield 13, 3) := by decide +kernel
theorem d_G_note_4 : decode b_G_note 4 = .ok (.bipush 64, 2) := by decide +kernel
theorem d_G_note_6 : decode b_G_note 6 = .ok (.irem, 1) := by decide +kernel
theorem d_G_note_7 : decode b_G_note 7 = .ok (.iconst 3, 1) := by decide +kernel
theorem d_G_note_8 : decode b_G_note 8 = .ok (.imul, 1) := by decide +kernel
theorem d_G_note_9 : decode b_G_note 9 = .ok (.istore 4, 2) := by decide +kernel
theorem d_G_note_11 : decode b_G_note 11 = .ok (.aload_n 0, 1) := by decide +kernel
theorem d_G_note_12 : decode b_G_note 12 = .ok (.getfield 9, 3) := by decide +kernel
theorem d_G_note_15 : decode b_G_note 15 = .ok (.iload 4, 2) := by decide +kernel
theorem d_G_note_17 : decode b_G_note 17 = .ok (.iload_n 1, 1) := by decide +kernel
theorem d_G_note_18 : decode b_G_note 18 = .ok (.iastore, 1) := by decide +kernel
theorem d_G_note_19 : decode b_G_note 19 = .ok (.aload_n 0, 1) := by decide +kernel
theorem d_G_note_20 : decode b_G_note 20 = .ok (.getfield 9, 3) := by decide +kernel
theorem d_G_note_23 : decode b_G_note 23 = .ok (.iload 4, 2) := by decide +kernel
theorem d_G_note_25 : decode b_G_note 25 = .ok (.iconst 1, 1) := by decide +kernel
theorem d_G_note_26 : decode b_G_note 26 = .ok (.iadd, 1) := by decide +kernel
theorem d_G_note_27 : decode b_G_note 27 = .ok (.iload_n 2, 1) := by decide +kernel
theorem d_G_note_28 : decode b_G_note 28 = .ok (.iastore, 1) := by decide +kernel
theorem d_G_note_29 : decode b_G_note 29 = .ok (.aload_n 0, 1) := by decide +kernel
theorem d_G_note_30 : decode b_G_note 30 = .ok (.getfield 9, 3) := by decide +kernel
theorem d_G_note_33 : decode b_G_note 33 = .ok (.iload 4, 2) := by decide +kernel
theorem d_G_note_35 : decode b_G_note 35 = .ok (.iconst 2, 1) := by decide +kernel
theorem d_G_note_36 : decode b_G_note 36 = .ok (.iadd, 1) := by decide +kernel
theorem d_G_note_37 : decode b_G_note 37 = .ok (.iload_n 3, 1) := by decide +kernel
theorem d_G_note_38 : decode b_G_note 38 = .ok (.iastore, 1) := by decide +kernel
theorem d_G_note_39 : decode b_G_note 39 = .ok (.aload_n 0, 1) := by decide +kernel
theorem d_G_note_40 : decode b_G_note 40 = .ok (.dup, 1) := by decide +kernel
theorem d_G_note_41 : decode b_G_note 41 = .ok (.getfield 13, 3) := by decide +kernel
theorem d_G_note_44 : decode b_G_note 44 = .ok (.iconst 1, 1) := by decide +kernel
theorem d_G_note_45 : decode b_G_note 45 = .ok (.iadd, 1) := by decide +kernel
theorem d_G_note_46 : decode b_G_note 46 = .ok (.putfield 13, 3) := by decide +kernel
theorem d_G_note_49 : decode b_G_note 49 = .ok (.return_, 1) := by decide +kernel
theorem d_G_look_0 : decode b_G_look 0 = .ok (.aload_n 0, 1) := by decide +kernel
theorem d_G_look_1 : decode b_G_look 1 = .ok (.getfield 9, 3) := by decide +kernel
theorem d_G_look_4 : decode b_G_look 4 = .ok (.aload_n 0, 1) := by decide +kernel
theorem d_G_look_5 : decode b_G_look 5 = .ok (.getfield 13, 3) := by decide +kernel
theorem d_G_look_8 : decode b_G_look 8 = .ok (.iconst 1, 1) := by decide +kernel
theorem d_G_look_9 : decode b_G_look 9 = .ok (.isub, 1) := by decide +kernel
theorem d_G_look_10 : decode b_G_look 10 = .ok (.iload_n 1, 1) := by decide +kernel
theorem d_G_look_11 : decode b_G_look 11 = .ok (.isub, 1) := by decide +kernel
theorem d_G_look_12 : decode b_G_look 12 = .ok (.bipush 64, 2) := by decide +kernel
theorem d_G_look_14 : decode b_G_look 14 = .ok (.irem, 1) := by decide +kernel
theorem d_G_look_15 : decode b_G_look 15 = .ok (.iconst 3, 1) := by decide +kernel
theorem d_G_look_16 : decode b_G_look 16 = .ok (.imul, 1) := by decide +kernel
theorem d_G_look_17 : decode b_G_look 17 = .ok (.iload_n 2, 1) := by decide +kernel
theorem d_G_look_18 : decode b_G_look 18 = .ok (.iadd, 1) := by decide +kernel
theorem d_G_look_19 : decode b_G_look 19 = .ok (.iaload, 1) := by decide +kernel
theorem d_G_look_20 : decode b_G_look 20 = .ok (.ireturn, 1) := by decide +kernel
set_option maxHeartbeats 4000000 in
set_option maxRecDepth 100000 in
theorem c_P_put (l : Launch) (D : va_G) (cI cZ cQ : ClassId) (qp : Nat) (qr : Nat) (pf : Nat) (pn : Nat) (pr : Nat → Int32) (v : Int32) (hf : pf < 1000) (hn : pn < 1000) : sd_V l D (tyL cI cZ cQ) y_P_put b_P_put 2 ({ frames := 0, cells := 0, slots := 0, locals := 0 }) [.ref qp, .int (v)] [(qp, .inr (0, [.ref qr, .int (nI (pf)), .int (nI (pn))])), (qr, .inl (cI, 1000, .inl (pr)))] [(qp, .inr (0, [.ref qr, .int (nI (pf)), .int (nI (pn + 1))])), (qr, .inl (cI, 1000, .inl (upd pr ((pf + pn) % 1000) v)))] := by
  refine sd_ofV (by decide) (Nat.le_of_ble_eq_true rfl) ?_
  intro p e s m below meth c A ls hx hb hr hml hlk hown hts hK hP hD hA hS hl
  have hl : lv_has ls 2 [(0, .ref qp), (1, .int (v))] := hl
  refine lv_aload_n hx hb d_P_put_0 rfl (lv_at hl 0 rfl) ?_
  refine va_get (D := D) (ci := 0) (v := .ref qr) (C := R_P) (T := F_P) (N := 3) hx hb hts wl_P hown hK hP 0 rfl rfl 0 (by decide) (hts _ wf_P_9) (fun _ h9 => h9) rfl d_P_put_1 ?_
  refine lv_aload_n hx hb d_P_put_4 rfl (lv_at hl 0 rfl) ?_
  refine va_get (D := D) (ci := 0) (v := .int (nI (pf))) (C := R_P) (T := F_P) (N := 3) hx hb hts wl_P hown hK hP 0 rfl rfl 1 (by decide) (hts _ wf_P_13) (fun _ h9 => h9) rfl d_P_put_5 ?_
  refine lv_aload_n hx hb d_P_put_8 rfl (lv_at hl 0 rfl) ?_
  refine va_get (D := D) (ci := 0) (v := .int (nI (pn))) (C := R_P) (T := F_P) (N := 3) hx hb hts wl_P hown hK hP 0 rfl rfl 2 (by decide) (hts _ wf_P_17) (fun _ h9 => h9) rfl d_P_put_9 ?_
  refine lv_iadd hx hb d_P_put_12 ?_
  refine sd_top (y := nI (pf + pn)) (nI_add pf pn) ?_
  refine lv_sipush (v := nI 1000) hx hb d_P_put_13 (by decide) ?_
  refine lv_irem hx hb d_P_put_16 (by decide) ?_
  refine sd_top (y := nI ((pf + pn) % 1000)) (pk_rem (by omega) (by omega) (by omega)) ?_
  refine lv_iload_n hx hb d_P_put_17 rfl (lv_at hl 1 rfl) ?_
  refine sd_iast (j := (pf + pn) % 1000) hx hb hK hP hD hS 1 0 rfl rfl (Nat.mod_lt _ (by omega)) (by omega) d_P_put_18 (fun H locs hP hD hS => ?_)
  have hP : va_P D cls [(qp, .inr (0, [.ref qr, .int (nI (pf)), .int (nI (pn))])), (qr, .inl (cI, 1000, .inl (upd (pr) ((pf + pn) % 1000) (v))))] H := hP
  have hD : va_D A [(qp, .inr (0, [.ref qr, .int (nI (pf)), .int (nI (pn))])), (qr, .inl (cI, 1000, .inl (upd (pr) ((pf + pn) % 1000) (v))))] := hD
  refine lv_aload_n hx hb d_P_put_19 rfl (lv_at hl 0 rfl) ?_
  refine lv_dup hx hb d_P_put_20 rfl ?_
  refine va_get (D := D) (ci := 0) (v := .int (nI (pn))) (C := R_P) (T := F_P) (N := 3) hx hb hts wl_P hown hK hP 0 rfl rfl 2 (by decide) (hts _ wf_P_17) (fun _ h9 => h9) rfl d_P_put_21 ?_
  refine lv_iconst (v := 1) hx hb d_P_put_24 (by decide) ?_
  refine lv_iadd hx hb d_P_put_25 ?_
  refine sd_top (y := nI (pn + 1)) (nI_1 pn) ?_
  refine va_put (D := D) (ci := 0) (v := .int (nI (pn + 1))) (ty := .int) (C := R_P) (T := F_P) (N := 3) hx hb hts wl_P t_P t_P_ok n_P hown hK hP hD hS 0 rfl rfl 2 (by decide) (hts _ wf_P_17) (fun _ h9 => h9) rfl (by decide +kernel) rfl rfl (Nat.le_of_ble_eq_true rfl) d_P_put_26 (fun H locs hP hD hS => ?_)
  have hP : va_P D cls [(qp, .inr (0, [.ref qr, .int (nI (pf)), .int (nI (pn + 1))])), (qr, .inl (cI, 1000, .inl (upd (pr) ((pf + pn) % 1000) (v))))] H := hP
  have hD : va_D A [(qp, .inr (0, [.ref qr, .int (nI (pf)), .int (nI (pn + 1))])), (qr, .inl (cI, 1000, .inl (upd (pr) ((pf + pn) % 1000) (v))))] := hD
  exact sd_vret hx hb hr hlk hP hS (Nat.le_of_ble_eq_true rfl) (Nat.le_of_ble_eq_true rfl) d_P_put_29
set_option maxHeartbeats 4000000 in
set_option maxRecDepth 100000 in
theorem c_P_take (l : Launch) (D : va_G) (cI cZ cQ : ClassId) (qp : Nat) (qr : Nat) (pf : Nat) (pn : Nat) (pr : Nat → Int32) (hf : pf < 1000) (hn : 0 < pn) : sd_I l D (tyL cI cZ cQ) y_P_take b_P_take 2 (.int) ({ frames := 0, cells := 0, slots := 0, locals := 0 }) [.ref qp] [(qp, .inr (0, [.ref qr, .int (nI (pf)), .int (nI (pn))])), (qr, .inl (cI, 1000, .inl (pr)))] (pr pf) [(qp, .inr (0, [.ref qr, .int (nI ((pf + 1) % 1000)), .int (nI (pn - 1))])), (qr, .inl (cI, 1000, .inl (pr)))] := by
  refine sd_ofI (by decide) (Nat.le_of_ble_eq_true rfl) ?_
  intro p e s m below meth c A ls hx hb hr hml hlk hown hts hK hP hD hA hS hl
  have hl : lv_has ls 2 [(0, .ref qp)] := hl
  refine lv_aload_n hx hb d_P_take_0 rfl (lv_at hl 0 rfl) ?_
  refine va_get (D := D) (ci := 0) (v := .ref qr) (C := R_P) (T := F_P) (N := 3) hx hb hts wl_P hown hK hP 0 rfl rfl 0 (by decide) (hts _ wf_P_9) (fun _ h9 => h9) rfl d_P_take_1 ?_
  refine lv_aload_n hx hb d_P_take_4 rfl (lv_at hl 0 rfl) ?_
  refine va_get (D := D) (ci := 0) (v := .int (nI (pf))) (C := R_P) (T := F_P) (N := 3) hx hb hts wl_P hown hK hP 0 rfl rfl 1 (by decide) (hts _ wf_P_13) (fun _ h9 => h9) rfl d_P_take_5 ?_
  refine sd_iald (j := pf) hx hb hK hP 1 0 rfl rfl (by omega) (by omega) d_P_take_8 ?_
  refine lv_istore_n hx hb d_P_take_9 rfl hl (Nat.le_of_ble_eq_true rfl) (lv' := [(1, .int (pr (pf))), (0, .ref qp)]) rfl (fun ls hl => ?_)
  refine lv_aload_n hx hb d_P_take_10 rfl (lv_at hl 1 rfl) ?_
  refine lv_aload_n hx hb d_P_take_11 rfl (lv_at hl 1 rfl) ?_
  refine va_get (D := D) (ci := 0) (v := .int (nI (pf))) (C := R_P) (T := F_P) (N := 3) hx hb hts wl_P hown hK hP 0 rfl rfl 1 (by decide) (hts _ wf_P_13) (fun _ h9 => h9) rfl d_P_take_12 ?_
  refine lv_iconst (v := 1) hx hb d_P_take_15 (by decide) ?_
  refine lv_iadd hx hb d_P_take_16 ?_
  refine sd_top (y := nI (pf + 1)) (nI_1 pf) ?_
  refine lv_sipush (v := nI 1000) hx hb d_P_take_17 (by decide) ?_
  refine lv_irem hx hb d_P_take_20 (by decide) ?_
  refine sd_top (y := nI ((pf + 1) % 1000)) (pk_rem (by omega) (by omega) (by omega)) ?_
  refine va_put (D := D) (ci := 0) (v := .int (nI ((pf + 1) % 1000))) (ty := .int) (C := R_P) (T := F_P) (N := 3) hx hb hts wl_P t_P t_P_ok n_P hown hK hP hD hS 0 rfl rfl 1 (by decide) (hts _ wf_P_13) (fun _ h9 => h9) rfl (by decide +kernel) rfl rfl (Nat.le_of_ble_eq_true rfl) d_P_take_21 (fun H locs hP hD hS => ?_)
  have hP : va_P D cls [(qp, .inr (0, [.ref qr, .int (nI ((pf + 1) % 1000)), .int (nI (pn))])), (qr, .inl (cI, 1000, .inl (pr)))] H := hP
  have hD : va_D A [(qp, .inr (0, [.ref qr, .int (nI ((pf + 1) % 1000)), .int (nI (pn))])), (qr, .inl (cI, 1000, .inl (pr)))] := hD
  refine lv_aload_n hx hb d_P_take_24 rfl (lv_at hl 1 rfl) ?_
  refine lv_dup hx hb d_P_take_25 rfl ?_
  refine va_get (D := D) (ci := 0) (v := .int (nI (pn))) (C := R_P) (T := F_P) (N := 3) hx hb hts wl_P hown hK hP 0 rfl rfl 2 (by decide) (hts _ wf_P_17) (fun _ h9 => h9) rfl d_P_take_26 ?_
  refine lv_iconst (v := 1) hx hb d_P_take_29 (by decide) ?_
  refine lv_isub hx hb d_P_take_30 ?_
  refine sd_top (y := nI (pn - 1)) (ni_pred hn) ?_
  refine va_put (D := D) (ci := 0) (v := .int (nI (pn - 1))) (ty := .int) (C := R_P) (T := F_P) (N := 3) hx hb hts wl_P t_P t_P_ok n_P hown hK hP hD hS 0 rfl rfl 2 (by decide) (hts _ wf_P_17) (fun _ h9 => h9) rfl (by decide +kernel) rfl rfl (Nat.le_of_ble_eq_true rfl) d_P_take_31 (fun H locs hP hD hS => ?_)
  have hP : va_P D cls [(qp, .inr (0, [.ref qr, .int (nI ((pf + 1) % 1000)), .int (nI (pn - 1))])), (qr, .inl (cI, 1000, .inl (pr)))] H := hP
  have hD : va_D A [(qp, .inr (0, [.ref qr, .int (nI ((pf + 1) % 1000)), .int (nI (pn - 1))])), (qr, .inl (cI, 1000, .inl (pr)))] := hD
  refine lv_iload_n hx hb d_P_take_34 rfl (lv_at hl 0 rfl) ?_
  exact sd_iret hx hb hr hlk hP hS (Nat.le_of_ble_eq_true rfl) (Nat.le_of_ble_eq_true rfl) (rfl) d_P_take_35
set_option maxHeartbeats 4000000 in
set_option maxRecDepth 100000 in
theorem c_G_note (l : Launch) (D : va_G) (cI cZ cQ : ClassId) (qg : Nat) (qs : Nat) (T : Nat) (g : Nat → Int32) (a : Int32) (b : Int32) (x : Int32) (hT : T < 2 ^ 31) : sd_V l D (tyL cI cZ cQ) y_G_note b_G_note 5 ({ frames := 0, cells := 0, slots := 0, locals := 0 }) [.ref qg, .int (a), .int (b), .int (x)] [(qg, .inr (1, [.ref qs, .int (nI (T))])), (qs, .inl (cI, 192, .inl (g)))] [(qg, .inr (1, [.ref qs, .int (nI (T + 1))])), (qs, .inl (cI, 192, .inl (lg_put g T a b x)))] := by
  refine sd_ofV (by decide) (Nat.le_of_ble_eq_true rfl) ?_
  intro p e s m below meth c A ls hx hb hr hml hlk hown hts hK hP hD hA hS hl
  have hl : lv_has ls 5 [(0, .ref qg), (1, .int (a)), (2, .int (b)), (3, .int (x))] := hl
  have h64 : T % 64 < 64 := Nat.mod_lt _ (by omega)
  refine lv_aload_n hx hb d_G_note_0 rfl (lv_at hl 0 rfl) ?_
  refine va_get (D := D) (ci := 1) (v := .int (nI (T))) (C := R_G) (T := F_G) (N := 2) hx hb hts wl_G hown hK hP 0 rfl rfl 1 (by decide) (hts _ wf_G_13) (fun _ h9 => h9) rfl d_G_note_1 ?_
  refine lv_bipush (v := nI 64) hx hb d_G_note_4 (by decide) ?_
  refine lv_irem hx hb d_G_note_6 (by decide) ?_
  refine sd_top (y := nI (T % 64)) (pk_rem (by omega) (by omega) (by omega)) ?_
  refine lv_iconst (v := nI 3) hx hb d_G_note_7 (by decide) ?_
  refine lv_imul hx hb d_G_note_8 ?_
  refine sd_top (y := nI (T % 64 * 3)) (pk_mul _ _) ?_
  refine lv_istore hx hb d_G_note_9 hl (Nat.le_of_ble_eq_true rfl) (lv' := [(4, .int (nI (T % 64 * 3))), (0, .ref qg), (1, .int (a)), (2, .int (b)), (3, .int (x))]) rfl (fun ls hl => ?_)
  refine lv_aload_n hx hb d_G_note_11 rfl (lv_at hl 1 rfl) ?_
  refine va_get (D := D) (ci := 1) (v := .ref qs) (C := R_G) (T := F_G) (N := 2) hx hb hts wl_G hown hK hP 0 rfl rfl 0 (by decide) (hts _ wf_G_9) (fun _ h9 => h9) rfl d_G_note_12 ?_
  refine lv_iload hx hb d_G_note_15 (lv_at hl 0 rfl) ?_
  refine lv_iload_n hx hb d_G_note_17 rfl (lv_at hl 2 rfl) ?_
  refine sd_iast (j := T % 64 * 3) hx hb hK hP hD hS 1 0 rfl rfl (by omega) (by omega) d_G_note_18 (fun H locs hP hD hS => ?_)
  have hP : va_P D cls [(qg, .inr (1, [.ref qs, .int (nI (T))])), (qs, .inl (cI, 192, .inl (upd (g) (T % 64 * 3) (a))))] H := hP
  have hD : va_D A [(qg, .inr (1, [.ref qs, .int (nI (T))])), (qs, .inl (cI, 192, .inl (upd (g) (T % 64 * 3) (a))))] := hD
  refine lv_aload_n hx hb d_G_note_19 rfl (lv_at hl 1 rfl) ?_
  refine va_get (D := D) (ci := 1) (v := .ref qs) (C := R_G) (T := F_G) (N := 2) hx hb hts wl_G hown hK hP 0 rfl rfl 0 (by decide) (hts _ wf_G_9) (fun _ h9 => h9) rfl d_G_note_20 ?_
  refine lv_iload hx hb d_G_note_23 (lv_at hl 0 rfl) ?_
  refine lv_iconst (v := nI 1) hx hb d_G_note_25 (by decide) ?_
  refine lv_iadd hx hb d_G_note_26 ?_
  refine sd_top (y := nI (T % 64 * 3 + 1)) (nI_add _ _) ?_
  refine lv_iload_n hx hb d_G_note_27 rfl (lv_at hl 3 rfl) ?_
  refine sd_iast (j := T % 64 * 3 + 1) hx hb hK hP hD hS 1 0 rfl rfl (by omega) (by omega) d_G_note_28 (fun H locs hP hD hS => ?_)
  have hP : va_P D cls [(qg, .inr (1, [.ref qs, .int (nI (T))])), (qs, .inl (cI, 192, .inl (upd (upd (g) (T % 64 * 3) (a)) (T % 64 * 3 + 1) (b))))] H := hP
  have hD : va_D A [(qg, .inr (1, [.ref qs, .int (nI (T))])), (qs, .inl (cI, 192, .inl (upd (upd (g) (T % 64 * 3) (a)) (T % 64 * 3 + 1) (b))))] := hD
  refine lv_aload_n hx hb d_G_note_29 rfl (lv_at hl 1 rfl) ?_
  refine va_get (D := D) (ci := 1) (v := .ref qs) (C := R_G) (T := F_G) (N := 2) hx hb hts wl_G hown hK hP 0 rfl rfl 0 (by decide) (hts _ wf_G_9) (fun _ h9 => h9) rfl d_G_note_30 ?_
  refine lv_iload hx hb d_G_note_33 (lv_at hl 0 rfl) ?_
  refine lv_iconst (v := nI 2) hx hb d_G_note_35 (by decide) ?_
  refine lv_iadd hx hb d_G_note_36 ?_
  refine sd_top (y := nI (T % 64 * 3 + 2)) (nI_add _ _) ?_
  refine lv_iload_n hx hb d_G_note_37 rfl (lv_at hl 4 rfl) ?_
  refine sd_iast (j := T % 64 * 3 + 2) hx hb hK hP hD hS 1 0 rfl rfl (by omega) (by omega) d_G_note_38 (fun H locs hP hD hS => ?_)
  have hP : va_P D cls [(qg, .inr (1, [.ref qs, .int (nI (T))])), (qs, .inl (cI, 192, .inl (upd (upd (upd (g) (T % 64 * 3) (a)) (T % 64 * 3 + 1) (b)) (T % 64 * 3 + 2) (x))))] H := hP
  have hD : va_D A [(qg, .inr (1, [.ref qs, .int (nI (T))])), (qs, .inl (cI, 192, .inl (upd (upd (upd (g) (T % 64 * 3) (a)) (T % 64 * 3 + 1) (b)) (T % 64 * 3 + 2) (x))))] := hD
  refine lv_aload_n hx hb d_G_note_39 rfl (lv_at hl 1 rfl) ?_
  refine lv_dup hx hb d_G_note_40 rfl ?_
  refine va_get (D := D) (ci := 1) (v := .int (nI (T))) (C := R_G) (T := F_G) (N := 2) hx hb hts wl_G hown hK hP 0 rfl rfl 1 (by decide) (hts _ wf_G_13) (fun _ h9 => h9) rfl d_G_note_41 ?_
  refine lv_iconst (v := 1) hx hb d_G_note_44 (by decide) ?_
  refine lv_iadd hx hb d_G_note_45 ?_
  refine sd_top (y := nI (T + 1)) (nI_1 T) ?_
  refine va_put (D := D) (ci := 1) (v := .int (nI (T + 1))) (ty := .int) (C := R_G) (T := F_G) (N := 2) hx hb hts wl_G t_G t_G_ok n_G hown hK hP hD hS 0 rfl rfl 1 (by decide) (hts _ wf_G_13) (fun _ h9 => h9) rfl (by decide +kernel) rfl rfl (Nat.le_of_ble_eq_true rfl) d_G_note_46 (fun H locs hP hD hS => ?_)
  have hP : va_P D cls [(qg, .inr (1, [.ref qs, .int (nI (T + 1))])), (qs, .inl (cI, 192, .inl (upd (upd (upd (g) (T % 64 * 3) (a)) (T % 64 * 3 + 1) (b)) (T % 64 * 3 + 2) (x))))] H := hP
  have hD : va_D A [(qg, .inr (1, [.ref qs, .int (nI (T + 1))])), (qs, .inl (cI, 192, .inl (upd (upd (upd (g) (T % 64 * 3) (a)) (T % 64 * 3 + 1) (b)) (T % 64 * 3 + 2) (x))))] := hD
  have hP : va_P D cls [(qg, .inr (1, [.ref qs, .int (nI (T + 1))])), (qs, .inl (cI, 192, .inl (lg_put g T a b x)))] H := hP
  exact sd_vret hx hb hr hlk hP hS (Nat.le_of_ble_eq_true rfl) (Nat.le_of_ble_eq_true rfl) d_G_note_49
set_option maxHeartbeats 4000000 in
set_option maxRecDepth 100000 in
theorem c_G_look (l : Launch) (D : va_G) (cI cZ cQ : ClassId) (qg : Nat) (qs : Nat) (T : Nat) (g : Nat → Int32) (j : Nat) (w : Nat) (hT : T < 2 ^ 31) (hj : j < T) (hw : w < 3) : sd_I l D (tyL cI cZ cQ) y_G_look b_G_look 3 (.int) ({ frames := 0, cells := 0, slots := 0, locals := 0 }) [.ref qg, .int (nI j), .int (nI w)] [(qg, .inr (1, [.ref qs, .int (nI (T))])), (qs, .inl (cI, 192, .inl (g)))] (g ((T - 1 - j) % 64 * 3 + w)) [(qg, .inr (1, [.ref qs, .int (nI (T))])), (qs, .inl (cI, 192, .inl (g)))] := by
  refine sd_ofI (by decide) (Nat.le_of_ble_eq_true rfl) ?_
  intro p e s m below meth c A ls hx hb hr hml hlk hown hts hK hP hD hA hS hl
  have hl : lv_has ls 3 [(0, .ref qg), (1, .int (nI j)), (2, .int (nI w))] := hl
  have h64 : (T - 1 - j) % 64 < 64 := Nat.mod_lt _ (by omega)
  refine lv_aload_n hx hb d_G_look_0 rfl (lv_at hl 0 rfl) ?_
  refine va_get (D := D) (ci := 1) (v := .ref qs) (C := R_G) (T := F_G) (N := 2) hx hb hts wl_G hown hK hP 0 rfl rfl 0 (by decide) (hts _ wf_G_9) (fun _ h9 => h9) rfl d_G_look_1 ?_
  refine lv_aload_n hx hb d_G_look_4 rfl (lv_at hl 0 rfl) ?_
  refine va_get (D := D) (ci := 1) (v := .int (nI (T))) (C := R_G) (T := F_G) (N := 2) hx hb hts wl_G hown hK hP 0 rfl rfl 1 (by decide) (hts _ wf_G_13) (fun _ h9 => h9) rfl d_G_look_5 ?_
  refine lv_iconst (v := 1) hx hb d_G_look_8 (by decide) ?_
  refine lv_isub hx hb d_G_look_9 ?_
  refine sd_top (y := nI (T - 1)) (ni_pred (by omega)) ?_
  refine lv_iload_n hx hb d_G_look_10 rfl (lv_at hl 1 rfl) ?_
  refine lv_isub hx hb d_G_look_11 ?_
  refine sd_top (y := nI (T - 1 - j)) (pk_sub (by omega)) ?_
  refine lv_bipush (v := nI 64) hx hb d_G_look_12 (by decide) ?_
  refine lv_irem hx hb d_G_look_14 (by decide) ?_
  refine sd_top (y := nI ((T - 1 - j) % 64)) (pk_rem (by omega) (by omega) (by omega)) ?_
  refine lv_iconst (v := nI 3) hx hb d_G_look_15 (by decide) ?_
  refine lv_imul hx hb d_G_look_16 ?_
  refine sd_top (y := nI ((T - 1 - j) % 64 * 3)) (pk_mul _ _) ?_
  refine lv_iload_n hx hb d_G_look_17 rfl (lv_at hl 2 rfl) ?_
  refine lv_iadd hx hb d_G_look_18 ?_
  refine sd_top (y := nI ((T - 1 - j) % 64 * 3 + w)) (nI_add _ _) ?_
  refine sd_iald (j := (T - 1 - j) % 64 * 3 + w) hx hb hK hP 1 0 rfl rfl (by omega) (by omega) d_G_look_19 ?_
  exact sd_iret hx hb hr hlk hP hS (Nat.le_of_ble_eq_true rfl) (Nat.le_of_ble_eq_true rfl) (rfl) d_G_look_20
