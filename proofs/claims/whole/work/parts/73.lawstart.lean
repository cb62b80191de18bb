/-! what the law's start knows -/
theorem lw_bw {b : Nat} {s : State} (hts : ∀ w ∈ lw_tbl, w.before #[Value.ref b] s = true) : ∀ w ∈ bw, w.before #[Value.ref b] s = true := fun w hw => hts w (List.mem_filter.mp hw).1
theorem lw_ar {args : Array Value} {s : State} {ty : FieldType} (h : (Cond.arrayClass ty).before args s = true) : ∃ cA : ClassId, ArrOfT s cA ty ∧ s.vm.findClass ("[" ++ ty.toString) = some cA := by
  obtain ⟨c, k, comp, h1, h2, h3⟩ := Cond.arrayClass_spec h
  exact ⟨c, fun n z => ⟨fun k9 h9 => (by cases h9), k, h2, comp, h3⟩, h1⟩
theorem lw_K {b : Nat} {s : State} (hts : ∀ w ∈ bw, w.before #[Value.ref b] s = true) (ho : va_AOA .int s) : ∃ (D : va_G) (cI cZ cQ cJ : ClassId), va_K D cls (tyJ cI cZ cQ cJ) s := by
  obtain ⟨c0, i0, k0⟩ := u_known hts wl_P (hts _ wn_P)
  obtain ⟨c1, i1, k1⟩ := u_known hts wl_G (hts _ wn_G)
  obtain ⟨c2, i2, k2⟩ := u_known hts wl_J (hts _ wn_J)
  obtain ⟨c3, i3, k3⟩ := u_known hts wl_H (hts _ wn_H)
  obtain ⟨c4, i4, k4⟩ := u_known hts wl_V (hts _ wn_V)
  obtain ⟨c5, i5, k5⟩ := u_known hts wl_M (hts _ wn_M)
  obtain ⟨cI, a1, b1⟩ := lw_ar (hts _ wa_int)
  obtain ⟨cZ, a2, b2⟩ := lw_ar (hts _ wa_boolean)
  obtain ⟨cJ, a3, b3⟩ := lw_ar (hts _ wa_long)
  obtain ⟨comp, cQ, kQ, h1, h2, h3, h4⟩ := Cond.arrayOver_specA ho
  refine ⟨(fun c => match c with | 0 => c0 | 1 => c1 | 2 => c2 | 3 => c3 | 4 => c4 | _ => c5, fun c => match c with | 0 => i0 | 1 => i1 | 2 => i2 | 3 => i3 | 4 => i4 | _ => i5), cI, cZ, cQ, cJ, fun c q hq => ?_, fun k q hq => ?_⟩
  · match c, hq with
    | 0, hq => cases hq; exact k0
    | 1, hq => cases hq; exact k1
    | 2, hq => cases hq; exact k2
    | 3, hq => cases hq; exact k3
    | 4, hq => cases hq; exact k4
    | 5, hq => cases hq; exact k5
    | c + 6, hq => cases hq
  · match k, hq with
    | 0, hq => cases hq; exact ⟨a1, b1⟩
    | 1, hq => cases hq; exact ⟨a2, b2⟩
    | 2, hq => cases hq; exact ⟨fun n z => ⟨fun k9 h9 => (by cases h9), kQ, h2, comp, h3⟩, h4⟩
    | 3, hq => cases hq; exact ⟨a3, b3⟩
    | k + 4, hq => cases hq
theorem lw_Zs {b : Nat} {s : State} (hts : ∀ w ∈ lw_tbl, w.before #[Value.ref b] s = true) : sd_Z s := by
  have hm : ∀ w ∈ zn_, w ∈ lw_tbl := by decide +kernel
  have ho : ∀ w ∈ zn_, w.onTables = true := by decide +kernel
  have ha : (Cond.arrayOver (.array .int)).before #[Value.ref b] s = true := hts _ (by decide +kernel)
  exact ⟨ha, fun w hw => va_Nw.of (ho w hw) (hts w (hm w hw))⟩
theorem lw_N {b : Nat} {s : State} (hgv : (Jvm.Cond.and given_1 narrow_1).before #[Value.ref b] s = true) : xN s := by
  have hs := flat_of_before _ hgv
  exact List.forall_mem_cons.mpr ⟨va_Nc.of (hs _ (by decide +kernel)), List.forall_mem_cons.mpr ⟨va_Nc.of (hs _ (by decide +kernel)), List.forall_mem_cons.mpr ⟨va_Nc.of (hs _ (by decide +kernel)), List.forall_mem_cons.mpr ⟨va_Nc.of (hs _ (by decide +kernel)), List.forall_mem_cons.mpr ⟨va_Nc.of (hs _ (by decide +kernel)), List.forall_mem_cons.mpr ⟨va_Nc.of (hs _ (by decide +kernel)), List.forall_mem_cons.mpr ⟨va_Nc.of (hs _ (by decide +kernel)), List.forall_mem_cons.mpr ⟨va_Nc.of (hs _ (by decide +kernel)), fun _ h => absurd h List.not_mem_nil⟩⟩⟩⟩⟩⟩⟩⟩
theorem lw_xf {b : Nat} {s : State} (hts : ∀ w ∈ lw_tbl, w.before #[Value.ref b] s = true) (hgv : (Jvm.Cond.and given_1 narrow_1).before #[Value.ref b] s = true) : xf (fun q => s.heap.size ≤ q) s s.heap := by
  have hs := flat_of_before _ hgv
  have hq : ∀ a : Nat, a < s.heap.size → ¬ (fun q => s.heap.size ≤ q) a := fun a h => by show ¬ s.heap.size ≤ a; omega
  have hm : ∀ w ∈ xw_, w ∈ lw_tbl := by decide +kernel
  have hst : ∀ q ∈ xs_, Cond.stringRef R_V q.1 q.2 ∈ lw_tbl := by decide +kernel
  obtain ⟨cC, kC, hfc, -⟩ := Cond.instantiable_spec (hts _ (List.mem_filter.mp wn_V).1)
  refine ⟨vx_Zqof (hts _ (by decide +kernel)) (hts _ (by decide +kernel)) (hs _ (by decide +kernel)) hq, vx_Zqof (hts _ (by decide +kernel)) (hts _ (by decide +kernel)) (hs _ (by decide +kernel)) hq, fun w hw => va_Nw.of (xw_on w hw) (hts w (hm w hw)), fun q hq9 => ?_⟩
  obtain ⟨k, cf, i, a, -, -, -, -, -, he⟩ := Cond.stringRef_spec hfc (hts _ (hst q hq9))
  exact ⟨a, vk_R.of (hts _ (hst q hq9)) he⟩
set_option maxHeartbeats 8000000 in
set_option maxRecDepth 100000 in
theorem whole_start {p : Program} {e : Env} {s : State} {m : MethodId} {below : List Frame} {meth : Method} {c : Code} (l : Launch) (hst : l.stackTraces = false) {b L : Nat} {xs : Nat → Int32} (hL : L ≤ 2562) (C0 : lw_At p s m meth c b L xs) : W p l e room_1 s m #[Value.ref b] below meth c s.heap [] 0 0 (lw_Z below #[Value.ref b] s) (entryFrame m ([Value.ref b] : List Value).toArray 8) := by
  obtain ⟨hx, hb, hr, hml, hown, hts0, hXs, hbl, hlk, hgv⟩ := C0
  have hts := lw_bw hts0
  have hb : c.code = b_L_law := hb
  have hZ : sd_Z s := lw_Zs hts0
  obtain ⟨D, cI, cZ, cQ, cJ, hK⟩ := lw_K hts hZ.1
  have hN : xN s := lw_N hgv
  have hX : xf (fun q => s.heap.size ≤ q) s s.heap := lw_xf hts0 hgv
  have hA : ∀ q : Nat, s.heap.size ≤ q → (fun q => s.heap.size ≤ q) q := fun q h => h
  have hbA : ¬ (fun q => s.heap.size ≤ q) b := by show ¬ s.heap.size ≤ b; omega
  generalize hAe : (fun q => s.heap.size ≤ q) = A at hX hA hbA
  have hA2 : ∀ q : Nat, A q → s.heap.size ≤ q := fun q h => by rw [← hAe] at h; exact h
  have hS : va_S A s.heap s.heap [] := va_S.rf
  have hP : va_P D cls [] s.heap := fun k q h => by cases h
  have hD : va_D A [] := ⟨fun i j x y h => (by cases h), fun k q h => (by cases h)⟩
  have hl := lv_entry [.ref b] (n := 8) (Nat.le_of_ble_eq_true rfl)
  rw [lg_entry_eq]
  generalize (lg_sl [.ref b] ++ List.replicate (8 - (lg_sl [.ref b]).length) Slot.unset).toArray = ls at hl ⊢
  have hl : lv_has ls 8 [(0, .ref b)] := hl
  refine va_new (D := D) (ci := 4) (fs := [.int (0), .int (0), .null, .null, .null, .null, .null, .null, .null, .null, .int (0)]) (C := R_V) (T := F_V) (N := 11) hx hb hts wl_V t_V t_V_ok hown (hts _ wk_L_8) (hts _ wn_V) (hts _ wi_V) hK hP hD hS hA rfl (fun j hj => (by have h9 : j = 0 ∨ j = 1 ∨ j = 2 ∨ j = 3 ∨ j = 4 ∨ j = 5 ∨ j = 6 ∨ j = 7 ∨ j = 8 ∨ j = 9 ∨ j = 10 := (by omega); rcases h9 with rfl | rfl | rfl | rfl | rfl | rfl | rfl | rfl | rfl | rfl | rfl <;> rfl)) (by show 0 + 1 ≤ room_1.cells; have e9 : room_1.cells = 601024 := rfl; omega) (by show 0 + 11 ≤ room_1.slots; have e9 : room_1.slots = 7293000 := rfl; omega) d_L_law_0 (fun qv H hP hD hS => ?_)
  refine lv_dup hx hb d_L_law_3 rfl ?_
  refine lv_aload_n hx hb d_L_law_4 rfl (lv_at hl 0 rfl) ?_
  refine lv_iconst (v := nI 0) hx hb d_L_law_5 (by decide) ?_
  refine lw_cell (j := 0) (rest := [.ref qv, .ref qv]) hx hb hml hown hts hl.1 ⟨by decide, by decide⟩ ⟨by show 0 + 1 ≤ room_1.cells; have e9 : room_1.cells = 601024 := rfl; omega, by show 0 + 11 ≤ room_1.slots; have e9 : room_1.slots = 7293000 := rfl; omega⟩ hXs hbl hbA (by omega) (by omega) hP hD hS hA rfl (Nat.le_of_ble_eq_true rfl) d_L_law_6 (fun H locs hP hD hS => ?_)
  refine lv_aload_n hx hb d_L_law_9 rfl (lv_at hl 0 rfl) ?_
  refine lv_iconst (v := nI 1) hx hb d_L_law_10 (by decide) ?_
  refine lw_cell (j := 1) (rest := [.int (cl_f xs L 0), .ref qv, .ref qv]) hx hb hml hown hts hl.1 ⟨by decide, by decide⟩ ⟨by show 0 + 1 + 0 ≤ room_1.cells; have e9 : room_1.cells = 601024 := rfl; omega, by show 0 + 11 + 0 ≤ room_1.slots; have e9 : room_1.slots = 7293000 := rfl; omega⟩ hXs hbl hbA (by omega) (by omega) hP hD hS hA rfl (Nat.le_of_ble_eq_true rfl) d_L_law_11 (fun H locs hP hD hS => ?_)
  obtain ⟨n, n1, n2, n3, n4⟩ := st_nn (cl_f xs L 1)
  obtain ⟨k, k1, k2, k3, k4⟩ := st_kk (cl_f xs L 0) (cl_f xs L 1) n1 n2 n3
  refine nd_tail (X := []) (cx := [(qv, .inr (4, [.int (0), .int (0), .null, .null, .null, .null, .null, .null, .null, .null, .int (0)]))]) (As := [.int (cl_f xs L 0), .int (cl_f xs L 1)]) (rest := [.ref qv]) (c_V_init l D cI cZ cQ qv (cl_f xs L 0) (cl_f xs L 1) k n n4 k4 k1 k2 n2) ⟨wc_V_init, wm_L_69, wi_V, by decide, by decide, show (parseMethodDescriptor y_V_init.desc).map (fun d => d.parameters.length) = some 2 by decide +kernel⟩ wo_V_init rfl hx hb hml hown hts hl.1 ⟨by decide, by decide⟩ ⟨by show 0 + 1 + 0 + 0 + 40 ≤ room_1.cells; have e9 : room_1.cells = 601024 := rfl; omega, by show 0 + 11 + 0 + 0 + 2800 ≤ room_1.slots; have e9 : room_1.slots = 7293000 := rfl; omega⟩ (ty_J hK) hP hD hS hA hZ rfl (Nat.le_of_ble_eq_true rfl) d_L_law_14 (fun w9 H locs h9 hP hD hS => ?_)
  obtain ⟨qp, qr, qj, qg, qs, qh, qn, qu, qw, qH, qF, qc, ql, qf, hh, ff, rfl, g1, g2, g3⟩ := h9
  have hP : va_P D cls (vX cI cZ cQ (VA.mk (qv) (qp) (qr) (qj) (qg) (qs) (qh) (qn) (qu) (qw) (qH) (qF) (qc) (ql) (qf) (k) (n) (([] ++ (List.range (n + 1)).map hh) ++ (List.range (n + 1)).map ff) (hh) (ff)) (vs0 (fb_f n))) H := hP
  have hD : va_D A (vX cI cZ cQ (VA.mk (qv) (qp) (qr) (qj) (qg) (qs) (qh) (qn) (qu) (qw) (qH) (qF) (qc) (ql) (qf) (k) (n) (([] ++ (List.range (n + 1)).map hh) ++ (List.range (n + 1)).map ff) (hh) (ff)) (vs0 (fb_f n))) := hD
  generalize hta : ((VA.mk (qv) (qp) (qr) (qj) (qg) (qs) (qh) (qn) (qu) (qw) (qH) (qF) (qc) (ql) (qf) (k) (n) (([] ++ (List.range (n + 1)).map hh) ++ (List.range (n + 1)).map ff) (hh) (ff)) : VA) = ta at hP hD
  generalize hfb : fb_f n = fl9 at hP hD
  have hfb1 : ∀ b9, 1 ≤ b9 → b9 ≤ n → ¬ fl9 b9 = 0 := by rw [← hfb]; exact fb_1 n
  have t1 : ta.qv = qv := by rw [← hta]; rfl
  have t2 : ta.k = k := by rw [← hta]; rfl
  have t3 : ta.n = n := by rw [← hta]; rfl
  have ga : geo ta.k ta.n ta.hh ta.ff := by rw [← hta]; exact (geo.mk (k2_ := k1) (kn_ := k2) (n9_ := n2) (hi_ := fun x y hx hy => g1 x y (Nat.lt_succ_of_le hx) (Nat.lt_succ_of_le hy)) (fi_ := fun x y hx hy => g2 x y (Nat.lt_succ_of_le hx) (Nat.lt_succ_of_le hy)) (hf_ := fun x y hx hy => g3 x y (Nat.lt_succ_of_le hx) (Nat.lt_succ_of_le hy)))
  have hhL : ∀ i, i < ta.n + 1 → ta.hh i ∈ ta.L := by rw [← hta]; exact fun i hi => List.mem_append_left _ (List.mem_append_right _ (List.mem_map.mpr ⟨i, List.mem_range.mpr hi, rfl⟩))
  have ffL : ∀ i, i < ta.n + 1 → ta.ff i ∈ ta.L := by rw [← hta]; exact fun i hi => List.mem_append_right _ (List.mem_map.mpr ⟨i, List.mem_range.mpr hi, rfl⟩)
  refine lv_astore_n hx hb d_L_law_17 rfl hl (Nat.le_of_ble_eq_true rfl) (lv' := [(1, .ref qv), (0, .ref b)]) rfl (fun ls hl => ?_)
  refine va_new (D := D) (ci := 5) (fs := [.int (0), .int (0), .int (0), .int (0), .null, .null, .int (0), .null, .null, .null, .int (0), .null, .int (0), .null, .int (0), .int (0), .int (0), .int (0), .int (0), .int (0), .int (0), .int (0), .int (0), .int (0), .null, .null]) (C := R_M) (T := F_M) (N := 26) hx hb hts wl_M t_M t_M_ok hown (hts _ wk_L_72) (hts _ wn_M) (hts _ wi_M) hK hP hD hS hA rfl (fun j hj => (by have h9 : j = 0 ∨ j = 1 ∨ j = 2 ∨ j = 3 ∨ j = 4 ∨ j = 5 ∨ j = 6 ∨ j = 7 ∨ j = 8 ∨ j = 9 ∨ j = 10 ∨ j = 11 ∨ j = 12 ∨ j = 13 ∨ j = 14 ∨ j = 15 ∨ j = 16 ∨ j = 17 ∨ j = 18 ∨ j = 19 ∨ j = 20 ∨ j = 21 ∨ j = 22 ∨ j = 23 ∨ j = 24 ∨ j = 25 := (by omega); rcases h9 with rfl | rfl | rfl | rfl | rfl | rfl | rfl | rfl | rfl | rfl | rfl | rfl | rfl | rfl | rfl | rfl | rfl | rfl | rfl | rfl | rfl | rfl | rfl | rfl | rfl | rfl <;> rfl)) (by show 0 + 1 + 0 + 0 + 40 + 1 ≤ room_1.cells; have e9 : room_1.cells = 601024 := rfl; omega) (by show 0 + 11 + 0 + 0 + 2800 + 26 ≤ room_1.slots; have e9 : room_1.slots = 7293000 := rfl; omega) d_L_law_18 (fun qm H hP hD hS => ?_)
  refine lv_dup hx hb d_L_law_21 rfl ?_
  refine lv_aload_n hx hb d_L_law_22 rfl (lv_at hl 1 rfl) ?_
  refine lv_iconst (v := nI 0) hx hb d_L_law_23 (by decide) ?_
  refine lw_cell (j := 0) (rest := [.ref qm, .ref qm]) hx hb hml hown hts hl.1 ⟨by decide, by decide⟩ ⟨by show 0 + 1 + 0 + 0 + 40 + 1 ≤ room_1.cells; have e9 : room_1.cells = 601024 := rfl; omega, by show 0 + 11 + 0 + 0 + 2800 + 26 ≤ room_1.slots; have e9 : room_1.slots = 7293000 := rfl; omega⟩ hXs hbl hbA (by omega) (by omega) hP hD hS hA rfl (Nat.le_of_ble_eq_true rfl) d_L_law_24 (fun H locs hP hD hS => ?_)
  refine lv_aload_n hx hb d_L_law_27 rfl (lv_at hl 1 rfl) ?_
  refine lv_iconst (v := nI 1) hx hb d_L_law_28 (by decide) ?_
  refine lw_cell (j := 1) (rest := [.int (cl_f xs L 0), .ref qm, .ref qm]) hx hb hml hown hts hl.1 ⟨by decide, by decide⟩ ⟨by show 0 + 1 + 0 + 0 + 40 + 1 + 0 ≤ room_1.cells; have e9 : room_1.cells = 601024 := rfl; omega, by show 0 + 11 + 0 + 0 + 2800 + 26 + 0 ≤ room_1.slots; have e9 : room_1.slots = 7293000 := rfl; omega⟩ hXs hbl hbA (by omega) (by omega) hP hD hS hA rfl (Nat.le_of_ble_eq_true rfl) d_L_law_29 (fun H locs hP hD hS => ?_)
  refine nd_tail (X := vX cI cZ cQ ta (vs0 fl9)) (cx := [(qm, .inr (5, [.int (0), .int (0), .int (0), .int (0), .null, .null, .int (0), .null, .null, .null, .int (0), .null, .int (0), .null, .int (0), .int (0), .int (0), .int (0), .int (0), .int (0), .int (0), .int (0), .int (0), .int (0), .null, .null]))]) (As := [.int (cl_f xs L 0), .int (cl_f xs L 1)]) (rest := [.ref qm]) (c_M_init l D cI cZ cQ qm (cl_f xs L 0) (cl_f xs L 1)) ⟨wc_M_init, wm_L_74, wi_M, by decide, by decide, show (parseMethodDescriptor y_M_init.desc).map (fun d => d.parameters.length) = some 2 by decide +kernel⟩ wo_M_init rfl hx hb hml hown hts hl.1 ⟨by decide, by decide⟩ ⟨by show 0 + 1 + 0 + 0 + 40 + 1 + 0 + 0 + 9 ≤ room_1.cells; have e9 : room_1.cells = 601024 := rfl; omega, by show 0 + 11 + 0 + 0 + 2800 + 26 + 0 + 0 + 3400 ≤ room_1.slots; have e9 : room_1.slots = 7293000 := rfl; omega⟩ (ty_J hK) hP hD hS hA hZ rfl (Nat.le_of_ble_eq_true rfl) d_L_law_32 (fun w9 H locs h9 hP hD hS => ?_)
  obtain ⟨mp, mt, ml, mc, mf, me, mg, mh, mu, rfl⟩ := h9
  rw [k3, n3, ← t2, ← t3] at hP hD
  have hP : va_P D cls (vX cI cZ cQ ta (vs0 fl9) ++ mX cI cZ ta (MA.mk (qm) (mp) (mt) (ml) (mc) (mf) (me) (mg) (mh) (mu)) ms0) H := hP
  have hD : va_D A (vX cI cZ cQ ta (vs0 fl9) ++ mX cI cZ ta (MA.mk (qm) (mp) (mt) (ml) (mc) (mf) (me) (mg) (mh) (mu)) ms0) := hD
  refine lv_astore_n hx hb d_L_law_35 rfl hl (Nat.le_of_ble_eq_true rfl) (lv' := [(2, .ref qm), (1, .ref qv), (0, .ref b)]) rfl (fun ls hl => ?_)
  refine lv_iconst (v := 1) hx hb d_L_law_36 (by decide) ?_
  refine sd_newJ hx hb hts hK hP hD hS hA (by show 0 + 1 + 0 + 0 + 40 + 1 + 0 + 0 + 9 + 1 ≤ room_1.cells; have e9 : room_1.cells = 601024 := rfl; omega) (by show 0 + 11 + 0 + 0 + 2800 + 26 + 0 + 0 + 3400 + 1 ≤ room_1.slots; have e9 : room_1.slots = 7293000 := rfl; omega) d_L_law_37 (fun qo H hP hD hS => ?_)
  refine lv_astore_n hx hb d_L_law_39 rfl hl (Nat.le_of_ble_eq_true rfl) (lv' := [(3, .ref qo), (2, .ref qm), (1, .ref qv), (0, .ref b)]) rfl (fun ls hl => ?_)
  refine lv_iconst (v := nI (2 + 5 * 0)) hx hb d_L_law_40 (by decide) ?_
  refine lv_istore hx hb d_L_law_41 hl (Nat.le_of_ble_eq_true rfl) (lv' := [(4, .int (nI (2 + 5 * 0))), (3, .ref qo), (2, .ref qm), (1, .ref qv), (0, .ref b)]) rfl (fun ls hl => ?_)
  have hl := lv_sub hl (l' := [(0, .ref b), (1, .ref qv), (2, .ref qm), (3, .ref qo), (4, .int (nI (2 + 5 * 0)))]) [4, 3, 2, 1, 0] rfl
  refine W.widen (k := 100 + 16 * 0) (n := 7000 + 120 * 0) (by first | omega | (dsimp only; omega)) (by first | omega | (dsimp only; omega)) ?_
  rw [← t1] at hl
  exact law_loop (ta := ta) (tb := (MA.mk (qm) (mp) (mt) (ml) (mc) (mf) (me) (mg) (mh) (mu))) (qo := qo) hst hx hb hml hown hts hXs hbl hbA hL hK hA hX hN ga hhL ffL hA2 hr hlk _ 0 (vs0 fl9) ms0 (fun _ => 0) (fun _ => 0) ls H _ rfl (inv0 ta.k ta.n ta.hh fl9 (by rw [t3]; exact hfb1)) (by omega) hl hP hD hS
