def ms_u (M : ms_T) : ms_T := (M.1, M.2.1, M.2.2.1, 0)
/-- k boxes from b on are told to tidy -/
def ms_t (lim : Int32) : Nat → Nat → ms_T → ms_T
  | 0, _, M => M
  | k + 1, b, M => ms_t lim k (b + 1) (ms_s lim M 0 (nI b) 257)
/-- .. and the first that was not -/
def ms_n (lim : Int32) : Nat → Nat → ms_T → Nat → Nat
  | 0, _, _, n => n
  | k + 1, b, M, n => ms_n lim k (b + 1) (ms_s lim M 0 (nI b) 257) (if nI M.2.2.1 = lim then n else b + 1)
theorem ms_tS {lim : Int32} {g b : Nat} {M : ms_T} (h : b ≤ g) : ms_t lim (g + 1 - b) b M = ms_t lim (g + 1 - (b + 1)) (b + 1) (ms_s lim M 0 (nI b) 257) := by
  rw [show g + 1 - b = (g + 1 - (b + 1)) + 1 by omega]; rfl
theorem ms_nS {lim : Int32} {g b n : Nat} {M : ms_T} (h : b ≤ g) : ms_n lim (g + 1 - b) b M n = ms_n lim (g + 1 - (b + 1)) (b + 1) (ms_s lim M 0 (nI b) 257) (if nI M.2.2.1 = lim then n else b + 1) := by
  rw [show g + 1 - b = (g + 1 - (b + 1)) + 1 by omega]; rfl
theorem ms_r0 {lim : Int32} {M : ms_T} : ms_r lim M = 0 ↔ nI M.2.2.1 = lim := by
  unfold ms_r
  by_cases h : nI M.2.2.1 = lim
  · rw [if_pos h]; exact ⟨fun _ => h, fun _ => rfl⟩
  · rw [if_neg h]; exact ⟨fun h2 => absurd h2 (by decide), fun h2 => absurd h2 h⟩
theorem ms_b (lim : Int32) (M : ms_T) (a b x : Int32) : (ms_s lim M a b x).1 ≤ M.1 + 1 := by
  unfold ms_s
  split
  · exact Nat.le_succ _
  · exact Nat.le_refl _
/-- v in the first j places -/
def ar_f (v : Int32) (j : Nat) (f : Nat → Int32) : Nat → Int32 := fun i => if i < j then v else f i
theorem ar_f0 (v : Int32) (f : Nat → Int32) : ar_f v 0 f = f := funext fun i => if_neg (Nat.not_lt_zero i)
theorem ar_fS (v : Int32) (j : Nat) (f : Nat → Int32) : upd (ar_f v j f) j v = ar_f v (j + 1) f := by
  funext i
  unfold upd ar_f
  by_cases h : i = j
  · rw [if_pos h, if_pos (by omega)]
  · rw [if_neg h]
    by_cases h2 : i < j
    · rw [if_pos h2, if_pos (by omega)]
    · rw [if_neg h2, if_neg (by omega)]
theorem d_J_tidy_0 : decode b_J_tidy 0 = .ok (.aload_n 0, 1) := by decide +kernel
theorem d_J_tidy_1 : decode b_J_tidy 1 = .ok (.iload_n 1, 1) := by decide +kernel
theorem d_J_tidy_2 : decode b_J_tidy 2 = .ok (.putfield 35, 3) := by decide +kernel
theorem d_J_tidy_5 : decode b_J_tidy 5 = .ok (.aload_n 0, 1) := by decide +kernel
theorem d_J_tidy_6 : decode b_J_tidy 6 = .ok (.iload_n 2, 1) := by decide +kernel
theorem d_J_tidy_7 : decode b_J_tidy 7 = .ok (.putfield 38, 3) := by decide +kernel
theorem d_J_tidy_10 : decode b_J_tidy 10 = .ok (.iload_n 1, 1) := by decide +kernel
theorem d_J_tidy_11 : decode b_J_tidy 11 = .ok (.istore_n 3, 1) := by decide +kernel
theorem d_J_tidy_12 : decode b_J_tidy 12 = .ok (.iload_n 3, 1) := by decide +kernel
theorem d_J_tidy_13 : decode b_J_tidy 13 = .ok (.iload_n 2, 1) := by decide +kernel
theorem d_J_tidy_14 : decode b_J_tidy 14 = .ok (.if_icmp .gt 28, 3) := by decide +kernel
theorem d_J_tidy_17 : decode b_J_tidy 17 = .ok (.aload_n 0, 1) := by decide +kernel
theorem d_J_tidy_18 : decode b_J_tidy 18 = .ok (.iconst 0, 1) := by decide +kernel
theorem d_J_tidy_19 : decode b_J_tidy 19 = .ok (.iload_n 3, 1) := by decide +kernel
theorem d_J_tidy_20 : decode b_J_tidy 20 = .ok (.sipush 257, 3) := by decide +kernel
theorem d_J_tidy_23 : decode b_J_tidy 23 = .ok (.invokevirtual 45, 3) := by decide +kernel
theorem d_J_tidy_26 : decode b_J_tidy 26 = .ok (.ifCond .eq 10, 3) := by decide +kernel
theorem d_J_tidy_29 : decode b_J_tidy 29 = .ok (.aload_n 0, 1) := by decide +kernel
theorem d_J_tidy_30 : decode b_J_tidy 30 = .ok (.iload_n 3, 1) := by decide +kernel
theorem d_J_tidy_31 : decode b_J_tidy 31 = .ok (.iconst 1, 1) := by decide +kernel
theorem d_J_tidy_32 : decode b_J_tidy 32 = .ok (.iadd, 1) := by decide +kernel
theorem d_J_tidy_33 : decode b_J_tidy 33 = .ok (.putfield 35, 3) := by decide +kernel
theorem d_J_tidy_36 : decode b_J_tidy 36 = .ok (.iinc 3 1, 3) := by decide +kernel
theorem d_J_tidy_39 : decode b_J_tidy 39 = .ok (.goto (-27), 3) := by decide +kernel
theorem d_J_tidy_42 : decode b_J_tidy 42 = .ok (.return_, 1) := by decide +kernel
theorem d_J_finish_0 : decode b_J_finish 0 = .ok (.aload_n 0, 1) := by decide +kernel
theorem d_J_finish_1 : decode b_J_finish 1 = .ok (.iconst 0, 1) := by decide +kernel
theorem d_J_finish_2 : decode b_J_finish 2 = .ok (.putfield 22, 3) := by decide +kernel
theorem d_J_finish_5 : decode b_J_finish 5 = .ok (.aload_n 0, 1) := by decide +kernel
theorem d_J_finish_6 : decode b_J_finish 6 = .ok (.iconst (-1), 1) := by decide +kernel
theorem d_J_finish_7 : decode b_J_finish 7 = .ok (.putfield 32, 3) := by decide +kernel
theorem d_J_finish_10 : decode b_J_finish 10 = .ok (.aload_n 0, 1) := by decide +kernel
theorem d_J_finish_11 : decode b_J_finish 11 = .ok (.aload_n 0, 1) := by decide +kernel
theorem d_J_finish_12 : decode b_J_finish 12 = .ok (.getfield 35, 3) := by decide +kernel
theorem d_J_finish_15 : decode b_J_finish 15 = .ok (.aload_n 0, 1) := by decide +kernel
theorem d_J_finish_16 : decode b_J_finish 16 = .ok (.getfield 38, 3) := by decide +kernel
theorem d_J_finish_19 : decode b_J_finish 19 = .ok (.invokevirtual 49, 3) := by decide +kernel
theorem d_J_finish_22 : decode b_J_finish 22 = .ok (.return_, 1) := by decide +kernel
theorem d_A_fill_0 : decode b_A_fill 0 = .ok (.iconst 0, 1) := by decide +kernel
theorem d_A_fill_1 : decode b_A_fill 1 = .ok (.istore_n 2, 1) := by decide +kernel
theorem d_A_fill_2 : decode b_A_fill 2 = .ok (.aload_n 0, 1) := by decide +kernel
theorem d_A_fill_3 : decode b_A_fill 3 = .ok (.arraylength, 1) := by decide +kernel
theorem d_A_fill_4 : decode b_A_fill 4 = .ok (.istore_n 3, 1) := by decide +kernel
theorem d_A_fill_5 : decode b_A_fill 5 = .ok (.iload_n 2, 1) := by decide +kernel
theorem d_A_fill_6 : decode b_A_fill 6 = .ok (.iload_n 3, 1) := by decide +kernel
theorem d_A_fill_7 : decode b_A_fill 7 = .ok (.if_icmp .ge 13, 3) := by decide +kernel
theorem d_A_fill_10 : decode b_A_fill 10 = .ok (.aload_n 0, 1) := by decide +kernel
theorem d_A_fill_11 : decode b_A_fill 11 = .ok (.iload_n 2, 1) := by decide +kernel
theorem d_A_fill_12 : decode b_A_fill 12 = .ok (.iload_n 1, 1) := by decide +kernel
theorem d_A_fill_13 : decode b_A_fill 13 = .ok (.iastore, 1) := by decide +kernel
theorem d_A_fill_14 : decode b_A_fill 14 = .ok (.iinc 2 1, 3) := by decide +kernel
theorem d_A_fill_17 : decode b_A_fill 17 = .ok (.goto (-12), 3) := by decide +kernel
theorem d_A_fill_20 : decode b_A_fill 20 = .ok (.return_, 1) := by decide +kernel
set_option maxHeartbeats 4000000 in
set_option maxRecDepth 100000 in
theorem c_J_tidy (l : Launch) (D : va_G) (cI cZ cQ : ClassId) (qj : Nat) (qg : Nat) (qs : Nat) (wi : Int32) (M : ms_T) (hf : Int32) (lim : Int32) (nt : Int32) (lt : Int32) (f : Nat) (g : Nat) (hT : M.1 + (g + 1 - f) < 2 ^ 31) (hf1 : f < 2 ^ 30) (hg1 : g < 2 ^ 30) : sd_V l D (tyL cI cZ cQ) y_J_tidy b_J_tidy 4 ({ frames := 2, cells := 0, slots := 0, locals := 47 }) [.ref qj, .int (nI f), .int (nI g)] [(qj, .inr (2, [.ref qg, .int (wi), .int (M.2.2.2), .int (hf), .int (nI M.2.2.1), .int (lim), .int (nt), .int (lt)])), (qg, .inr (1, [.ref qs, .int (nI (M.1))])), (qs, .inl (cI, 192, .inl (M.2.1)))] [(qj, .inr (2, [.ref qg, .int (wi), .int ((ms_t lim (g + 1 - f) f M).2.2.2), .int (hf), .int (nI (ms_t lim (g + 1 - f) f M).2.2.1), .int (lim), .int (nI (ms_n lim (g + 1 - f) f M f)), .int (nI g)])), (qg, .inr (1, [.ref qs, .int (nI ((ms_t lim (g + 1 - f) f M).1))])), (qs, .inl (cI, 192, .inl ((ms_t lim (g + 1 - f) f M).2.1)))] := by
  refine sd_ofV (by decide) (Nat.le_of_ble_eq_true rfl) ?_
  intro p e s m below meth c A ls hx hb hr hml hlk hown hts hK hP hD hA hS hl
  have hl : lv_has ls 4 [(0, .ref qj), (1, .int (nI f)), (2, .int (nI g))] := hl
  refine lv_aload_n hx hb d_J_tidy_0 rfl (lv_at hl 0 rfl) ?_
  refine lv_iload_n hx hb d_J_tidy_1 rfl (lv_at hl 1 rfl) ?_
  refine va_put (D := D) (ci := 2) (v := .int (nI f)) (ty := .int) (C := R_J) (T := F_J) (N := 8) hx hb hts wl_J t_J t_J_ok n_J hown hK hP hD hS 0 rfl rfl 6 (by decide) (hts _ wf_J_35) (fun _ h9 => h9) rfl (by decide +kernel) rfl rfl (Nat.le_of_ble_eq_true rfl) d_J_tidy_2 (fun H locs hP hD hS => ?_)
  have hP : va_P D cls [(qj, .inr (2, [.ref qg, .int (wi), .int (M.2.2.2), .int (hf), .int (nI M.2.2.1), .int (lim), .int (nI f), .int (lt)])), (qg, .inr (1, [.ref qs, .int (nI (M.1))])), (qs, .inl (cI, 192, .inl (M.2.1)))] H := hP
  have hD : va_D A [(qj, .inr (2, [.ref qg, .int (wi), .int (M.2.2.2), .int (hf), .int (nI M.2.2.1), .int (lim), .int (nI f), .int (lt)])), (qg, .inr (1, [.ref qs, .int (nI (M.1))])), (qs, .inl (cI, 192, .inl (M.2.1)))] := hD
  refine lv_aload_n hx hb d_J_tidy_5 rfl (lv_at hl 0 rfl) ?_
  refine lv_iload_n hx hb d_J_tidy_6 rfl (lv_at hl 2 rfl) ?_
  refine va_put (D := D) (ci := 2) (v := .int (nI g)) (ty := .int) (C := R_J) (T := F_J) (N := 8) hx hb hts wl_J t_J t_J_ok n_J hown hK hP hD hS 0 rfl rfl 7 (by decide) (hts _ wf_J_38) (fun _ h9 => h9) rfl (by decide +kernel) rfl rfl (Nat.le_of_ble_eq_true rfl) d_J_tidy_7 (fun H locs hP hD hS => ?_)
  have hP : va_P D cls [(qj, .inr (2, [.ref qg, .int (wi), .int (M.2.2.2), .int (hf), .int (nI M.2.2.1), .int (lim), .int (nI f), .int (nI g)])), (qg, .inr (1, [.ref qs, .int (nI (M.1))])), (qs, .inl (cI, 192, .inl (M.2.1)))] H := hP
  have hD : va_D A [(qj, .inr (2, [.ref qg, .int (wi), .int (M.2.2.2), .int (hf), .int (nI M.2.2.1), .int (lim), .int (nI f), .int (nI g)])), (qg, .inr (1, [.ref qs, .int (nI (M.1))])), (qs, .inl (cI, 192, .inl (M.2.1)))] := hD
  refine lv_iload_n hx hb d_J_tidy_10 rfl (lv_at hl 1 rfl) ?_
  refine lv_istore_n hx hb d_J_tidy_11 rfl hl (Nat.le_of_ble_eq_true rfl) (lv' := [(3, .int (nI f)), (0, .ref qj), (1, .int (nI f)), (2, .int (nI g))]) rfl (fun ls hl => ?_)
  have hl := lv_sub hl (l' := [(0, .ref qj), (1, .int (nI f)), (2, .int (nI g)), (3, .int (nI f))]) [1, 2, 3, 0] rfl
  have loop12 : ∀ (d : Nat) (b : Nat) (M2 : ms_T) (n2 : Nat) (ls : Array Slot) (H : Heap) (locs : List Loc), g + 1 - b = d → (M2.1 + (g + 1 - b) < 2 ^ 31) → (b < 2 ^ 31) → (ms_t lim (g + 1 - b) b M2 = ms_t lim (g + 1 - f) f M) → (ms_n lim (g + 1 - b) b M2 n2 = ms_n lim (g + 1 - f) f M f) → lv_has ls 4 [(0, .ref qj), (1, .int (nI f)), (2, .int (nI g)), (3, .int (nI (b)))] → va_P D cls [(qj, .inr (2, [.ref qg, .int (wi), .int (M2.2.2.2), .int (hf), .int (nI M2.2.2.1), .int (lim), .int (nI n2), .int (nI g)])), (qg, .inr (1, [.ref qs, .int (nI (M2.1))])), (qs, .inl (cI, 192, .inl (M2.2.1)))] H → va_D A [(qj, .inr (2, [.ref qg, .int (wi), .int (M2.2.2.2), .int (hf), .int (nI M2.2.2.1), .int (lim), .int (nI n2), .int (nI g)])), (qg, .inr (1, [.ref qs, .int (nI (M2.1))])), (qs, .inl (cI, 192, .inl (M2.2.1)))] → va_S A s.heap H locs → W p l e ({ frames := 2, cells := 0, slots := 0, locals := 47 }) s m ([.ref qj, .int (nI f), .int (nI g)] : List Value).toArray below meth c H locs 0 0 (MQ below (sd_qv D [(qj, .inr (2, [.ref qg, .int (wi), .int ((ms_t lim (g + 1 - f) f M).2.2.2), .int (hf), .int (nI (ms_t lim (g + 1 - f) f M).2.2.1), .int (lim), .int (nI (ms_n lim (g + 1 - f) f M f)), .int (nI g)])), (qg, .inr (1, [.ref qs, .int (nI ((ms_t lim (g + 1 - f) f M).1))])), (qs, .inl (cI, 192, .inl ((ms_t lim (g + 1 - f) f M).2.1)))] A) ([.ref qj, .int (nI f), .int (nI g)] : List Value).toArray s 0 0 A) (F0 m 12 ls []) := by
    intro d
    induction d using Nat.strongRecOn with
    | _ d ih12 =>
    intro b M2 n2 ls H locs hd hT2 hb3 hM hn hl hP hD hS
    subst hd
    refine lv_iload_n hx hb d_J_tidy_12 rfl (lv_at hl 3 rfl) ?_
    refine lv_iload_n hx hb d_J_tidy_13 rfl (lv_at hl 2 rfl) ?_
    refine lv_icmp_gt (tgt := 42) hx hb d_J_tidy_14 rfl (fun hc14 => ?_) (fun hc14 => ?_)
    · skip
      rw [nI_ltI (by omega) (by omega)] at hc14
      have h0 : g + 1 - b = 0 := by omega
      rw [h0] at hM hn
      have hP : va_P D cls [(qj, .inr (2, [.ref qg, .int (wi), .int ((ms_t lim (g + 1 - f) f M).2.2.2), .int (hf), .int (nI (ms_t lim (g + 1 - f) f M).2.2.1), .int (lim), .int (nI (ms_n lim (g + 1 - f) f M f)), .int (nI g)])), (qg, .inr (1, [.ref qs, .int (nI ((ms_t lim (g + 1 - f) f M).1))])), (qs, .inl (cI, 192, .inl ((ms_t lim (g + 1 - f) f M).2.1)))] H := by rw [← hM, ← hn]; exact hP
      exact sd_vret hx hb hr hlk hP hS (Nat.le_of_ble_eq_true rfl) (Nat.le_of_ble_eq_true rfl) d_J_tidy_42
    · skip
      have hbg : b ≤ g := by
        rw [nI_ltI (by omega) (by omega)] at hc14
        omega
      have hMn : ms_t lim (g + 1 - (b + 1)) (b + 1) (ms_s lim M2 0 (nI b) 257) = ms_t lim (g + 1 - f) f M := by rw [← hM, ms_tS hbg]
      have hTn : (ms_s lim M2 0 (nI b) 257).1 + (g + 1 - (b + 1)) < 2 ^ 31 := by
        have := ms_b lim M2 0 (nI b) 257
        omega
      refine lv_aload_n hx hb d_J_tidy_17 rfl (lv_at hl 0 rfl) ?_
      refine lv_iconst (v := 0) hx hb d_J_tidy_18 (by decide) ?_
      refine lv_iload_n hx hb d_J_tidy_19 rfl (lv_at hl 3 rfl) ?_
      refine lv_sipush (v := 257) hx hb d_J_tidy_20 (by decide) ?_
      refine sd_callVI (As := [.int (0), .int (nI b), .int (257)]) (rest := []) (cx := [(qj, .inr (2, [.ref qg, .int (wi), .int (M2.2.2.2), .int (hf), .int (nI M2.2.2.1), .int (lim), .int (nI n2), .int (nI g)])), (qg, .inr (1, [.ref qs, .int (nI (M2.1))])), (qs, .inl (cI, 192, .inl (M2.2.1)))]) (w1 := [(qj, .inr (2, [.ref qg, .int (wi), .int ((ms_s lim M2 0 (nI b) 257).2.2.2), .int (hf), .int (nI (ms_s lim M2 0 (nI b) 257).2.2.1), .int (lim), .int (nI n2), .int (nI g)])), (qg, .inr (1, [.ref qs, .int (nI ((ms_s lim M2 0 (nI b) 257).1))])), (qs, .inl (cI, 192, .inl ((ms_s lim M2 0 (nI b) 257).2.1)))]) (c_J_send l D cI cZ cQ (qj) (qg) (qs) (wi) (M2) (hf) (lim) (nI n2) (nI g) (0) (nI b) (257) (by omega)) ⟨wc_J_send, wm_J_45, wi_J, by decide, by decide, show (parseMethodDescriptor y_J_send.desc).map (fun d => d.parameters.length) = some 3 by decide +kernel⟩ wo_J_send wz_J_send hx hb hml hown hts hl.1 ⟨Nat.le_of_ble_eq_true rfl, Nat.le_of_ble_eq_true rfl⟩ ⟨Nat.le_of_ble_eq_true rfl, Nat.le_of_ble_eq_true rfl⟩ hK hP hD hS hA [0, 1, 2] rfl (by decide) rfl rfl (q0 := 0) rfl rfl rfl (Nat.le_of_ble_eq_true rfl) d_J_tidy_23 (fun H locs hP hD hS => ?_)
      have hP : va_P D cls [(qj, .inr (2, [.ref qg, .int (wi), .int ((ms_s lim M2 0 (nI b) 257).2.2.2), .int (hf), .int (nI (ms_s lim M2 0 (nI b) 257).2.2.1), .int (lim), .int (nI n2), .int (nI g)])), (qg, .inr (1, [.ref qs, .int (nI ((ms_s lim M2 0 (nI b) 257).1))])), (qs, .inl (cI, 192, .inl ((ms_s lim M2 0 (nI b) 257).2.1)))] H := hP
      have hD : va_D A [(qj, .inr (2, [.ref qg, .int (wi), .int ((ms_s lim M2 0 (nI b) 257).2.2.2), .int (hf), .int (nI (ms_s lim M2 0 (nI b) 257).2.2.1), .int (lim), .int (nI n2), .int (nI g)])), (qg, .inr (1, [.ref qs, .int (nI ((ms_s lim M2 0 (nI b) 257).1))])), (qs, .inl (cI, 192, .inl ((ms_s lim M2 0 (nI b) 257).2.1)))] := hD
      refine lv_if_eq (tgt := 36) hx hb d_J_tidy_26 rfl (fun hc26 => ?_) (fun hc26 => ?_)
      · skip
        have hnn : ms_n lim (g + 1 - (b + 1)) (b + 1) (ms_s lim M2 0 (nI b) 257) n2 = ms_n lim (g + 1 - f) f M f := by rw [← hn, ms_nS hbg, if_pos (ms_r0.mp hc26)]
        refine lv_iinc hx hb d_J_tidy_36 hl (k := 3) rfl (v := nI (b + 1)) (ii_1 _) (Nat.le_of_ble_eq_true rfl) (lv' := [(3, .int (nI (b + 1))), (0, .ref qj), (1, .int (nI f)), (2, .int (nI g))]) rfl (fun ls hl => ?_)
        refine lv_goto (tgt := 12) hx hb d_J_tidy_39 rfl ?_
        have hl := lv_sub hl (l' := [(0, .ref qj), (1, .int (nI f)), (2, .int (nI g)), (3, .int (nI (b + 1)))]) [1, 2, 3, 0] rfl
        exact ih12 _ (by omega) (b + 1) _ _ ls _ _ rfl (hTn) (by omega) (hMn) (hnn) hl hP hD hS
      · skip
        have hnn : ms_n lim (g + 1 - (b + 1)) (b + 1) (ms_s lim M2 0 (nI b) 257) (b + 1) = ms_n lim (g + 1 - f) f M f := by rw [← hn, ms_nS hbg, if_neg (fun h => hc26 (ms_r0.mpr h))]
        refine lv_aload_n hx hb d_J_tidy_29 rfl (lv_at hl 0 rfl) ?_
        refine lv_iload_n hx hb d_J_tidy_30 rfl (lv_at hl 3 rfl) ?_
        refine lv_iconst (v := 1) hx hb d_J_tidy_31 (by decide) ?_
        refine lv_iadd hx hb d_J_tidy_32 ?_
        refine sd_top (y := nI (b + 1)) (nI_1 b) ?_
        refine va_put (D := D) (ci := 2) (v := .int (nI (b + 1))) (ty := .int) (C := R_J) (T := F_J) (N := 8) hx hb hts wl_J t_J t_J_ok n_J hown hK hP hD hS 0 rfl rfl 6 (by decide) (hts _ wf_J_35) (fun _ h9 => h9) rfl (by decide +kernel) rfl rfl (Nat.le_of_ble_eq_true rfl) d_J_tidy_33 (fun H locs hP hD hS => ?_)
        have hP : va_P D cls [(qj, .inr (2, [.ref qg, .int (wi), .int ((ms_s lim M2 0 (nI b) 257).2.2.2), .int (hf), .int (nI (ms_s lim M2 0 (nI b) 257).2.2.1), .int (lim), .int (nI (b + 1)), .int (nI g)])), (qg, .inr (1, [.ref qs, .int (nI ((ms_s lim M2 0 (nI b) 257).1))])), (qs, .inl (cI, 192, .inl ((ms_s lim M2 0 (nI b) 257).2.1)))] H := hP
        have hD : va_D A [(qj, .inr (2, [.ref qg, .int (wi), .int ((ms_s lim M2 0 (nI b) 257).2.2.2), .int (hf), .int (nI (ms_s lim M2 0 (nI b) 257).2.2.1), .int (lim), .int (nI (b + 1)), .int (nI g)])), (qg, .inr (1, [.ref qs, .int (nI ((ms_s lim M2 0 (nI b) 257).1))])), (qs, .inl (cI, 192, .inl ((ms_s lim M2 0 (nI b) 257).2.1)))] := hD
        refine lv_iinc hx hb d_J_tidy_36 hl (k := 3) rfl (v := nI (b + 1)) (ii_1 _) (Nat.le_of_ble_eq_true rfl) (lv' := [(3, .int (nI (b + 1))), (0, .ref qj), (1, .int (nI f)), (2, .int (nI g))]) rfl (fun ls hl => ?_)
        refine lv_goto (tgt := 12) hx hb d_J_tidy_39 rfl ?_
        have hl := lv_sub hl (l' := [(0, .ref qj), (1, .int (nI f)), (2, .int (nI g)), (3, .int (nI (b + 1)))]) [1, 2, 3, 0] rfl
        exact ih12 _ (by omega) (b + 1) _ _ ls _ _ rfl (hTn) (by omega) (hMn) (hnn) hl hP hD hS
  exact loop12 _ (f) (M) (f) ls _ _ rfl (hT) (by omega) (rfl) (rfl) hl hP hD hS
set_option maxHeartbeats 4000000 in
set_option maxRecDepth 100000 in
theorem c_J_finish (l : Launch) (D : va_G) (cI cZ cQ : ClassId) (qj : Nat) (qg : Nat) (qs : Nat) (wi : Int32) (M : ms_T) (hf : Int32) (lim : Int32) (f : Nat) (g : Nat) (hT : M.1 + (g + 1 - f) < 2 ^ 31) (hf1 : f < 2 ^ 30) (hg1 : g < 2 ^ 30) : sd_V l D (tyL cI cZ cQ) y_J_finish b_J_finish 1 ({ frames := 3, cells := 0, slots := 0, locals := 70 }) [.ref qj] [(qj, .inr (2, [.ref qg, .int (wi), .int (M.2.2.2), .int (hf), .int (nI M.2.2.1), .int (lim), .int (nI f), .int (nI g)])), (qg, .inr (1, [.ref qs, .int (nI (M.1))])), (qs, .inl (cI, 192, .inl (M.2.1)))] [(qj, .inr (2, [.ref qg, .int (wi), .int ((ms_t (-1) (g + 1 - f) f (ms_u M)).2.2.2), .int (hf), .int (nI (ms_t (-1) (g + 1 - f) f (ms_u M)).2.2.1), .int ((-1)), .int (nI (ms_n (-1) (g + 1 - f) f (ms_u M) f)), .int (nI g)])), (qg, .inr (1, [.ref qs, .int (nI ((ms_t (-1) (g + 1 - f) f (ms_u M)).1))])), (qs, .inl (cI, 192, .inl ((ms_t (-1) (g + 1 - f) f (ms_u M)).2.1)))] := by
  refine sd_ofV (by decide) (Nat.le_of_ble_eq_true rfl) ?_
  intro p e s m below meth c A ls hx hb hr hml hlk hown hts hK hP hD hA hS hl
  have hl : lv_has ls 1 [(0, .ref qj)] := hl
  refine lv_aload_n hx hb d_J_finish_0 rfl (lv_at hl 0 rfl) ?_
  refine lv_iconst (v := 0) hx hb d_J_finish_1 (by decide) ?_
  refine va_put (D := D) (ci := 2) (v := .int (0)) (ty := .boolean) (C := R_J) (T := F_J) (N := 8) hx hb hts wl_J t_J t_J_ok n_J hown hK hP hD hS 0 rfl rfl 2 (by decide) (hts _ wf_J_22) (fun _ h9 => h9) rfl (by decide +kernel) rfl rfl (Nat.le_of_ble_eq_true rfl) d_J_finish_2 (fun H locs hP hD hS => ?_)
  have hP : va_P D cls [(qj, .inr (2, [.ref qg, .int (wi), .int (0), .int (hf), .int (nI M.2.2.1), .int (lim), .int (nI f), .int (nI g)])), (qg, .inr (1, [.ref qs, .int (nI (M.1))])), (qs, .inl (cI, 192, .inl (M.2.1)))] H := hP
  have hD : va_D A [(qj, .inr (2, [.ref qg, .int (wi), .int (0), .int (hf), .int (nI M.2.2.1), .int (lim), .int (nI f), .int (nI g)])), (qg, .inr (1, [.ref qs, .int (nI (M.1))])), (qs, .inl (cI, 192, .inl (M.2.1)))] := hD
  refine lv_aload_n hx hb d_J_finish_5 rfl (lv_at hl 0 rfl) ?_
  refine lv_iconst (v := (-1)) hx hb d_J_finish_6 (by decide) ?_
  refine va_put (D := D) (ci := 2) (v := .int ((-1))) (ty := .int) (C := R_J) (T := F_J) (N := 8) hx hb hts wl_J t_J t_J_ok n_J hown hK hP hD hS 0 rfl rfl 5 (by decide) (hts _ wf_J_32) (fun _ h9 => h9) rfl (by decide +kernel) rfl rfl (Nat.le_of_ble_eq_true rfl) d_J_finish_7 (fun H locs hP hD hS => ?_)
  have hP : va_P D cls [(qj, .inr (2, [.ref qg, .int (wi), .int (0), .int (hf), .int (nI M.2.2.1), .int ((-1)), .int (nI f), .int (nI g)])), (qg, .inr (1, [.ref qs, .int (nI (M.1))])), (qs, .inl (cI, 192, .inl (M.2.1)))] H := hP
  have hD : va_D A [(qj, .inr (2, [.ref qg, .int (wi), .int (0), .int (hf), .int (nI M.2.2.1), .int ((-1)), .int (nI f), .int (nI g)])), (qg, .inr (1, [.ref qs, .int (nI (M.1))])), (qs, .inl (cI, 192, .inl (M.2.1)))] := hD
  refine lv_aload_n hx hb d_J_finish_10 rfl (lv_at hl 0 rfl) ?_
  refine lv_aload_n hx hb d_J_finish_11 rfl (lv_at hl 0 rfl) ?_
  refine va_get (D := D) (ci := 2) (v := .int (nI f)) (C := R_J) (T := F_J) (N := 8) hx hb hts wl_J hown hK hP 0 rfl rfl 6 (by decide) (hts _ wf_J_35) (fun _ h9 => h9) rfl d_J_finish_12 ?_
  refine lv_aload_n hx hb d_J_finish_15 rfl (lv_at hl 0 rfl) ?_
  refine va_get (D := D) (ci := 2) (v := .int (nI g)) (C := R_J) (T := F_J) (N := 8) hx hb hts wl_J hown hK hP 0 rfl rfl 7 (by decide) (hts _ wf_J_38) (fun _ h9 => h9) rfl d_J_finish_16 ?_
  refine sd_callVV (As := [.int (nI f), .int (nI g)]) (rest := []) (cx := [(qj, .inr (2, [.ref qg, .int (wi), .int ((ms_u M).2.2.2), .int (hf), .int (nI (ms_u M).2.2.1), .int ((-1)), .int (nI f), .int (nI g)])), (qg, .inr (1, [.ref qs, .int (nI ((ms_u M).1))])), (qs, .inl (cI, 192, .inl ((ms_u M).2.1)))]) (w1 := [(qj, .inr (2, [.ref qg, .int (wi), .int ((ms_t (-1) (g + 1 - f) f (ms_u M)).2.2.2), .int (hf), .int (nI (ms_t (-1) (g + 1 - f) f (ms_u M)).2.2.1), .int ((-1)), .int (nI (ms_n (-1) (g + 1 - f) f (ms_u M) f)), .int (nI g)])), (qg, .inr (1, [.ref qs, .int (nI ((ms_t (-1) (g + 1 - f) f (ms_u M)).1))])), (qs, .inl (cI, 192, .inl ((ms_t (-1) (g + 1 - f) f (ms_u M)).2.1)))]) (c_J_tidy l D cI cZ cQ (qj) (qg) (qs) (wi) (ms_u M) (hf) ((-1)) (nI f) (nI g) (f) (g) (hT) (hf1) (hg1)) ⟨wc_J_tidy, wm_J_49, wi_J, by decide, by decide, show (parseMethodDescriptor y_J_tidy.desc).map (fun d => d.parameters.length) = some 2 by decide +kernel⟩ wo_J_tidy wz_J_tidy hx hb hml hown hts hl.1 ⟨Nat.le_of_ble_eq_true rfl, Nat.le_of_ble_eq_true rfl⟩ ⟨Nat.le_of_ble_eq_true rfl, Nat.le_of_ble_eq_true rfl⟩ hK hP hD hS hA [0, 1, 2] rfl (by decide) rfl rfl (q0 := 0) rfl rfl rfl (Nat.le_of_ble_eq_true rfl) d_J_finish_19 (fun H locs hP hD hS => ?_)
  have hP : va_P D cls [(qj, .inr (2, [.ref qg, .int (wi), .int ((ms_t (-1) (g + 1 - f) f (ms_u M)).2.2.2), .int (hf), .int (nI (ms_t (-1) (g + 1 - f) f (ms_u M)).2.2.1), .int ((-1)), .int (nI (ms_n (-1) (g + 1 - f) f (ms_u M) f)), .int (nI g)])), (qg, .inr (1, [.ref qs, .int (nI ((ms_t (-1) (g + 1 - f) f (ms_u M)).1))])), (qs, .inl (cI, 192, .inl ((ms_t (-1) (g + 1 - f) f (ms_u M)).2.1)))] H := hP
  have hD : va_D A [(qj, .inr (2, [.ref qg, .int (wi), .int ((ms_t (-1) (g + 1 - f) f (ms_u M)).2.2.2), .int (hf), .int (nI (ms_t (-1) (g + 1 - f) f (ms_u M)).2.2.1), .int ((-1)), .int (nI (ms_n (-1) (g + 1 - f) f (ms_u M) f)), .int (nI g)])), (qg, .inr (1, [.ref qs, .int (nI ((ms_t (-1) (g + 1 - f) f (ms_u M)).1))])), (qs, .inl (cI, 192, .inl ((ms_t (-1) (g + 1 - f) f (ms_u M)).2.1)))] := hD
  exact sd_vret hx hb hr hlk hP hS (Nat.le_of_ble_eq_true rfl) (Nat.le_of_ble_eq_true rfl) d_J_finish_22
set_option maxHeartbeats 4000000 in
set_option maxRecDepth 100000 in
theorem c_A_fill (l : Launch) (D : va_G) (cI cZ cQ : ClassId) (qa : Nat) (n : Nat) (f : Nat → Int32) (v : Int32) (hn : n < 2 ^ 31) : sd_V l D (tyL cI cZ cQ) y_A_fill b_A_fill 4 ({ frames := 0, cells := 0, slots := 0, locals := 0 }) [.ref qa, .int (v)] [(qa, .inl (cI, n, .inl (f)))] [(qa, .inl (cI, n, .inl (ar_f v n f)))] := by
  refine sd_ofV (by decide) (Nat.le_of_ble_eq_true rfl) ?_
  intro p e s m below meth c A ls hx hb hr hml hlk hown hts hK hP hD hA hS hl
  have hl : lv_has ls 4 [(0, .ref qa), (1, .int (v))] := hl
  have hP : va_P D cls [(qa, .inl (cI, n, .inl (ar_f v 0 f)))] s.heap := by rw [ar_f0]; exact hP
  have hD : va_D A [(qa, .inl (cI, n, .inl (ar_f v 0 f)))] := by rw [ar_f0]; exact hD
  refine lv_iconst (v := 0) hx hb d_A_fill_0 (by decide) ?_
  refine sd_top (y := nI 0) (rfl) ?_
  refine lv_istore_n hx hb d_A_fill_1 rfl hl (Nat.le_of_ble_eq_true rfl) (lv' := [(2, .int (nI 0)), (0, .ref qa), (1, .int (v))]) rfl (fun ls hl => ?_)
  refine lv_aload_n hx hb d_A_fill_2 rfl (lv_at hl 1 rfl) ?_
  refine va_alen hx hb hK hP 0 0 rfl rfl (v := nI (n)) rfl d_A_fill_3 ?_
  refine lv_istore_n hx hb d_A_fill_4 rfl hl (Nat.le_of_ble_eq_true rfl) (lv' := [(3, .int (nI (n))), (2, .int (nI 0)), (0, .ref qa), (1, .int (v))]) rfl (fun ls hl => ?_)
  have hl := lv_sub hl (l' := [(0, .ref qa), (1, .int (v)), (2, .int (nI 0)), (3, .int (nI (n)))]) [2, 3, 1, 0] rfl
  have loop5 : ∀ (d : Nat) (j : Nat) (ls : Array Slot) (H : Heap) (locs : List Loc), n - j = d → (j ≤ n) → lv_has ls 4 [(0, .ref qa), (1, .int (v)), (2, .int (nI (j))), (3, .int (nI (n)))] → va_P D cls [(qa, .inl (cI, n, .inl (ar_f v j f)))] H → va_D A [(qa, .inl (cI, n, .inl (ar_f v j f)))] → va_S A s.heap H locs → W p l e ({ frames := 0, cells := 0, slots := 0, locals := 0 }) s m ([.ref qa, .int (v)] : List Value).toArray below meth c H locs 0 0 (MQ below (sd_qv D [(qa, .inl (cI, n, .inl (ar_f v n f)))] A) ([.ref qa, .int (v)] : List Value).toArray s 0 0 A) (F0 m 5 ls []) := by
    intro d
    induction d using Nat.strongRecOn with
    | _ d ih5 =>
    intro j ls H locs hd hj hl hP hD hS
    subst hd
    refine lv_iload_n hx hb d_A_fill_5 rfl (lv_at hl 2 rfl) ?_
    refine lv_iload_n hx hb d_A_fill_6 rfl (lv_at hl 3 rfl) ?_
    refine lv_icmp_ge (tgt := 20) hx hb d_A_fill_7 rfl (fun hc7 => ?_) (fun hc7 => ?_)
    · skip
      rw [nI_leI (by omega) (by omega)] at hc7
      have hj8 : j = n := by omega
      subst hj8
      exact sd_vret hx hb hr hlk hP hS (Nat.le_of_ble_eq_true rfl) (Nat.le_of_ble_eq_true rfl) d_A_fill_20
    · skip
      rw [nI_leI (by omega) (by omega)] at hc7
      refine lv_aload_n hx hb d_A_fill_10 rfl (lv_at hl 0 rfl) ?_
      refine lv_iload_n hx hb d_A_fill_11 rfl (lv_at hl 2 rfl) ?_
      refine lv_iload_n hx hb d_A_fill_12 rfl (lv_at hl 1 rfl) ?_
      refine sd_iast (j := j) hx hb hK hP hD hS 0 0 rfl rfl (by omega) (by omega) d_A_fill_13 (fun H locs hP hD hS => ?_)
      have hP : va_P D cls [(qa, .inl (cI, n, .inl (upd (ar_f v j f) (j) (v))))] H := hP
      have hD : va_D A [(qa, .inl (cI, n, .inl (upd (ar_f v j f) (j) (v))))] := hD
      refine lv_iinc hx hb d_A_fill_14 hl (k := 2) rfl (v := nI (j + 1)) (ii_1 _) (Nat.le_of_ble_eq_true rfl) (lv' := [(2, .int (nI (j + 1))), (0, .ref qa), (1, .int (v)), (3, .int (nI (n)))]) rfl (fun ls hl => ?_)
      refine lv_goto (tgt := 5) hx hb d_A_fill_17 rfl ?_
      have hl := lv_sub hl (l' := [(0, .ref qa), (1, .int (v)), (2, .int (nI (j + 1))), (3, .int (nI (n)))]) [1, 2, 0, 3] rfl
      rw [ar_fS] at hP hD
      exact ih5 _ (by omega) (j + 1) ls _ _ rfl (by omega) hl hP hD hS
  exact loop5 _ (0) ls _ _ rfl (Nat.zero_le _) hl hP hD hS
