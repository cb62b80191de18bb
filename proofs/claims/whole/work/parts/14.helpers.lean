/-- box b is filled and in the mask -/
def ch_k (fl : Nat → Int32) (mk : Int32) (b : Nat) : Bool := decide (¬ fl b = 0 ∧ ((mk.toUInt32 >>> ((nI b).toUInt32 &&& Int32.toUInt32 31)).toInt32 &&& 1) = 1)
theorem ch_ks {fl : Nat → Int32} {mk : Int32} {b : Nat} : ch_k fl mk b = true ↔ ¬ fl b = 0 ∧ ((mk.toUInt32 >>> ((nI b).toUInt32 &&& Int32.toUInt32 31)).toInt32 &&& 1) = 1 := decide_eq_true_iff
/-- the first boxes of the mask, at most k, from b on: how many, and their numbers -/
def ch_f (fl : Nat → Int32) (mk : Int32) (k : Nat) : Nat → Nat → Nat × (Nat → Int32) → Nat × (Nat → Int32)
  | 0, _, P => P
  | d + 1, b, P => if P.1 < k then (if ch_k fl mk b = true then ch_f fl mk k d (b + 1) (P.1 + 1, upd P.2 P.1 (nI b)) else ch_f fl mk k d (b + 1) P) else P
def ch_r (k : Nat) (P : Nat × (Nat → Int32)) : Int32 := if P.1 = k then 1 else 0
theorem ch_e {fl : Nat → Int32} {mk : Int32} {k d b : Nat} {P : Nat × (Nat → Int32)} (h : ¬ P.1 < k) : ch_f fl mk k d b P = P := by
  cases d with
  | zero => rfl
  | succ d => exact if_neg h
theorem ch_S {fl : Nat → Int32} {mk : Int32} {k n b : Nat} {P : Nat × (Nat → Int32)} (hb : b ≤ n) (h : P.1 < k) : ch_f fl mk k (n + 1 - b) b P = if ch_k fl mk b = true then ch_f fl mk k (n + 1 - (b + 1)) (b + 1) (P.1 + 1, upd P.2 P.1 (nI b)) else ch_f fl mk k (n + 1 - (b + 1)) (b + 1) P := by
  rw [show n + 1 - b = (n + 1 - (b + 1)) + 1 by omega]
  exact if_pos h
theorem gf_Ne {x : Nat → BitVec 8} {g h : Nat} {y : BitVec 8} (hg : h = g) : gf_N x g y h = gf_N x g y (h + 1) := (if_pos hg).symm
theorem gf_Nn {x : Nat → BitVec 8} {g h : Nat} {y : BitVec 8} (hg : ¬ h = g) : gf_N x g y (h + 1) = gf_m (gf_N x g y h) (y ^^^ x h) := if_neg hg
/-- the weights of the first g helpers -/
def wg_f (xb : Nat → BitVec 8) (k : Nat) (y : BitVec 8) (wt : Nat → Int32) (g : Nat) : Nat → Int32 := fun j => if j < g then bI (gf_w xb k y j) else wt j
theorem wg_0 (xb : Nat → BitVec 8) (k : Nat) (y : BitVec 8) (wt : Nat → Int32) : wg_f xb k y wt 0 = wt := funext fun i => if_neg (Nat.not_lt_zero i)
theorem wg_S (xb : Nat → BitVec 8) (k : Nat) (y : BitVec 8) (wt : Nat → Int32) (g : Nat) : upd (wg_f xb k y wt g) g (bI (gf_m (gf_N xb g y k) (gf_i (gf_N xb g (xb g) k)))) = wg_f xb k y wt (g + 1) := by
  funext i
  unfold upd wg_f
  by_cases h : i = g
  · rw [if_pos h, if_pos (by omega), h]; rfl
  · rw [if_neg h]
    by_cases h2 : i < g
    · rw [if_pos h2, if_pos (by omega)]
    · rw [if_neg h2, if_neg (by omega)]
theorem d_H_choose_0 : decode b_H_choose 0 = .ok (.iconst 0, 1) := by decide +kernel
theorem d_H_choose_1 : decode b_H_choose 1 = .ok (.istore_n 3, 1) := by decide +kernel
theorem d_H_choose_2 : decode b_H_choose 2 = .ok (.iconst 1, 1) := by decide +kernel
theorem d_H_choose_3 : decode b_H_choose 3 = .ok (.istore 4, 2) := by decide +kernel
theorem d_H_choose_5 : decode b_H_choose 5 = .ok (.iload 4, 2) := by decide +kernel
theorem d_H_choose_7 : decode b_H_choose 7 = .ok (.aload_n 1, 1) := by decide +kernel
theorem d_H_choose_8 : decode b_H_choose 8 = .ok (.arraylength, 1) := by decide +kernel
theorem d_H_choose_9 : decode b_H_choose 9 = .ok (.if_icmp .ge 46, 3) := by decide +kernel
theorem d_H_choose_12 : decode b_H_choose 12 = .ok (.iload_n 3, 1) := by decide +kernel
theorem d_H_choose_13 : decode b_H_choose 13 = .ok (.aload_n 0, 1) := by decide +kernel
theorem d_H_choose_14 : decode b_H_choose 14 = .ok (.getfield 7, 3) := by decide +kernel
theorem d_H_choose_17 : decode b_H_choose 17 = .ok (.arraylength, 1) := by decide +kernel
theorem d_H_choose_18 : decode b_H_choose 18 = .ok (.if_icmp .ge 37, 3) := by decide +kernel
theorem d_H_choose_21 : decode b_H_choose 21 = .ok (.aload_n 1, 1) := by decide +kernel
theorem d_H_choose_22 : decode b_H_choose 22 = .ok (.iload 4, 2) := by decide +kernel
theorem d_H_choose_24 : decode b_H_choose 24 = .ok (.baload, 1) := by decide +kernel
theorem d_H_choose_25 : decode b_H_choose 25 = .ok (.ifCond .eq 24, 3) := by decide +kernel
theorem d_H_choose_28 : decode b_H_choose 28 = .ok (.iload_n 2, 1) := by decide +kernel
theorem d_H_choose_29 : decode b_H_choose 29 = .ok (.iload 4, 2) := by decide +kernel
theorem d_H_choose_31 : decode b_H_choose 31 = .ok (.iushr, 1) := by decide +kernel
theorem d_H_choose_32 : decode b_H_choose 32 = .ok (.iconst 1, 1) := by decide +kernel
theorem d_H_choose_33 : decode b_H_choose 33 = .ok (.iand, 1) := by decide +kernel
theorem d_H_choose_34 : decode b_H_choose 34 = .ok (.iconst 1, 1) := by decide +kernel
theorem d_H_choose_35 : decode b_H_choose 35 = .ok (.if_icmp .ne 14, 3) := by decide +kernel
theorem d_H_choose_38 : decode b_H_choose 38 = .ok (.aload_n 0, 1) := by decide +kernel
theorem d_H_choose_39 : decode b_H_choose 39 = .ok (.getfield 7, 3) := by decide +kernel
theorem d_H_choose_42 : decode b_H_choose 42 = .ok (.iload_n 3, 1) := by decide +kernel
theorem d_H_choose_43 : decode b_H_choose 43 = .ok (.iload 4, 2) := by decide +kernel
theorem d_H_choose_45 : decode b_H_choose 45 = .ok (.iastore, 1) := by decide +kernel
theorem d_H_choose_46 : decode b_H_choose 46 = .ok (.iinc 3 1, 3) := by decide +kernel
theorem d_H_choose_49 : decode b_H_choose 49 = .ok (.iinc 4 1, 3) := by decide +kernel
theorem d_H_choose_52 : decode b_H_choose 52 = .ok (.goto (-47), 3) := by decide +kernel
theorem d_H_choose_55 : decode b_H_choose 55 = .ok (.iload_n 3, 1) := by decide +kernel
theorem d_H_choose_56 : decode b_H_choose 56 = .ok (.aload_n 0, 1) := by decide +kernel
theorem d_H_choose_57 : decode b_H_choose 57 = .ok (.getfield 7, 3) := by decide +kernel
theorem d_H_choose_60 : decode b_H_choose 60 = .ok (.arraylength, 1) := by decide +kernel
theorem d_H_choose_61 : decode b_H_choose 61 = .ok (.if_icmp .ne 7, 3) := by decide +kernel
theorem d_H_choose_64 : decode b_H_choose 64 = .ok (.iconst 1, 1) := by decide +kernel
theorem d_H_choose_65 : decode b_H_choose 65 = .ok (.goto 4, 3) := by decide +kernel
theorem d_H_choose_68 : decode b_H_choose 68 = .ok (.iconst 0, 1) := by decide +kernel
theorem d_H_choose_69 : decode b_H_choose 69 = .ok (.ireturn, 1) := by decide +kernel
theorem d_H_weigh_0 : decode b_H_weigh 0 = .ok (.iconst 0, 1) := by decide +kernel
theorem d_H_weigh_1 : decode b_H_weigh 1 = .ok (.istore_n 2, 1) := by decide +kernel
theorem d_H_weigh_2 : decode b_H_weigh 2 = .ok (.iload_n 2, 1) := by decide +kernel
theorem d_H_weigh_3 : decode b_H_weigh 3 = .ok (.aload_n 0, 1) := by decide +kernel
theorem d_H_weigh_4 : decode b_H_weigh 4 = .ok (.getfield 7, 3) := by decide +kernel
theorem d_H_weigh_7 : decode b_H_weigh 7 = .ok (.arraylength, 1) := by decide +kernel
theorem d_H_weigh_8 : decode b_H_weigh 8 = .ok (.if_icmp .ge 86, 3) := by decide +kernel
theorem d_H_weigh_11 : decode b_H_weigh 11 = .ok (.iconst 1, 1) := by decide +kernel
theorem d_H_weigh_12 : decode b_H_weigh 12 = .ok (.istore_n 3, 1) := by decide +kernel
theorem d_H_weigh_13 : decode b_H_weigh 13 = .ok (.iconst 1, 1) := by decide +kernel
theorem d_H_weigh_14 : decode b_H_weigh 14 = .ok (.istore 4, 2) := by decide +kernel
theorem d_H_weigh_16 : decode b_H_weigh 16 = .ok (.iconst 0, 1) := by decide +kernel
theorem d_H_weigh_17 : decode b_H_weigh 17 = .ok (.istore 5, 2) := by decide +kernel
theorem d_H_weigh_19 : decode b_H_weigh 19 = .ok (.iload 5, 2) := by decide +kernel
theorem d_H_weigh_21 : decode b_H_weigh 21 = .ok (.aload_n 0, 1) := by decide +kernel
theorem d_H_weigh_22 : decode b_H_weigh 22 = .ok (.getfield 7, 3) := by decide +kernel
theorem d_H_weigh_25 : decode b_H_weigh 25 = .ok (.arraylength, 1) := by decide +kernel
theorem d_H_weigh_26 : decode b_H_weigh 26 = .ok (.if_icmp .ge 50, 3) := by decide +kernel
theorem d_H_weigh_29 : decode b_H_weigh 29 = .ok (.iload 5, 2) := by decide +kernel
theorem d_H_weigh_31 : decode b_H_weigh 31 = .ok (.iload_n 2, 1) := by decide +kernel
theorem d_H_weigh_32 : decode b_H_weigh 32 = .ok (.if_icmp .eq 38, 3) := by decide +kernel
theorem d_H_weigh_35 : decode b_H_weigh 35 = .ok (.iload_n 3, 1) := by decide +kernel
theorem d_H_weigh_36 : decode b_H_weigh 36 = .ok (.iload_n 1, 1) := by decide +kernel
theorem d_H_weigh_37 : decode b_H_weigh 37 = .ok (.aload_n 0, 1) := by decide +kernel
theorem d_H_weigh_38 : decode b_H_weigh 38 = .ok (.getfield 7, 3) := by decide +kernel
theorem d_H_weigh_41 : decode b_H_weigh 41 = .ok (.iload 5, 2) := by decide +kernel
theorem d_H_weigh_43 : decode b_H_weigh 43 = .ok (.iaload, 1) := by decide +kernel
theorem d_H_weigh_44 : decode b_H_weigh 44 = .ok (.ixor, 1) := by decide +kernel
theorem d_H_weigh_45 : decode b_H_weigh 45 = .ok (.invokestatic 19, 3) := by decide +kernel
theorem d_H_weigh_48 : decode b_H_weigh 48 = .ok (.istore_n 3, 1) := by decide +kernel
theorem d_H_weigh_49 : decode b_H_weigh 49 = .ok (.iload 4, 2) := by decide +kernel
theorem d_H_weigh_51 : decode b_H_weigh 51 = .ok (.aload_n 0, 1) := by decide +kernel
theorem d_H_weigh_52 : decode b_H_weigh 52 = .ok (.getfield 7, 3) := by decide +kernel
theorem d_H_weigh_55 : decode b_H_weigh 55 = .ok (.iload_n 2, 1) := by decide +kernel
theorem d_H_weigh_56 : decode b_H_weigh 56 = .ok (.iaload, 1) := by decide +kernel
theorem d_H_weigh_57 : decode b_H_weigh 57 = .ok (.aload_n 0, 1) := by decide +kernel
theorem d_H_weigh_58 : decode b_H_weigh 58 = .ok (.getfield 7, 3) := by decide +kernel
theorem d_H_weigh_61 : decode b_H_weigh 61 = .ok (.iload 5, 2) := by decide +kernel
theorem d_H_weigh_63 : decode b_H_weigh 63 = .ok (.iaload, 1) := by decide +kernel
theorem d_H_weigh_64 : decode b_H_weigh 64 = .ok (.ixor, 1) := by decide +kernel
theorem d_H_weigh_65 : decode b_H_weigh 65 = .ok (.invokestatic 19, 3) := by decide +kernel
theorem d_H_weigh_68 : decode b_H_weigh 68 = .ok (.istore 4, 2) := by decide +kernel
theorem d_H_weigh_70 : decode b_H_weigh 70 = .ok (.iinc 5 1, 3) := by decide +kernel
theorem d_H_weigh_73 : decode b_H_weigh 73 = .ok (.goto (-54), 3) := by decide +kernel
theorem d_H_weigh_76 : decode b_H_weigh 76 = .ok (.aload_n 0, 1) := by decide +kernel
theorem d_H_weigh_77 : decode b_H_weigh 77 = .ok (.getfield 16, 3) := by decide +kernel
theorem d_H_weigh_80 : decode b_H_weigh 80 = .ok (.iload_n 2, 1) := by decide +kernel
theorem d_H_weigh_81 : decode b_H_weigh 81 = .ok (.iload_n 3, 1) := by decide +kernel
theorem d_H_weigh_82 : decode b_H_weigh 82 = .ok (.iload 4, 2) := by decide +kernel
theorem d_H_weigh_84 : decode b_H_weigh 84 = .ok (.invokestatic 25, 3) := by decide +kernel
theorem d_H_weigh_87 : decode b_H_weigh 87 = .ok (.iastore, 1) := by decide +kernel
theorem d_H_weigh_88 : decode b_H_weigh 88 = .ok (.iinc 2 1, 3) := by decide +kernel
theorem d_H_weigh_91 : decode b_H_weigh 91 = .ok (.goto (-89), 3) := by decide +kernel
theorem d_H_weigh_94 : decode b_H_weigh 94 = .ok (.return_, 1) := by decide +kernel
theorem d_H_clearSums_0 : decode b_H_clearSums 0 = .ok (.aload_n 0, 1) := by decide +kernel
theorem d_H_clearSums_1 : decode b_H_clearSums 1 = .ok (.getfield 13, 3) := by decide +kernel
theorem d_H_clearSums_4 : decode b_H_clearSums 4 = .ok (.iconst 0, 1) := by decide +kernel
theorem d_H_clearSums_5 : decode b_H_clearSums 5 = .ok (.invokestatic 32, 3) := by decide +kernel
theorem d_H_clearSums_8 : decode b_H_clearSums 8 = .ok (.return_, 1) := by decide +kernel
set_option maxHeartbeats 4000000 in
set_option maxRecDepth 100000 in
theorem c_H_choose (l : Launch) (D : va_G) (cI cZ cQ : ClassId) (qh : Nat) (qn : Nat) (qu : Nat) (qw : Nat) (k : Nat) (nb : Nat → Int32) (su : Nat → Int32) (wt : Nat → Int32) (qf : Nat) (n : Nat) (fl : Nat → Int32) (mk : Int32) (hk : k < 2 ^ 30) (hn : n < 2 ^ 30) : sd_I l D (tyL cI cZ cQ) y_H_choose b_H_choose 5 (.boolean) ({ frames := 0, cells := 0, slots := 0, locals := 0 }) [.ref qh, .ref qf, .int (mk)] [(qh, .inr (3, [.ref qn, .ref qu, .ref qw])), (qn, .inl (cI, k, .inl (nb))), (qu, .inl (cI, k, .inl (su))), (qw, .inl (cI, k, .inl (wt))), (qf, .inl (cZ, n + 1, .inl (fl)))] (ch_r k (ch_f fl mk k n 1 (0, nb))) [(qh, .inr (3, [.ref qn, .ref qu, .ref qw])), (qn, .inl (cI, k, .inl ((ch_f fl mk k n 1 (0, nb)).2))), (qu, .inl (cI, k, .inl (su))), (qw, .inl (cI, k, .inl (wt))), (qf, .inl (cZ, n + 1, .inl (fl)))] := by
  refine sd_ofI (by decide) (Nat.le_of_ble_eq_true rfl) ?_
  intro p e s m below meth c A ls hx hb hr hml hlk hown hts hK hP hD hA hS hl
  have hl : lv_has ls 5 [(0, .ref qh), (1, .ref qf), (2, .int (mk))] := hl
  refine lv_iconst (v := 0) hx hb d_H_choose_0 (by decide) ?_
  refine sd_top (y := nI 0) (rfl) ?_
  refine lv_istore_n hx hb d_H_choose_1 rfl hl (Nat.le_of_ble_eq_true rfl) (lv' := [(3, .int (nI 0)), (0, .ref qh), (1, .ref qf), (2, .int (mk))]) rfl (fun ls hl => ?_)
  refine lv_iconst (v := 1) hx hb d_H_choose_2 (by decide) ?_
  refine sd_top (y := nI 1) (rfl) ?_
  refine lv_istore hx hb d_H_choose_3 hl (Nat.le_of_ble_eq_true rfl) (lv' := [(4, .int (nI 1)), (3, .int (nI 0)), (0, .ref qh), (1, .ref qf), (2, .int (mk))]) rfl (fun ls hl => ?_)
  have hl := lv_sub hl (l' := [(0, .ref qh), (1, .ref qf), (2, .int (mk)), (3, .int (nI 0)), (4, .int (nI 1))]) [2, 3, 4, 1, 0] rfl
  have loop5 : ∀ (d : Nat) (b : Nat) (u : Nat) (nb2 : Nat → Int32) (ls : Array Slot) (H : Heap) (locs : List Loc), n + 1 - b = d → (1 ≤ b) → (b ≤ n + 1) → (u ≤ k) → (ch_f fl mk k (n + 1 - b) b (u, nb2) = ch_f fl mk k n 1 (0, nb)) → lv_has ls 5 [(0, .ref qh), (1, .ref qf), (2, .int (mk)), (3, .int (nI (u))), (4, .int (nI (b)))] → va_P D cls [(qh, .inr (3, [.ref qn, .ref qu, .ref qw])), (qn, .inl (cI, k, .inl (nb2))), (qu, .inl (cI, k, .inl (su))), (qw, .inl (cI, k, .inl (wt))), (qf, .inl (cZ, n + 1, .inl (fl)))] H → va_D A [(qh, .inr (3, [.ref qn, .ref qu, .ref qw])), (qn, .inl (cI, k, .inl (nb2))), (qu, .inl (cI, k, .inl (su))), (qw, .inl (cI, k, .inl (wt))), (qf, .inl (cZ, n + 1, .inl (fl)))] → va_S A s.heap H locs → W p l e ({ frames := 0, cells := 0, slots := 0, locals := 0 }) s m ([.ref qh, .ref qf, .int (mk)] : List Value).toArray below meth c H locs 0 0 (MQ below (sd_qi D (ch_r k (ch_f fl mk k n 1 (0, nb))) [(qh, .inr (3, [.ref qn, .ref qu, .ref qw])), (qn, .inl (cI, k, .inl ((ch_f fl mk k n 1 (0, nb)).2))), (qu, .inl (cI, k, .inl (su))), (qw, .inl (cI, k, .inl (wt))), (qf, .inl (cZ, n + 1, .inl (fl)))] A) ([.ref qh, .ref qf, .int (mk)] : List Value).toArray s 0 0 A) (F0 m 5 ls []) := by
    intro d
    induction d using Nat.strongRecOn with
    | _ d ih5 =>
    intro b u nb2 ls H locs hd h1 hbn huk hi hl hP hD hS
    subst hd
    refine lv_iload hx hb d_H_choose_5 (lv_at hl 4 rfl) ?_
    refine lv_aload_n hx hb d_H_choose_7 rfl (lv_at hl 1 rfl) ?_
    refine va_alen hx hb hK hP 4 1 rfl rfl (v := nI (n + 1)) rfl d_H_choose_8 ?_
    refine lv_icmp_ge (tgt := 55) hx hb d_H_choose_9 rfl (fun hc9 => ?_) (fun hc9 => ?_)
    · skip
      rw [nI_leI (by omega) (by omega)] at hc9
      have he : ch_f fl mk k n 1 (0, nb) = (u, nb2) := by rw [← hi, show n + 1 - b = 0 by omega]; rfl
      refine lv_iload_n hx hb d_H_choose_55 rfl (lv_at hl 3 rfl) ?_
      refine lv_aload_n hx hb d_H_choose_56 rfl (lv_at hl 0 rfl) ?_
      refine va_get (D := D) (ci := 3) (v := .ref qn) (C := R_H) (T := F_H) (N := 3) hx hb hts wl_H hown hK hP 0 rfl rfl 0 (by decide) (hts _ wf_H_7) (fun _ h9 => h9) rfl d_H_choose_57 ?_
      refine va_alen hx hb hK hP 1 0 rfl rfl (v := nI (k)) rfl d_H_choose_60 ?_
      refine lv_icmp_ne (tgt := 68) hx hb d_H_choose_61 rfl (fun hc61 => ?_) (fun hc61 => ?_)
      · skip
        have hu : ¬ u = k := fun h => hc61 (by rw [h])
        refine lv_iconst (v := 0) hx hb d_H_choose_68 (by decide) ?_
        have hP : va_P D cls [(qh, .inr (3, [.ref qn, .ref qu, .ref qw])), (qn, .inl (cI, k, .inl ((ch_f fl mk k n 1 (0, nb)).2))), (qu, .inl (cI, k, .inl (su))), (qw, .inl (cI, k, .inl (wt))), (qf, .inl (cZ, n + 1, .inl (fl)))] H := by rw [he]; exact hP
        exact sd_zret hx hb hr hlk hP hS (Nat.le_of_ble_eq_true rfl) (Nat.le_of_ble_eq_true rfl) (by rw [he]; first | exact (if_pos hu).symm | exact (if_neg hu).symm) (by decide) d_H_choose_69
      · skip
        have hu : u = k := (nI_eq (by omega) (by omega)).mp hc61
        refine lv_iconst (v := 1) hx hb d_H_choose_64 (by decide) ?_
        refine lv_goto (tgt := 69) hx hb d_H_choose_65 rfl ?_
        have hP : va_P D cls [(qh, .inr (3, [.ref qn, .ref qu, .ref qw])), (qn, .inl (cI, k, .inl ((ch_f fl mk k n 1 (0, nb)).2))), (qu, .inl (cI, k, .inl (su))), (qw, .inl (cI, k, .inl (wt))), (qf, .inl (cZ, n + 1, .inl (fl)))] H := by rw [he]; exact hP
        exact sd_zret hx hb hr hlk hP hS (Nat.le_of_ble_eq_true rfl) (Nat.le_of_ble_eq_true rfl) (by rw [he]; first | exact (if_pos hu).symm | exact (if_neg hu).symm) (by decide) d_H_choose_69
    · skip
      rw [nI_leI (by omega) (by omega)] at hc9
      refine lv_iload_n hx hb d_H_choose_12 rfl (lv_at hl 3 rfl) ?_
      refine lv_aload_n hx hb d_H_choose_13 rfl (lv_at hl 0 rfl) ?_
      refine va_get (D := D) (ci := 3) (v := .ref qn) (C := R_H) (T := F_H) (N := 3) hx hb hts wl_H hown hK hP 0 rfl rfl 0 (by decide) (hts _ wf_H_7) (fun _ h9 => h9) rfl d_H_choose_14 ?_
      refine va_alen hx hb hK hP 1 0 rfl rfl (v := nI (k)) rfl d_H_choose_17 ?_
      refine lv_icmp_ge (tgt := 55) hx hb d_H_choose_18 rfl (fun hc18 => ?_) (fun hc18 => ?_)
      · skip
        rw [nI_leI (by omega) (by omega)] at hc18
        have he : ch_f fl mk k n 1 (0, nb) = (u, nb2) := by rw [← hi]; exact ch_e (by show ¬ u < k; omega)
        refine lv_iload_n hx hb d_H_choose_55 rfl (lv_at hl 3 rfl) ?_
        refine lv_aload_n hx hb d_H_choose_56 rfl (lv_at hl 0 rfl) ?_
        refine va_get (D := D) (ci := 3) (v := .ref qn) (C := R_H) (T := F_H) (N := 3) hx hb hts wl_H hown hK hP 0 rfl rfl 0 (by decide) (hts _ wf_H_7) (fun _ h9 => h9) rfl d_H_choose_57 ?_
        refine va_alen hx hb hK hP 1 0 rfl rfl (v := nI (k)) rfl d_H_choose_60 ?_
        refine lv_icmp_ne (tgt := 68) hx hb d_H_choose_61 rfl (fun hc61 => ?_) (fun hc61 => ?_)
        · skip
          have hu : ¬ u = k := fun h => hc61 (by rw [h])
          refine lv_iconst (v := 0) hx hb d_H_choose_68 (by decide) ?_
          have hP : va_P D cls [(qh, .inr (3, [.ref qn, .ref qu, .ref qw])), (qn, .inl (cI, k, .inl ((ch_f fl mk k n 1 (0, nb)).2))), (qu, .inl (cI, k, .inl (su))), (qw, .inl (cI, k, .inl (wt))), (qf, .inl (cZ, n + 1, .inl (fl)))] H := by rw [he]; exact hP
          exact sd_zret hx hb hr hlk hP hS (Nat.le_of_ble_eq_true rfl) (Nat.le_of_ble_eq_true rfl) (by rw [he]; first | exact (if_pos hu).symm | exact (if_neg hu).symm) (by decide) d_H_choose_69
        · skip
          have hu : u = k := (nI_eq (by omega) (by omega)).mp hc61
          refine lv_iconst (v := 1) hx hb d_H_choose_64 (by decide) ?_
          refine lv_goto (tgt := 69) hx hb d_H_choose_65 rfl ?_
          have hP : va_P D cls [(qh, .inr (3, [.ref qn, .ref qu, .ref qw])), (qn, .inl (cI, k, .inl ((ch_f fl mk k n 1 (0, nb)).2))), (qu, .inl (cI, k, .inl (su))), (qw, .inl (cI, k, .inl (wt))), (qf, .inl (cZ, n + 1, .inl (fl)))] H := by rw [he]; exact hP
          exact sd_zret hx hb hr hlk hP hS (Nat.le_of_ble_eq_true rfl) (Nat.le_of_ble_eq_true rfl) (by rw [he]; first | exact (if_pos hu).symm | exact (if_neg hu).symm) (by decide) d_H_choose_69
      · skip
        rw [nI_leI (by omega) (by omega)] at hc18
        have huk2 : u < k := by omega
        have hst := ch_S (fl := fl) (mk := mk) (k := k) (n := n) (b := b) (P := (u, nb2)) (by omega) huk2
        refine lv_aload_n hx hb d_H_choose_21 rfl (lv_at hl 1 rfl) ?_
        refine lv_iload hx hb d_H_choose_22 (lv_at hl 4 rfl) ?_
        refine sd_zald (j := b) hx hb hK hP 4 1 rfl rfl (by omega) (by omega) d_H_choose_24 ?_
        refine lv_if_eq (tgt := 49) hx hb d_H_choose_25 rfl (fun hc25 => ?_) (fun hc25 => ?_)
        · skip
          have hin : ch_f fl mk k (n + 1 - (b + 1)) (b + 1) (u, nb2) = ch_f fl mk k n 1 (0, nb) := by rw [← hi, hst, if_neg (fun h => (ch_ks.mp h).1 hc25)]
          refine lv_iinc hx hb d_H_choose_49 hl (k := 4) rfl (v := nI (b + 1)) (ii_1 _) (Nat.le_of_ble_eq_true rfl) (lv' := [(4, .int (nI (b + 1))), (0, .ref qh), (1, .ref qf), (2, .int (mk)), (3, .int (nI (u)))]) rfl (fun ls hl => ?_)
          refine lv_goto (tgt := 5) hx hb d_H_choose_52 rfl ?_
          have hl := lv_sub hl (l' := [(0, .ref qh), (1, .ref qf), (2, .int (mk)), (3, .int (nI (u))), (4, .int (nI (b + 1)))]) [1, 2, 3, 4, 0] rfl
          exact ih5 _ (by omega) (b + 1) _ _ ls _ _ rfl (by omega) (by omega) (by omega) (hin) hl hP hD hS
        · skip
          refine lv_iload_n hx hb d_H_choose_28 rfl (lv_at hl 2 rfl) ?_
          refine lv_iload hx hb d_H_choose_29 (lv_at hl 4 rfl) ?_
          refine lv_iushr hx hb d_H_choose_31 rfl ?_
          refine lv_iconst (v := 1) hx hb d_H_choose_32 (by decide) ?_
          refine lv_iand hx hb d_H_choose_33 ?_
          refine lv_iconst (v := 1) hx hb d_H_choose_34 (by decide) ?_
          refine lv_icmp_ne (tgt := 49) hx hb d_H_choose_35 rfl (fun hc35 => ?_) (fun hc35 => ?_)
          · skip
            have hin : ch_f fl mk k (n + 1 - (b + 1)) (b + 1) (u, nb2) = ch_f fl mk k n 1 (0, nb) := by rw [← hi, hst, if_neg (fun h => hc35 (ch_ks.mp h).2)]
            refine lv_iinc hx hb d_H_choose_49 hl (k := 4) rfl (v := nI (b + 1)) (ii_1 _) (Nat.le_of_ble_eq_true rfl) (lv' := [(4, .int (nI (b + 1))), (0, .ref qh), (1, .ref qf), (2, .int (mk)), (3, .int (nI (u)))]) rfl (fun ls hl => ?_)
            refine lv_goto (tgt := 5) hx hb d_H_choose_52 rfl ?_
            have hl := lv_sub hl (l' := [(0, .ref qh), (1, .ref qf), (2, .int (mk)), (3, .int (nI (u))), (4, .int (nI (b + 1)))]) [1, 2, 3, 4, 0] rfl
            exact ih5 _ (by omega) (b + 1) _ _ ls _ _ rfl (by omega) (by omega) (by omega) (hin) hl hP hD hS
          · skip
            have hin : ch_f fl mk k (n + 1 - (b + 1)) (b + 1) (u + 1, upd nb2 u (nI b)) = ch_f fl mk k n 1 (0, nb) := by rw [← hi, hst, if_pos (ch_ks.mpr ⟨hc25, hc35⟩)]
            refine lv_aload_n hx hb d_H_choose_38 rfl (lv_at hl 0 rfl) ?_
            refine va_get (D := D) (ci := 3) (v := .ref qn) (C := R_H) (T := F_H) (N := 3) hx hb hts wl_H hown hK hP 0 rfl rfl 0 (by decide) (hts _ wf_H_7) (fun _ h9 => h9) rfl d_H_choose_39 ?_
            refine lv_iload_n hx hb d_H_choose_42 rfl (lv_at hl 3 rfl) ?_
            refine lv_iload hx hb d_H_choose_43 (lv_at hl 4 rfl) ?_
            refine sd_iast (j := u) hx hb hK hP hD hS 1 0 rfl rfl (by omega) (by omega) d_H_choose_45 (fun H locs hP hD hS => ?_)
            have hP : va_P D cls [(qh, .inr (3, [.ref qn, .ref qu, .ref qw])), (qn, .inl (cI, k, .inl (upd (nb2) (u) (nI (b))))), (qu, .inl (cI, k, .inl (su))), (qw, .inl (cI, k, .inl (wt))), (qf, .inl (cZ, n + 1, .inl (fl)))] H := hP
            have hD : va_D A [(qh, .inr (3, [.ref qn, .ref qu, .ref qw])), (qn, .inl (cI, k, .inl (upd (nb2) (u) (nI (b))))), (qu, .inl (cI, k, .inl (su))), (qw, .inl (cI, k, .inl (wt))), (qf, .inl (cZ, n + 1, .inl (fl)))] := hD
            refine lv_iinc hx hb d_H_choose_46 hl (k := 3) rfl (v := nI (u + 1)) (ii_1 _) (Nat.le_of_ble_eq_true rfl) (lv' := [(3, .int (nI (u + 1))), (0, .ref qh), (1, .ref qf), (2, .int (mk)), (4, .int (nI (b)))]) rfl (fun ls hl => ?_)
            refine lv_iinc hx hb d_H_choose_49 hl (k := 4) rfl (v := nI (b + 1)) (ii_1 _) (Nat.le_of_ble_eq_true rfl) (lv' := [(4, .int (nI (b + 1))), (3, .int (nI (u + 1))), (0, .ref qh), (1, .ref qf), (2, .int (mk))]) rfl (fun ls hl => ?_)
            refine lv_goto (tgt := 5) hx hb d_H_choose_52 rfl ?_
            have hl := lv_sub hl (l' := [(0, .ref qh), (1, .ref qf), (2, .int (mk)), (3, .int (nI (u + 1))), (4, .int (nI (b + 1)))]) [2, 3, 4, 1, 0] rfl
            exact ih5 _ (by omega) (b + 1) _ _ ls _ _ rfl (by omega) (by omega) (by omega) (hin) hl hP hD hS
  exact loop5 _ (1) (0) (nb) ls _ _ rfl (by omega) (by omega) (by omega) (rfl) hl hP hD hS
set_option maxHeartbeats 4000000 in
set_option maxRecDepth 100000 in
theorem c_H_weigh (l : Launch) (D : va_G) (cI cZ cQ : ClassId) (qh : Nat) (qn : Nat) (qu : Nat) (qw : Nat) (k : Nat) (nb : Nat → Int32) (su : Nat → Int32) (wt : Nat → Int32) (xb : Nat → BitVec 8) (y : BitVec 8) (hk : k < 2 ^ 30) (hnb : ∀ j, j < k → nb j = bI (xb j)) : sd_V l D (tyL cI cZ cQ) y_H_weigh b_H_weigh 6 ({ frames := 3, cells := 0, slots := 0, locals := 68 }) [.ref qh, .int (bI y)] [(qh, .inr (3, [.ref qn, .ref qu, .ref qw])), (qn, .inl (cI, k, .inl (nb))), (qu, .inl (cI, k, .inl (su))), (qw, .inl (cI, k, .inl (wt)))] [(qh, .inr (3, [.ref qn, .ref qu, .ref qw])), (qn, .inl (cI, k, .inl (nb))), (qu, .inl (cI, k, .inl (su))), (qw, .inl (cI, k, .inl (wg_f xb k y wt k)))] := by
  refine sd_ofV (by decide) (Nat.le_of_ble_eq_true rfl) ?_
  intro p e s m below meth c A ls hx hb hr hml hlk hown hts hK hP hD hA hS hl
  have hl : lv_has ls 6 [(0, .ref qh), (1, .int (bI y))] := hl
  have hP : va_P D cls [(qh, .inr (3, [.ref qn, .ref qu, .ref qw])), (qn, .inl (cI, k, .inl (nb))), (qu, .inl (cI, k, .inl (su))), (qw, .inl (cI, k, .inl (wg_f xb k y wt 0)))] s.heap := by rw [wg_0]; exact hP
  have hD : va_D A [(qh, .inr (3, [.ref qn, .ref qu, .ref qw])), (qn, .inl (cI, k, .inl (nb))), (qu, .inl (cI, k, .inl (su))), (qw, .inl (cI, k, .inl (wg_f xb k y wt 0)))] := by rw [wg_0]; exact hD
  refine lv_iconst (v := 0) hx hb d_H_weigh_0 (by decide) ?_
  refine sd_top (y := nI 0) (rfl) ?_
  refine lv_istore_n hx hb d_H_weigh_1 rfl hl (Nat.le_of_ble_eq_true rfl) (lv' := [(2, .int (nI 0)), (0, .ref qh), (1, .int (bI y))]) rfl (fun ls hl => ?_)
  have hl := lv_sub hl (l' := [(0, .ref qh), (1, .int (bI y)), (2, .int (nI 0))]) [1, 2, 0] rfl
  have loop2 : ∀ (d : Nat) (g : Nat) (ls : Array Slot) (H : Heap) (locs : List Loc), k - g = d → (g ≤ k) → lv_has ls 6 [(0, .ref qh), (1, .int (bI y)), (2, .int (nI (g)))] → va_P D cls [(qh, .inr (3, [.ref qn, .ref qu, .ref qw])), (qn, .inl (cI, k, .inl (nb))), (qu, .inl (cI, k, .inl (su))), (qw, .inl (cI, k, .inl (wg_f xb k y wt g)))] H → va_D A [(qh, .inr (3, [.ref qn, .ref qu, .ref qw])), (qn, .inl (cI, k, .inl (nb))), (qu, .inl (cI, k, .inl (su))), (qw, .inl (cI, k, .inl (wg_f xb k y wt g)))] → va_S A s.heap H locs → W p l e ({ frames := 3, cells := 0, slots := 0, locals := 68 }) s m ([.ref qh, .int (bI y)] : List Value).toArray below meth c H locs 0 0 (MQ below (sd_qv D [(qh, .inr (3, [.ref qn, .ref qu, .ref qw])), (qn, .inl (cI, k, .inl (nb))), (qu, .inl (cI, k, .inl (su))), (qw, .inl (cI, k, .inl (wg_f xb k y wt k)))] A) ([.ref qh, .int (bI y)] : List Value).toArray s 0 0 A) (F0 m 2 ls []) := by
    intro d
    induction d using Nat.strongRecOn with
    | _ d ih2 =>
    intro g ls H locs hd hg hl hP hD hS
    subst hd
    refine lv_iload_n hx hb d_H_weigh_2 rfl (lv_at hl 2 rfl) ?_
    refine lv_aload_n hx hb d_H_weigh_3 rfl (lv_at hl 0 rfl) ?_
    refine va_get (D := D) (ci := 3) (v := .ref qn) (C := R_H) (T := F_H) (N := 3) hx hb hts wl_H hown hK hP 0 rfl rfl 0 (by decide) (hts _ wf_H_7) (fun _ h9 => h9) rfl d_H_weigh_4 ?_
    refine va_alen hx hb hK hP 1 0 rfl rfl (v := nI (k)) rfl d_H_weigh_7 ?_
    refine lv_icmp_ge (tgt := 94) hx hb d_H_weigh_8 rfl (fun hc8 => ?_) (fun hc8 => ?_)
    · skip
      rw [nI_leI (by omega) (by omega)] at hc8
      have hgk : k = g := by omega
      subst hgk
      exact sd_vret hx hb hr hlk hP hS (Nat.le_of_ble_eq_true rfl) (Nat.le_of_ble_eq_true rfl) d_H_weigh_94
    · skip
      rw [nI_leI (by omega) (by omega)] at hc8
      refine lv_iconst (v := 1) hx hb d_H_weigh_11 (by decide) ?_
      refine sd_top (y := bI 1#8) (bI_1.symm) ?_
      refine lv_istore_n hx hb d_H_weigh_12 rfl hl (Nat.le_of_ble_eq_true rfl) (lv' := [(3, .int (bI 1#8)), (0, .ref qh), (1, .int (bI y)), (2, .int (nI (g)))]) rfl (fun ls hl => ?_)
      refine lv_iconst (v := 1) hx hb d_H_weigh_13 (by decide) ?_
      refine sd_top (y := bI 1#8) (bI_1.symm) ?_
      refine lv_istore hx hb d_H_weigh_14 hl (Nat.le_of_ble_eq_true rfl) (lv' := [(4, .int (bI 1#8)), (3, .int (bI 1#8)), (0, .ref qh), (1, .int (bI y)), (2, .int (nI (g)))]) rfl (fun ls hl => ?_)
      refine lv_iconst (v := 0) hx hb d_H_weigh_16 (by decide) ?_
      refine sd_top (y := nI 0) (rfl) ?_
      refine lv_istore hx hb d_H_weigh_17 hl (Nat.le_of_ble_eq_true rfl) (lv' := [(5, .int (nI 0)), (4, .int (bI 1#8)), (3, .int (bI 1#8)), (0, .ref qh), (1, .int (bI y)), (2, .int (nI (g)))]) rfl (fun ls hl => ?_)
      have hl := lv_sub hl (l' := [(0, .ref qh), (1, .int (bI y)), (2, .int (nI (g))), (3, .int (bI 1#8)), (4, .int (bI 1#8)), (5, .int (nI 0))]) [3, 4, 5, 2, 1, 0] rfl
      have loop19 : ∀ (d : Nat) (h : Nat) (ls : Array Slot) (H : Heap) (locs : List Loc), k - h = d → (h ≤ k) → lv_has ls 6 [(0, .ref qh), (1, .int (bI y)), (2, .int (nI (g))), (3, .int (bI (gf_N xb g y h))), (4, .int (bI (gf_N xb g (xb g) h))), (5, .int (nI (h)))] → va_P D cls [(qh, .inr (3, [.ref qn, .ref qu, .ref qw])), (qn, .inl (cI, k, .inl (nb))), (qu, .inl (cI, k, .inl (su))), (qw, .inl (cI, k, .inl (wg_f xb k y wt g)))] H → va_D A [(qh, .inr (3, [.ref qn, .ref qu, .ref qw])), (qn, .inl (cI, k, .inl (nb))), (qu, .inl (cI, k, .inl (su))), (qw, .inl (cI, k, .inl (wg_f xb k y wt g)))] → va_S A s.heap H locs → W p l e ({ frames := 3, cells := 0, slots := 0, locals := 68 }) s m ([.ref qh, .int (bI y)] : List Value).toArray below meth c H locs 0 0 (MQ below (sd_qv D [(qh, .inr (3, [.ref qn, .ref qu, .ref qw])), (qn, .inl (cI, k, .inl (nb))), (qu, .inl (cI, k, .inl (su))), (qw, .inl (cI, k, .inl (wg_f xb k y wt k)))] A) ([.ref qh, .int (bI y)] : List Value).toArray s 0 0 A) (F0 m 19 ls []) := by
        intro d
        induction d using Nat.strongRecOn with
        | _ d ih19 =>
        intro h ls H locs hd hh hl hP hD hS
        subst hd
        refine lv_iload hx hb d_H_weigh_19 (lv_at hl 5 rfl) ?_
        refine lv_aload_n hx hb d_H_weigh_21 rfl (lv_at hl 0 rfl) ?_
        refine va_get (D := D) (ci := 3) (v := .ref qn) (C := R_H) (T := F_H) (N := 3) hx hb hts wl_H hown hK hP 0 rfl rfl 0 (by decide) (hts _ wf_H_7) (fun _ h9 => h9) rfl d_H_weigh_22 ?_
        refine va_alen hx hb hK hP 1 0 rfl rfl (v := nI (k)) rfl d_H_weigh_25 ?_
        refine lv_icmp_ge (tgt := 76) hx hb d_H_weigh_26 rfl (fun hc26 => ?_) (fun hc26 => ?_)
        · skip
          rw [nI_leI (by omega) (by omega)] at hc26
          have hhk : k = h := by omega
          subst hhk
          refine lv_aload_n hx hb d_H_weigh_76 rfl (lv_at hl 0 rfl) ?_
          refine va_get (D := D) (ci := 3) (v := .ref qw) (C := R_H) (T := F_H) (N := 3) hx hb hts wl_H hown hK hP 0 rfl rfl 2 (by decide) (hts _ wf_H_16) (fun _ h9 => h9) rfl d_H_weigh_77 ?_
          refine lv_iload_n hx hb d_H_weigh_80 rfl (lv_at hl 2 rfl) ?_
          refine lv_iload_n hx hb d_H_weigh_81 rfl (lv_at hl 3 rfl) ?_
          refine lv_iload hx hb d_H_weigh_82 (lv_at hl 4 rfl) ?_
          refine sd_callSI (As := [.int (bI (gf_N xb g y k)), .int (bI (gf_N xb g (xb g) k))]) (rest := [.int (nI (g)), .ref qw]) (cx := []) (w1 := []) (c_B_quotient l D cI cZ cQ (gf_N xb g y k) (gf_N xb g (xb g) k)) ⟨wc_B_quotient, wm_H_25, wi_B, by decide, by decide, show (parseMethodDescriptor y_B_quotient.desc).map (fun d => d.parameters.length) = some 2 by decide +kernel⟩ ws_B_quotient hx hb hml hown hts hl.1 ⟨Nat.le_of_ble_eq_true rfl, Nat.le_of_ble_eq_true rfl⟩ ⟨Nat.le_of_ble_eq_true rfl, Nat.le_of_ble_eq_true rfl⟩ hK hP hD hS hA [] rfl (by decide) rfl rfl rfl (Nat.le_of_ble_eq_true rfl) d_H_weigh_84 (fun H locs hP hD hS => ?_)
          have hP : va_P D cls [(qh, .inr (3, [.ref qn, .ref qu, .ref qw])), (qn, .inl (cI, k, .inl (nb))), (qu, .inl (cI, k, .inl (su))), (qw, .inl (cI, k, .inl (wg_f xb k y wt g)))] H := hP
          have hD : va_D A [(qh, .inr (3, [.ref qn, .ref qu, .ref qw])), (qn, .inl (cI, k, .inl (nb))), (qu, .inl (cI, k, .inl (su))), (qw, .inl (cI, k, .inl (wg_f xb k y wt g)))] := hD
          refine sd_iast (j := g) hx hb hK hP hD hS 3 0 rfl rfl (by omega) (by omega) d_H_weigh_87 (fun H locs hP hD hS => ?_)
          have hP : va_P D cls [(qh, .inr (3, [.ref qn, .ref qu, .ref qw])), (qn, .inl (cI, k, .inl (nb))), (qu, .inl (cI, k, .inl (su))), (qw, .inl (cI, k, .inl (upd (wg_f xb k y wt g) (g) (bI (gf_m (gf_N xb g y k) (gf_i (gf_N xb g (xb g) k)))))))] H := hP
          have hD : va_D A [(qh, .inr (3, [.ref qn, .ref qu, .ref qw])), (qn, .inl (cI, k, .inl (nb))), (qu, .inl (cI, k, .inl (su))), (qw, .inl (cI, k, .inl (upd (wg_f xb k y wt g) (g) (bI (gf_m (gf_N xb g y k) (gf_i (gf_N xb g (xb g) k)))))))] := hD
          refine lv_iinc hx hb d_H_weigh_88 hl (k := 2) rfl (v := nI (g + 1)) (ii_1 _) (Nat.le_of_ble_eq_true rfl) (lv' := [(2, .int (nI (g + 1))), (0, .ref qh), (1, .int (bI y)), (3, .int (bI (gf_N xb g y k))), (4, .int (bI (gf_N xb g (xb g) k))), (5, .int (nI (k)))]) rfl (fun ls hl => ?_)
          refine lv_goto (tgt := 2) hx hb d_H_weigh_91 rfl ?_
          have hl := lv_sub hl (l' := [(0, .ref qh), (1, .int (bI y)), (2, .int (nI (g + 1)))]) [1, 2, 0] rfl
          rw [wg_S] at hP hD
          exact ih2 _ (by omega) (g + 1) ls _ _ rfl (by omega) hl hP hD hS
        · skip
          rw [nI_leI (by omega) (by omega)] at hc26
          refine lv_iload hx hb d_H_weigh_29 (lv_at hl 5 rfl) ?_
          refine lv_iload_n hx hb d_H_weigh_31 rfl (lv_at hl 2 rfl) ?_
          refine lv_icmp_eq (tgt := 70) hx hb d_H_weigh_32 rfl (fun hc32 => ?_) (fun hc32 => ?_)
          · skip
            have hgh : h = g := (nI_eq (by omega) (by omega)).mp hc32
            rw [gf_Ne (y := y) hgh] at hl
            rw [gf_Ne (y := xb g) hgh] at hl
            refine lv_iinc hx hb d_H_weigh_70 hl (k := 5) rfl (v := nI (h + 1)) (ii_1 _) (Nat.le_of_ble_eq_true rfl) (lv' := [(5, .int (nI (h + 1))), (0, .ref qh), (1, .int (bI y)), (2, .int (nI (g))), (3, .int (bI (gf_N xb g y (h + 1)))), (4, .int (bI (gf_N xb g (xb g) (h + 1))))]) rfl (fun ls hl => ?_)
            refine lv_goto (tgt := 19) hx hb d_H_weigh_73 rfl ?_
            have hl := lv_sub hl (l' := [(0, .ref qh), (1, .int (bI y)), (2, .int (nI (g))), (3, .int (bI (gf_N xb g y (h + 1)))), (4, .int (bI (gf_N xb g (xb g) (h + 1)))), (5, .int (nI (h + 1)))]) [1, 2, 3, 4, 5, 0] rfl
            exact ih19 _ (by omega) (h + 1) ls _ _ rfl (by omega) hl hP hD hS
          · skip
            have hgh : ¬ h = g := fun h9 => hc32 (by rw [h9])
            refine lv_iload_n hx hb d_H_weigh_35 rfl (lv_at hl 3 rfl) ?_
            refine lv_iload_n hx hb d_H_weigh_36 rfl (lv_at hl 1 rfl) ?_
            refine lv_aload_n hx hb d_H_weigh_37 rfl (lv_at hl 0 rfl) ?_
            refine va_get (D := D) (ci := 3) (v := .ref qn) (C := R_H) (T := F_H) (N := 3) hx hb hts wl_H hown hK hP 0 rfl rfl 0 (by decide) (hts _ wf_H_7) (fun _ h9 => h9) rfl d_H_weigh_38 ?_
            refine lv_iload hx hb d_H_weigh_41 (lv_at hl 5 rfl) ?_
            refine sd_iald (j := h) hx hb hK hP 1 0 rfl rfl (by omega) (by omega) d_H_weigh_43 ?_
            refine sd_top (y := bI (xb h)) (hnb h (by omega)) ?_
            refine lv_ixor hx hb d_H_weigh_44 ?_
            refine sd_top (y := bI (y ^^^ xb h)) (bI_xor _ _) ?_
            refine sd_callSI (As := [.int (bI (gf_N xb g y h)), .int (bI (y ^^^ xb h))]) (rest := []) (cx := []) (w1 := []) (c_B_product l D cI cZ cQ (gf_N xb g y h) (y ^^^ xb h)) ⟨wc_B_product, wm_H_19, wi_B, by decide, by decide, show (parseMethodDescriptor y_B_product.desc).map (fun d => d.parameters.length) = some 2 by decide +kernel⟩ ws_B_product hx hb hml hown hts hl.1 ⟨Nat.le_of_ble_eq_true rfl, Nat.le_of_ble_eq_true rfl⟩ ⟨Nat.le_of_ble_eq_true rfl, Nat.le_of_ble_eq_true rfl⟩ hK hP hD hS hA [] rfl (by decide) rfl rfl rfl (Nat.le_of_ble_eq_true rfl) d_H_weigh_45 (fun H locs hP hD hS => ?_)
            have hP : va_P D cls [(qh, .inr (3, [.ref qn, .ref qu, .ref qw])), (qn, .inl (cI, k, .inl (nb))), (qu, .inl (cI, k, .inl (su))), (qw, .inl (cI, k, .inl (wg_f xb k y wt g)))] H := hP
            have hD : va_D A [(qh, .inr (3, [.ref qn, .ref qu, .ref qw])), (qn, .inl (cI, k, .inl (nb))), (qu, .inl (cI, k, .inl (su))), (qw, .inl (cI, k, .inl (wg_f xb k y wt g)))] := hD
            refine sd_top (y := bI (gf_N xb g y (h + 1))) (by rw [gf_Nn hgh]) ?_
            refine lv_istore_n hx hb d_H_weigh_48 rfl hl (Nat.le_of_ble_eq_true rfl) (lv' := [(3, .int (bI (gf_N xb g y (h + 1)))), (0, .ref qh), (1, .int (bI y)), (2, .int (nI (g))), (4, .int (bI (gf_N xb g (xb g) h))), (5, .int (nI (h)))]) rfl (fun ls hl => ?_)
            refine lv_iload hx hb d_H_weigh_49 (lv_at hl 4 rfl) ?_
            refine lv_aload_n hx hb d_H_weigh_51 rfl (lv_at hl 1 rfl) ?_
            refine va_get (D := D) (ci := 3) (v := .ref qn) (C := R_H) (T := F_H) (N := 3) hx hb hts wl_H hown hK hP 0 rfl rfl 0 (by decide) (hts _ wf_H_7) (fun _ h9 => h9) rfl d_H_weigh_52 ?_
            refine lv_iload_n hx hb d_H_weigh_55 rfl (lv_at hl 3 rfl) ?_
            refine sd_iald (j := g) hx hb hK hP 1 0 rfl rfl (by omega) (by omega) d_H_weigh_56 ?_
            refine sd_top (y := bI (xb g)) (hnb g (by omega)) ?_
            refine lv_aload_n hx hb d_H_weigh_57 rfl (lv_at hl 1 rfl) ?_
            refine va_get (D := D) (ci := 3) (v := .ref qn) (C := R_H) (T := F_H) (N := 3) hx hb hts wl_H hown hK hP 0 rfl rfl 0 (by decide) (hts _ wf_H_7) (fun _ h9 => h9) rfl d_H_weigh_58 ?_
            refine lv_iload hx hb d_H_weigh_61 (lv_at hl 5 rfl) ?_
            refine sd_iald (j := h) hx hb hK hP 1 0 rfl rfl (by omega) (by omega) d_H_weigh_63 ?_
            refine sd_top (y := bI (xb h)) (hnb h (by omega)) ?_
            refine lv_ixor hx hb d_H_weigh_64 ?_
            refine sd_top (y := bI (xb g ^^^ xb h)) (bI_xor _ _) ?_
            refine sd_callSI (As := [.int (bI (gf_N xb g (xb g) h)), .int (bI (xb g ^^^ xb h))]) (rest := []) (cx := []) (w1 := []) (c_B_product l D cI cZ cQ (gf_N xb g (xb g) h) (xb g ^^^ xb h)) ⟨wc_B_product, wm_H_19, wi_B, by decide, by decide, show (parseMethodDescriptor y_B_product.desc).map (fun d => d.parameters.length) = some 2 by decide +kernel⟩ ws_B_product hx hb hml hown hts hl.1 ⟨Nat.le_of_ble_eq_true rfl, Nat.le_of_ble_eq_true rfl⟩ ⟨Nat.le_of_ble_eq_true rfl, Nat.le_of_ble_eq_true rfl⟩ hK hP hD hS hA [] rfl (by decide) rfl rfl rfl (Nat.le_of_ble_eq_true rfl) d_H_weigh_65 (fun H locs hP hD hS => ?_)
            have hP : va_P D cls [(qh, .inr (3, [.ref qn, .ref qu, .ref qw])), (qn, .inl (cI, k, .inl (nb))), (qu, .inl (cI, k, .inl (su))), (qw, .inl (cI, k, .inl (wg_f xb k y wt g)))] H := hP
            have hD : va_D A [(qh, .inr (3, [.ref qn, .ref qu, .ref qw])), (qn, .inl (cI, k, .inl (nb))), (qu, .inl (cI, k, .inl (su))), (qw, .inl (cI, k, .inl (wg_f xb k y wt g)))] := hD
            refine sd_top (y := bI (gf_N xb g (xb g) (h + 1))) (by rw [gf_Nn hgh]) ?_
            refine lv_istore hx hb d_H_weigh_68 hl (Nat.le_of_ble_eq_true rfl) (lv' := [(4, .int (bI (gf_N xb g (xb g) (h + 1)))), (3, .int (bI (gf_N xb g y (h + 1)))), (0, .ref qh), (1, .int (bI y)), (2, .int (nI (g))), (5, .int (nI (h)))]) rfl (fun ls hl => ?_)
            refine lv_iinc hx hb d_H_weigh_70 hl (k := 5) rfl (v := nI (h + 1)) (ii_1 _) (Nat.le_of_ble_eq_true rfl) (lv' := [(5, .int (nI (h + 1))), (4, .int (bI (gf_N xb g (xb g) (h + 1)))), (3, .int (bI (gf_N xb g y (h + 1)))), (0, .ref qh), (1, .int (bI y)), (2, .int (nI (g)))]) rfl (fun ls hl => ?_)
            refine lv_goto (tgt := 19) hx hb d_H_weigh_73 rfl ?_
            have hl := lv_sub hl (l' := [(0, .ref qh), (1, .int (bI y)), (2, .int (nI (g))), (3, .int (bI (gf_N xb g y (h + 1)))), (4, .int (bI (gf_N xb g (xb g) (h + 1)))), (5, .int (nI (h + 1)))]) [3, 4, 5, 2, 1, 0] rfl
            exact ih19 _ (by omega) (h + 1) ls _ _ rfl (by omega) hl hP hD hS
      exact loop19 _ (0) ls _ _ rfl (Nat.zero_le _) hl hP hD hS
  exact loop2 _ (0) ls _ _ rfl (Nat.zero_le _) hl hP hD hS
set_option maxHeartbeats 4000000 in
set_option maxRecDepth 100000 in
theorem c_H_clearSums (l : Launch) (D : va_G) (cI cZ cQ : ClassId) (qh : Nat) (qn : Nat) (qu : Nat) (qw : Nat) (k : Nat) (nb : Nat → Int32) (su : Nat → Int32) (wt : Nat → Int32) (hk : k < 2 ^ 30) : sd_V l D (tyL cI cZ cQ) y_H_clearSums b_H_clearSums 1 ({ frames := 1, cells := 0, slots := 0, locals := 23 }) [.ref qh] [(qh, .inr (3, [.ref qn, .ref qu, .ref qw])), (qn, .inl (cI, k, .inl (nb))), (qu, .inl (cI, k, .inl (su))), (qw, .inl (cI, k, .inl (wt)))] [(qh, .inr (3, [.ref qn, .ref qu, .ref qw])), (qn, .inl (cI, k, .inl (nb))), (qu, .inl (cI, k, .inl (ar_f 0 k su))), (qw, .inl (cI, k, .inl (wt)))] := by
  refine sd_ofV (by decide) (Nat.le_of_ble_eq_true rfl) ?_
  intro p e s m below meth c A ls hx hb hr hml hlk hown hts hK hP hD hA hS hl
  have hl : lv_has ls 1 [(0, .ref qh)] := hl
  refine lv_aload_n hx hb d_H_clearSums_0 rfl (lv_at hl 0 rfl) ?_
  refine va_get (D := D) (ci := 3) (v := .ref qu) (C := R_H) (T := F_H) (N := 3) hx hb hts wl_H hown hK hP 0 rfl rfl 1 (by decide) (hts _ wf_H_13) (fun _ h9 => h9) rfl d_H_clearSums_1 ?_
  refine lv_iconst (v := 0) hx hb d_H_clearSums_4 (by decide) ?_
  refine sd_callSV (As := [.ref qu, .int (0)]) (rest := []) (cx := [(qu, .inl (cI, k, .inl (su)))]) (w1 := [(qu, .inl (cI, k, .inl (ar_f 0 k su)))]) (c_A_fill l D cI cZ cQ (qu) (k) (su) (0) (by omega)) ⟨wc_A_fill, wm_H_32, wi_A, by decide, by decide, show (parseMethodDescriptor y_A_fill.desc).map (fun d => d.parameters.length) = some 2 by decide +kernel⟩ ws_A_fill hx hb hml hown hts hl.1 ⟨Nat.le_of_ble_eq_true rfl, Nat.le_of_ble_eq_true rfl⟩ ⟨Nat.le_of_ble_eq_true rfl, Nat.le_of_ble_eq_true rfl⟩ hK hP hD hS hA [2] rfl (by decide) rfl rfl rfl (Nat.le_of_ble_eq_true rfl) d_H_clearSums_5 (fun H locs hP hD hS => ?_)
  have hP : va_P D cls [(qh, .inr (3, [.ref qn, .ref qu, .ref qw])), (qn, .inl (cI, k, .inl (nb))), (qu, .inl (cI, k, .inl (ar_f 0 k su))), (qw, .inl (cI, k, .inl (wt)))] H := hP
  have hD : va_D A [(qh, .inr (3, [.ref qn, .ref qu, .ref qw])), (qn, .inl (cI, k, .inl (nb))), (qu, .inl (cI, k, .inl (ar_f 0 k su))), (qw, .inl (cI, k, .inl (wt)))] := hD
  exact sd_vret hx hb hr hlk hP hS (Nat.le_of_ble_eq_true rfl) (Nat.le_of_ble_eq_true rfl) d_H_clearSums_8
