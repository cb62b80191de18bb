theorem ii_sub (x : Int32) : x + Int32.ofInt (-1) = x - 1 := by rw [Int32.sub_eq_add_neg]; rfl
theorem nI_p1 {i : Nat} (hi : i < 2 ^ 31) : nI i - 1 < 0 ↔ i = 0 := by
  cases i with
  | zero => exact ⟨fun _ => rfl, fun _ => by decide⟩
  | succ k => rw [nI_pred]; exact ⟨fun h => absurd h (nI_pos (by omega)), fun h => by omega⟩
theorem ni_pred {c : Nat} (h : 0 < c) : nI c - 1 = nI (c - 1) := by
  obtain ⟨k, rfl⟩ : ∃ k, c = k + 1 := ⟨c - 1, by omega⟩
  exact nI_pred k
theorem d_B_product_0 : decode b_B_product 0 = .ok (.iconst 0, 1) := by decide +kernel
theorem d_B_product_1 : decode b_B_product 1 = .ok (.istore_n 2, 1) := by decide +kernel
theorem d_B_product_2 : decode b_B_product 2 = .ok (.iload_n 0, 1) := by decide +kernel
theorem d_B_product_3 : decode b_B_product 3 = .ok (.istore_n 3, 1) := by decide +kernel
theorem d_B_product_4 : decode b_B_product 4 = .ok (.iconst 0, 1) := by decide +kernel
theorem d_B_product_5 : decode b_B_product 5 = .ok (.istore 4, 2) := by decide +kernel
theorem d_B_product_7 : decode b_B_product 7 = .ok (.iload 4, 2) := by decide +kernel
theorem d_B_product_9 : decode b_B_product 9 = .ok (.bipush 8, 2) := by decide +kernel
theorem d_B_product_11 : decode b_B_product 11 = .ok (.if_icmp .ge 40, 3) := by decide +kernel
theorem d_B_product_14 : decode b_B_product 14 = .ok (.iload_n 1, 1) := by decide +kernel
theorem d_B_product_15 : decode b_B_product 15 = .ok (.iload 4, 2) := by decide +kernel
theorem d_B_product_17 : decode b_B_product 17 = .ok (.iushr, 1) := by decide +kernel
theorem d_B_product_18 : decode b_B_product 18 = .ok (.iconst 1, 1) := by decide +kernel
theorem d_B_product_19 : decode b_B_product 19 = .ok (.iand, 1) := by decide +kernel
theorem d_B_product_20 : decode b_B_product 20 = .ok (.iconst 1, 1) := by decide +kernel
theorem d_B_product_21 : decode b_B_product 21 = .ok (.if_icmp .ne 7, 3) := by decide +kernel
theorem d_B_product_24 : decode b_B_product 24 = .ok (.iload_n 2, 1) := by decide +kernel
theorem d_B_product_25 : decode b_B_product 25 = .ok (.iload_n 3, 1) := by decide +kernel
theorem d_B_product_26 : decode b_B_product 26 = .ok (.ixor, 1) := by decide +kernel
theorem d_B_product_27 : decode b_B_product 27 = .ok (.istore_n 2, 1) := by decide +kernel
theorem d_B_product_28 : decode b_B_product 28 = .ok (.iload_n 3, 1) := by decide +kernel
theorem d_B_product_29 : decode b_B_product 29 = .ok (.iconst 1, 1) := by decide +kernel
theorem d_B_product_30 : decode b_B_product 30 = .ok (.ishl, 1) := by decide +kernel
theorem d_B_product_31 : decode b_B_product 31 = .ok (.istore_n 3, 1) := by decide +kernel
theorem d_B_product_32 : decode b_B_product 32 = .ok (.iload_n 3, 1) := by decide +kernel
theorem d_B_product_33 : decode b_B_product 33 = .ok (.sipush 256, 3) := by decide +kernel
theorem d_B_product_36 : decode b_B_product 36 = .ok (.if_icmp .lt 9, 3) := by decide +kernel
theorem d_B_product_39 : decode b_B_product 39 = .ok (.iload_n 3, 1) := by decide +kernel
theorem d_B_product_40 : decode b_B_product 40 = .ok (.sipush 283, 3) := by decide +kernel
theorem d_B_product_43 : decode b_B_product 43 = .ok (.ixor, 1) := by decide +kernel
theorem d_B_product_44 : decode b_B_product 44 = .ok (.istore_n 3, 1) := by decide +kernel
theorem d_B_product_45 : decode b_B_product 45 = .ok (.iinc 4 1, 3) := by decide +kernel
theorem d_B_product_48 : decode b_B_product 48 = .ok (.goto (-41), 3) := by decide +kernel
theorem d_B_product_51 : decode b_B_product 51 = .ok (.iload_n 2, 1) := by decide +kernel
theorem d_B_product_52 : decode b_B_product 52 = .ok (.ireturn, 1) := by decide +kernel
theorem d_B_inverse_0 : decode b_B_inverse 0 = .ok (.iconst 1, 1) := by decide +kernel
theorem d_B_inverse_1 : decode b_B_inverse 1 = .ok (.istore_n 1, 1) := by decide +kernel
theorem d_B_inverse_2 : decode b_B_inverse 2 = .ok (.iload_n 0, 1) := by decide +kernel
theorem d_B_inverse_3 : decode b_B_inverse 3 = .ok (.istore_n 2, 1) := by decide +kernel
theorem d_B_inverse_4 : decode b_B_inverse 4 = .ok (.iconst 1, 1) := by decide +kernel
theorem d_B_inverse_5 : decode b_B_inverse 5 = .ok (.istore_n 3, 1) := by decide +kernel
theorem d_B_inverse_6 : decode b_B_inverse 6 = .ok (.iload_n 3, 1) := by decide +kernel
theorem d_B_inverse_7 : decode b_B_inverse 7 = .ok (.bipush 8, 2) := by decide +kernel
theorem d_B_inverse_9 : decode b_B_inverse 9 = .ok (.if_icmp .ge 21, 3) := by decide +kernel
theorem d_B_inverse_12 : decode b_B_inverse 12 = .ok (.iload_n 2, 1) := by decide +kernel
theorem d_B_inverse_13 : decode b_B_inverse 13 = .ok (.iload_n 2, 1) := by decide +kernel
theorem d_B_inverse_14 : decode b_B_inverse 14 = .ok (.invokestatic 13, 3) := by decide +kernel
theorem d_B_inverse_17 : decode b_B_inverse 17 = .ok (.istore_n 2, 1) := by decide +kernel
theorem d_B_inverse_18 : decode b_B_inverse 18 = .ok (.iload_n 1, 1) := by decide +kernel
theorem d_B_inverse_19 : decode b_B_inverse 19 = .ok (.iload_n 2, 1) := by decide +kernel
theorem d_B_inverse_20 : decode b_B_inverse 20 = .ok (.invokestatic 13, 3) := by decide +kernel
theorem d_B_inverse_23 : decode b_B_inverse 23 = .ok (.istore_n 1, 1) := by decide +kernel
theorem d_B_inverse_24 : decode b_B_inverse 24 = .ok (.iinc 3 1, 3) := by decide +kernel
theorem d_B_inverse_27 : decode b_B_inverse 27 = .ok (.goto (-21), 3) := by decide +kernel
theorem d_B_inverse_30 : decode b_B_inverse 30 = .ok (.iload_n 1, 1) := by decide +kernel
theorem d_B_inverse_31 : decode b_B_inverse 31 = .ok (.ireturn, 1) := by decide +kernel
theorem d_B_quotient_0 : decode b_B_quotient 0 = .ok (.iload_n 0, 1) := by decide +kernel
theorem d_B_quotient_1 : decode b_B_quotient 1 = .ok (.iload_n 1, 1) := by decide +kernel
theorem d_B_quotient_2 : decode b_B_quotient 2 = .ok (.invokestatic 9, 3) := by decide +kernel
theorem d_B_quotient_5 : decode b_B_quotient 5 = .ok (.invokestatic 13, 3) := by decide +kernel
theorem d_B_quotient_8 : decode b_B_quotient 8 = .ok (.ireturn, 1) := by decide +kernel
theorem d_B_valueAt_0 : decode b_B_valueAt 0 = .ok (.iconst 0, 1) := by decide +kernel
theorem d_B_valueAt_1 : decode b_B_valueAt 1 = .ok (.istore_n 2, 1) := by decide +kernel
theorem d_B_valueAt_2 : decode b_B_valueAt 2 = .ok (.aload_n 0, 1) := by decide +kernel
theorem d_B_valueAt_3 : decode b_B_valueAt 3 = .ok (.arraylength, 1) := by decide +kernel
theorem d_B_valueAt_4 : decode b_B_valueAt 4 = .ok (.iconst 1, 1) := by decide +kernel
theorem d_B_valueAt_5 : decode b_B_valueAt 5 = .ok (.isub, 1) := by decide +kernel
theorem d_B_valueAt_6 : decode b_B_valueAt 6 = .ok (.istore_n 3, 1) := by decide +kernel
theorem d_B_valueAt_7 : decode b_B_valueAt 7 = .ok (.iload_n 3, 1) := by decide +kernel
theorem d_B_valueAt_8 : decode b_B_valueAt 8 = .ok (.ifCond .lt 19, 3) := by decide +kernel
theorem d_B_valueAt_11 : decode b_B_valueAt 11 = .ok (.iload_n 2, 1) := by decide +kernel
theorem d_B_valueAt_12 : decode b_B_valueAt 12 = .ok (.iload_n 1, 1) := by decide +kernel
theorem d_B_valueAt_13 : decode b_B_valueAt 13 = .ok (.invokestatic 13, 3) := by decide +kernel
theorem d_B_valueAt_16 : decode b_B_valueAt 16 = .ok (.aload_n 0, 1) := by decide +kernel
theorem d_B_valueAt_17 : decode b_B_valueAt 17 = .ok (.iload_n 3, 1) := by decide +kernel
theorem d_B_valueAt_18 : decode b_B_valueAt 18 = .ok (.iaload, 1) := by decide +kernel
theorem d_B_valueAt_19 : decode b_B_valueAt 19 = .ok (.ixor, 1) := by decide +kernel
theorem d_B_valueAt_20 : decode b_B_valueAt 20 = .ok (.istore_n 2, 1) := by decide +kernel
theorem d_B_valueAt_21 : decode b_B_valueAt 21 = .ok (.iinc 3 (-1), 3) := by decide +kernel
theorem d_B_valueAt_24 : decode b_B_valueAt 24 = .ok (.goto (-17), 3) := by decide +kernel
theorem d_B_valueAt_27 : decode b_B_valueAt 27 = .ok (.iload_n 2, 1) := by decide +kernel
theorem d_B_valueAt_28 : decode b_B_valueAt 28 = .ok (.ireturn, 1) := by decide +kernel
set_option maxHeartbeats 4000000 in
set_option maxRecDepth 100000 in
/-- the product of two bytes -/
theorem c_B_product (l : Launch) (D : va_G) (cI cZ cQ : ClassId) (a : BitVec 8) (b : BitVec 8) : sd_I l D (tyL cI cZ cQ) y_B_product b_B_product 5 (.int) ({ frames := 0, cells := 0, slots := 0, locals := 0 }) [.int (bI a), .int (bI b)] [] (bI (gf_m a b)) [] := by
  refine sd_ofI (by decide) (Nat.le_of_ble_eq_true rfl) ?_
  intro p e s m below meth c A ls hx hb hr hml hlk hown hts hK hP hD hA hS hl
  have hl : lv_has ls 5 [(0, .int (bI a)), (1, .int (bI b))] := hl
  refine lv_iconst (v := 0) hx hb d_B_product_0 (by decide) ?_
  refine sd_top (y := bI 0#8) (bI_0.symm) ?_
  refine lv_istore_n hx hb d_B_product_1 rfl hl (Nat.le_of_ble_eq_true rfl) (lv' := [(2, .int (bI 0#8)), (0, .int (bI a)), (1, .int (bI b))]) rfl (fun ls hl => ?_)
  refine lv_iload_n hx hb d_B_product_2 rfl (lv_at hl 1 rfl) ?_
  refine lv_istore_n hx hb d_B_product_3 rfl hl (Nat.le_of_ble_eq_true rfl) (lv' := [(3, .int (bI a)), (2, .int (bI 0#8)), (0, .int (bI a)), (1, .int (bI b))]) rfl (fun ls hl => ?_)
  refine lv_iconst (v := 0) hx hb d_B_product_4 (by decide) ?_
  refine sd_top (y := nI 0) (rfl) ?_
  refine lv_istore hx hb d_B_product_5 hl (Nat.le_of_ble_eq_true rfl) (lv' := [(4, .int (nI 0)), (3, .int (bI a)), (2, .int (bI 0#8)), (0, .int (bI a)), (1, .int (bI b))]) rfl (fun ls hl => ?_)
  have hl := lv_sub hl (l' := [(0, .int (bI a)), (1, .int (bI b)), (2, .int (bI 0#8)), (3, .int (bI a)), (4, .int (nI 0))]) [3, 4, 2, 1, 0] rfl
  have loop7 : ∀ (d : Nat) (j : Nat) (u : BitVec 8) (t : BitVec 8) (ls : Array Slot) (H : Heap) (locs : List Loc), 8 - j = d → (j ≤ 8) → (gf_c b j u t = gf_m a b) → lv_has ls 5 [(0, .int (bI a)), (1, .int (bI b)), (2, .int (bI u)), (3, .int (bI t)), (4, .int (nI (j)))] → va_P D cls [] H → va_D A [] → va_S A s.heap H locs → W p l e ({ frames := 0, cells := 0, slots := 0, locals := 0 }) s m ([.int (bI a), .int (bI b)] : List Value).toArray below meth c H locs 0 0 (MQ below (sd_qi D (bI (gf_m a b)) [] A) ([.int (bI a), .int (bI b)] : List Value).toArray s 0 0 A) (F0 m 7 ls []) := by
    intro d
    induction d using Nat.strongRecOn with
    | _ d ih7 =>
    intro j u t ls H locs hd hj hu hl hP hD hS
    subst hd
    refine lv_iload hx hb d_B_product_7 (lv_at hl 4 rfl) ?_
    refine lv_bipush (v := 8) hx hb d_B_product_9 (by decide) ?_
    refine lv_icmp_ge (tgt := 51) hx hb d_B_product_11 rfl (fun hc11 => ?_) (fun hc11 => ?_)
    · skip
      have hj8 : j = 8 := by
        rw [show (8 : Int32) = nI 8 from rfl, nI_leI (by omega) (by omega)] at hc11
        omega
      subst hj8
      rw [gf_c8] at hu
      refine lv_iload_n hx hb d_B_product_51 rfl (lv_at hl 2 rfl) ?_
      exact sd_iret hx hb hr hlk hP hS (Nat.le_of_ble_eq_true rfl) (Nat.le_of_ble_eq_true rfl) (by rw [hu]) d_B_product_52
    · skip
      have hj8 : j < 8 := by
        rw [show (8 : Int32) = nI 8 from rfl, nI_leI (by omega) (by omega)] at hc11
        omega
      have join28 : ∀ (u2 : BitVec 8) (ls : Array Slot) (H : Heap) (locs : List Loc), (u2 = if b.getLsbD j = true then u ^^^ t else u) → lv_has ls 5 [(0, .int (bI a)), (1, .int (bI b)), (2, .int (bI u2)), (3, .int (bI t)), (4, .int (nI (j)))] → va_P D cls [] H → va_D A [] → va_S A s.heap H locs → W p l e ({ frames := 0, cells := 0, slots := 0, locals := 0 }) s m ([.int (bI a), .int (bI b)] : List Value).toArray below meth c H locs 0 0 (MQ below (sd_qi D (bI (gf_m a b)) [] A) ([.int (bI a), .int (bI b)] : List Value).toArray s 0 0 A) (F0 m 28 ls []) := by
        intro u2 ls H locs h2 hl hP hD hS
        have hn : gf_c b (j + 1) u2 (gf_x t) = gf_m a b := by rw [h2, gf_cS (by omega)]; exact hu
        refine lv_iload_n hx hb d_B_product_28 rfl (lv_at hl 3 rfl) ?_
        refine lv_iconst (v := 1) hx hb d_B_product_29 (by decide) ?_
        refine lv_ishl hx hb d_B_product_30 ?_
        refine lv_istore_n hx hb d_B_product_31 rfl hl (Nat.le_of_ble_eq_true rfl) (lv' := [(3, .int ((bI t) <<< ((1) &&& 31))), (0, .int (bI a)), (1, .int (bI b)), (2, .int (bI u2)), (4, .int (nI (j)))]) rfl (fun ls hl => ?_)
        refine lv_iload_n hx hb d_B_product_32 rfl (lv_at hl 0 rfl) ?_
        refine lv_sipush (v := 256) hx hb d_B_product_33 (by decide) ?_
        refine lv_icmp_lt (tgt := 45) hx hb d_B_product_36 rfl (fun hc36 => ?_) (fun hc36 => ?_)
        · skip
          rw [bI_xt1 hc36] at hl
          refine lv_iinc hx hb d_B_product_45 hl (k := 4) rfl (v := nI (j + 1)) (ii_1 _) (Nat.le_of_ble_eq_true rfl) (lv' := [(4, .int (nI (j + 1))), (3, .int (bI (gf_x t))), (0, .int (bI a)), (1, .int (bI b)), (2, .int (bI u2))]) rfl (fun ls hl => ?_)
          refine lv_goto (tgt := 7) hx hb d_B_product_48 rfl ?_
          have hl := lv_sub hl (l' := [(0, .int (bI a)), (1, .int (bI b)), (2, .int (bI u2)), (3, .int (bI (gf_x t))), (4, .int (nI (j + 1)))]) [2, 3, 4, 1, 0] rfl
          exact ih7 _ (by omega) (j + 1) _ _ ls _ _ rfl (by omega) (hn) hl hP hD hS
        · skip
          refine lv_iload_n hx hb d_B_product_39 rfl (lv_at hl 0 rfl) ?_
          refine lv_sipush (v := 283) hx hb d_B_product_40 (by decide) ?_
          refine lv_ixor hx hb d_B_product_43 ?_
          refine sd_top (y := bI (gf_x t)) (bI_xt2 hc36) ?_
          refine lv_istore_n hx hb d_B_product_44 rfl hl (Nat.le_of_ble_eq_true rfl) (lv' := [(3, .int (bI (gf_x t))), (0, .int (bI a)), (1, .int (bI b)), (2, .int (bI u2)), (4, .int (nI (j)))]) rfl (fun ls hl => ?_)
          refine lv_iinc hx hb d_B_product_45 hl (k := 4) rfl (v := nI (j + 1)) (ii_1 _) (Nat.le_of_ble_eq_true rfl) (lv' := [(4, .int (nI (j + 1))), (3, .int (bI (gf_x t))), (0, .int (bI a)), (1, .int (bI b)), (2, .int (bI u2))]) rfl (fun ls hl => ?_)
          refine lv_goto (tgt := 7) hx hb d_B_product_48 rfl ?_
          have hl := lv_sub hl (l' := [(0, .int (bI a)), (1, .int (bI b)), (2, .int (bI u2)), (3, .int (bI (gf_x t))), (4, .int (nI (j + 1)))]) [2, 3, 4, 1, 0] rfl
          exact ih7 _ (by omega) (j + 1) _ _ ls _ _ rfl (by omega) (hn) hl hP hD hS
      refine lv_iload_n hx hb d_B_product_14 rfl (lv_at hl 1 rfl) ?_
      refine lv_iload hx hb d_B_product_15 (lv_at hl 4 rfl) ?_
      refine lv_iushr hx hb d_B_product_17 rfl ?_
      refine lv_iconst (v := 1) hx hb d_B_product_18 (by decide) ?_
      refine lv_iand hx hb d_B_product_19 ?_
      refine lv_iconst (v := 1) hx hb d_B_product_20 (by decide) ?_
      refine lv_icmp_ne (tgt := 28) hx hb d_B_product_21 rfl (fun hc21 => ?_) (fun hc21 => ?_)
      · skip
        have hq : u = if b.getLsbD j = true then u ^^^ t else u := by rw [if_neg (fun h => hc21 ((bI_bit b j hj8).mpr h))]
        have hl := lv_sub hl (l' := [(0, .int (bI a)), (1, .int (bI b)), (2, .int (bI u)), (3, .int (bI t)), (4, .int (nI (j)))]) [0, 1, 2, 3, 4] rfl
        exact join28 _ ls _ _ (hq) hl hP hD hS
      · skip
        have hq : u ^^^ t = if b.getLsbD j = true then u ^^^ t else u := by rw [if_pos ((bI_bit b j hj8).mp hc21)]
        refine lv_iload_n hx hb d_B_product_24 rfl (lv_at hl 2 rfl) ?_
        refine lv_iload_n hx hb d_B_product_25 rfl (lv_at hl 3 rfl) ?_
        refine lv_ixor hx hb d_B_product_26 ?_
        refine sd_top (y := bI (u ^^^ t)) (bI_xor u t) ?_
        refine lv_istore_n hx hb d_B_product_27 rfl hl (Nat.le_of_ble_eq_true rfl) (lv' := [(2, .int (bI (u ^^^ t))), (0, .int (bI a)), (1, .int (bI b)), (3, .int (bI t)), (4, .int (nI (j)))]) rfl (fun ls hl => ?_)
        have hl := lv_sub hl (l' := [(0, .int (bI a)), (1, .int (bI b)), (2, .int (bI (u ^^^ t))), (3, .int (bI t)), (4, .int (nI (j)))]) [1, 2, 0, 3, 4] rfl
        exact join28 _ ls _ _ (hq) hl hP hD hS
  exact loop7 _ (0) (0#8) (a) ls _ _ rfl (by omega) (gf_c0 a b) hl hP hD hS
set_option maxHeartbeats 4000000 in
set_option maxRecDepth 100000 in
/-- the inverse of a byte (0 of 0) -/
theorem c_B_inverse (l : Launch) (D : va_G) (cI cZ cQ : ClassId) (b : BitVec 8) : sd_I l D (tyL cI cZ cQ) y_B_inverse b_B_inverse 4 (.int) ({ frames := 1, cells := 0, slots := 0, locals := 24 }) [.int (bI b)] [] (bI (gf_i b)) [] := by
  refine sd_ofI (by decide) (Nat.le_of_ble_eq_true rfl) ?_
  intro p e s m below meth c A ls hx hb hr hml hlk hown hts hK hP hD hA hS hl
  have hl : lv_has ls 4 [(0, .int (bI b))] := hl
  refine lv_iconst (v := 1) hx hb d_B_inverse_0 (by decide) ?_
  refine sd_top (y := bI 1#8) (bI_1.symm) ?_
  refine lv_istore_n hx hb d_B_inverse_1 rfl hl (Nat.le_of_ble_eq_true rfl) (lv' := [(1, .int (bI 1#8)), (0, .int (bI b))]) rfl (fun ls hl => ?_)
  refine lv_iload_n hx hb d_B_inverse_2 rfl (lv_at hl 1 rfl) ?_
  refine lv_istore_n hx hb d_B_inverse_3 rfl hl (Nat.le_of_ble_eq_true rfl) (lv' := [(2, .int (bI b)), (1, .int (bI 1#8)), (0, .int (bI b))]) rfl (fun ls hl => ?_)
  refine lv_iconst (v := nI 1) hx hb d_B_inverse_4 (by decide) ?_
  refine lv_istore_n hx hb d_B_inverse_5 rfl hl (Nat.le_of_ble_eq_true rfl) (lv' := [(3, .int (nI 1)), (2, .int (bI b)), (1, .int (bI 1#8)), (0, .int (bI b))]) rfl (fun ls hl => ?_)
  have hl := lv_sub hl (l' := [(0, .int (bI b)), (1, .int (bI 1#8)), (2, .int (bI b)), (3, .int (nI 1))]) [3, 2, 1, 0] rfl
  have loop6 : ∀ (d : Nat) (j : Nat) (r : BitVec 8) (q : BitVec 8) (ls : Array Slot) (H : Heap) (locs : List Loc), 8 - j = d → (1 ≤ j) → (j ≤ 8) → (gf_iA (8 - j) r q = gf_i b) → lv_has ls 4 [(0, .int (bI b)), (1, .int (bI r)), (2, .int (bI q)), (3, .int (nI (j)))] → va_P D cls [] H → va_D A [] → va_S A s.heap H locs → W p l e ({ frames := 1, cells := 0, slots := 0, locals := 24 }) s m ([.int (bI b)] : List Value).toArray below meth c H locs 0 0 (MQ below (sd_qi D (bI (gf_i b)) [] A) ([.int (bI b)] : List Value).toArray s 0 0 A) (F0 m 6 ls []) := by
    intro d
    induction d using Nat.strongRecOn with
    | _ d ih6 =>
    intro j r q ls H locs hd h1 hj hi hl hP hD hS
    subst hd
    refine lv_iload_n hx hb d_B_inverse_6 rfl (lv_at hl 3 rfl) ?_
    refine lv_bipush (v := nI 8) hx hb d_B_inverse_7 (by decide) ?_
    refine lv_icmp_ge (tgt := 30) hx hb d_B_inverse_9 rfl (fun hc9 => ?_) (fun hc9 => ?_)
    · skip
      have hj8 : j = 8 := by
        rw [nI_leI (by omega) (by omega)] at hc9
        omega
      subst hj8
      refine lv_iload_n hx hb d_B_inverse_30 rfl (lv_at hl 1 rfl) ?_
      exact sd_iret hx hb hr hlk hP hS (Nat.le_of_ble_eq_true rfl) (Nat.le_of_ble_eq_true rfl) (by rw [← hi]; rfl) d_B_inverse_31
    · skip
      have hj8 : j < 8 := by
        rw [nI_leI (by omega) (by omega)] at hc9
        omega
      refine lv_iload_n hx hb d_B_inverse_12 rfl (lv_at hl 2 rfl) ?_
      refine lv_iload_n hx hb d_B_inverse_13 rfl (lv_at hl 2 rfl) ?_
      refine sd_callSI (As := [.int (bI q), .int (bI q)]) (rest := []) (cx := []) (w1 := []) (c_B_product l D cI cZ cQ (q) (q)) ⟨wc_B_product, wm_B_13, wi_B, by decide, by decide, show (parseMethodDescriptor y_B_product.desc).map (fun d => d.parameters.length) = some 2 by decide +kernel⟩ ws_B_product hx hb hml hown hts hl.1 ⟨Nat.le_of_ble_eq_true rfl, Nat.le_of_ble_eq_true rfl⟩ ⟨Nat.le_of_ble_eq_true rfl, Nat.le_of_ble_eq_true rfl⟩ hK hP hD hS hA [] rfl (by decide) rfl rfl rfl (Nat.le_of_ble_eq_true rfl) d_B_inverse_14 (fun H locs hP hD hS => ?_)
      have hP : va_P D cls [] H := hP
      have hD : va_D A [] := hD
      refine lv_istore_n hx hb d_B_inverse_17 rfl hl (Nat.le_of_ble_eq_true rfl) (lv' := [(2, .int (bI (gf_m q q))), (0, .int (bI b)), (1, .int (bI r)), (3, .int (nI (j)))]) rfl (fun ls hl => ?_)
      refine lv_iload_n hx hb d_B_inverse_18 rfl (lv_at hl 2 rfl) ?_
      refine lv_iload_n hx hb d_B_inverse_19 rfl (lv_at hl 0 rfl) ?_
      refine sd_callSI (As := [.int (bI r), .int (bI (gf_m q q))]) (rest := []) (cx := []) (w1 := []) (c_B_product l D cI cZ cQ (r) (gf_m q q)) ⟨wc_B_product, wm_B_13, wi_B, by decide, by decide, show (parseMethodDescriptor y_B_product.desc).map (fun d => d.parameters.length) = some 2 by decide +kernel⟩ ws_B_product hx hb hml hown hts hl.1 ⟨Nat.le_of_ble_eq_true rfl, Nat.le_of_ble_eq_true rfl⟩ ⟨Nat.le_of_ble_eq_true rfl, Nat.le_of_ble_eq_true rfl⟩ hK hP hD hS hA [] rfl (by decide) rfl rfl rfl (Nat.le_of_ble_eq_true rfl) d_B_inverse_20 (fun H locs hP hD hS => ?_)
      have hP : va_P D cls [] H := hP
      have hD : va_D A [] := hD
      refine lv_istore_n hx hb d_B_inverse_23 rfl hl (Nat.le_of_ble_eq_true rfl) (lv' := [(1, .int (bI (gf_m r (gf_m q q)))), (2, .int (bI (gf_m q q))), (0, .int (bI b)), (3, .int (nI (j)))]) rfl (fun ls hl => ?_)
      refine lv_iinc hx hb d_B_inverse_24 hl (k := 3) rfl (v := nI (j + 1)) (ii_1 _) (Nat.le_of_ble_eq_true rfl) (lv' := [(3, .int (nI (j + 1))), (1, .int (bI (gf_m r (gf_m q q)))), (2, .int (bI (gf_m q q))), (0, .int (bI b))]) rfl (fun ls hl => ?_)
      refine lv_goto (tgt := 6) hx hb d_B_inverse_27 rfl ?_
      have hl := lv_sub hl (l' := [(0, .int (bI b)), (1, .int (bI (gf_m r (gf_m q q)))), (2, .int (bI (gf_m q q))), (3, .int (nI (j + 1)))]) [3, 1, 2, 0] rfl
      exact ih6 _ (by omega) (j + 1) _ _ ls _ _ rfl (by omega) (by omega) (by rw [← hi, show 8 - j = (8 - (j + 1)) + 1 by omega]; rfl) hl hP hD hS
  exact loop6 _ (1) (1#8) (b) ls _ _ rfl (by omega) (by omega) (rfl) hl hP hD hS
set_option maxHeartbeats 4000000 in
set_option maxRecDepth 100000 in
/-- the quotient of two bytes -/
theorem c_B_quotient (l : Launch) (D : va_G) (cI cZ cQ : ClassId) (a : BitVec 8) (b : BitVec 8) : sd_I l D (tyL cI cZ cQ) y_B_quotient b_B_quotient 2 (.int) ({ frames := 2, cells := 0, slots := 0, locals := 47 }) [.int (bI a), .int (bI b)] [] (bI (gf_m a (gf_i b))) [] := by
  refine sd_ofI (by decide) (Nat.le_of_ble_eq_true rfl) ?_
  intro p e s m below meth c A ls hx hb hr hml hlk hown hts hK hP hD hA hS hl
  have hl : lv_has ls 2 [(0, .int (bI a)), (1, .int (bI b))] := hl
  refine lv_iload_n hx hb d_B_quotient_0 rfl (lv_at hl 0 rfl) ?_
  refine lv_iload_n hx hb d_B_quotient_1 rfl (lv_at hl 1 rfl) ?_
  refine sd_callSI (As := [.int (bI b)]) (rest := [.int (bI a)]) (cx := []) (w1 := []) (c_B_inverse l D cI cZ cQ (b)) ⟨wc_B_inverse, wm_B_9, wi_B, by decide, by decide, show (parseMethodDescriptor y_B_inverse.desc).map (fun d => d.parameters.length) = some 1 by decide +kernel⟩ ws_B_inverse hx hb hml hown hts hl.1 ⟨Nat.le_of_ble_eq_true rfl, Nat.le_of_ble_eq_true rfl⟩ ⟨Nat.le_of_ble_eq_true rfl, Nat.le_of_ble_eq_true rfl⟩ hK hP hD hS hA [] rfl (by decide) rfl rfl rfl (Nat.le_of_ble_eq_true rfl) d_B_quotient_2 (fun H locs hP hD hS => ?_)
  have hP : va_P D cls [] H := hP
  have hD : va_D A [] := hD
  refine sd_callSI (As := [.int (bI a), .int (bI (gf_i b))]) (rest := []) (cx := []) (w1 := []) (c_B_product l D cI cZ cQ (a) (gf_i b)) ⟨wc_B_product, wm_B_13, wi_B, by decide, by decide, show (parseMethodDescriptor y_B_product.desc).map (fun d => d.parameters.length) = some 2 by decide +kernel⟩ ws_B_product hx hb hml hown hts hl.1 ⟨Nat.le_of_ble_eq_true rfl, Nat.le_of_ble_eq_true rfl⟩ ⟨Nat.le_of_ble_eq_true rfl, Nat.le_of_ble_eq_true rfl⟩ hK hP hD hS hA [] rfl (by decide) rfl rfl rfl (Nat.le_of_ble_eq_true rfl) d_B_quotient_5 (fun H locs hP hD hS => ?_)
  have hP : va_P D cls [] H := hP
  have hD : va_D A [] := hD
  exact sd_iret hx hb hr hlk hP hS (Nat.le_of_ble_eq_true rfl) (Nat.le_of_ble_eq_true rfl) (rfl) d_B_quotient_8
set_option maxHeartbeats 4000000 in
set_option maxRecDepth 100000 in
/-- the value of a polynomial, by Horner -/
theorem c_B_valueAt (l : Launch) (D : va_G) (cI cZ cQ : ClassId) (ha : Nat) (n : Nat) (co : Nat → Int32) (cb : Nat → BitVec 8) (x : BitVec 8) (hn : n < 2 ^ 31) (hco : ∀ j, j < n → co j = bI (cb j)) : sd_I l D (tyL cI cZ cQ) y_B_valueAt b_B_valueAt 4 (.int) ({ frames := 1, cells := 0, slots := 0, locals := 24 }) [.ref ha, .int (bI x)] [(ha, .inl (cI, n, .inl (co)))] (bI (gf_h cb x n 0#8)) [(ha, .inl (cI, n, .inl (co)))] := by
  refine sd_ofI (by decide) (Nat.le_of_ble_eq_true rfl) ?_
  intro p e s m below meth c A ls hx hb hr hml hlk hown hts hK hP hD hA hS hl
  have hl : lv_has ls 4 [(0, .ref ha), (1, .int (bI x))] := hl
  refine lv_iconst (v := 0) hx hb d_B_valueAt_0 (by decide) ?_
  refine sd_top (y := bI 0#8) (bI_0.symm) ?_
  refine lv_istore_n hx hb d_B_valueAt_1 rfl hl (Nat.le_of_ble_eq_true rfl) (lv' := [(2, .int (bI 0#8)), (0, .ref ha), (1, .int (bI x))]) rfl (fun ls hl => ?_)
  refine lv_aload_n hx hb d_B_valueAt_2 rfl (lv_at hl 1 rfl) ?_
  refine va_alen hx hb hK hP 0 0 rfl rfl (v := nI (n)) rfl d_B_valueAt_3 ?_
  refine lv_iconst (v := 1) hx hb d_B_valueAt_4 (by decide) ?_
  refine lv_isub hx hb d_B_valueAt_5 ?_
  refine lv_istore_n hx hb d_B_valueAt_6 rfl hl (Nat.le_of_ble_eq_true rfl) (lv' := [(3, .int ((nI (n)) - (1))), (2, .int (bI 0#8)), (0, .ref ha), (1, .int (bI x))]) rfl (fun ls hl => ?_)
  have hl := lv_sub hl (l' := [(0, .ref ha), (1, .int (bI x)), (2, .int (bI 0#8)), (3, .int ((nI (n)) - (1)))]) [2, 3, 1, 0] rfl
  have loop7 : ∀ (d : Nat) (i : Nat) (v : BitVec 8) (ls : Array Slot) (H : Heap) (locs : List Loc), i = d → (i ≤ n) → (gf_h cb x i v = gf_h cb x n 0#8) → lv_has ls 4 [(0, .ref ha), (1, .int (bI x)), (2, .int (bI v)), (3, .int (nI (i) - 1))] → va_P D cls [(ha, .inl (cI, n, .inl (co)))] H → va_D A [(ha, .inl (cI, n, .inl (co)))] → va_S A s.heap H locs → W p l e ({ frames := 1, cells := 0, slots := 0, locals := 24 }) s m ([.ref ha, .int (bI x)] : List Value).toArray below meth c H locs 0 0 (MQ below (sd_qi D (bI (gf_h cb x n 0#8)) [(ha, .inl (cI, n, .inl (co)))] A) ([.ref ha, .int (bI x)] : List Value).toArray s 0 0 A) (F0 m 7 ls []) := by
    intro d
    induction d using Nat.strongRecOn with
    | _ d ih7 =>
    intro i v ls H locs hd hin hv hl hP hD hS
    subst hd
    refine lv_iload_n hx hb d_B_valueAt_7 rfl (lv_at hl 3 rfl) ?_
    refine lv_if_lt (tgt := 27) hx hb d_B_valueAt_8 rfl (fun hc8 => ?_) (fun hc8 => ?_)
    · skip
      have hi0 : i = 0 := (nI_p1 (by omega)).mp hc8
      subst hi0
      refine lv_iload_n hx hb d_B_valueAt_27 rfl (lv_at hl 2 rfl) ?_
      exact sd_iret hx hb hr hlk hP hS (Nat.le_of_ble_eq_true rfl) (Nat.le_of_ble_eq_true rfl) (by rw [← hv]; rfl) d_B_valueAt_28
    · skip
      have hne : i ≠ 0 := fun h => hc8 ((nI_p1 (by omega)).mpr h)
      obtain ⟨k, rfl⟩ : ∃ k, i = k + 1 := ⟨i - 1, by omega⟩
      rw [nI_pred k] at hl
      refine lv_iload_n hx hb d_B_valueAt_11 rfl (lv_at hl 2 rfl) ?_
      refine lv_iload_n hx hb d_B_valueAt_12 rfl (lv_at hl 1 rfl) ?_
      refine sd_callSI (As := [.int (bI v), .int (bI x)]) (rest := []) (cx := []) (w1 := []) (c_B_product l D cI cZ cQ (v) (x)) ⟨wc_B_product, wm_B_13, wi_B, by decide, by decide, show (parseMethodDescriptor y_B_product.desc).map (fun d => d.parameters.length) = some 2 by decide +kernel⟩ ws_B_product hx hb hml hown hts hl.1 ⟨Nat.le_of_ble_eq_true rfl, Nat.le_of_ble_eq_true rfl⟩ ⟨Nat.le_of_ble_eq_true rfl, Nat.le_of_ble_eq_true rfl⟩ hK hP hD hS hA [] rfl (by decide) rfl rfl rfl (Nat.le_of_ble_eq_true rfl) d_B_valueAt_13 (fun H locs hP hD hS => ?_)
      have hP : va_P D cls [(ha, .inl (cI, n, .inl (co)))] H := hP
      have hD : va_D A [(ha, .inl (cI, n, .inl (co)))] := hD
      refine lv_aload_n hx hb d_B_valueAt_16 rfl (lv_at hl 0 rfl) ?_
      refine lv_iload_n hx hb d_B_valueAt_17 rfl (lv_at hl 3 rfl) ?_
      refine sd_iald (j := k) hx hb hK hP 0 0 rfl rfl (by omega) (by omega) d_B_valueAt_18 ?_
      refine sd_top (y := bI (cb k)) (hco k (by omega)) ?_
      refine lv_ixor hx hb d_B_valueAt_19 ?_
      refine sd_top (y := bI (gf_m v x ^^^ cb k)) (bI_xor _ _) ?_
      refine lv_istore_n hx hb d_B_valueAt_20 rfl hl (Nat.le_of_ble_eq_true rfl) (lv' := [(2, .int (bI (gf_m v x ^^^ cb k))), (0, .ref ha), (1, .int (bI x)), (3, .int (nI (k)))]) rfl (fun ls hl => ?_)
      refine lv_iinc hx hb d_B_valueAt_21 hl (k := 3) rfl (v := nI (k) - 1) (ii_sub _) (Nat.le_of_ble_eq_true rfl) (lv' := [(3, .int (nI (k) - 1)), (2, .int (bI (gf_m v x ^^^ cb k))), (0, .ref ha), (1, .int (bI x))]) rfl (fun ls hl => ?_)
      refine lv_goto (tgt := 7) hx hb d_B_valueAt_24 rfl ?_
      have hl := lv_sub hl (l' := [(0, .ref ha), (1, .int (bI x)), (2, .int (bI (gf_m v x ^^^ cb k))), (3, .int (nI (k) - 1))]) [2, 3, 1, 0] rfl
      exact ih7 _ (by omega) (k) _ ls _ _ rfl (by omega) (hv) hl hP hD hS
  exact loop7 _ (n) (0#8) ls _ _ rfl (Nat.le_refl n) (rfl) hl hP hD hS
