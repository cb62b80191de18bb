theorem d_B_product_0 : decode b_B_product 0 = .ok (.iconst 0, 1) := by decide +kernel
theorem d_B_product_1 : decode b_B_product 1 = .ok (.istore_n 2, 1) := by decide +kernel
theorem d_B_product_2 : decode b_B_product 2 = .ok (.iload_n 0, 1) := by decide +kernel
theorem d_B_product_3 : decode b_B_product 3 = .ok (.istore_n 3, 1) := by decide +kernel
theorem d_B_product_4 : decode b_B_product 4 = .ok (.iconst 0, 1) := by decide +kernel
theorem d_B_product_5 : decode b_B_product 5 = .ok (.istore 4, 2) := by decide +kernel
theorem d_B_product_7 : decode b_B_product 7 = .ok (.iload 4, 2) := by decide +kernel
theorem d_B_product_9 : decode b_B_product 9 = .ok (.bipush 8, 2) := by decide +kernel
theorem d_B_product_11 : decode b_B_product 11 = .ok (.if_icmp .ge 40, 3) := by decide +kernel
theorem d_B_product_14 : decode b_B_product 14 = .ok (.iload_n 1, 1) := by decide +kernel
theorem d_B_product_15 : decode b_B_product 15 = .ok (.iload 4, 2) := by decide +kernel
theorem d_B_product_17 : decode b_B_product 17 = .ok (.iushr, 1) := by decide +kernel
theorem d_B_product_18 : decode b_B_product 18 = .ok (.iconst 1, 1) := by decide +kernel
theorem d_B_product_19 : decode b_B_product 19 = .ok (.iand, 1) := by decide +kernel
theorem d_B_product_20 : decode b_B_product 20 = .ok (.iconst 1, 1) := by decide +kernel
theorem d_B_product_21 : decode b_B_product 21 = .ok (.if_icmp .ne 7, 3) := by decide +kernel
theorem d_B_product_24 : decode b_B_product 24 = .ok (.iload_n 2, 1) := by decide +kernel
theorem d_B_product_25 : decode b_B_product 25 = .ok (.iload_n 3, 1) := by decide +kernel
theorem d_B_product_26 : decode b_B_product 26 = .ok (.ixor, 1) := by decide +kernel
theorem d_B_product_27 : decode b_B_product 27 = .ok (.istore_n 2, 1) := by decide +kernel
theorem d_B_product_28 : decode b_B_product 28 = .ok (.iload_n 3, 1) := by decide +kernel
theorem d_B_product_29 : decode b_B_product 29 = .ok (.iconst 1, 1) := by decide +kernel
theorem d_B_product_30 : decode b_B_product 30 = .ok (.ishl, 1) := by decide +kernel
theorem d_B_product_31 : decode b_B_product 31 = .ok (.istore_n 3, 1) := by decide +kernel
theorem d_B_product_32 : decode b_B_product 32 = .ok (.iload_n 3, 1) := by decide +kernel
theorem d_B_product_33 : decode b_B_product 33 = .ok (.sipush 256, 3) := by decide +kernel
theorem d_B_product_36 : decode b_B_product 36 = .ok (.if_icmp .lt 9, 3) := by decide +kernel
theorem d_B_product_39 : decode b_B_product 39 = .ok (.iload_n 3, 1) := by decide +kernel
theorem d_B_product_40 : decode b_B_product 40 = .ok (.sipush 283, 3) := by decide +kernel
theorem d_B_product_43 : decode b_B_product 43 = .ok (.ixor, 1) := by decide +kernel
theorem d_B_product_44 : decode b_B_product 44 = .ok (.istore_n 3, 1) := by decide +kernel
theorem d_B_product_45 : decode b_B_product 45 = .ok (.iinc 4 1, 3) := by decide +kernel
theorem d_B_product_48 : decode b_B_product 48 = .ok (.goto (-41), 3) := by decide +kernel
theorem d_B_product_51 : decode b_B_product 51 = .ok (.iload_n 2, 1) := by decide +kernel
theorem d_B_product_52 : decode b_B_product 52 = .ok (.ireturn, 1) := by decide +kernel
set_option maxHeartbeats 4000000 in
set_option maxRecDepth 100000 in
/-- the product of two bytes -/
theorem c_B_product (l : Launch) (D : va_G) (cI cZ cQ : ClassId) (a : BitVec 8) (b : BitVec 8) : sd_I l D (tyL cI cZ cQ) y_B_product b_B_product 5 (.int) ({ frames := 0, cells := 0, slots := 0, locals := 0 }) [.int (bI a), .int (bI b)] [] (bI (gf_m a b)) [] := by
  refine sd_ofI (by decide) (Nat.le_of_ble_eq_true rfl) ?_
  intro p e s m below meth c A ls hx hb hr hml hlk hown hts hK hP hD hA hS hl
  have hl : lv_has ls 5 [(0, .int (bI a)), (1, .int (bI b))] := hl
  refine lv_iconst (v := 0) hx hb d_B_product_0 (by decide) ?_
  refine sd_top (y := bI 0#8) (bI_0.symm) ?_
  refine lv_istore_n hx hb d_B_product_1 rfl hl (Nat.le_of_ble_eq_true rfl) (lv' := [(2, .int (bI 0#8)), (0, .int (bI a)), (1, .int (bI b))]) rfl (fun ls hl => ?_)
  refine lv_iload_n hx hb d_B_product_2 rfl (lv_at hl 1 rfl) ?_
  refine lv_istore_n hx hb d_B_product_3 rfl hl (Nat.le_of_ble_eq_true rfl) (lv' := [(3, .int (bI a)), (2, .int (bI 0#8)), (0, .int (bI a)), (1, .int (bI b))]) rfl (fun ls hl => ?_)
  refine lv_iconst (v := 0) hx hb d_B_product_4 (by decide) ?_
  refine sd_top (y := nI 0) (rfl) ?_
  refine lv_istore hx hb d_B_product_5 hl (Nat.le_of_ble_eq_true rfl) (lv' := [(4, .int (nI 0)), (3, .int (bI a)), (2, .int (bI 0#8)), (0, .int (bI a)), (1, .int (bI b))]) rfl (fun ls hl => ?_)
  have hl := lv_sub hl (l' := [(0, .int (bI a)), (1, .int (bI b)), (2, .int (bI 0#8)), (3, .int (bI a)), (4, .int (nI 0))]) [3, 4, 2, 1, 0] rfl
  have loop7 : ∀ (d : Nat) (j : Nat) (u : BitVec 8) (t : BitVec 8) (ls : Array Slot), 8 - j = d → (j ≤ 8) → (gf_c b j u t = gf_m a b) → lv_has ls 5 [(0, .int (bI a)), (1, .int (bI b)), (2, .int (bI u)), (3, .int (bI t)), (4, .int (nI (j)))] → W p l e ({ frames := 0, cells := 0, slots := 0, locals := 0 }) s m ([.int (bI a), .int (bI b)] : List Value).toArray below meth c s.heap [] 0 0 (MQ below (sd_qi D (bI (gf_m a b)) [] A) ([.int (bI a), .int (bI b)] : List Value).toArray s 0 0 A) (F0 m 7 ls []) := by
    intro d
    induction d using Nat.strongRecOn with
    | _ d ih7 =>
    intro j u t ls hd hj hu hl
    subst hd
    refine lv_iload hx hb d_B_product_7 (lv_at hl 4 rfl) ?_
    refine lv_bipush (v := 8) hx hb d_B_product_9 (by decide) ?_
    refine lv_icmp_ge (tgt := 51) hx hb d_B_product_11 rfl (fun hc11 => ?_) (fun hc11 => ?_)
    · skip
      have hj8 : j = 8 := by
        rw [show (8 : Int32) = nI 8 from rfl, nI_leI (by omega) (by omega)] at hc11
        omega
      subst hj8
      rw [gf_c8] at hu
      refine lv_iload_n hx hb d_B_product_51 rfl (lv_at hl 2 rfl) ?_
      exact sd_iret hx hb hr hlk hP hS (Nat.le_of_ble_eq_true rfl) (Nat.le_of_ble_eq_true rfl) (by rw [hu]) d_B_product_52
    · skip
      have hj8 : j < 8 := by
        rw [show (8 : Int32) = nI 8 from rfl, nI_leI (by omega) (by omega)] at hc11
        omega
      have join28 : ∀ (u2 : BitVec 8) (ls : Array Slot), (u2 = if b.getLsbD j = true then u ^^^ t else u) → lv_has ls 5 [(0, .int (bI a)), (1, .int (bI b)), (2, .int (bI u2)), (3, .int (bI t)), (4, .int (nI (j)))] → W p l e ({ frames := 0, cells := 0, slots := 0, locals := 0 }) s m ([.int (bI a), .int (bI b)] : List Value).toArray below meth c s.heap [] 0 0 (MQ below (sd_qi D (bI (gf_m a b)) [] A) ([.int (bI a), .int (bI b)] : List Value).toArray s 0 0 A) (F0 m 28 ls []) := by
        intro u2 ls h2 hl
        have hn : gf_c b (j + 1) u2 (gf_x t) = gf_m a b := by rw [h2, gf_cS (by omega)]; exact hu
        refine lv_iload_n hx hb d_B_product_28 rfl (lv_at hl 3 rfl) ?_
        refine lv_iconst (v := 1) hx hb d_B_product_29 (by decide) ?_
        refine lv_ishl hx hb d_B_product_30 ?_
        refine lv_istore_n hx hb d_B_product_31 rfl hl (Nat.le_of_ble_eq_true rfl) (lv' := [(3, .int ((bI t) <<< ((1) &&& 31))), (0, .int (bI a)), (1, .int (bI b)), (2, .int (bI u2)), (4, .int (nI (j)))]) rfl (fun ls hl => ?_)
        refine lv_iload_n hx hb d_B_product_32 rfl (lv_at hl 0 rfl) ?_
        refine lv_sipush (v := 256) hx hb d_B_product_33 (by decide) ?_
        refine lv_icmp_lt (tgt := 45) hx hb d_B_product_36 rfl (fun hc36 => ?_) (fun hc36 => ?_)
        · skip
          rw [bI_xt1 hc36] at hl
          refine lv_iinc hx hb d_B_product_45 hl (k := 4) rfl (v := nI (j + 1)) (ii_1 _) (Nat.le_of_ble_eq_true rfl) (lv' := [(4, .int (nI (j + 1))), (3, .int (bI (gf_x t))), (0, .int (bI a)), (1, .int (bI b)), (2, .int (bI u2))]) rfl (fun ls hl => ?_)
          refine lv_goto (tgt := 7) hx hb d_B_product_48 rfl ?_
          have hl := lv_sub hl (l' := [(0, .int (bI a)), (1, .int (bI b)), (2, .int (bI u2)), (3, .int (bI (gf_x t))), (4, .int (nI (j + 1)))]) [2, 3, 4, 1, 0] rfl
          exact ih7 _ (by omega) (j + 1) _ _ ls rfl (by omega) (hn) hl
        · skip
          refine lv_iload_n hx hb d_B_product_39 rfl (lv_at hl 0 rfl) ?_
          refine lv_sipush (v := 283) hx hb d_B_product_40 (by decide) ?_
          refine lv_ixor hx hb d_B_product_43 ?_
          refine sd_top (y := bI (gf_x t)) (bI_xt2 hc36) ?_
          refine lv_istore_n hx hb d_B_product_44 rfl hl (Nat.le_of_ble_eq_true rfl) (lv' := [(3, .int (bI (gf_x t))), (0, .int (bI a)), (1, .int (bI b)), (2, .int (bI u2)), (4, .int (nI (j)))]) rfl (fun ls hl => ?_)
          refine lv_iinc hx hb d_B_product_45 hl (k := 4) rfl (v := nI (j + 1)) (ii_1 _) (Nat.le_of_ble_eq_true rfl) (lv' := [(4, .int (nI (j + 1))), (3, .int (bI (gf_x t))), (0, .int (bI a)), (1, .int (bI b)), (2, .int (bI u2))]) rfl (fun ls hl => ?_)
          refine lv_goto (tgt := 7) hx hb d_B_product_48 rfl ?_
          have hl := lv_sub hl (l' := [(0, .int (bI a)), (1, .int (bI b)), (2, .int (bI u2)), (3, .int (bI (gf_x t))), (4, .int (nI (j + 1)))]) [2, 3, 4, 1, 0] rfl
          exact ih7 _ (by omega) (j + 1) _ _ ls rfl (by omega) (hn) hl
      refine lv_iload_n hx hb d_B_product_14 rfl (lv_at hl 1 rfl) ?_
      refine lv_iload hx hb d_B_product_15 (lv_at hl 4 rfl) ?_
      refine lv_iushr hx hb d_B_product_17 rfl ?_
      refine lv_iconst (v := 1) hx hb d_B_product_18 (by decide) ?_
      refine lv_iand hx hb d_B_product_19 ?_
      refine lv_iconst (v := 1) hx hb d_B_product_20 (by decide) ?_
      refine lv_icmp_ne (tgt := 28) hx hb d_B_product_21 rfl (fun hc21 => ?_) (fun hc21 => ?_)
      · skip
        have hq : u = if b.getLsbD j = true then u ^^^ t else u := by rw [if_neg (fun h => hc21 ((bI_bit b j hj8).mpr h))]
        have hl := lv_sub hl (l' := [(0, .int (bI a)), (1, .int (bI b)), (2, .int (bI u)), (3, .int (bI t)), (4, .int (nI (j)))]) [0, 1, 2, 3, 4] rfl
        exact join28 _ ls (hq) hl
      · skip
        have hq : u ^^^ t = if b.getLsbD j = true then u ^^^ t else u := by rw [if_pos ((bI_bit b j hj8).mp hc21)]
        refine lv_iload_n hx hb d_B_product_24 rfl (lv_at hl 2 rfl) ?_
        refine lv_iload_n hx hb d_B_product_25 rfl (lv_at hl 3 rfl) ?_
        refine lv_ixor hx hb d_B_product_26 ?_
        refine sd_top (y := bI (u ^^^ t)) (bI_xor u t) ?_
        refine lv_istore_n hx hb d_B_product_27 rfl hl (Nat.le_of_ble_eq_true rfl) (lv' := [(2, .int (bI (u ^^^ t))), (0, .int (bI a)), (1, .int (bI b)), (3, .int (bI t)), (4, .int (nI (j)))]) rfl (fun ls hl => ?_)
        have hl := lv_sub hl (l' := [(0, .int (bI a)), (1, .int (bI b)), (2, .int (bI (u ^^^ t))), (3, .int (bI t)), (4, .int (nI (j)))]) [1, 2, 0, 3, 4] rfl
        exact join28 _ ls (hq) hl
  exact loop7 _ (0) (0#8) (a) ls rfl (by omega) (gf_c0 a b) hl
