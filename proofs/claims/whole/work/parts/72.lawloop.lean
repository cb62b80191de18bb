/-! THE CLAIM OUT OF ONE WALK OF THE LAW'S BODY. Your part is whole_start (and what it stands on); all else here is the same for every law, but numbers. -/
def R_law : String := "SplitVaultLaw"
def lw_P (b : Addr) (xs : List Int32) (args : Array Value) (s : State) : Prop := args = #[.ref b] ∧ s.IntsAt b xs ∧ xs.length ≤ 2562 ∧ (Jvm.Cond.and given_1 narrow_1).before args s = true
def lw_Q (_ : Array Value) (s : State) (o : Outcome) (t : State) : Prop := o = .returned (some (.int 1)) ∧ Framed s o t [] 601024 7293000
def lw_Z (below : List Frame) (a : Array Value) (s : State) : State → Prop := fun t => ∃ o, t.status = .running ∧ Ended t below o ∧ lw_Q a s o t
/-- the law's own end, with 1 on the stack, nothing written that was there before, its room as the claim has it -/
theorem lw_ret {p : Program} {l : Launch} {e : Env} {s : State} {m : MethodId} {below : List Frame} {meth : Method} {c : Code} {b : Nat} (hx : p.tables.exec = Jvm.exec) (hb : c.code = code) (hr : meth.sig.returnType = ret) (hlocks : meth.locks = false) {pc : Nat} {H : Heap} {ls : Array Slot} (hdg : decode code pc = .ok (.ireturn, 1)) : W p l e room_1 s m #[Value.ref b] below meth c H [] 601024 7293000 (lw_Z below #[Value.ref b] s) (F0 m pc ls [.int 1]) := by
  intro T hT X
  obtain ⟨fs, hret, hrun, hended, hW, hframe⟩ := X.leave (v := some (.int 1)) (hlocks := hlocks) (fun h => by rw [hr] at h; cases h)
  have hmeth' : T.vm.method? m = some meth := X.method'
  refine ⟨T.setFrames fs, ?_, .returned (some (.int 1)), hrun, hended, rfl, ⟨_, rfl⟩, hW, hframe⟩
  jvm_step X.here [X.here.top, hx, hb, hdg, hmeth', hr, ret, narrow_b1]
  (try refine ⟨rfl, ?_⟩); (try refine ⟨rfl, ?_⟩)
  first | (intro acts; rw [hret _ acts rfl rfl rfl]) | rw [hret _ _ rfl rfl rfl]
  exact Steps.refl _
/-- what holds at the law's entry: the machine, the code, the tables' words (any of lw_tbl by 'hts w (by decide +kernel)'), the script of L ints xs at the cell b, what the Statement gives of the start (any of its parts by flat_of_before) -/
def lw_At (p : Program) (s : State) (m : MethodId) (meth : Method) (c : Code) (b L : Nat) (xs : Nat → Int32) : Prop :=
  p.tables.exec = Jvm.exec ∧ c.code = code ∧ meth.sig.returnType = ret ∧ c.maxLocals = 8 ∧ s.vm.findClass R_law = some m.cls ∧ (∀ w ∈ lw_tbl, w.before #[Value.ref b] s = true) ∧ va_X b L xs s s.heap ∧ b < s.heap.size ∧ meth.locks = false ∧ (Jvm.Cond.and given_1 narrow_1).before #[Value.ref b] s = true
/-! the law's loop -/
theorem sw_out {x : Int32} (h : ∀ k : Nat, k < 18 → ¬ x = nI k) : x.toInt < 0 ∨ 17 < x.toInt := by
  by_cases h0 : x < 0
  · exact Or.inl (Int32.lt_iff_toInt_lt.mp h0)
  · obtain ⟨j, hj, rfl⟩ := nI_of h0
    have h9 : ¬ j < 18 := fun h8 => h j h8 rfl
    rw [nI_toInt hj]
    exact Or.inr (by omega)
set_option maxHeartbeats 8000000 in
set_option maxRecDepth 100000 in
theorem law_loop {p : Program} {l : Launch} {e : Env} {s : State} {m : MethodId} {below : List Frame} {meth : Method} {c : Code} {b L : Nat} {xs : Nat → Int32} {D : va_G} {cI cZ cQ cJ : ClassId} {ta : VA} {tb : MA} {qo : Nat} {A : Nat → Prop} (hst : l.stackTraces = false) (hx : p.tables.exec = Jvm.exec) (hb : c.code = b_L_law) (hml : c.maxLocals = 8) (hown : s.vm.findClass R_L = some m.cls) (hts : ∀ w ∈ bw, w.before #[Value.ref b] s = true) (hXs : va_X b L xs s s.heap) (hbl : b < s.heap.size) (hbA : ¬ A b) (hL : L ≤ 2562) (hK : va_K D cls (tyJ cI cZ cQ cJ) s) (hA : ∀ q : Nat, s.heap.size ≤ q → A q) (hX : xf A s s.heap) (hN : xN s) (ga : geo ta.k ta.n ta.hh ta.ff) (hhL : ∀ i, i < ta.n + 1 → ta.hh i ∈ ta.L) (ffL : ∀ i, i < ta.n + 1 → ta.ff i ∈ ta.L) (hA2 : ∀ q : Nat, A q → s.heap.size ≤ q) (hr : meth.sig.returnType = ret) (hlk : meth.locks = false) : ∀ (d n9 : Nat) (vs : VS) (zs : MS) (lz : Nat → Nat) (f : Nat → Int64) (ls : Array Slot) (H : Heap) (locs : List Loc), 520 - n9 = d → inv ta.k ta.n ta.hh lz n9 vs zs → 5 * n9 ≤ 2560 → lv_has ls 8 [(0, .ref b), (1, .ref ta.qv), (2, .ref tb.qm), (3, .ref qo), (4, .int (nI (2 + 5 * n9)))] → va_P D cls (oC cJ qo f ++ (vX cI cZ cQ ta vs ++ mX cI cZ ta tb zs)) H → va_D A (oC cJ qo f ++ (vX cI cZ cQ ta vs ++ mX cI cZ ta tb zs)) → va_S A s.heap H locs → W p l e room_1 s m #[Value.ref b] below meth c H locs (100 + 16 * n9) (7000 + 120 * n9) (lw_Z below #[Value.ref b] s) (F0 m 43 ls []) := by
  intro d
  induction d using Nat.strongRecOn with
  | _ d ih =>
  intro n9 vs zs lz f ls H locs hd hinv hn5 hl hP hD hS
  subst hd
  refine lv_iload hx hb d_L_law_43 (lv_at hl 4 rfl) ?_
  refine lv_aload_n hx hb d_L_law_45 rfl (lv_at hl 0 rfl) ?_
  refine va_slen hx hb hXs hbl hbA hS d_L_law_46 ?_
  refine lv_iconst (v := 5) hx hb d_L_law_47 (by decide) ?_
  refine lv_isub hx hb d_L_law_48 ?_
  refine lv_icmp_gt (tgt := 1027) hx hb d_L_law_49 rfl (fun hc49 => ?_) (fun hc49 => ?_)
  · refine lv_iconst (v := 1) hx hb d_L_law_1027 (by decide) ?_
    refine va_forget (fun q hq => hA2 _ (hS.2.2 q hq)) ?_
    refine W.widen (k := 601024) (n := 7293000) (by omega) (by omega) ?_
    exact lw_ret hx hb hr hlk d_L_law_1028
  · have hi5 : 2 + 5 * n9 + 5 ≤ L := by
      have h9 : ¬ L < 2 + 5 * n9 + 5 := fun h8 => hc49 ((lw_le (by omega) (by omega)).mpr h8)
      omega
    refine lv_aload_n hx hb d_L_law_52 rfl (lv_at hl 0 rfl) ?_
    refine lv_iload hx hb d_L_law_53 (lv_at hl 4 rfl) ?_
    refine sd_sld hx hb hXs hbl hbA hS (j := 2 + 5 * n9) (by omega) (by omega) d_L_law_55 ?_
    refine lv_bipush (v := 31) hx hb d_L_law_56 (by decide) ?_
    refine lv_iand hx hb d_L_law_58 ?_
    have kk : ∀ (vs1 : VS) (zs1 : MS) (lz1 : Nat → Nat) (f1 : Nat → Int64) (ls : Array Slot) (H : Heap) (locs : List Loc), inv ta.k ta.n ta.hh lz1 (n9 + 1) vs1 zs1 → lv_has ls 8 [(0, .ref b), (1, .ref ta.qv), (2, .ref tb.qm), (3, .ref qo), (4, .int (nI (2 + 5 * n9)))] → va_P D cls (oC cJ qo f1 ++ (vX cI cZ cQ ta vs1 ++ mX cI cZ ta tb zs1)) H → va_D A (oC cJ qo f1 ++ (vX cI cZ cQ ta vs1 ++ mX cI cZ ta tb zs1)) → va_S A s.heap H locs → W p l e room_1 s m #[Value.ref b] below meth c H locs (100 + 16 * n9 + 12) (7000 + 120 * n9 + 100) (lw_Z below #[Value.ref b] s) (F0 m 1021 ls []) := by
      intro vs1 zs1 lz1 f1 ls H locs hinv hl hP hD hS
      refine lv_iinc hx hb d_L_law_1021 hl (k := 4) rfl (v := nI (2 + 5 * (n9 + 1))) (by rw [show 2 + 5 * (n9 + 1) = 2 + 5 * n9 + 5 by omega]; exact nI_add _ 5) (Nat.le_of_ble_eq_true rfl) (lv' := [(4, .int (nI (2 + 5 * (n9 + 1)))), (0, .ref b), (1, .ref ta.qv), (2, .ref tb.qm), (3, .ref qo)]) rfl (fun ls hl => ?_)
      refine lv_goto (tgt := 43) hx hb d_L_law_1024 rfl ?_
      have hl := lv_sub hl (l' := [(0, .ref b), (1, .ref ta.qv), (2, .ref tb.qm), (3, .ref qo), (4, .int (nI (2 + 5 * (n9 + 1))))]) [1, 2, 3, 4, 0] rfl
      refine W.widen (k := 100 + 16 * (n9 + 1)) (n := 7000 + 120 * (n9 + 1)) (by omega) (by omega) ?_
      exact ih _ (by omega) (n9 + 1) vs1 zs1 lz1 f1 ls H locs rfl hinv (by omega) hl hP hD hS
    by_cases h0 : xs (2 + 5 * n9) &&& 31 = nI 0
    · rw [h0]
      exact lv_tableIn (off := 85) (tgt := 144) hx hb d_L_law_59 (by decide) (by decide) rfl rfl (lc_feed hst hx hb hml hown hts hXs hbl hbA hL hK hA hX hN ga hhL ffL hinv (by omega) hi5 hl hP hD hS kk)
    by_cases h1 : xs (2 + 5 * n9) &&& 31 = nI 1
    · rw [h1]
      exact lv_tableIn (off := 185) (tgt := 244) hx hb d_L_law_59 (by decide) (by decide) rfl rfl (lc_pool hst hx hb hml hown hts hXs hbl hbA hL hK hA hX hN ga hhL ffL hinv (by omega) hi5 hl hP hD hS kk)
    by_cases h2 : xs (2 + 5 * n9) &&& 31 = nI 2
    · rw [h2]
      exact lv_tableIn (off := 198) (tgt := 257) hx hb d_L_law_59 (by decide) (by decide) rfl rfl (lc_store hst hx hb hml hown hts hXs hbl hbA hL hK hA hX hN ga hhL ffL hinv (by omega) hi5 hl hP hD hS kk)
    by_cases h3 : xs (2 + 5 * n9) &&& 31 = nI 3
    · rw [h3]
      exact lv_tableIn (off := 310) (tgt := 369) hx hb d_L_law_59 (by decide) (by decide) rfl rfl (lc_refresh hst hx hb hml hown hts hXs hbl hbA hL hK hA hX hN ga hhL ffL hinv (by omega) hi5 hl hP hD hS kk)
    by_cases h4 : xs (2 + 5 * n9) &&& 31 = nI 4
    · rw [h4]
      exact lv_tableIn (off := 354) (tgt := 413) hx hb d_L_law_59 (by decide) (by decide) rfl rfl (lc_empty hst hx hb hml hown hts hXs hbl hbA hL hK hA hX hN ga hhL ffL hinv (by omega) hi5 hl hP hD hS kk)
    by_cases h5 : xs (2 + 5 * n9) &&& 31 = nI 5
    · rw [h5]
      exact lv_tableIn (off := 410) (tgt := 469) hx hb d_L_law_59 (by decide) (by decide) rfl rfl (lc_rebuild hst hx hb hml hown hts hXs hbl hbA hL hK hA hX hN ga hhL ffL hinv (by omega) hi5 hl hP hD hS kk)
    by_cases h6 : xs (2 + 5 * n9) &&& 31 = nI 6
    · rw [h6]
      exact lv_tableIn (off := 478) (tgt := 537) hx hb d_L_law_59 (by decide) (by decide) rfl rfl (lc_stopAfter hst hx hb hml hown hts hXs hbl hbA hL hK hA hX hN ga hhL ffL hinv (by omega) hi5 hl hP hD hS kk)
    by_cases h7 : xs (2 + 5 * n9) &&& 31 = nI 7
    · rw [h7]
      exact lv_tableIn (off := 514) (tgt := 573) hx hb d_L_law_59 (by decide) (by decide) rfl rfl (lc_resume hst hx hb hml hown hts hXs hbl hbA hL hK hA hX hN ga hhL ffL hinv (by omega) hi5 hl hP hD hS kk)
    by_cases h8 : xs (2 + 5 * n9) &&& 31 = nI 8
    · rw [h8]
      exact lv_tableIn (off := 527) (tgt := 586) hx hb d_L_law_59 (by decide) (by decide) rfl rfl (lc_stopped hst hx hb hml hown hts hXs hbl hbA hL hK hA hX hN ga hhL ffL hinv (by omega) hi5 hl hP hD hS kk)
    by_cases h9 : xs (2 + 5 * n9) &&& 31 = nI 9
    · rw [h9]
      exact lv_tableIn (off := 540) (tgt := 599) hx hb d_L_law_59 (by decide) (by decide) rfl rfl (lc_restore hst hx hb hml hown hts hXs hbl hbA hL hK hA hX hN ga hhL ffL hinv (by omega) hi5 hl hP hD hS kk)
    by_cases h10 : xs (2 + 5 * n9) &&& 31 = nI 10
    · rw [h10]
      exact lv_tableIn (off := 607) (tgt := 666) hx hb d_L_law_59 (by decide) (by decide) rfl rfl (lc_length hst hx hb hml hown hts hXs hbl hbA hL hK hA hX hN ga hhL ffL hinv (by omega) hi5 hl hP hD hS kk)
    by_cases h11 : xs (2 + 5 * n9) &&& 31 = nI 11
    · rw [h11]
      exact lv_tableIn (off := 663) (tgt := 722) hx hb d_L_law_59 (by decide) (by decide) rfl rfl (lc_share hst hx hb hml hown hts hXs hbl hbA hL hK hA hX hN ga hhL ffL hinv (by omega) hi5 hl hP hD hS kk)
    by_cases h12 : xs (2 + 5 * n9) &&& 31 = nI 12
    · rw [h12]
      exact lv_tableIn (off := 743) (tgt := 802) hx hb d_L_law_59 (by decide) (by decide) rfl rfl (lc_forget hst hx hb hml hown hts hXs hbl hbA hL hK hA hX hN ga hhL ffL hinv (by omega) hi5 hl hP hD hS kk)
    by_cases h13 : xs (2 + 5 * n9) &&& 31 = nI 13
    · rw [h13]
      exact lv_tableIn (off := 799) (tgt := 858) hx hb d_L_law_59 (by decide) (by decide) rfl rfl (lc_need hst hx hb hml hown hts hXs hbl hbA hL hK hA hX hN ga hhL ffL hinv (by omega) hi5 hl hP hD hS kk)
    by_cases h14 : xs (2 + 5 * n9) &&& 31 = nI 14
    · rw [h14]
      exact lv_tableIn (off := 855) (tgt := 914) hx hb d_L_law_59 (by decide) (by decide) rfl rfl (lc_files hst hx hb hml hown hts hXs hbl hbA hL hK hA hX hN ga hhL ffL hinv (by omega) hi5 hl hP hD hS kk)
    by_cases h15 : xs (2 + 5 * n9) &&& 31 = nI 15
    · rw [h15]
      exact lv_tableIn (off := 868) (tgt := 927) hx hb d_L_law_59 (by decide) (by decide) rfl rfl (lc_epoch hst hx hb hml hown hts hXs hbl hbA hL hK hA hX hN ga hhL ffL hinv (by omega) hi5 hl hP hD hS kk)
    by_cases h16 : xs (2 + 5 * n9) &&& 31 = nI 16
    · rw [h16]
      exact lv_tableIn (off := 881) (tgt := 940) hx hb d_L_law_59 (by decide) (by decide) rfl rfl (lc_sent hst hx hb hml hown hts hXs hbl hbA hL hK hA hX hN ga hhL ffL hinv (by omega) hi5 hl hP hD hS kk)
    by_cases h17 : xs (2 + 5 * n9) &&& 31 = nI 17
    · rw [h17]
      exact lv_tableIn (off := 894) (tgt := 953) hx hb d_L_law_59 (by decide) (by decide) rfl rfl (lc_message hst hx hb hml hown hts hXs hbl hbA hL hK hA hX hN ga hhL ffL hinv (by omega) hi5 hl hP hD hS kk)
    refine lv_tableOut (tgt := 1021) hx hb d_L_law_59 (sw_out (fun k hk => ?_)) rfl ?_
    · have h9 : k = 0 ∨ k = 1 ∨ k = 2 ∨ k = 3 ∨ k = 4 ∨ k = 5 ∨ k = 6 ∨ k = 7 ∨ k = 8 ∨ k = 9 ∨ k = 10 ∨ k = 11 ∨ k = 12 ∨ k = 13 ∨ k = 14 ∨ k = 15 ∨ k = 16 ∨ k = 17 := by omega
      rcases h9 with rfl | rfl | rfl | rfl | rfl | rfl | rfl | rfl | rfl | rfl | rfl | rfl | rfl | rfl | rfl | rfl | rfl | rfl
      · exact h0
      · exact h1
      · exact h2
      · exact h3
      · exact h4
      · exact h5
      · exact h6
      · exact h7
      · exact h8
      · exact h9
      · exact h10
      · exact h11
      · exact h12
      · exact h13
      · exact h14
      · exact h15
      · exact h16
      · exact h17
    · refine W.widen (k := 100 + 16 * n9 + 12) (n := 7000 + 120 * n9 + 100) (by omega) (by omega) ?_
      exact kk vs zs lz f ls H locs (hinv.up (Nat.le_succ _)) hl hP hD hS
