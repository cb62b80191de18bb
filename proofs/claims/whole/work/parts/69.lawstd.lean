/-! the script's reads, its method cell, constructors called beside a world, the out array -/
def cl_f (xs : Nat → Int32) (L j : Nat) : Int32 := if j < L then xs j else 0
def ce_P (b L : Nat) (xs : Nat → Int32) (j sz : Nat) : Array Value → State → Prop := va_Pc [.ref b, .int (nI j)] (fun U => U.heap.size = sz ∧ va_X b L xs U U.heap ∧ b < U.heap.size)
abbrev ce_Q (xs : Nat → Int32) (L j sz : Nat) : Array Value → State → Outcome → State → Prop := va_Qi (fun r' (_ : Unit) => r' = cl_f xs L j) (fun _ _ => True) (fun q => sz ≤ q)
theorem ce_blind {b L : Nat} {xs : Nat → Int32} {j sz : Nat} : FrameBlind (ce_P b L xs j sz) := fun a U g mk q => by
  obtain ⟨q0, q1, q2, q3⟩ := q
  exact ⟨q0, q1, va_X.moved (u := U) (U := U.calling g mk a) (Vm.Alike.refl U.vm) q2, q3⟩
section CEA
variable {p : Program} {l : Launch} {e : Env} {R : Room} {s : State} {m : MethodId} {args : Array Value} {below : List Frame} {meth : Method} {c : Code} {H : Heap} {locs : List Loc} {cells slots : Nat} {Q : State → Prop}
variable {cc : ByteArray} {pc : Nat} {ls : Array Slot} {rest : List Value} {b L : Nat} {xs : Nat → Int32} {A : Nat → Prop} {H0 : Heap}
theorem sd_sld (hx : p.tables.exec = Jvm.exec) (hb : c.code = cc) (hX : va_X b L xs s H0) (hbl : b < H0.size) (hbA : ¬ A b) (hS : va_S A H0 H locs) {j : Nat} (hj : j < L) (hL : L < 2 ^ 31) (hdg : decode cc pc = .ok (.iaload, 1))
    (kk : W p l e R s m args below meth c H locs cells slots Q (F0 m (pc + 1) ls (.int (xs j) :: rest))) : W p l e R s m args below meth c H locs cells slots Q (F0 m pc ls (.int (nI j) :: .ref b :: rest)) :=
  va_sld hx hb hX hbl hbA hS (vp_in_nI hj hL) hdg (by rw [nI_clamp (Nat.lt_trans hj hL)]; exact kk)
end CEA
theorem c_L_cell (l : Launch) (b L : Nat) (xs : Nat → Int32) (j : Nat) (hL : L < 2 ^ 31) (hj : j < 2 ^ 31) (sz : Nat) : Met l y_L_cell (Cond.code y_L_cell b_L_cell 2 (some .int) :: bw) { frames := 0, cells := 0, slots := 0, locals := 0 } (ce_P b L xs j sz) (ce_Q xs L j sz) 0 0 (fun q => sz ≤ q) := by
  refine Met.ofW (cc := b_L_cell) (maxL := 2) (ret := some .int) (by decide) rfl ?_
  intro p e s m args below meth c s₁ B hml hv
  obtain ⟨rfl, hsz, hX, hbl⟩ := hv
  subst hsz
  have hl := lv_entry [.ref b, .int (nI j)] (n := 2) (Nat.le_of_ble_eq_true rfl)
  rw [lg_entry_eq]
  generalize (lg_sl [.ref b, .int (nI j)] ++ List.replicate (2 - (lg_sl [.ref b, .int (nI j)]).length) Slot.unset).toArray = ls at hl ⊢
  have hl : lv_has ls 2 [(0, .ref b), (1, .int (nI j))] := hl
  have hx := B.exec
  have hb := B.bytes
  have hbA : ¬ (fun q => s.heap.size ≤ q) b := by show ¬ s.heap.size ≤ b; omega
  have hS : va_S (fun q => s.heap.size ≤ q) s.heap s.heap [] := va_S.rf
  refine lv_iload_n hx hb d_L_cell_0 rfl (lv_at hl 1 rfl) ?_
  refine lv_aload_n hx hb d_L_cell_1 rfl (lv_at hl 0 rfl) ?_
  refine va_slen hx hb hX hbl hbA hS d_L_cell_2 ?_
  refine lv_icmp_ge (tgt := 12) hx hb d_L_cell_3 rfl (fun hc3 => ?_) (fun hc3 => ?_)
  · refine lv_iconst (v := 0) hx hb d_L_cell_12 (by decide) ?_
    have hjL : ¬ j < L := by
      have h9 := (nI_leI hL hj).mp hc3
      omega
    exact W.iret hx hb B.returns (fun t ht hW => ⟨⟨0, (), rfl, (if_neg hjL).symm, trivial⟩, hS.F ht⟩) hS.2.2 d_L_cell_13 B.notSynchronized
  · have hjL : j < L := by
      have h9 : ¬ L ≤ j := fun h8 => hc3 ((nI_leI hL hj).mpr h8)
      omega
    refine lv_aload_n hx hb d_L_cell_6 rfl (lv_at hl 0 rfl) ?_
    refine lv_iload_n hx hb d_L_cell_7 rfl (lv_at hl 1 rfl) ?_
    refine sd_sld hx hb hX hbl hbA hS hjL hL d_L_cell_8 ?_
    refine lv_goto (tgt := 13) hx hb d_L_cell_9 rfl ?_
    exact W.iret hx hb B.returns (fun t ht hW => ⟨⟨xs j, (), rfl, (if_pos hjL).symm, trivial⟩, hS.F ht⟩) hS.2.2 d_L_cell_13 B.notSynchronized
section CEB
variable {p : Program} {l : Launch} {e : Env} {R : Room} {s : State} {m : MethodId} {args : Array Value} {below : List Frame} {meth : Method} {c : Code} {H : Heap} {locs : List Loc} {cells slots : Nat} {Q : State → Prop}
variable {D : va_G} {tys : List (ClassId × FieldType)} {cc cy : ByteArray} {pc nL n index : Nat} {ls : Array Slot} {A0 : Nat → Prop} {rest st0 As : List Value} {own : String} {y : MethodName} {rm : Room} {X cx ws : va_W} {b L : Nat} {xs : Nat → Int32} {Post : va_W → Prop} {o : Nat}
/-- cell(script, j) -/
theorem lw_cell (hx : p.tables.exec = Jvm.exec) (hb : c.code = cc) (hml : c.maxLocals = nL) (hown : s.vm.findClass R_L = some m.cls) (hts : ∀ w ∈ bw, w.before args s = true) (hls : ls.size = nL) (hR : 1 ≤ R.frames ∧ 21 ≤ R.locals)
    (hf : cells ≤ R.cells ∧ slots ≤ R.slots) (hX : va_X b L xs s s.heap) (hbl : b < s.heap.size) (hbA : ¬ A0 b) (hL : L < 2 ^ 31) {j : Nat} (hj : j < 2 ^ 31) (hP : va_P D cls ws H) (hD : va_D A0 ws) (hS : va_S A0 s.heap H locs) (hA : ∀ q : Nat, s.heap.size ≤ q → A0 q)
    (hst : st0 = .int (nI j) :: .ref b :: rest) (hrest : (rest.map fun v => v.category).sum ≤ 8) (hdg : decode cc pc = .ok (.invokestatic 63, 3))
    (kk : ∀ (H1 : Heap) (locs1 : List Loc), va_P D cls ws H1 → va_D A0 ws → va_S A0 s.heap H1 locs1 → W p l e R s m args below meth c H1 locs1 (cells + 0) (slots + 0) Q (F0 m (pc + 3) ls (.int (cl_f xs L j) :: rest))) :
    W p l e R s m args below meth c H locs cells slots Q (F0 m pc ls st0) := by
  subst hst
  have hX1 : va_X b L xs s H := hX.kept (hS.2.1 b hbl hbA)
  have hFc : ∀ q, H.size ≤ q → A0 q := fun q h => hA q (Nat.le_trans hS.1 h)
  refine va_calli (va_runS (As := [.ref b, .int (nI j)]) (rest := rest) ⟨hx, hb, hml, hown, hts⟩ (c_L_cell l b L xs j hL hj H.size) ⟨callB_of 2 hts (bw_in wc_L_cell) rfl rfl rfl (hts _ wi_L) (hts _ wm_L_63) ⟨by decide, by decide, by decide +kernel⟩ ⟨by show 0 + 1 ≤ R.frames; omega, by show 8 + (2 + 11) + 0 ≤ R.locals; omega⟩, hts _ ws_L_cell⟩ ⟨ce_blind, fun U hU hW => ⟨rfl, by rw [hU], by rw [hU]; exact va_X.moved hW.alike hX1, by rw [hU]; exact Nat.lt_of_lt_of_le hbl hS.1⟩⟩ rfl rfl hls rfl (lv_room hrest) hdg hf) hS (fun q _ h => hFc q h) hFc (fun r' u t H1 locs1 ht hvm hpo hB hz1 hk1 hS1 => ?_)
  subst hpo
  exact kk H1 locs1 (hP.kept (fun k q hk => hk1 q.1 ((hP k q hk).lt) (by have := (hP k q hk).lt; omega))) hD hS1
/-- a constructor's call, its cells the world's last -/
theorem nd_tail (hM : sd_N l D tys y cy n rm (.ref o :: As) cx Post) (hw : sd_w own index y cy n none As.length) (hwo : Cond.instanceMethod y ∈ bw) (hyn : y.name = "<init>")
    (hx : p.tables.exec = Jvm.exec) (hb : c.code = cc) (hml : c.maxLocals = nL) (hown : s.vm.findClass own = some m.cls) (hts : ∀ w ∈ bw, w.before args s = true) (hls : ls.size = nL)
    (hR : rm.frames + 1 ≤ R.frames ∧ 8 + (n + 11) + rm.locals ≤ R.locals) (hf : cells + rm.cells ≤ R.cells ∧ slots + rm.slots ≤ R.slots)
    (hK : va_K D cls tys s) (hP : va_P D cls (X ++ cx) H) (hD : va_D A0 (X ++ cx)) (hS : va_S A0 s.heap H locs) (hA : ∀ q : Nat, s.heap.size ≤ q → A0 q) (hZ : sd_Z s)
    (hst : st0 = As.reverse ++ .ref o :: rest) (hrest : (rest.map fun v => v.category).sum ≤ 8) (hdg : decode cc pc = .ok (.invokespecial index, 3))
    (kk : ∀ (w : va_W) (H1 : Heap) (locs1 : List Loc), Post w → va_P D cls (X ++ w) H1 → va_D A0 (X ++ w) → va_S A0 s.heap H1 locs1 → W p l e R s m args below meth c H1 locs1 (cells + rm.cells) (slots + rm.slots) Q (F0 m (pc + 3) ls rest)) :
    W p l e R s m args below meth c H locs cells slots Q (F0 m pc ls st0) := by
  subst hst
  have hP' : va_P D cls (X ++ (cx ++ [])) H := by rw [List.append_nil]; exact hP
  have hD' : va_D A0 (X ++ (cx ++ [])) := by rw [List.append_nil]; exact hD
  have hFc := sd_self (mid_D hD') hS hA
  refine va_callv (va_runI (As := As) (rest := rest) ⟨hx, hb, hml, hown, hts⟩ (hM H.size) ⟨sd_cb hts hw hR, hyn, hts _ hwo⟩ ⟨nd_blind, fun U hU hW => nd_pre hU hW (mid_P hP') hK (mid_D hD') hZ⟩ rfl rfl hls rfl (lv_room hrest) hdg hf) hS (fun q _ h => hFc q h) hFc (fun u t H1 locs1 ht hvm hpo hB hz1 hk1 hS1 => ?_)
  obtain ⟨b1, b2⟩ := hB
  rw [ht] at b1
  have j1 : va_P D cls (X ++ u) H1 := by
    have h9 := mid_back hP' hD' hk1 b1
    rw [List.append_nil] at h9
    exact h9
  have hDX : va_D A0 X := ⟨fun i j a b hi hj hab => hD.1 i j a b (by rw [List.getElem?_append_left (List.getElem?_eq_some_iff.mp hi).1]; exact hi) (by rw [List.getElem?_append_left (List.getElem?_eq_some_iff.mp hj).1]; exact hj) hab, fun k q hk => hD.2 k q (by rw [List.getElem?_append_left (List.getElem?_eq_some_iff.mp hk).1]; exact hk)⟩
  refine kk u H1 locs1 hpo j1 (hDX.app (b2.weaken (fun _ _ _ h => hFc _ h)) (fun i j a d hi hj hab => ?_)) hS1
  have hiX : (X ++ cx)[i]? = some a := by rw [List.getElem?_append_left (List.getElem?_eq_some_iff.mp hi).1]; exact hi
  have hlt := (hP i a hiX).lt
  rcases b2.2 j d hj with ⟨k9, e9, h9⟩ | h9
  · have h4 : (X ++ cx)[X.length + k9]? = some (d.1, e9) := by rw [List.getElem?_append_right (by omega), Nat.add_sub_cancel_left]; exact h9
    have := hD.1 i (X.length + k9) a (d.1, e9) hiX h4 hab
    have := (List.getElem?_eq_some_iff.mp hi).1
    omega
  · omega
/-- out: an array of one long, ahead of the rest -/
theorem sd_newJ {cI cZ cQ cJ : ClassId} (hx : p.tables.exec = Jvm.exec) (hb : c.code = cc) (hts : ∀ w ∈ bw, w.before args s = true) (hK : va_K D cls (tyJ cI cZ cQ cJ) s) (hP : va_P D cls X H) (hD : va_D A0 X) (hS : va_S A0 s.heap H locs) (hA : ∀ q, s.heap.size ≤ q → A0 q) (hc : cells + 1 ≤ R.cells) (hs : slots + 1 ≤ R.slots) (hdg : decode cc pc = .ok (.newarray .long, 2))
    (kk : ∀ (q : Nat) (H1 : Heap), va_P D cls ([(q, .inl (cJ, 1, .inr (.inl (fun _ => 0))))] ++ X) H1 → va_D A0 ([(q, .inl (cJ, 1, .inr (.inl (fun _ => 0))))] ++ X) → va_S A0 s.heap H1 locs → W p l e R s m args below meth c H1 locs (cells + 1) (slots + 1) Q (F0 m (pc + 2) ls (.ref q :: rest))) : W p l e R s m args below meth c H locs cells slots Q (F0 m pc ls (.int 1 :: rest)) := by
  refine va_newa hx hb (atype := .long) (hts _ wa_long) (ty := .long) rfl hK hP hD hS hA (N' := 1) (a0 := (1, .inr (.inl (fun _ => 0)))) (fun cA => rfl) (by decide) (by decide) (by decide) hc hs hdg (fun q cA H1 hK1 h1 h2 h3 => ?_)
  have e1 : s.vm.findClass "[J" = some cJ := (hK.2 3 (cJ, .long) rfl).2
  have e2 : s.vm.findClass "[J" = some cA := (hK1.2 4 (cA, .long) rfl).2
  cases Option.some.inj (e1.symm.trans e2)
  exact kk q H1 (va_P.swap (a := []) h1) (va_D.swap (a := []) h2) h3
end CEB
theorem lg_self (x : Int64) : lg_cmp x x = 0 := by simp [lg_cmp]
/-- the loop's bound: i <= length - 5 -/
theorem lw_le {L i : Nat} (hL : L < 2 ^ 30) (hi : i < 2 ^ 30) : nI L - 5 < nI i ↔ L < i + 5 := by
  rw [Int32.lt_iff_toInt_lt, nI_toInt (by omega)]
  have h5 : (nI L - 5).toInt = (L : Int) - 5 := by
    rw [Int32.toInt_sub, nI_toInt (by omega)]
    show Int.bmod ((L : Int) - 5) (2 ^ 32) = _
    rw [Int.bmod_eq_of_le]
    · omega
    · omega
  rw [h5]
  omega
