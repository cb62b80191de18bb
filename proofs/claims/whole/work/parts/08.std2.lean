/-! rows of the two grids (among the pooled cells); calls of methods that reach the same cells -/
abbrev rowE (cI : ClassId) (rw : Nat → Nat → Int32) : Nat → va_E := fun a => .inl (cI, 64, .inl (rw a))
theorem rowE_up (cI : ClassId) (rw : Nat → Nat → Int32) (z : Nat) (r : Nat → Int32) : va_up (rowE cI rw) z (.inl (cI, 64, .inl r)) = rowE cI (va_up rw z r) := by
  funext a
  unfold va_up
  by_cases h : a = z
  · rw [if_pos h]
    show _ = (Sum.inl (cI, 64, Sum.inl (if a = z then r else rw a)) : va_E)
    rw [if_pos h]
  · rw [if_neg h]
    show (Sum.inl (cI, 64, Sum.inl (rw a)) : va_E) = (Sum.inl (cI, 64, Sum.inl (if a = z then r else rw a)) : va_E)
    rw [if_neg h]
section SDE
variable {p : Program} {l : Launch} {e : Env} {R : Room} {s : State} {m : MethodId} {args : Array Value} {below : List Frame} {meth : Method} {c : Code} {H : Heap} {locs : List Loc} {cells slots : Nat} {Q : State → Prop}
variable {cc : ByteArray} {pc : Nat} {ls : Array Slot} {rest : List Value} {D : va_G} {cl : List vw_C} {A : Nat → Prop} {a : Nat} {tys : List (ClassId × FieldType)} {X : va_W} {H0 : Heap} {cI : ClassId} {rw : Nat → Nat → Int32} {L : List Nat}
theorem sd_rld (hx : p.tables.exec = Jvm.exec) (hb : c.code = cc) (hK : va_K D cl tys s) (hP : va_P D cl (X ++ va_pl L (rowE cI rw)) H) {z : Nat} (hz : z ∈ L) (t0 : Nat) (ht : tys[t0]? = some (cI, .int)) {j : Nat} (hj : j < 64) (hdg : decode cc pc = .ok (.iaload, 1))
    (kk : W p l e R s m args below meth c H locs cells slots Q (F0 m (pc + 1) ls (.int (rw z j) :: rest))) : W p l e R s m args below meth c H locs cells slots Q (F0 m pc ls (.int (nI j) :: .ref z :: rest)) := by
  obtain ⟨k, hk⟩ := va_pl_get (X := X) (f := rowE cI rw) hz
  exact sd_iald hx hb hK hP k t0 (n := 64) (f := rw z) hk ht hj (by omega) hdg kk
theorem sd_rst (hx : p.tables.exec = Jvm.exec) (hb : c.code = cc) (hK : va_K D cl tys s) (hP : va_P D cl (X ++ va_pl L (rowE cI rw)) H) (hD : va_D A (X ++ va_pl L (rowE cI rw))) (hS : va_S A H0 H locs) {z : Nat} (hz : z ∈ L) (t0 : Nat) (ht : tys[t0]? = some (cI, .int)) {j : Nat} {x : Int32} (hj : j < 64) (hdg : decode cc pc = .ok (.iastore, 1))
    (kk : ∀ (H1 : Heap) (locs1 : List Loc), va_P D cl (X ++ va_pl L (rowE cI (va_up rw z (upd (rw z) j x)))) H1 → va_D A (X ++ va_pl L (rowE cI (va_up rw z (upd (rw z) j x)))) → va_S A H0 H1 locs1 → W p l e R s m args below meth c H1 locs1 cells slots Q (F0 m (pc + 1) ls rest)) : W p l e R s m args below meth c H locs cells slots Q (F0 m pc ls (.int x :: .int (nI j) :: .ref z :: rest)) := by
  obtain ⟨k, hk⟩ := va_pl_get (X := X) (f := rowE cI rw) hz
  have e1 := va_pl_set (e := .inl (cI, 64, .inl (upd (rw z) j x))) hD hz hk
  rw [rowE_up] at e1
  exact sd_iast hx hb hK hP hD hS k t0 (n := 64) (f := rw z) hk ht hj (by omega) hdg (fun H1 locs1 h1 h2 h3 => kk H1 locs1 (by rw [e1] at h1; exact h1) (by rw [e1] at h2; exact h2) h3)
end SDE
section SDF
variable {p : Program} {l : Launch} {e : Env} {R : Room} {s : State} {m : MethodId} {args : Array Value} {below : List Frame} {meth : Method} {c : Code} {H : Heap} {locs : List Loc} {cells slots : Nat} {Q : State → Prop}
variable {D : va_G} {tys : List (ClassId × FieldType)} {cc cy : ByteArray} {pc nL n index : Nat} {ls : Array Slot} {A0 : Nat → Prop} {rest st0 As : List Value} {own : String} {y : MethodName} {ret : FieldType} {rm : Room} {X w1 : va_W} {b : Nat}
theorem sd_self {A0 : Nat → Prop} {H0 H : Heap} {locs : List Loc} {X : va_W} (hD : va_D A0 X) (hS : va_S A0 H0 H locs) (hA : ∀ q : Nat, H0.size ≤ q → A0 q) : ∀ q, va_A X H.size q → A0 q := by
  rintro q (⟨k, e, h⟩ | h)
  · exact hD.2 k _ h
  · exact hA q (Nat.le_trans hS.1 h)
theorem sd_allVI {r : Int32} (hM : sd_I l D tys y cy n ret rm (.ref b :: As) X r w1) (hw : sd_w own index y cy n (some ret) As.length) (hwo : Cond.instanceMethod y ∈ bw) (hwz : Cond.selects y.cls y y ∈ bw)
    (hx : p.tables.exec = Jvm.exec) (hb : c.code = cc) (hml : c.maxLocals = nL) (hown : s.vm.findClass own = some m.cls) (hts : ∀ w ∈ bw, w.before args s = true) (hls : ls.size = nL)
    (hR : rm.frames + 1 ≤ R.frames ∧ 8 + (n + 11) + rm.locals ≤ R.locals) (hf : cells + rm.cells ≤ R.cells ∧ slots + rm.slots ≤ R.slots)
    (hK : va_K D cls tys s) (hP : va_P D cls X H) (hD : va_D A0 X) (hS : va_S A0 s.heap H locs) (hA : ∀ q : Nat, s.heap.size ≤ q → A0 q)
    (hadr : w1.map (fun q => q.1) = X.map (fun q => q.1))
    {q0 ci : Nat} {fs : List Value} {F : u_T} {N : Nat} (he : X[q0]? = some (b, .inr (ci, fs))) (hc : cls[ci]? = some (y.cls, F, N))
    (hst : st0 = As.reverse ++ .ref b :: rest) (hrest : (rest.map fun v => v.category).sum ≤ 8) (hdg : decode cc pc = .ok (.invokevirtual index, 3))
    (kk : ∀ (H1 : Heap) (locs1 : List Loc), va_P D cls w1 H1 → va_D A0 w1 → va_S A0 s.heap H1 locs1 → W p l e R s m args below meth c H1 locs1 (cells + rm.cells) (slots + rm.slots) Q (F0 m (pc + 3) ls (.int r :: rest))) :
    W p l e R s m args below meth c H locs cells slots Q (F0 m pc ls st0) := by
  subst hst
  have hFc := sd_self hD hS hA
  refine va_calli (va_runV (As := As) (rest := rest) ⟨hx, hb, hml, hown, hts⟩ (hM H.size) ⟨sd_cb hts hw hR, hts _ hwo, hts _ hwz⟩ ⟨sd_blind, va_recv hK hP hc he, fun U hU hW => sd_pre hU hW hP hK hD⟩ rfl rfl hls rfl (lv_room hrest) hdg hf) hS (fun q _ h => hFc q h) hFc (fun r' u t H1 locs1 ht hvm hpo hB hz1 hk1 hS1 => ?_)
  subst hpo
  rw [ht] at hB
  exact kk H1 locs1 hB (sd_addr hD hadr) hS1
theorem sd_allVV (hM : sd_V l D tys y cy n rm (.ref b :: As) X w1) (hw : sd_w own index y cy n none As.length) (hwo : Cond.instanceMethod y ∈ bw) (hwz : Cond.selects y.cls y y ∈ bw)
    (hx : p.tables.exec = Jvm.exec) (hb : c.code = cc) (hml : c.maxLocals = nL) (hown : s.vm.findClass own = some m.cls) (hts : ∀ w ∈ bw, w.before args s = true) (hls : ls.size = nL)
    (hR : rm.frames + 1 ≤ R.frames ∧ 8 + (n + 11) + rm.locals ≤ R.locals) (hf : cells + rm.cells ≤ R.cells ∧ slots + rm.slots ≤ R.slots)
    (hK : va_K D cls tys s) (hP : va_P D cls X H) (hD : va_D A0 X) (hS : va_S A0 s.heap H locs) (hA : ∀ q : Nat, s.heap.size ≤ q → A0 q)
    (hadr : w1.map (fun q => q.1) = X.map (fun q => q.1))
    {q0 ci : Nat} {fs : List Value} {F : u_T} {N : Nat} (he : X[q0]? = some (b, .inr (ci, fs))) (hc : cls[ci]? = some (y.cls, F, N))
    (hst : st0 = As.reverse ++ .ref b :: rest) (hrest : (rest.map fun v => v.category).sum ≤ 8) (hdg : decode cc pc = .ok (.invokevirtual index, 3))
    (kk : ∀ (H1 : Heap) (locs1 : List Loc), va_P D cls w1 H1 → va_D A0 w1 → va_S A0 s.heap H1 locs1 → W p l e R s m args below meth c H1 locs1 (cells + rm.cells) (slots + rm.slots) Q (F0 m (pc + 3) ls rest)) :
    W p l e R s m args below meth c H locs cells slots Q (F0 m pc ls st0) := by
  subst hst
  have hFc := sd_self hD hS hA
  refine va_callv (va_runV (As := As) (rest := rest) ⟨hx, hb, hml, hown, hts⟩ (hM H.size) ⟨sd_cb hts hw hR, hts _ hwo, hts _ hwz⟩ ⟨sd_blind, va_recv hK hP hc he, fun U hU hW => sd_pre hU hW hP hK hD⟩ rfl rfl hls rfl (lv_room hrest) hdg hf) hS (fun q _ h => hFc q h) hFc (fun u t H1 locs1 ht hvm hpo hB hz1 hk1 hS1 => ?_)
  rw [ht] at hB
  exact kk H1 locs1 hB (sd_addr hD hadr) hS1
theorem sd_allVJ {r : Int64} (hM : sd_J l D tys y cy n rm (.ref b :: As) X r w1) (hw : sd_w own index y cy n (some .long) As.length) (hwo : Cond.instanceMethod y ∈ bw) (hwz : Cond.selects y.cls y y ∈ bw)
    (hx : p.tables.exec = Jvm.exec) (hb : c.code = cc) (hml : c.maxLocals = nL) (hown : s.vm.findClass own = some m.cls) (hts : ∀ w ∈ bw, w.before args s = true) (hls : ls.size = nL)
    (hR : rm.frames + 1 ≤ R.frames ∧ 8 + (n + 11) + rm.locals ≤ R.locals) (hf : cells + rm.cells ≤ R.cells ∧ slots + rm.slots ≤ R.slots)
    (hK : va_K D cls tys s) (hP : va_P D cls X H) (hD : va_D A0 X) (hS : va_S A0 s.heap H locs) (hA : ∀ q : Nat, s.heap.size ≤ q → A0 q)
    (hadr : w1.map (fun q => q.1) = X.map (fun q => q.1))
    {q0 ci : Nat} {fs : List Value} {F : u_T} {N : Nat} (he : X[q0]? = some (b, .inr (ci, fs))) (hc : cls[ci]? = some (y.cls, F, N))
    (hst : st0 = As.reverse ++ .ref b :: rest) (hrest : (rest.map fun v => v.category).sum ≤ 8) (hdg : decode cc pc = .ok (.invokevirtual index, 3))
    (kk : ∀ (H1 : Heap) (locs1 : List Loc), va_P D cls w1 H1 → va_D A0 w1 → va_S A0 s.heap H1 locs1 → W p l e R s m args below meth c H1 locs1 (cells + rm.cells) (slots + rm.slots) Q (F0 m (pc + 3) ls (.long r :: rest))) :
    W p l e R s m args below meth c H locs cells slots Q (F0 m pc ls st0) := by
  subst hst
  have hFc := sd_self hD hS hA
  refine va_calll (va_runV (As := As) (rest := rest) ⟨hx, hb, hml, hown, hts⟩ (hM H.size) ⟨sd_cb hts hw hR, hts _ hwo, hts _ hwz⟩ ⟨sd_blind, va_recv hK hP hc he, fun U hU hW => sd_pre hU hW hP hK hD⟩ rfl rfl hls rfl (lv_room hrest) hdg hf) hS (fun q _ h => hFc q h) hFc (fun r' u t H1 locs1 ht hvm hpo hB hz1 hk1 hS1 => ?_)
  subst hpo
  rw [ht] at hB
  exact kk H1 locs1 hB (sd_addr hD hadr) hS1
end SDF
