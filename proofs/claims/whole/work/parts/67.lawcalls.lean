/-! the law's small methods: a call, its throws caught (sd_H); calls where the callee's cells are a part of the world -/
abbrev tyJ (cI cZ cQ cJ : ClassId) : List (ClassId × FieldType) := [(cI, .int), (cZ, .boolean), (cQ, .array .int), (cJ, .long)]
theorem ty_J {D : va_G} {cI cZ cQ cJ : ClassId} {U : State} (h : va_K D cls (tyJ cI cZ cQ cJ) U) : va_K D cls (tyL cI cZ cQ) U := h.sub [0, 1, 2] rfl
/-- what is no kind of what -/
def xc_ : List (String × String) := [("java/lang/UnsupportedOperationException", "java/lang/IllegalArgumentException"), ("java/lang/IllegalStateException", "java/lang/IllegalArgumentException"), ("java/lang/UnsupportedOperationException", "java/lang/IllegalStateException"), ("java/util/NoSuchElementException", "java/lang/IllegalArgumentException"), ("java/lang/IllegalStateException", "java/util/NoSuchElementException"), ("java/lang/IndexOutOfBoundsException", "java/lang/IllegalArgumentException"), ("java/lang/IndexOutOfBoundsException", "java/util/NoSuchElementException"), ("java/lang/IllegalArgumentException", "java/lang/IndexOutOfBoundsException")]
def xN (U : State) : Prop := ∀ q ∈ xc_, va_Nc q.1 q.2 U
theorem xN.moved {u U : State} (hvm : u.vm.Alike U.vm) (h : xN u) : xN U := fun q hq => (h q hq).moved hvm
def hd_P (D : va_G) (tys : List (ClassId × FieldType)) (av : List Value) (ws : va_W) (sz : Nat) : Array Value → State → Prop :=
  va_Pc av (fun U => U.heap.size = sz ∧ va_P D cls ws U.heap ∧ va_K D cls tys U ∧ va_D (fun _ => True) ws ∧ xf (va_A ws sz) U U.heap ∧ xN U)
abbrev hd_X : String → State → State → Prop := fun _ _ _ => False
def sd_H (l : Launch) (D : va_G) (tys : List (ClassId × FieldType)) (y : MethodName) (cc : ByteArray) (n : Nat) (hh : List (Nat × Nat × Nat × Nat)) (rm : Room) (av : List Value) (ws : va_W) (r : Int32) (ws' : va_W) : Prop :=
  ∀ sz, vx_Met l y (Cond.codeWith y cc n (some .int) hh :: bw) rm (hd_P D tys av ws sz) (sd_qi D r ws' (va_A ws sz)) hd_X rm.cells rm.slots (va_A ws sz)
theorem hd_blind {D : va_G} {tys : List (ClassId × FieldType)} {av : List Value} {ws : va_W} {sz : Nat} : FrameBlind (hd_P D tys av ws sz) := fun a U g mk q => by
  obtain ⟨q0, q1, qP, qK, qD, qX, qN⟩ := q
  exact ⟨q0, q1, qP, va_K.moved (u := U) (U := U.calling g mk a) (Vm.Alike.refl U.vm) qK, qD, xf.warm (s := U) (U := U.calling g mk a) (State.WarmedH.refl U) qX, xN.moved (u := U) (U := U.calling g mk a) (Vm.Alike.refl U.vm) qN⟩
section HDA
variable {l : Launch} {D : va_G} {tys : List (ClassId × FieldType)} {y : MethodName} {cc : ByteArray} {n : Nat} {hh : List (Nat × Nat × Nat × Nat)} {rm : Room} {av : List Value} {ws ws' : va_W} {r : Int32}
theorem sd_ofH (hy : plainName y.cls = true) (hlen : (lg_sl av).length ≤ n)
    (body : ∀ (p : Program) (e : Env) (s : State) (m : MethodId) (below : List Frame) (meth : Method) (c : Code) (A : Nat → Prop) (ls : Array Slot), p.tables.exec = Jvm.exec → c.code = cc → meth.sig.returnType = some .int → c.maxLocals = n → meth.locks = false → s.vm.findClass y.cls = some m.cls → (∀ w ∈ bw, w.before av.toArray s = true) → va_K D cls tys s → va_P D cls ws s.heap → va_D A ws → (∀ q : Nat, s.heap.size ≤ q → A q) → va_S A s.heap s.heap [] → lv_has ls n (lv_args 0 av) → xf A s s.heap → xN s → c.exceptionTable.toList = tableOf hh →
      W p l e rm s m av.toArray below meth c s.heap [] 0 0 (MQ below (sd_qi D r ws' A) av.toArray s rm.cells rm.slots A) (F0 m 0 ls [])) : sd_H l D tys y cc n hh rm av ws r ws' := by
  intro sz
  refine vx_ofWH (cc := cc) (maxL := n) (ret := some .int) (hh := hh) hy rfl ?_
  intro p e s m args below meth c s₁ B hml hv
  obtain ⟨rfl, hsz, hP, hK, hD0, hX, hN⟩ := hv
  subst hsz
  have hts := atoms_spec (ws := Cond.codeWith y cc n (some .int) hh :: bw) B.pre
  have htab := vx_table (x := y) B (hts _ List.mem_cons_self)
  have hl := lv_entry av (n := n) hlen
  rw [lg_entry_eq]
  generalize (lg_sl av ++ List.replicate (n - (lg_sl av).length) Slot.unset).toArray = ls at hl ⊢
  exact vx_ret (body p e s m below meth c (va_A ws s.heap.size) ls B.exec B.bytes B.returns hml B.notSynchronized (findClass_of_methodNamed B.named) (fun w h => hts w (List.mem_cons_of_mem _ h)) hK hP (hD0.self (sz := s.heap.size)) (fun q h => Or.inr h) va_S.rf hl hX hN htab)
end HDA
/-! a part C of the world X ++ (C ++ Z) -/
theorem mid_P {D : va_G} {cl : List vw_C} {X C Z : va_W} {H : Heap} (hP : va_P D cl (X ++ (C ++ Z)) H) : va_P D cl C H := fun k q hk =>
  hP (X.length + k) q (by rw [List.getElem?_append_right (by omega), Nat.add_sub_cancel_left, List.getElem?_append_left (List.getElem?_eq_some_iff.mp hk).1]; exact hk)
theorem mid_D {A : Nat → Prop} {X C Z : va_W} (hD : va_D A (X ++ (C ++ Z))) : va_D A C := by
  have at1 : ∀ (k : Nat) (q : Nat × va_E), C[k]? = some q → (X ++ (C ++ Z))[X.length + k]? = some q := fun k q hk => by
    rw [List.getElem?_append_right (by omega), Nat.add_sub_cancel_left, List.getElem?_append_left (List.getElem?_eq_some_iff.mp hk).1]; exact hk
  exact ⟨fun i j a b hi hj hab => by have := hD.1 _ _ a b (at1 i a hi) (at1 j b hj) hab; omega, fun k q hk => hD.2 _ q (at1 k q hk)⟩
theorem mid_back {D : va_G} {cl : List vw_C} {A0 : Nat → Prop} {X C C' Z : va_W} {H H1 : Heap} (hP : va_P D cl (X ++ (C ++ Z)) H) (hD : va_D A0 (X ++ (C ++ Z))) (hk : ∀ q : Nat, q < H.size → ¬ va_A C H.size q → H1[q]? = H[q]?) (hP1 : va_P D cl C' H1) : va_P D cl (X ++ (C' ++ Z)) H1 := by
  have hX : va_P D cl X H1 := fun k q hq => by
    have h2 : (X ++ (C ++ Z))[k]? = some q := by rw [List.getElem?_append_left (List.getElem?_eq_some_iff.mp hq).1]; exact hq
    have hl := (List.getElem?_eq_some_iff.mp hq).1
    have hlt := (hP k q h2).lt
    refine (hP k q h2).kept (hk q.1 hlt ?_)
    rintro (⟨k9, e9, h9⟩ | h9)
    · have h4 : (X ++ (C ++ Z))[X.length + k9]? = some (q.1, e9) := by rw [List.getElem?_append_right (by omega), Nat.add_sub_cancel_left, List.getElem?_append_left (List.getElem?_eq_some_iff.mp h9).1]; exact h9
      have := hD.1 _ _ q (q.1, e9) h2 h4 rfl
      omega
    · omega
  have hZ : va_P D cl Z H1 := fun k q hq => by
    have h2 : (X ++ (C ++ Z))[X.length + (C.length + k)]? = some q := by rw [List.getElem?_append_right (by omega), Nat.add_sub_cancel_left, List.getElem?_append_right (by omega), Nat.add_sub_cancel_left]; exact hq
    have hlt := (hP _ q h2).lt
    refine (hP _ q h2).kept (hk q.1 hlt ?_)
    rintro (⟨k9, e9, h9⟩ | h9)
    · have hl := (List.getElem?_eq_some_iff.mp h9).1
      have h4 : (X ++ (C ++ Z))[X.length + k9]? = some (q.1, e9) := by rw [List.getElem?_append_right (by omega), Nat.add_sub_cancel_left, List.getElem?_append_left hl]; exact h9
      have := hD.1 _ _ q (q.1, e9) h2 h4 rfl
      omega
    · omega
  exact hX.app (hP1.app hZ)
theorem mid_adr {X C C' Z : va_W} (h : C'.map (fun q => q.1) = C.map (fun q => q.1)) : (X ++ (C' ++ Z)).map (fun q => q.1) = (X ++ (C ++ Z)).map (fun q => q.1) := by
  rw [List.map_append, List.map_append, List.map_append, List.map_append, h]
section HDB
variable {p : Program} {l : Launch} {e : Env} {R : Room} {s : State} {m : MethodId} {args : Array Value} {below : List Frame} {meth : Method} {c : Code} {H : Heap} {locs : List Loc} {cells slots : Nat} {Q : State → Prop}
variable {D : va_G} {tys : List (ClassId × FieldType)} {cc cy : ByteArray} {pc nL n index : Nat} {ls : Array Slot} {A0 : Nat → Prop} {rest st0 As : List Value} {own : String} {y : MethodName} {ret : FieldType} {rm : Room} {X C C' Z : va_W} {b : Nat}
theorem md_VI {r : Int32} (hM : sd_I l D tys y cy n ret rm (.ref b :: As) C r C') (hw : sd_w own index y cy n (some ret) As.length) (hwo : Cond.instanceMethod y ∈ bw) (hwz : Cond.selects y.cls y y ∈ bw)
    (hx : p.tables.exec = Jvm.exec) (hb : c.code = cc) (hml : c.maxLocals = nL) (hown : s.vm.findClass own = some m.cls) (hts : ∀ w ∈ bw, w.before args s = true) (hls : ls.size = nL)
    (hR : rm.frames + 1 ≤ R.frames ∧ 8 + (n + 11) + rm.locals ≤ R.locals) (hf : cells + rm.cells ≤ R.cells ∧ slots + rm.slots ≤ R.slots)
    (hK : va_K D cls tys s) (hP : va_P D cls (X ++ (C ++ Z)) H) (hD : va_D A0 (X ++ (C ++ Z))) (hS : va_S A0 s.heap H locs) (hA : ∀ q : Nat, s.heap.size ≤ q → A0 q)
    (hadr : C'.map (fun q => q.1) = C.map (fun q => q.1)) {q0 ci : Nat} {fs : List Value} {F : u_T} {N : Nat} (he : C[q0]? = some (b, .inr (ci, fs))) (hc : cls[ci]? = some (y.cls, F, N))
    (hst : st0 = As.reverse ++ .ref b :: rest) (hrest : (rest.map fun v => v.category).sum ≤ 8) (hdg : decode cc pc = .ok (.invokevirtual index, 3))
    (kk : ∀ (H1 : Heap) (locs1 : List Loc), va_P D cls (X ++ (C' ++ Z)) H1 → va_D A0 (X ++ (C' ++ Z)) → va_S A0 s.heap H1 locs1 → W p l e R s m args below meth c H1 locs1 (cells + rm.cells) (slots + rm.slots) Q (F0 m (pc + 3) ls (.int r :: rest))) :
    W p l e R s m args below meth c H locs cells slots Q (F0 m pc ls st0) := by
  subst hst
  have hFc := sd_self (mid_D hD) hS hA
  refine va_calli (va_runV (As := As) (rest := rest) ⟨hx, hb, hml, hown, hts⟩ (hM H.size) ⟨sd_cb hts hw hR, hts _ hwo, hts _ hwz⟩ ⟨sd_blind, va_recv hK (mid_P hP) hc he, fun U hU hW => sd_pre hU hW (mid_P hP) hK (mid_D hD)⟩ rfl rfl hls rfl (lv_room hrest) hdg hf) hS (fun q _ h => hFc q h) hFc (fun r' u t H1 locs1 ht hvm hpo hB hz1 hk1 hS1 => ?_)
  subst hpo
  rw [ht] at hB
  exact kk H1 locs1 (mid_back hP hD hk1 hB) (sd_addr hD (mid_adr hadr)) hS1
theorem md_VJ {r : Int64} (hM : sd_J l D tys y cy n rm (.ref b :: As) C r C') (hw : sd_w own index y cy n (some .long) As.length) (hwo : Cond.instanceMethod y ∈ bw) (hwz : Cond.selects y.cls y y ∈ bw)
    (hx : p.tables.exec = Jvm.exec) (hb : c.code = cc) (hml : c.maxLocals = nL) (hown : s.vm.findClass own = some m.cls) (hts : ∀ w ∈ bw, w.before args s = true) (hls : ls.size = nL)
    (hR : rm.frames + 1 ≤ R.frames ∧ 8 + (n + 11) + rm.locals ≤ R.locals) (hf : cells + rm.cells ≤ R.cells ∧ slots + rm.slots ≤ R.slots)
    (hK : va_K D cls tys s) (hP : va_P D cls (X ++ (C ++ Z)) H) (hD : va_D A0 (X ++ (C ++ Z))) (hS : va_S A0 s.heap H locs) (hA : ∀ q : Nat, s.heap.size ≤ q → A0 q)
    (hadr : C'.map (fun q => q.1) = C.map (fun q => q.1)) {q0 ci : Nat} {fs : List Value} {F : u_T} {N : Nat} (he : C[q0]? = some (b, .inr (ci, fs))) (hc : cls[ci]? = some (y.cls, F, N))
    (hst : st0 = As.reverse ++ .ref b :: rest) (hrest : (rest.map fun v => v.category).sum ≤ 8) (hdg : decode cc pc = .ok (.invokevirtual index, 3))
    (kk : ∀ (H1 : Heap) (locs1 : List Loc), va_P D cls (X ++ (C' ++ Z)) H1 → va_D A0 (X ++ (C' ++ Z)) → va_S A0 s.heap H1 locs1 → W p l e R s m args below meth c H1 locs1 (cells + rm.cells) (slots + rm.slots) Q (F0 m (pc + 3) ls (.long r :: rest))) :
    W p l e R s m args below meth c H locs cells slots Q (F0 m pc ls st0) := by
  subst hst
  have hFc := sd_self (mid_D hD) hS hA
  refine va_calll (va_runV (As := As) (rest := rest) ⟨hx, hb, hml, hown, hts⟩ (hM H.size) ⟨sd_cb hts hw hR, hts _ hwo, hts _ hwz⟩ ⟨sd_blind, va_recv hK (mid_P hP) hc he, fun U hU hW => sd_pre hU hW (mid_P hP) hK (mid_D hD)⟩ rfl rfl hls rfl (lv_room hrest) hdg hf) hS (fun q _ h => hFc q h) hFc (fun r' u t H1 locs1 ht hvm hpo hB hz1 hk1 hS1 => ?_)
  subst hpo
  rw [ht] at hB
  exact kk H1 locs1 (mid_back hP hD hk1 hB) (sd_addr hD (mid_adr hadr)) hS1
theorem md_VV (hM : sd_V l D tys y cy n rm (.ref b :: As) C C') (hw : sd_w own index y cy n none As.length) (hwo : Cond.instanceMethod y ∈ bw) (hwz : Cond.selects y.cls y y ∈ bw)
    (hx : p.tables.exec = Jvm.exec) (hb : c.code = cc) (hml : c.maxLocals = nL) (hown : s.vm.findClass own = some m.cls) (hts : ∀ w ∈ bw, w.before args s = true) (hls : ls.size = nL)
    (hR : rm.frames + 1 ≤ R.frames ∧ 8 + (n + 11) + rm.locals ≤ R.locals) (hf : cells + rm.cells ≤ R.cells ∧ slots + rm.slots ≤ R.slots)
    (hK : va_K D cls tys s) (hP : va_P D cls (X ++ (C ++ Z)) H) (hD : va_D A0 (X ++ (C ++ Z))) (hS : va_S A0 s.heap H locs) (hA : ∀ q : Nat, s.heap.size ≤ q → A0 q)
    (hadr : C'.map (fun q => q.1) = C.map (fun q => q.1)) {q0 ci : Nat} {fs : List Value} {F : u_T} {N : Nat} (he : C[q0]? = some (b, .inr (ci, fs))) (hc : cls[ci]? = some (y.cls, F, N))
    (hst : st0 = As.reverse ++ .ref b :: rest) (hrest : (rest.map fun v => v.category).sum ≤ 8) (hdg : decode cc pc = .ok (.invokevirtual index, 3))
    (kk : ∀ (H1 : Heap) (locs1 : List Loc), va_P D cls (X ++ (C' ++ Z)) H1 → va_D A0 (X ++ (C' ++ Z)) → va_S A0 s.heap H1 locs1 → W p l e R s m args below meth c H1 locs1 (cells + rm.cells) (slots + rm.slots) Q (F0 m (pc + 3) ls rest)) :
    W p l e R s m args below meth c H locs cells slots Q (F0 m pc ls st0) := by
  subst hst
  have hFc := sd_self (mid_D hD) hS hA
  refine va_callv (va_runV (As := As) (rest := rest) ⟨hx, hb, hml, hown, hts⟩ (hM H.size) ⟨sd_cb hts hw hR, hts _ hwo, hts _ hwz⟩ ⟨sd_blind, va_recv hK (mid_P hP) hc he, fun U hU hW => sd_pre hU hW (mid_P hP) hK (mid_D hD)⟩ rfl rfl hls rfl (lv_room hrest) hdg hf) hS (fun q _ h => hFc q h) hFc (fun u t H1 locs1 ht hvm hpo hB hz1 hk1 hS1 => ?_)
  rw [ht] at hB
  exact kk H1 locs1 (mid_back hP hD hk1 hB) (sd_addr hD (mid_adr hadr)) hS1
/-- a call that throws, caught here -/
theorem md_VX {E name : String} {reto : Option FieldType} (hM : sd_X l D tys y cy n reto rm (.ref b :: As) C E C') (hw : sd_w own index y cy n reto As.length) (hwo : Cond.instanceMethod y ∈ bw) (hwz : Cond.selects y.cls y y ∈ bw)
    (hx : p.tables.exec = Jvm.exec) (hb : c.code = cc) (hml : c.maxLocals = nL) (hown : s.vm.findClass own = some m.cls) (hts : ∀ w ∈ bw, w.before args s = true) (hls : ls.size = nL)
    (hR : rm.frames + 1 ≤ R.frames ∧ 8 + (n + 11) + rm.locals ≤ R.locals) (hf : cells + rm.cells ≤ R.cells ∧ slots + rm.slots ≤ R.slots)
    (hK : va_K D cls tys s) (hP : va_P D cls (X ++ (C ++ Z)) H) (hD : va_D A0 (X ++ (C ++ Z))) (hS : va_S A0 s.heap H locs) (hA : ∀ q : Nat, s.heap.size ≤ q → A0 q) (hX : xf A0 s s.heap)
    (hadr : C'.map (fun q => q.1) = C.map (fun q => q.1)) {q0 ci : Nat} {fs : List Value} {F : u_T} {N : Nat} (he : C[q0]? = some (b, .inr (ci, fs))) (hc : cls[ci]? = some (y.cls, F, N))
    (hst : st0 = As.reverse ++ .ref b :: rest) (hrest : (rest.map fun v => v.category).sum ≤ 8) (hdg : decode cc pc = .ok (.invokevirtual index, 3))
    (pre : List ExceptionTableEntry) (x : ExceptionTableEntry) (suf : List ExceptionTableEntry) (hsplit : c.exceptionTable.toList = pre ++ x :: suf)
    (hpass : ∀ z ∈ pre, covers z pc = false ∨ (z.catchType ≠ 0 ∧ ∃ nm : String, (Cond.classLink own z.catchType nm).before args s = true ∧ va_Nc E nm s)) (hcov : covers x pc = true) (h0 : x.catchType ≠ 0)
    (hlink : Cond.classLink own x.catchType name ∈ bw) (hcast : Cond.castable E name ∈ xw_)
    (kk : ∀ (q : Nat) (H1 : Heap) (locs1 : List Loc), va_P D cls (X ++ (C' ++ Z)) H1 → va_D A0 (X ++ (C' ++ Z)) → va_S A0 s.heap H1 locs1 → W p l e R s m args below meth c H1 locs1 (cells + rm.cells) (slots + rm.slots) Q (F0 m x.handlerPc ls [.ref q])) :
    W p l e R s m args below meth c H locs cells slots Q (F0 m pc ls st0) := by
  subst hst
  have hFc := sd_self (mid_D hD) hS hA
  have hr := vx_runV (As := As) (rest := rest) (g := F0 m pc ls (As.reverse ++ .ref b :: rest)) ⟨hx, hb, hml, hown, hts⟩ (hM H.size) ⟨sd_cb hts hw hR, hts _ hwo, hts _ hwz⟩ ⟨xd_blind, va_recv hK (mid_P hP) hc he, fun U hU hW => xd_pre hU hW (mid_P hP) hK (mid_D hD) hX hS hFc⟩ rfl rfl hls rfl (lv_room hrest) hdg hf (p := p) (l := l) (e := e) (below := below) (meth := meth) (locs := locs)
  intro T hT X9
  rcases hr T hT X9 with ⟨v, st₀, t, T', L, h0', X', hL, e1, e2, hq, st⟩ | ⟨q, st₀, t, T', L, E', ce, h0', X', hL, e1, e2, ⟨u, hp, ⟨hE, hb9⟩, hF⟩, hce, hcv, hcl, st⟩
  · exact hq.elim
  · subst hE
    obtain ⟨k1, k2, k3⟩ := vx_keep h0' e1 hS (fun q _ h => hFc q h) hFc hL hF
    obtain ⟨t2, a1, b1⟩ := vx_catch (Q := Q) (pc := pc) (ls := ls) (rest := rest) hown pre x suf hsplit hpass hcov h0 (hts _ hlink) (va_Nw.use (xw_on _ hcast) (hX.2.2.1 _ hcast)) (by rw [e1]; exact hce) hcv hcl (kk q T'.heap (locs ++ L) (mid_back hP hD k2 (by rw [e1]; exact hb9)) (sd_addr hD (mid_adr hadr)) k3) T' rfl X'
    exact ⟨t2, st.trans a1, b1⟩
/-- a call of a method with handlers, from the law -/
theorem hd_pre {tys : List (ClassId × FieldType)} {av : List Value} {ws : va_W} {U : State} {A A1 : Nat → Prop} (hU : U.heap = H) (hW : s.WarmedH U.vm) (hP : va_P D cls ws H) (hK : va_K D cls tys s) (hD : va_D A ws) (hX : xf A1 s s.heap) (hN : xN s) (hS : va_S A1 s.heap H locs) (hF : ∀ q, va_A ws H.size q → A1 q) : hd_P D tys av ws H.size av.toArray U :=
  ⟨rfl, by rw [hU], by rw [hU]; exact hP, va_K.moved hW.alike hK, hD.weaken (fun _ _ _ _ => trivial), by rw [hU]; exact xf.warm hW ((hX.kept hS.2.1).narrow hF), hN.moved hW.alike⟩
theorem md_SH {r : Int32} {hh : List (Nat × Nat × Nat × Nat)} (hM : sd_H l D tys y cy n hh rm As C r C') (hwc : Cond.codeWith y cy n (some .int) hh ∈ bw) (hwl : Cond.methodLink own index y ∈ bw) (hwi : Cond.initialized y.cls ∈ bw) (hwp : y.cls ≠ "java/lang/invoke/MethodHandle" ∧ y.cls ≠ "java/lang/invoke/VarHandle" ∧ (parseMethodDescriptor y.desc).map (fun d => d.parameters.length) = some As.length) (hws : Cond.static y ∈ bw)
    (hx : p.tables.exec = Jvm.exec) (hb : c.code = cc) (hml : c.maxLocals = nL) (hown : s.vm.findClass own = some m.cls) (hts : ∀ w ∈ bw, w.before args s = true) (hls : ls.size = nL)
    (hR : rm.frames + 1 ≤ R.frames ∧ 8 + (n + 11) + rm.locals ≤ R.locals) (hf : cells + rm.cells ≤ R.cells ∧ slots + rm.slots ≤ R.slots)
    (hK : va_K D cls tys s) (hP : va_P D cls (X ++ (C ++ Z)) H) (hD : va_D A0 (X ++ (C ++ Z))) (hS : va_S A0 s.heap H locs) (hA : ∀ q : Nat, s.heap.size ≤ q → A0 q) (hX : xf A0 s s.heap) (hN : xN s)
    (hadr : C'.map (fun q => q.1) = C.map (fun q => q.1)) (hst : st0 = As.reverse ++ rest) (hrest : (rest.map fun v => v.category).sum ≤ 8) (hdg : decode cc pc = .ok (.invokestatic index, 3))
    (kk : ∀ (H1 : Heap) (locs1 : List Loc), va_P D cls (X ++ (C' ++ Z)) H1 → va_D A0 (X ++ (C' ++ Z)) → va_S A0 s.heap H1 locs1 → W p l e R s m args below meth c H1 locs1 (cells + rm.cells) (slots + rm.slots) Q (F0 m (pc + 3) ls (.int r :: rest))) :
    W p l e R s m args below meth c H locs cells slots Q (F0 m pc ls st0) := by
  subst hst
  have hFc := sd_self (mid_D hD) hS hA
  have hgood := bw_in hwc
  have cw : vx_CSW R s args own index y cy n (some .int) hh (Cond.codeWith y cy n (some .int) hh :: bw) rm rm.cells rm.slots As.length :=
    ⟨⟨rfl, rfl, hR.1, hR.2, pay_in hts hgood, List.mem_cons_self⟩, hts _ hwc, hts _ hwi, ⟨hwp.1, hwp.2.1⟩, fun sig h => by
      have h2 := hwp.2.2
      rw [h] at h2
      exact (Option.some.inj h2).symm, hts _ hwl, hts _ hws⟩
  have hr := vx_runSX (As := As) (rest := rest) (g := F0 m pc ls (As.reverse ++ rest)) ⟨hx, hb, hml, hown, hts⟩ (hM H.size) cw ⟨hd_blind, fun U hU hW => hd_pre hU hW (mid_P hP) hK (mid_D hD) hX hN hS hFc⟩ rfl rfl hls rfl (lv_room hrest) hdg hf (p := p) (l := l) (e := e) (below := below) (meth := meth) (locs := locs)
  intro T hT X9
  rcases hr T hT X9 with ⟨v, st₀, t, T', L, h0', X', hL, e1, e2, ⟨⟨r', u, hv, hr', hB⟩, hF⟩, st⟩ | ⟨q, st₀, t, T', L, E', ce, h0', X', hL, e1, e2, hq, hce, hcv, hcl, st⟩
  · obtain ⟨k1, k2, k3⟩ := vx_keep h0' e1 hS (fun q _ h => hFc q h) hFc hL hF
    subst hr'
    have hB : va_P D cls C' T'.heap := by rw [e1]; exact hB
    obtain ⟨t2, a1, b1⟩ := kk T'.heap (locs ++ L) (mid_back hP hD k2 hB) (sd_addr hD (mid_adr hadr)) k3 T' rfl X'
    cases hv
    exact ⟨t2, st t2 a1, b1⟩
  · exact hq.elim
end HDB
