/-! methods that make cells: constructors: a contract with the cells that came (sd_N), arrays whose class is known, the order of cells -/
theorem va_AOA.warm {t : FieldType} {s U : State} (hW : s.WarmedH U.vm) (h : va_AOA t s) : va_AOA t U := by
  have h9 : (Cond.arrayOver (.array t)).before #[] (s.setVm U.vm) = true := by rw [Cond.arrayOver_setVmC hW.alike]; exact h
  exact h9
def zn_ : List Cond := [.methodLinkNest R_V 9 ⟨R_P, "<init>", "()V"⟩ R_V, .methodLinkNest R_V 18 ⟨R_J, "<init>", "()V"⟩ R_V, .methodLinkNest R_J 11 ⟨R_G, "<init>", "()V"⟩ R_V]
def sd_Z (U : State) : Prop := va_AOA .int U ∧ ∀ w ∈ zn_, va_Nw w U
theorem zn_warm {s U : State} (hW : s.WarmedH U.vm) : ∀ w ∈ zn_, va_Nw w s → va_Nw w U :=
  List.forall_mem_cons.mpr ⟨va_Nw.warmM hW, List.forall_mem_cons.mpr ⟨va_Nw.warmM hW, List.forall_mem_cons.mpr ⟨va_Nw.warmM hW, fun _ h => absurd h List.not_mem_nil⟩⟩⟩
theorem sd_Z.warm {s U : State} (hW : s.WarmedH U.vm) (h : sd_Z s) : sd_Z U := ⟨h.1.warm hW, fun w hw => zn_warm hW w hw (h.2 w hw)⟩
def nd_P (D : va_G) (tys : List (ClassId × FieldType)) (av : List Value) (ws : va_W) (sz : Nat) : Array Value → State → Prop :=
  va_Pc av (fun U => U.heap.size = sz ∧ va_P D cls ws U.heap ∧ va_K D cls tys U ∧ va_D (fun _ => True) ws ∧ sd_Z U)
abbrev nd_q (D : va_G) (Post : va_W → Prop) (A : Nat → Prop) : Array Value → State → Outcome → State → Prop := va_Qv Post (fun w t => va_P D cls w t.heap ∧ va_D A w) A
def sd_N (l : Launch) (D : va_G) (tys : List (ClassId × FieldType)) (y : MethodName) (cc : ByteArray) (n : Nat) (rm : Room) (av : List Value) (ws : va_W) (Post : va_W → Prop) : Prop :=
  ∀ sz, Met l y (Cond.code y cc n none :: bw) rm (nd_P D tys av ws sz) (nd_q D Post (va_A ws sz)) rm.cells rm.slots (va_A ws sz)
theorem nd_blind {D : va_G} {tys : List (ClassId × FieldType)} {av : List Value} {ws : va_W} {sz : Nat} : FrameBlind (nd_P D tys av ws sz) := fun a U g mk q => by
  obtain ⟨q0, q1, qP, qK, qD, qZ⟩ := q
  exact ⟨q0, q1, qP, va_K.moved (u := U) (U := U.calling g mk a) (Vm.Alike.refl U.vm) qK, qD, sd_Z.warm (s := U) (U := U.calling g mk a) (State.WarmedH.refl U) qZ⟩
theorem nd_pre {D : va_G} {tys : List (ClassId × FieldType)} {av : List Value} {ws : va_W} {s U : State} {H : Heap} {A : Nat → Prop} (hU : U.heap = H) (hW : s.WarmedH U.vm) (hP : va_P D cls ws H) (hK : va_K D cls tys s) (hD : va_D A ws) (hZ : sd_Z s) : nd_P D tys av ws H.size av.toArray U :=
  ⟨rfl, by rw [hU], by rw [hU]; exact hP, va_K.moved hW.alike hK, hD.weaken (fun _ _ _ _ => trivial), hZ.warm hW⟩
section NDA
variable {l : Launch} {D : va_G} {tys : List (ClassId × FieldType)} {y : MethodName} {cc : ByteArray} {n : Nat} {rm : Room} {av : List Value} {ws : va_W} {Post : va_W → Prop}
theorem sd_ofN (hy : plainName y.cls = true) (hn : y.name = "<init>") (hlen : (lg_sl av).length ≤ n)
    (body : ∀ (p : Program) (e : Env) (s : State) (m : MethodId) (below : List Frame) (meth : Method) (c : Code) (A : Nat → Prop) (ls : Array Slot), p.tables.exec = Jvm.exec → c.code = cc → meth.sig.returnType = none → c.maxLocals = n → meth.locks = false → s.vm.findClass y.cls = some m.cls → (∀ w ∈ bw, w.before av.toArray s = true) → va_K D cls tys s → va_P D cls ws s.heap → va_D A ws → (∀ q : Nat, s.heap.size ≤ q → A q) → va_S A s.heap s.heap [] → lv_has ls n (lv_args 0 av) → sd_Z s → meth.name = "<init>" →
      W p l e rm s m av.toArray below meth c s.heap [] 0 0 (MQ below (nd_q D Post A) av.toArray s rm.cells rm.slots A) (F0 m 0 ls [])) : sd_N l D tys y cc n rm av ws Post := by
  intro sz
  refine Met.ofW (cc := cc) (maxL := n) (ret := none) hy rfl ?_
  intro p e s m args below meth c s₁ B hml hv
  obtain ⟨rfl, hsz, hP, hK, hD0, hZ⟩ := hv
  subst hsz
  have hts := atoms_spec (ws := Cond.code y cc n none :: bw) B.pre
  have hl := lv_entry av (n := n) hlen
  rw [lg_entry_eq]
  generalize (lg_sl av ++ List.replicate (n - (lg_sl av).length) Slot.unset).toArray = ls at hl ⊢
  exact body p e s m below meth c (va_A ws s.heap.size) ls B.exec B.bytes B.returns hml B.notSynchronized (findClass_of_methodNamed B.named) (fun w h => hts w (List.mem_cons_of_mem _ h)) hK hP (hD0.self (sz := s.heap.size)) (fun q h => Or.inr h) va_S.rf hl hZ ((name_of_methodNamed B.named B.method).1.trans hn)
end NDA
theorem sd_cut {D : va_G} {X cx : va_W} {H : Heap} {isC : List Nat} (hP : va_P D cls X H) (hC : isC.map (fun i => X[i]?) = cx.map some) : va_P D cls cx H := fun k q hk => by
  have h3 : (cx.map some)[k]? = some (some q) := by rw [List.getElem?_map, hk]; rfl
  rw [← hC, List.getElem?_map] at h3
  cases hi : isC[k]? with
  | none => rw [hi] at h3; cases h3
  | some i => rw [hi] at h3; exact hP i q (Option.some.inj h3)
section NDB
variable {p : Program} {l : Launch} {e : Env} {R : Room} {s : State} {m : MethodId} {args : Array Value} {below : List Frame} {meth : Method} {c : Code} {H : Heap} {locs : List Loc} {cells slots : Nat} {Q : State → Prop}
variable {D : va_G} {cI cZ cQ : ClassId} {tys : List (ClassId × FieldType)} {cc cy : ByteArray} {pc mc ms nL n index : Nat} {ls : Array Slot} {A A0 : Nat → Prop} {H0 : Heap} {ws wr X cx : va_W} {rest st0 As : List Value} {own host : String} {y : MethodName} {rm : Room} {b : Nat} {Post : va_W → Prop}
theorem sd_nret (hx : p.tables.exec = Jvm.exec) (hb : c.code = cc) (hr : meth.sig.returnType = none) (hlk : meth.locks = false) (hP : va_P D cls ws H) (hD : va_D A ws) (hS : va_S A s.heap H locs) (h1 : cells ≤ mc) (h2 : slots ≤ ms) (hp : Post ws) (hdg : decode cc pc = .ok (.return_, 1)) :
    W p l e R s m args below meth c H locs cells slots (MQ below (nd_q D Post A) args s mc ms A) (F0 m pc ls []) := by
  refine W.widen (k := mc) (n := ms) h1 h2 ?_
  exact W.vret hx hb hr (fun t ht hW => ⟨⟨ws, rfl, hp, by rw [ht]; exact hP, hD⟩, hS.F ht⟩) hS.2.2 hdg hlk
theorem sd_newI (hx : p.tables.exec = Jvm.exec) (hb : c.code = cc) (hts : ∀ w ∈ bw, w.before args s = true) (hK : va_K D cls (tyL cI cZ cQ) s) (hP : va_P D cls ws H) (hD : va_D A ws) (hS : va_S A H0 H locs) (hA : ∀ q, H0.size ≤ q → A q) {N : Nat} (hN : N < 2 ^ 20) (hc : cells + 1 ≤ R.cells) (hs : slots + N ≤ R.slots) (hdg : decode cc pc = .ok (.newarray .int, 2))
    (kk : ∀ (q : Nat) (H1 : Heap), va_P D cls (ws ++ [(q, .inl (cI, N, .inl (fun _ => 0)))]) H1 → va_D A (ws ++ [(q, .inl (cI, N, .inl (fun _ => 0)))]) → va_S A H0 H1 locs → W p l e R s m args below meth c H1 locs (cells + 1) (slots + N) Q (F0 m (pc + 2) ls (.ref q :: rest))) : W p l e R s m args below meth c H locs cells slots Q (F0 m pc ls (.int (nI N) :: rest)) := by
  refine va_newa hx hb (atype := .int) (hts _ wa_int) (ty := .int) rfl hK hP hD hS hA (N' := N) (a0 := (N, .inl (fun _ => 0))) (fun cA => rfl) (nI_pos (by omega)) (nI_clamp (by omega)) (by show N * 4 ≤ _; omega) hc hs hdg (fun q cA H1 hK1 h1 h2 h3 => ?_)
  have e1 : s.vm.findClass "[I" = some cI := (hK.2 0 (cI, .int) rfl).2
  have e2 : s.vm.findClass "[I" = some cA := (hK1.2 3 (cA, .int) rfl).2
  cases Option.some.inj (e1.symm.trans e2)
  exact kk q H1 h1 h2 h3
theorem sd_newZ (hx : p.tables.exec = Jvm.exec) (hb : c.code = cc) (hts : ∀ w ∈ bw, w.before args s = true) (hK : va_K D cls (tyL cI cZ cQ) s) (hP : va_P D cls ws H) (hD : va_D A ws) (hS : va_S A H0 H locs) (hA : ∀ q, H0.size ≤ q → A q) {N : Nat} (hN : N < 2 ^ 20) (hc : cells + 1 ≤ R.cells) (hs : slots + N ≤ R.slots) (hdg : decode cc pc = .ok (.newarray .boolean, 2))
    (kk : ∀ (q : Nat) (H1 : Heap), va_P D cls (ws ++ [(q, .inl (cZ, N, .inl (fun _ => 0)))]) H1 → va_D A (ws ++ [(q, .inl (cZ, N, .inl (fun _ => 0)))]) → va_S A H0 H1 locs → W p l e R s m args below meth c H1 locs (cells + 1) (slots + N) Q (F0 m (pc + 2) ls (.ref q :: rest))) : W p l e R s m args below meth c H locs cells slots Q (F0 m pc ls (.int (nI N) :: rest)) := by
  refine va_newa hx hb (atype := .boolean) (hts _ wa_boolean) (ty := .boolean) rfl hK hP hD hS hA (N' := N) (a0 := (N, .inl (fun _ => 0))) (fun cA => rfl) (nI_pos (by omega)) (nI_clamp (by omega)) (by show N * 1 ≤ _; omega) hc hs hdg (fun q cA H1 hK1 h1 h2 h3 => ?_)
  have e1 : s.vm.findClass "[Z" = some cZ := (hK.2 1 (cZ, .boolean) rfl).2
  have e2 : s.vm.findClass "[Z" = some cA := (hK1.2 3 (cA, .boolean) rfl).2
  cases Option.some.inj (e1.symm.trans e2)
  exact kk q H1 h1 h2 h3
theorem sd_callN (hM : sd_N l D tys y cy n rm (.ref b :: As) cx Post) (hw : sd_w own index y cy n none As.length) (hwo : Cond.instanceMethod y ∈ bw) (hyn : y.name = "<init>")
    (hx : p.tables.exec = Jvm.exec) (hb : c.code = cc) (hml : c.maxLocals = nL) (hown : s.vm.findClass own = some m.cls) (hts : ∀ w ∈ bw, w.before args s = true) (hls : ls.size = nL)
    (hR : rm.frames + 1 ≤ R.frames ∧ 8 + (n + 11) + rm.locals ≤ R.locals) (hf : cells + rm.cells ≤ R.cells ∧ slots + rm.slots ≤ R.slots)
    (hK : va_K D cls tys s) (hP : va_P D cls X H) (hD : va_D A0 X) (hS : va_S A0 s.heap H locs) (hA : ∀ q : Nat, s.heap.size ≤ q → A0 q) (hZ : sd_Z s)
    (isC isR : List Nat) (hC : isC.map (fun i => X[i]?) = cx.map some) (hnd : va_nd isC = true) (hCR : isR.map (fun i => X[i]?) = wr.map some) (hnr : va_nd isR = true) (hdis : ∀ i ∈ isR, i ∉ isC)
    (hst : st0 = As.reverse ++ .ref b :: rest) (hrest : (rest.map fun v => v.category).sum ≤ 8) (hdg : decode cc pc = .ok (.invokespecial index, 3))
    (kk : ∀ (w : va_W) (H1 : Heap) (locs1 : List Loc), Post w → va_P D cls (wr ++ w) H1 → va_D A0 (wr ++ w) → va_S A0 s.heap H1 locs1 → W p l e R s m args below meth c H1 locs1 (cells + rm.cells) (slots + rm.slots) Q (F0 m (pc + 3) ls rest)) :
    W p l e R s m args below meth c H locs cells slots Q (F0 m pc ls st0) := by
  subst hst
  have hDc := hD.sub (ws' := cx) isC hnd hC
  have hPc : va_P D cls cx H := sd_cut hP hC
  have hFc := va_free (wc := cx) hD hS hA isC hC
  refine va_callv (va_runI (As := As) (rest := rest) ⟨hx, hb, hml, hown, hts⟩ (hM H.size) ⟨sd_cb hts hw hR, hyn, hts _ hwo⟩ ⟨nd_blind, fun U hU hW => nd_pre hU hW hPc hK hDc hZ⟩ rfl rfl hls rfl (lv_room hrest) hdg hf) hS (fun q _ h => hFc q h) hFc (fun u t H1 locs1 ht hvm hpo hB hz1 hk1 hS1 => ?_)
  obtain ⟨b1, b2⟩ := hB
  rw [ht] at b1
  obtain ⟨j1, j2⟩ := va_join hP hD isC isR hC hCR hnr hdis hk1 hFc b1 b2
  exact kk u H1 locs1 hpo j1 j2 hS1
theorem sd_callM (hM : sd_N l D tys y cy n rm (.ref b :: As) cx Post) (hwc : Cond.code y cy n none ∈ bw) (hwl : .methodLinkNest own index y host ∈ zn_) (hwi : Cond.initialized y.cls ∈ bw) (hwp : y.cls ≠ "java/lang/invoke/MethodHandle" ∧ y.cls ≠ "java/lang/invoke/VarHandle" ∧ (parseMethodDescriptor y.desc).map (fun d => d.parameters.length) = some As.length) (hwo : Cond.instanceMethod y ∈ bw) (hyn : y.name = "<init>")
    (hx : p.tables.exec = Jvm.exec) (hb : c.code = cc) (hml : c.maxLocals = nL) (hown : s.vm.findClass own = some m.cls) (hts : ∀ w ∈ bw, w.before args s = true) (hls : ls.size = nL)
    (hR : rm.frames + 1 ≤ R.frames ∧ 8 + (n + 11) + rm.locals ≤ R.locals) (hf : cells + rm.cells ≤ R.cells ∧ slots + rm.slots ≤ R.slots)
    (hK : va_K D cls tys s) (hP : va_P D cls X H) (hD : va_D A0 X) (hS : va_S A0 s.heap H locs) (hA : ∀ q : Nat, s.heap.size ≤ q → A0 q) (hZ : sd_Z s)
    (isC isR : List Nat) (hC : isC.map (fun i => X[i]?) = cx.map some) (hnd : va_nd isC = true) (hCR : isR.map (fun i => X[i]?) = wr.map some) (hnr : va_nd isR = true) (hdis : ∀ i ∈ isR, i ∉ isC)
    (hst : st0 = As.reverse ++ .ref b :: rest) (hrest : (rest.map fun v => v.category).sum ≤ 8) (hdg : decode cc pc = .ok (.invokespecial index, 3))
    (kk : ∀ (w : va_W) (H1 : Heap) (locs1 : List Loc), Post w → va_P D cls (wr ++ w) H1 → va_D A0 (wr ++ w) → va_S A0 s.heap H1 locs1 → W p l e R s m args below meth c H1 locs1 (cells + rm.cells) (slots + rm.slots) Q (F0 m (pc + 3) ls rest)) :
    W p l e R s m args below meth c H locs cells slots Q (F0 m pc ls st0) := by
  subst hst
  have hDc := hD.sub (ws' := cx) isC hnd hC
  have hPc : va_P D cls cx H := sd_cut hP hC
  have hFc := va_free (wc := cx) hD hS hA isC hC
  refine va_callv (va_runIN (As := As) (rest := rest) ⟨hx, hb, hml, hown, hts⟩ (hM H.size) ⟨va_cnB As.length hts (bw_in hwc) rfl rfl rfl (hZ.2 _ hwl) (hts _ hwi) hwp hR, hyn, hts _ hwo⟩ ⟨nd_blind, fun U hU hW => nd_pre hU hW hPc hK hDc hZ⟩ rfl rfl hls rfl (lv_room hrest) hdg hf) hS (fun q _ h => hFc q h) hFc (fun u t H1 locs1 ht hvm hpo hB hz1 hk1 hS1 => ?_)
  obtain ⟨b1, b2⟩ := hB
  rw [ht] at b1
  obtain ⟨j1, j2⟩ := va_join hP hD isC isR hC hCR hnr hdis hk1 hFc b1 b2
  exact kk u H1 locs1 hpo j1 j2 hS1
end NDB
