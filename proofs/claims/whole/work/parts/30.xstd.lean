/-! throws: what a method needs to throw (xf), a contract that says that it throws (sd_X), how such a body begins and ends, how it is called by one that throws the same -/
abbrev xd_S (c : String) : MethodName := ⟨c, "<init>", "(Ljava/lang/String;)V"⟩
def xs_ : List (Nat × String) := [(72, "not 1 to 8 bytes"), (82, "the pool is too full"), (247, "no such file"), (99, "the file is kept"), (256, "a box is emptied"), (258, "a job is stopped"), (260, "the pool has too few bytes"), (249, "no such box"), (145, "the box is emptied"), (150, "too few boxes would be filled"), (158, "the box is filled"), (266, "too few filled boxes"), (172, "not -1 or more"), (253, "the file is not kept"), (196, "the file has no such byte"), (202, "no such job"), (216, "no such message"), (218, "no such part of a message")]
def xw_ : List Cond := [.declares (xd_S "java/lang/RuntimeException"), .declares (xd_S "java/lang/Exception"), .declares (xd_S "java/lang/Throwable"), .castable "java/lang/IllegalArgumentException" "java/lang/IllegalArgumentException", .castable "java/lang/UnsupportedOperationException" "java/lang/UnsupportedOperationException", .castable "java/lang/IllegalStateException" "java/lang/IllegalStateException", .castable "java/lang/IndexOutOfBoundsException" "java/lang/IndexOutOfBoundsException", .castable "java/util/NoSuchElementException" "java/util/NoSuchElementException"]
def xf (A : Nat → Prop) (U : State) (H : Heap) : Prop := vx_Zq Bundle.tN "UNASSIGNED_STACK" Bundle.steD A U H ∧ vx_Zq Bundle.tN "SUPPRESSED_SENTINEL" Bundle.listD A U H ∧ (∀ w ∈ xw_, va_Nw w U) ∧ ∀ q ∈ xs_, ∃ sa : Nat, vk_R R_V q.1 q.2 sa U
theorem xw_warm {s U : State} (hW : s.WarmedH U.vm) : ∀ w ∈ xw_, va_Nw w s → va_Nw w U :=
  List.forall_mem_cons.mpr ⟨va_Nw.warmD hW, List.forall_mem_cons.mpr ⟨va_Nw.warmD hW, List.forall_mem_cons.mpr ⟨va_Nw.warmD hW, List.forall_mem_cons.mpr ⟨va_Nw.warmC hW, List.forall_mem_cons.mpr ⟨va_Nw.warmC hW, List.forall_mem_cons.mpr ⟨va_Nw.warmC hW, List.forall_mem_cons.mpr ⟨va_Nw.warmC hW, List.forall_mem_cons.mpr ⟨va_Nw.warmC hW, fun _ h => absurd h List.not_mem_nil⟩⟩⟩⟩⟩⟩⟩⟩
theorem xw_on : ∀ w ∈ xw_, w.onTables = true := by decide +kernel
theorem xf.warm {A : Nat → Prop} {s U : State} {H : Heap} (hW : s.WarmedH U.vm) (h : xf A s H) : xf A U H :=
  ⟨vx_Zq.moved hW.alike h.1, vx_Zq.moved hW.alike h.2.1, fun w hw => xw_warm hW w hw (h.2.2.1 w hw), fun q hq => by obtain ⟨sa, hsa⟩ := h.2.2.2 q hq; exact ⟨sa, vk_R.warm hW hsa⟩⟩
theorem xf.kept {A : Nat → Prop} {s : State} {H H1 : Heap} (h : xf A s H) (hq : ∀ a : Nat, a < H.size → ¬ A a → H1[a]? = H[a]?) : xf A s H1 := ⟨h.1.kept hq, h.2.1.kept hq, h.2.2⟩
theorem xf.narrow {A B : Nat → Prop} {s : State} {H : Heap} (h : xf A s H) (hAB : ∀ q, B q → A q) : xf B s H := ⟨h.1.narrow hAB, h.2.1.narrow hAB, h.2.2⟩
def xd_P (D : va_G) (tys : List (ClassId × FieldType)) (av : List Value) (ws : va_W) (sz : Nat) : Array Value → State → Prop :=
  va_Pc av (fun U => U.heap.size = sz ∧ va_P D cls ws U.heap ∧ va_K D cls tys U ∧ va_D (fun _ => True) ws ∧ xf (va_A ws sz) U U.heap)
abbrev xd_X (D : va_G) (E : String) (ws' : va_W) (A : Nat → Prop) : String → State → State → Prop := vx_X (fun _ : Unit => True) (fun E' _ t => E' = E ∧ va_P D cls ws' t.heap) A
abbrev xd_F : Array Value → State → Outcome → State → Prop := fun _ _ _ _ => False
def sd_X (l : Launch) (D : va_G) (tys : List (ClassId × FieldType)) (y : MethodName) (cc : ByteArray) (n : Nat) (ret : Option FieldType) (rm : Room) (av : List Value) (ws : va_W) (E : String) (ws' : va_W) : Prop :=
  ∀ sz, vx_Met l y (Cond.code y cc n ret :: bw) rm (xd_P D tys av ws sz) xd_F (xd_X D E ws' (va_A ws sz)) rm.cells rm.slots (va_A ws sz)
theorem xd_blind {D : va_G} {tys : List (ClassId × FieldType)} {av : List Value} {ws : va_W} {sz : Nat} : FrameBlind (xd_P D tys av ws sz) := fun a U g mk q => by
  obtain ⟨q0, q1, qP, qK, qD, qX⟩ := q
  exact ⟨q0, q1, qP, va_K.moved (u := U) (U := U.calling g mk a) (Vm.Alike.refl U.vm) qK, qD, xf.warm (s := U) (U := U.calling g mk a) (State.WarmedH.refl U) qX⟩
section XDA
variable {l : Launch} {D : va_G} {tys : List (ClassId × FieldType)} {y : MethodName} {cc : ByteArray} {n : Nat} {ret : Option FieldType} {rm : Room} {av : List Value} {ws ws' : va_W} {E : String}
theorem sd_ofX (hy : plainName y.cls = true) (hlen : (lg_sl av).length ≤ n)
    (body : ∀ (p : Program) (e : Env) (s : State) (m : MethodId) (below : List Frame) (meth : Method) (c : Code) (A : Nat → Prop) (ls : Array Slot), p.tables.exec = Jvm.exec → c.code = cc → meth.sig.returnType = ret → c.maxLocals = n → meth.locks = false → s.vm.findClass y.cls = some m.cls → (∀ w ∈ bw, w.before av.toArray s = true) → va_K D cls tys s → va_P D cls ws s.heap → va_D A ws → (∀ q : Nat, s.heap.size ≤ q → A q) → va_S A s.heap s.heap [] → lv_has ls n (lv_args 0 av) → xf A s s.heap → (∀ x ∈ c.exceptionTable.toList, False) →
      W p l e rm s m av.toArray below meth c s.heap [] 0 0 (vx_MQ below xd_F (xd_X D E ws' A) av.toArray s rm.cells rm.slots A) (F0 m 0 ls [])) : sd_X l D tys y cc n ret rm av ws E ws' := by
  intro sz
  refine vx_ofW (cc := cc) (maxL := n) (ret := ret) hy rfl ?_
  intro p e s m args below meth c s₁ B hml htab hv
  obtain ⟨rfl, hsz, hP, hK, hD0, hX⟩ := hv
  subst hsz
  have hts := atoms_spec (ws := Cond.code y cc n ret :: bw) B.pre
  have hl := lv_entry av (n := n) hlen
  rw [lg_entry_eq]
  generalize (lg_sl av ++ List.replicate (n - (lg_sl av).length) Slot.unset).toArray = ls at hl ⊢
  exact body p e s m below meth c (va_A ws s.heap.size) ls B.exec B.bytes B.returns hml B.notSynchronized (findClass_of_methodNamed B.named) (fun w h => hts w (List.mem_cons_of_mem _ h)) hK hP (hD0.self (sz := s.heap.size)) (fun q h => Or.inr h) va_S.rf hl hX htab
end XDA
/-- the words of a throw are there -/
def xd_ok (ic : Nat) (E : String) (names : List String) : Prop := (∀ w ∈ vx_atS R_V ic E names, w ∈ lw_tbl ∧ (goodWord w = true ∨ w ∈ xw_)) ∧ (∀ w ∈ vx_atS R_V ic E names, vx_ot w = true) ∧ Bundle.fit E = true ∧ (∀ n ∈ names, Bundle.fit n = true)
section XDB
variable {p : Program} {l : Launch} {e : Env} {R : Room} {s : State} {m : MethodId} {args : Array Value} {below : List Frame} {meth : Method} {c : Code} {H : Heap} {locs : List Loc} {cells slots : Nat}
variable {D : va_G} {tys : List (ClassId × FieldType)} {cc : ByteArray} {pc mc ms : Nat} {ls : Array Slot} {A : Nat → Prop} {ws' : va_W} {rest : List Value} {E : String} {names : List String} {ik is ic : Nat} {text : String}
theorem xd_throw (hl : l.stackTraces = false) (hok : xd_ok ic E names) (hk : Cond.classLink R_V ik E ∈ bw) (hini : Cond.initialized E ∈ bw) (hstr : (is, text) ∈ xs_)
    (hx : p.tables.exec = Jvm.exec) (hb : c.code = cc) (hown : s.vm.findClass R_V = some m.cls) (hts : ∀ w ∈ bw, w.before args s = true) (hX : xf A s s.heap) (htab : ∀ x ∈ c.exceptionTable.toList, False) (hlk : meth.locks = false)
    (hP : va_P D cls ws' H) (hS : va_S A s.heap H locs) (hsize : ls.size = c.maxLocals)
    (d0 : decode cc pc = .ok (.new ik, 3)) (d3 : decode cc (pc + 3) = .ok (.dup, 1)) (d4 : decode cc (pc + 4) = .ok (.ldc is, 2)) (d6 : decode cc (pc + 6) = .ok (.invokespecial ic, 3)) (d9 : decode cc (pc + 9) = .ok (.athrow, 1))
    (hRf : names.length + 3 < R.frames) (hRl : (rest.map fun v => v.category).sum + (13 * (names.length + 1) + 43) ≤ R.locals) (hRc : cells + 1 ≤ R.cells) (hRs : slots + 6 ≤ R.slots) (hc : cells + 1 ≤ mc) (hs : slots + 6 ≤ ms) :
    W p l e R s m args below meth c H locs cells slots (vx_MQ below xd_F (xd_X D E ws' A) args s mc ms A) (F0 m pc ls rest) := by
  obtain ⟨hU, hN, hw9, hst⟩ := hX
  obtain ⟨sa, hsa⟩ := hst _ hstr
  have hxw : ∀ w ∈ xw_, w.before args s = true := fun w hw => va_Nw.use (xw_on w hw) (hw9 w hw)
  have hat : ∀ w ∈ vx_atS R_V ic E names, w.before args s = true := fun w hw => by
    rcases (hok.1 w hw).2 with h | h
    · exact hts w (List.mem_filter.mpr ⟨(hok.1 w hw).1, h⟩)
    · exact hxw w h
  have hg1 : ∀ w ∈ bw, vx_ot w = true := fun w hw => by
    have := (List.mem_filter.mp hw).2
    unfold vx_ot
    rw [this, Bool.or_true]
  refine vx_throwS hx hb hl hown hok.2.2.1 hok.2.2.2 (hts _ hk) (hts _ hini) hsa hat (fun w hw => ?_) hU hN hS hsize d0 d3 d4 d6 d9 (fun x hx => (htab x hx).elim) hRf hRl hRc hRs hlk ?_ hS.2.2 hc hs
  · rcases List.mem_cons.mp hw with rfl | hw
    · exact hg1 _ hk
    · rcases List.mem_cons.mp hw with rfl | hw
      · exact hg1 _ hini
      · exact hok.2.1 w hw
  · intro t _ hz hq
    refine ⟨(), trivial, ⟨rfl, hP.kept (fun k q hk => hq q.1 ((hP k q hk).lt))⟩, ⟨Nat.le_trans hS.1 hz, fun q h1 h2 => ?_⟩⟩
    rw [hq q (Nat.lt_of_lt_of_le h1 hS.1)]
    exact hS.2.1 q h1 h2
/-- it goes on to the caller -/
theorem xd_on {q9 : Addr} {ce : Cell} (htab : ∀ x ∈ c.exceptionTable.toList, False) (hlk : meth.locks = false) (hP : va_P D cls ws' H) (hS : va_S A s.heap H locs) (hcell : H[q9]? = some ce) (hv : ce.vm = .none) (hcl : s.vm.findClass E = some ce.cls) (hc : cells ≤ mc) (hs : slots ≤ ms) :
    vx_W p l e R s m args below meth c H locs cells slots (vx_MQ below xd_F (xd_X D E ws' A) args s mc ms A) (F0 m pc ls rest) q9 :=
  vx_out (fun x hx => (htab x hx).elim) hlk hcell hv hcl (fun t ht _ => ⟨(), trivial, ⟨rfl, by rw [ht]; exact hP⟩, hS.F ht⟩) hS.2.2 hc hs
end XDB
