/-! calls that throw, from a method that throws the same; the words of the four exceptions -/
section XDC
variable {p : Program} {l : Launch} {e : Env} {R : Room} {s : State} {m : MethodId} {args : Array Value} {below : List Frame} {meth : Method} {c : Code} {H : Heap} {locs : List Loc} {cells slots : Nat}
variable {D : va_G} {tys : List (ClassId × FieldType)} {cc cy : ByteArray} {pc nL n index mc ms : Nat} {ls : Array Slot} {A0 : Nat → Prop} {rest st0 As : List Value} {own : String} {y : MethodName} {ret : Option FieldType} {rm : Room} {X cx w1 ws' : va_W} {b : Nat} {E : String}
theorem xd_pre {av : List Value} {ws : va_W} {U : State} {A A1 : Nat → Prop} (hU : U.heap = H) (hW : s.WarmedH U.vm) (hP : va_P D cls ws H) (hK : va_K D cls tys s) (hD : va_D A ws) (hX : xf A1 s s.heap) (hS : va_S A1 s.heap H locs) (hF : ∀ q, va_A ws H.size q → A1 q) : xd_P D tys av ws H.size av.toArray U :=
  ⟨rfl, by rw [hU], by rw [hU]; exact hP, va_K.moved hW.alike hK, hD.weaken (fun _ _ _ _ => trivial), by rw [hU]; exact xf.warm hW ((hX.kept hS.2.1).narrow hF)⟩
theorem xd_fin {mc' ms' : Nat} {A1 : Nat → Prop} {free : Addr → Prop} {Qa : State → Outcome → State → Prop} (hq0 : ∀ st o t, Qa st o t → False) (hr : vx_Run p l e R s m args below meth c H locs cells slots mc' ms' (F0 m pc ls st0) rest Qa (xd_X D E w1 A1) free)
    (hS : va_S A0 s.heap H locs) (hA : ∀ q, q < H.size → A1 q → A0 q) (hf : ∀ q, free q → A0 q) (htab : ∀ x ∈ c.exceptionTable.toList, False) (hlk : meth.locks = false)
    (hfin : ∀ H1 : Heap, va_P D cls w1 H1 → (∀ q : Nat, q < H.size → ¬ A1 q → H1[q]? = H[q]?) → va_P D cls ws' H1) (hc : cells + mc' ≤ mc) (hs : slots + ms' ≤ ms) :
    W p l e R s m args below meth c H locs cells slots (vx_MQ below xd_F (xd_X D E ws' A0) args s mc ms A0) (F0 m pc ls st0) := by
  intro T hT X9
  rcases hr T hT X9 with ⟨v, st₀, t, T', L, h0, X', hL, e1, e2, hq, st⟩ | ⟨q, st₀, t, T', L, E', ce, h0, X', hL, e1, e2, ⟨u, hp, ⟨hE, hb⟩, hF⟩, hce, hcv, hcl, st⟩
  · exact (hq0 _ _ _ hq).elim
  · subst hE
    obtain ⟨k1, k2, k3⟩ := vx_keep h0 e1 hS hA hf hL hF
    obtain ⟨t2, a1, b1⟩ := xd_on (mc := mc) (ms := ms) (pc := pc) (ls := ls) (rest := rest) htab hlk (hfin T'.heap (by rw [e1]; exact hb) k2) k3 (by rw [e1]; exact hce) hcv hcl hc hs T' rfl X'
    exact ⟨t2, st.trans a1, b1⟩
theorem xd_callS (hM : sd_X l D tys y cy n ret rm As cx E w1) (hw : sd_w own index y cy n ret As.length) (hws : Cond.static y ∈ bw)
    (hx : p.tables.exec = Jvm.exec) (hb : c.code = cc) (hml : c.maxLocals = nL) (hown : s.vm.findClass own = some m.cls) (hts : ∀ w ∈ bw, w.before args s = true) (hls : ls.size = nL)
    (hR : rm.frames + 1 ≤ R.frames ∧ 8 + (n + 11) + rm.locals ≤ R.locals) (hf : cells + rm.cells ≤ R.cells ∧ slots + rm.slots ≤ R.slots)
    (hK : va_K D cls tys s) (hP : va_P D cls X H) (hD : va_D A0 X) (hS : va_S A0 s.heap H locs) (hA : ∀ q : Nat, s.heap.size ≤ q → A0 q) (hX : xf A0 s s.heap) (htab : ∀ x ∈ c.exceptionTable.toList, False) (hlk : meth.locks = false)
    (isC : List Nat) (hC : isC.map (fun i => X[i]?) = cx.map some) (hnd : va_nd isC = true) (hlen : isC.length = w1.length) (hfin : wr_ X isC w1 = ws')
    (hst : st0 = As.reverse ++ rest) (hrest : (rest.map fun v => v.category).sum ≤ 8) (hdg : decode cc pc = .ok (.invokestatic index, 3)) (hc : cells + rm.cells ≤ mc) (hs : slots + rm.slots ≤ ms) :
    W p l e R s m args below meth c H locs cells slots (vx_MQ below xd_F (xd_X D E ws' A0) args s mc ms A0) (F0 m pc ls st0) := by
  subst hst
  subst hfin
  have hDc := hD.sub (ws' := cx) isC hnd hC
  have hPc : va_P D cls cx H := fun k q hk => by
    have h3 : (cx.map some)[k]? = some (some q) := by rw [List.getElem?_map, hk]; rfl
    rw [← hC, List.getElem?_map] at h3
    cases hi : isC[k]? with
    | none => rw [hi] at h3; cases h3
    | some i => rw [hi] at h3; exact hP i q (Option.some.inj h3)
  have hFc := va_free (wc := cx) hD hS hA isC hC
  exact xd_fin (fun _ _ _ h => h) (vx_runS (As := As) (rest := rest) ⟨hx, hb, hml, hown, hts⟩ (hM H.size) ⟨sd_cb hts hw hR, hts _ hws⟩ ⟨xd_blind, fun U hU hW => xd_pre hU hW hPc hK hDc hX hS hFc⟩ rfl rfl hls rfl (lv_room hrest) hdg hf) hS (fun q _ h => hFc q h) hFc htab hlk (fun H1 h1 hk1 => sd_back hP hD isC hC hlen hk1 h1) hc hs
theorem xd_allV (hM : sd_X l D tys y cy n ret rm (.ref b :: As) X E w1) (hw : sd_w own index y cy n ret As.length) (hwo : Cond.instanceMethod y ∈ bw) (hwz : Cond.selects y.cls y y ∈ bw)
    (hx : p.tables.exec = Jvm.exec) (hb : c.code = cc) (hml : c.maxLocals = nL) (hown : s.vm.findClass own = some m.cls) (hts : ∀ w ∈ bw, w.before args s = true) (hls : ls.size = nL)
    (hR : rm.frames + 1 ≤ R.frames ∧ 8 + (n + 11) + rm.locals ≤ R.locals) (hf : cells + rm.cells ≤ R.cells ∧ slots + rm.slots ≤ R.slots)
    (hK : va_K D cls tys s) (hP : va_P D cls X H) (hD : va_D A0 X) (hS : va_S A0 s.heap H locs) (hA : ∀ q : Nat, s.heap.size ≤ q → A0 q) (hX : xf A0 s s.heap) (htab : ∀ x ∈ c.exceptionTable.toList, False) (hlk : meth.locks = false)
    {q0 ci : Nat} {fs : List Value} {F : u_T} {N : Nat} (he : X[q0]? = some (b, .inr (ci, fs))) (hcc : cls[ci]? = some (y.cls, F, N))
    (hst : st0 = As.reverse ++ .ref b :: rest) (hrest : (rest.map fun v => v.category).sum ≤ 8) (hdg : decode cc pc = .ok (.invokevirtual index, 3)) (hc : cells + rm.cells ≤ mc) (hs : slots + rm.slots ≤ ms) :
    W p l e R s m args below meth c H locs cells slots (vx_MQ below xd_F (xd_X D E w1 A0) args s mc ms A0) (F0 m pc ls st0) := by
  subst hst
  have hFc := sd_self hD hS hA
  exact xd_fin (fun _ _ _ h => h) (vx_runV (As := As) (rest := rest) ⟨hx, hb, hml, hown, hts⟩ (hM H.size) ⟨sd_cb hts hw hR, hts _ hwo, hts _ hwz⟩ ⟨xd_blind, va_recv hK hP hcc he, fun U hU hW => xd_pre hU hW hP hK hD hX hS hFc⟩ rfl rfl hls rfl (lv_room hrest) hdg hf) hS (fun q _ h => hFc q h) hFc htab hlk (fun H1 h1 _ => h1) hc hs
end XDC
section XDD
variable {p : Program} {l : Launch} {e : Env} {R : Room} {s : State} {m : MethodId} {args : Array Value} {below : List Frame} {meth : Method} {c : Code} {H : Heap} {locs : List Loc} {cells slots : Nat}
variable {D : va_G} {tys : List (ClassId × FieldType)} {cc : ByteArray} {pc mc ms : Nat} {ls : Array Slot} {A : Nat → Prop} {ws' : va_W} {rest : List Value} {E : String} {names : List String} {ik is ic : Nat} {text : String}
theorem xd_throwW (hl : l.stackTraces = false) (hok : xd_ok ic E names) (hk : Cond.classLink R_V ik E ∈ bw) (hini : Cond.initialized E ∈ bw) (hstr : (is, text) ∈ xs_)
    (hx : p.tables.exec = Jvm.exec) (hb : c.code = cc) (hown : s.vm.findClass R_V = some m.cls) (hts : ∀ w ∈ bw, w.before args s = true) (hX : xf A s s.heap) (htab : ∀ x ∈ c.exceptionTable.toList, False) (hlk : meth.locks = false)
    (hP : va_P D cls ws' H) (hS : va_S A s.heap H locs) (hsize : ls.size = c.maxLocals)
    (d0 : decode cc pc = .ok (.new ik, 3)) (d3 : decode cc (pc + 3) = .ok (.dup, 1)) (d4 : decode cc (pc + 4) = .ok (.ldc_w is, 3)) (d6 : decode cc (pc + 7) = .ok (.invokespecial ic, 3)) (d9 : decode cc (pc + 10) = .ok (.athrow, 1))
    (hRf : names.length + 3 < R.frames) (hRl : (rest.map fun v => v.category).sum + (13 * (names.length + 1) + 43) ≤ R.locals) (hRc : cells + 1 ≤ R.cells) (hRs : slots + 6 ≤ R.slots) (hc : cells + 1 ≤ mc) (hs : slots + 6 ≤ ms) :
    W p l e R s m args below meth c H locs cells slots (vx_MQ below xd_F (xd_X D E ws' A) args s mc ms A) (F0 m pc ls rest) := by
  obtain ⟨hU, hN, hw9, hst⟩ := hX
  obtain ⟨sa, hsa⟩ := hst _ hstr
  have hxw : ∀ w ∈ xw_, w.before args s = true := fun w hw => va_Nw.use (xw_on w hw) (hw9 w hw)
  have hat : ∀ w ∈ vx_atS R_V ic E names, w.before args s = true := fun w hw => by
    rcases (hok.1 w hw).2 with h | h
    · exact hts w (List.mem_filter.mpr ⟨(hok.1 w hw).1, h⟩)
    · exact hxw w h
  have hg1 : ∀ w ∈ bw, vx_ot w = true := fun w hw => by
    have := (List.mem_filter.mp hw).2
    unfold vx_ot
    rw [this, Bool.or_true]
  refine vx_throwSW hx hb hl hown hok.2.2.1 hok.2.2.2 (hts _ hk) (hts _ hini) hsa hat (fun w hw => ?_) hU hN hS hsize d0 d3 d4 d6 d9 (fun x hx => (htab x hx).elim) hRf hRl hRc hRs hlk ?_ hS.2.2 hc hs
  · rcases List.mem_cons.mp hw with rfl | hw
    · exact hg1 _ hk
    · rcases List.mem_cons.mp hw with rfl | hw
      · exact hg1 _ hini
      · exact hok.2.1 w hw
  · intro t _ hz hq
    refine ⟨(), trivial, ⟨rfl, hP.kept (fun k q hk => hq q.1 ((hP k q hk).lt))⟩, ⟨Nat.le_trans hS.1 hz, fun q h1 h2 => ?_⟩⟩
    rw [hq q (Nat.lt_of_lt_of_le h1 hS.1)]
    exact hS.2.1 q h1 h2
end XDD
abbrev xn_ : List String := ["java/lang/RuntimeException", "java/lang/Exception"]
theorem xk_IAE : xd_ok 74 "java/lang/IllegalArgumentException" xn_ := ⟨by decide +kernel, by decide +kernel, by decide +kernel, by decide +kernel⟩
theorem xk_UOE : xd_ok 84 "java/lang/UnsupportedOperationException" xn_ := ⟨by decide +kernel, by decide +kernel, by decide +kernel, by decide +kernel⟩
theorem xk_ISE : xd_ok 101 "java/lang/IllegalStateException" xn_ := ⟨by decide +kernel, by decide +kernel, by decide +kernel, by decide +kernel⟩
