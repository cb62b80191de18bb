/-! two rows of rows beside the pool; arrays made where the world has a pool -/
theorem gz_0 (cI : ClassId) (l : List Nat) : vr_up (rowE cI (fun _ _ => 0)) l (.inl (cI, (64, .inl (fun _ => 0)))) = rowE cI (fun _ _ => 0) := by
  funext a
  unfold vr_up
  split <;> rfl
section GRA
variable {p : Program} {l : Launch} {e : Env} {R : Room} {s : State} {m : MethodId} {args : Array Value} {below : List Frame} {meth : Method} {c : Code} {H : Heap} {locs : List Loc} {cells slots : Nat} {Q : State → Prop}
variable {D : va_G} {cI cZ cQ : ClassId} {cc : ByteArray} {pc index : Nat} {ls : Array Slot} {A : Nat → Prop} {H0 : Heap} {X Y : va_W} {L : List Nat} {rest : List Value} {own : String}
theorem sd_mna (hx : p.tables.exec = Jvm.exec) (hb : c.code = cc) (hown : s.vm.findClass own = some m.cls) (hk : Cond.classLink own index "[[I" ∈ bw) (hts : ∀ w ∈ bw, w.before args s = true) (hZ : sd_Z s) (hK : va_K D cls (tyL cI cZ cQ) s) (hP : va_P D cls (X ++ va_pl L (rowE cI (fun _ _ => 0))) H) (hD : va_D A (X ++ va_pl L (rowE cI (fun _ _ => 0)))) (hS : va_S A H0 H locs) (hA : ∀ q, H0.size ≤ q → A q) {N : Nat} (hN : N < 2 ^ 20) (hc : cells + (1 + N) ≤ R.cells) (hs : slots + (N + N * 64) ≤ R.slots) (hdg : decode cc pc = .ok (.multianewarray index 2, 4))
    (kk : ∀ (q : Nat) (r : Nat → Nat) (H1 : Heap), (∀ i j : Nat, i < N → j < N → r i = r j → i = j) → (∀ i : Nat, i < N → r i ∉ L) →
      va_P D cls ((X ++ [(q, .inl (cQ, N, .inr (.inr (.inr (.inr (fun i => if i < N then some (r i) else none))))))]) ++ va_pl (L ++ (List.range N).map r) (rowE cI (fun _ _ => 0))) H1 → va_D A ((X ++ [(q, .inl (cQ, N, .inr (.inr (.inr (.inr (fun i => if i < N then some (r i) else none))))))]) ++ va_pl (L ++ (List.range N).map r) (rowE cI (fun _ _ => 0))) → va_S A H0 H1 locs →
      W p l e R s m args below meth c H1 locs (cells + 1 + N) (slots + N + N * 64) Q (F0 m (pc + 4) ls (.ref q :: rest))) : W p l e R s m args below meth c H locs cells slots Q (F0 m pc ls (.int (nI 64) :: .int (nI N) :: rest)) := by
  refine va_mna (ty := .int) (cy := cI) (z := (64, .inl (fun _ => 0))) (N' := N) (K' := 64) hx hb hown (hts _ hk) hZ.1 (hts _ wa_int) (hK.2 0 (cI, .int) rfl).2 hK hP hD hS hA (nI_pos (by omega)) (nI_pos (by omega)) (nI_clamp (by omega)) (nI_clamp (by omega)) (by omega) (by decide) (by decide) rfl rfl hc hs (fun cA => rfl) hdg (fun q r cA H1 h1 h2 hK1 h3 h4 h5 => ?_)
  have e1 : s.vm.findClass "[[I" = some cQ := (hK.2 2 (cQ, .array .int) rfl).2
  have e2 : s.vm.findClass "[[I" = some cA := (hK1.2 3 (cA, .array .int) rfl).2
  cases Option.some.inj (e1.symm.trans e2)
  rw [gz_0] at h3 h4
  exact kk q r H1 h1 h2 h3 h4 h5
theorem sd_newIp (hx : p.tables.exec = Jvm.exec) (hb : c.code = cc) (hts : ∀ w ∈ bw, w.before args s = true) (hK : va_K D cls (tyL cI cZ cQ) s) (hP : va_P D cls (X ++ Y) H) (hD : va_D A (X ++ Y)) (hS : va_S A H0 H locs) (hA : ∀ q, H0.size ≤ q → A q) {N : Nat} (hN : N < 2 ^ 20) (hc : cells + 1 ≤ R.cells) (hs : slots + N ≤ R.slots) (hdg : decode cc pc = .ok (.newarray .int, 2))
    (kk : ∀ (q : Nat) (H1 : Heap), va_P D cls ((X ++ [(q, .inl (cI, N, .inl (fun _ => 0)))]) ++ Y) H1 → va_D A ((X ++ [(q, .inl (cI, N, .inl (fun _ => 0)))]) ++ Y) → va_S A H0 H1 locs → W p l e R s m args below meth c H1 locs (cells + 1) (slots + N) Q (F0 m (pc + 2) ls (.ref q :: rest))) : W p l e R s m args below meth c H locs cells slots Q (F0 m pc ls (.int (nI N) :: rest)) :=
  sd_newI hx hb hts hK hP hD hS hA hN hc hs hdg (fun q H1 h1 h2 h3 => kk q H1 h1.swap h2.swap h3)
theorem sd_newZp (hx : p.tables.exec = Jvm.exec) (hb : c.code = cc) (hts : ∀ w ∈ bw, w.before args s = true) (hK : va_K D cls (tyL cI cZ cQ) s) (hP : va_P D cls (X ++ Y) H) (hD : va_D A (X ++ Y)) (hS : va_S A H0 H locs) (hA : ∀ q, H0.size ≤ q → A q) {N : Nat} (hN : N < 2 ^ 20) (hc : cells + 1 ≤ R.cells) (hs : slots + N ≤ R.slots) (hdg : decode cc pc = .ok (.newarray .boolean, 2))
    (kk : ∀ (q : Nat) (H1 : Heap), va_P D cls ((X ++ [(q, .inl (cZ, N, .inl (fun _ => 0)))]) ++ Y) H1 → va_D A ((X ++ [(q, .inl (cZ, N, .inl (fun _ => 0)))]) ++ Y) → va_S A H0 H1 locs → W p l e R s m args below meth c H1 locs (cells + 1) (slots + N) Q (F0 m (pc + 2) ls (.ref q :: rest))) : W p l e R s m args below meth c H locs cells slots Q (F0 m pc ls (.int (nI N) :: rest)) :=
  sd_newZ hx hb hts hK hP hD hS hA hN hc hs hdg (fun q H1 h1 h2 h3 => kk q H1 h1.swap h2.swap h3)
end GRA
/-- the first j boxes are filled -/
def fb_f : Nat → Nat → Int32
  | 0 => fun _ => 0
  | j + 1 => upd (fb_f j) (j + 1) 1
theorem fb_1 (n b : Nat) (h1 : 1 ≤ b) (h2 : b ≤ n) : ¬ fb_f n b = 0 := by
  induction n with
  | zero => omega
  | succ n ih =>
    show ¬ upd (fb_f n) (n + 1) 1 b = 0
    unfold upd
    by_cases h : b = n + 1
    · rw [if_pos h]; decide
    · rw [if_neg h]; exact ih (by omega)
