/-! the two states, and what holds between them behind every call -/
structure VS where
  pf : Nat
  pn : Nat
  pr : Nat → Int32
  wi : Int32
  M : ms_T
  hf : Int32
  lim : Int32
  nt : Int32
  lt : Int32
  nb : Nat → Int32
  su : Nat → Int32
  wt : Nat → Int32
  ch : Nat → Int32
  le : Nat → Int32
  fl : Nat → Int32
  ep : Int32
  rw : Nat → Nat → Int32
structure MS where
  cd : Int32
  pn : Nat
  nx : Nat
  ep : Int32
  M : mm_T
  wi : Int32
  jb : Int32
  fp : Int32
  tf : Int32
  tt : Int32
  fi : Int32
  ln : Int32
  bx : Int32
  pr : Nat → Int32
  tk : Nat → Int32
  le : Nat → Int32
  co : Nat → Int32
  fr : Nat → Int32
  em : Nat → Int32
  nb : Nat → Int32
  su : Nat → Int32
structure geo (k n : Nat) (hh ff : Nat → Nat) : Prop where
  k2 : 2 ≤ k
  kn : k ≤ n
  n9 : n ≤ 9
  hi : ∀ x y, x ≤ n → y ≤ n → hh x = hh y → x = y
  fi : ∀ x y, x ≤ n → y ≤ n → ff x = ff y → x = y
  hf : ∀ x y, x ≤ n → y ≤ n → hh x ≠ ff y
structure inv (k n : Nat) (hh : Nat → Nat) (lz : Nat → Nat) (c : Nat) (v : VS) (m : MS) : Prop where
  pf : v.pf < 1000
  pn : v.pn ≤ 1000
  pm : m.pn = v.pn
  pw : pq v.pf v.pn v.pr m.pr
  vo : ∀ i, okb (v.pr i)
  mo : ∀ i, okb (m.pr i)
  to : ∀ i, okb (m.tk i)
  co : ∀ i, okb (m.co i)
  fo : ∀ i, okb (m.fr i)
  lv : ∀ i, i < 8 → v.le i = nI (lz i)
  lm : ∀ i, i < 8 → m.le i = nI (lz i)
  l8 : ∀ i, i < 8 → lz i ≤ 8
  ep : v.ep = m.ep
  fe : ∀ b, 1 ≤ b → b ≤ n → (v.fl b = 0 ↔ ¬ m.em b = 0)
  T : v.M.1 = m.M.1
  g : v.M.2.1 = m.M.2.1
  Tc : v.M.1 ≤ 6000 * c
  sn : v.M.2.2.1 ≤ v.M.1
  wi : v.wi = m.wi
  w1 : ¬ v.wi < -1
  lf : m.M.2.2.1 = -1
  st : (v.M.2.2.2 = 0 ∧ m.jb = 0) ∨ (v.M.2.2.2 = 1 ∧ (m.jb = 1 ∨ m.jb = 2 ∨ m.jb = 3) ∧ ((v.hf = 0 ∧ m.fp = 0) ∨ (v.hf = 1 ∧ m.fp = 1 ∧ ∃ a b : Nat, a ≤ 10 ∧ b ≤ 10 ∧ v.nt = nI a ∧ m.tf = nI a ∧ v.lt = nI b ∧ m.tt = nI b)))
  ch : v.ch 0 = 0
  sh : ∀ f b x, f < 8 → b < lz f → 1 ≤ x → x ≤ n → ¬ v.fl x = 0 → v.rw (hh x) (f * 8 + b) = bI (hv m.co (9 * (f * 8 + b)) k x)
/-- a job's end, not flipped -/
theorem job_A {T0 : Nat} {wi : Int32} {M8 : ms_T} {N8 : mm_T} (d b : Nat) (h : rl T0 wi M8 N8) (hT : M8.1 < 2 ^ 31) (hA : ms_r wi M8 = 0) : ¬ (mm_s N8 0 0 256).2.2.2 = 0 ∧ (ms_t wi d b (ms_s wi M8 0 0 256)).1 = (mm_s N8 0 0 256).1 ∧ (ms_t wi d b (ms_s wi M8 0 0 256)).2.1 = (mm_s N8 0 0 256).2.1 ∧ (ms_t wi d b (ms_s wi M8 0 0 256)).2.2.2 = 1 ∧ (ms_t wi d b (ms_s wi M8 0 0 256)).1 = T0 + (ms_t wi d b (ms_s wi M8 0 0 256)).2.2.1 ∧ (ms_t wi d b (ms_s wi M8 0 0 256)).1 ≤ M8.1 + 1 := by
  have h1 := rl_s h hT 0 0 256
  have h2 := (rl_r h hT 0 0 256).mp hA
  have h3 := rl_one h1 h2
  have h4 := (ms_cut (rl_cut h1 h2) h3 d b b).1
  rw [h4]
  exact ⟨h2, h1.1, h1.2.1, h3, h1.2.2.2.1, ms_b _ _ _ _ _⟩
theorem mt_le (d : Nat) : ∀ (b a : Nat) (N : mm_T), a ≤ b → (mt_f d b (N, a)).2 ≤ b + d := by
  induction d with
  | zero => intro b a N h; exact h
  | succ d ih =>
    intro b a N h
    show (if N.2.2.2 = 0 then mt_f d (b + 1) (mm_s N 0 (nI b) 257, if (mm_s N 0 (nI b) 257).2.2.2 = 0 then b + 1 else b) else (N, a)).2 ≤ b + (d + 1)
    split
    · have := ih (b + 1) (if (mm_s N 0 (nI b) 257).2.2.2 = 0 then b + 1 else b) (mm_s N 0 (nI b) 257) (by split <;> omega)
      omega
    · show a ≤ _; omega
theorem mst_b (lim : Int32) (d : Nat) : ∀ (b : Nat) (M : ms_T), (ms_t lim d b M).1 ≤ M.1 + d := by
  induction d with
  | zero => intro b M; exact Nat.le_refl _
  | succ d ih =>
    intro b M
    have h1 := ih (b + 1) (ms_s lim M 0 (nI b) 257)
    have h2 := ms_b lim M 0 (nI b) 257
    show (ms_t lim d (b + 1) (ms_s lim M 0 (nI b) 257)).1 ≤ _
    omega
theorem job_B {T0 : Nat} {wi : Int32} {M8 : ms_T} {N8 : mm_T} (d b : Nat) (h : rl T0 wi M8 N8) (hT : M8.1 + 1 + d < 2 ^ 31) (hB : ¬ ms_r wi M8 = 0) : (mm_s N8 0 0 256).2.2.2 = 0 ∧ ms_r wi M8 = 1 ∧ (ms_t wi d b (ms_s wi M8 0 0 256)).1 = (mt_f d b (mm_s N8 0 0 256, b)).1.1 ∧ (ms_t wi d b (ms_s wi M8 0 0 256)).2.1 = (mt_f d b (mm_s N8 0 0 256, b)).1.2.1 ∧ (ms_t wi d b (ms_s wi M8 0 0 256)).1 = T0 + (ms_t wi d b (ms_s wi M8 0 0 256)).2.2.1 ∧ ms_n wi d b (ms_s wi M8 0 0 256) b = (mt_f d b (mm_s N8 0 0 256, b)).2 ∧ (mt_f d b (mm_s N8 0 0 256, b)).2 ≤ b + d ∧ (ms_t wi d b (ms_s wi M8 0 0 256)).1 ≤ M8.1 + 1 + d ∧
    (((ms_t wi d b (ms_s wi M8 0 0 256)).2.2.2 = 0 ∧ (mt_f d b (mm_s N8 0 0 256, b)).1.2.2.2 = 0) ∨ ((ms_t wi d b (ms_s wi M8 0 0 256)).2.2.2 = 1 ∧ ¬ (mt_f d b (mm_s N8 0 0 256, b)).1.2.2.2 = 0)) := by
  have h1 := rl_s h (by omega) 0 0 256
  have h2 : (mm_s N8 0 0 256).2.2.2 = 0 := Decidable.not_not.mp (fun h9 => hB ((rl_r h (by omega) 0 0 256).mpr h9))
  have h3 := ms_b wi M8 0 0 256
  have h4 := rl_t d b _ _ h1 (by omega)
  have h5 := mst_b wi d b (ms_s wi M8 0 0 256)
  refine ⟨h2, ?_, h4.1.1, h4.1.2.1, h4.1.2.2.2.1, h4.2, mt_le d b b _ (Nat.le_refl b), by omega, ?_⟩
  · unfold ms_r at hB ⊢
    split at hB
    · exact absurd rfl hB
    · rename_i h9; rw [if_neg h9]
  · by_cases h9 : (mt_f d b (mm_s N8 0 0 256, b)).1.2.2.2 = 0
    · exact Or.inl ⟨by rw [h4.1.2.2.1]; exact h9, h9⟩
    · exact Or.inr ⟨rl_one h4.1 h9, h9⟩
section
variable {k n : Nat} {hh ff : Nat → Nat} {lz : Nat → Nat} {c : Nat} {v : VS} {m : MS}
theorem inv.up (h : inv k n hh lz c v m) {c' : Nat} (hc : c ≤ c') : inv k n hh lz c' v m :=
  { h with Tc := Nat.le_trans h.Tc (Nat.mul_le_mul_left 6000 hc) }
theorem inv.cd (h : inv k n hh lz c v m) (z : Int32) : inv k n hh lz (c + 1) v { m with cd := z } :=
  { pf := h.pf, pn := h.pn, pm := h.pm, pw := h.pw, vo := h.vo, mo := h.mo, to := h.to, co := h.co, fo := h.fo, lv := h.lv, lm := h.lm, l8 := h.l8, ep := h.ep, fe := h.fe, T := h.T, g := h.g, Tc := Nat.le_trans h.Tc (Nat.mul_le_mul_left 6000 (Nat.le_succ c)), sn := h.sn, wi := h.wi, w1 := h.w1, lf := h.lf, st := h.st, ch := h.ch, sh := h.sh }
theorem inv.nb (h : inv k n hh lz c v m) (a b : Nat → Int32) : inv k n hh lz c { v with nb := a, wt := b } m :=
  { pf := h.pf, pn := h.pn, pm := h.pm, pw := h.pw, vo := h.vo, mo := h.mo, to := h.to, co := h.co, fo := h.fo, lv := h.lv, lm := h.lm, l8 := h.l8, ep := h.ep, fe := h.fe, T := h.T, g := h.g, Tc := h.Tc, sn := h.sn, wi := h.wi, w1 := h.w1, lf := h.lf, st := h.st, ch := h.ch, sh := h.sh }
theorem inv.wish (h : inv k n hh lz c v m) {w : Int32} (hw : ¬ w < -1) : inv k n hh lz (c + 1) { v with wi := w } { m with cd := 0, wi := w } :=
  { pf := h.pf, pn := h.pn, pm := h.pm, pw := h.pw, vo := h.vo, mo := h.mo, to := h.to, co := h.co, fo := h.fo, lv := h.lv, lm := h.lm, l8 := h.l8, ep := h.ep, fe := h.fe, T := h.T, g := h.g, Tc := Nat.le_trans h.Tc (Nat.mul_le_mul_left 6000 (Nat.le_succ c)), sn := h.sn, wi := rfl, w1 := hw, lf := h.lf, st := h.st, ch := h.ch, sh := h.sh }
theorem inv.fed (h : inv k n hh lz c v m) (x : Int64) {q : Nat} (hq : v.pn + q ≤ 1000) : inv k n hh lz (c + 1) { v with pn := v.pn + q, pr := vf_f x v.pf v.pn q v.pr } { m with cd := 0, pn := m.pn + q, pr := fd_f x m.pn q m.pr } :=
  { pf := h.pf, pn := hq, pm := by show m.pn + q = v.pn + q; rw [h.pm], pw := by show pq v.pf (v.pn + q) _ (fd_f x m.pn q m.pr); rw [h.pm]; exact pq_feed x h.pf h.pw hq, vo := vf_ok x _ _ h.vo q, mo := fd_ok x _ h.mo q, to := h.to, co := h.co, fo := h.fo, lv := h.lv, lm := h.lm, l8 := h.l8, ep := h.ep, fe := h.fe, T := h.T, g := h.g, Tc := Nat.le_trans h.Tc (Nat.mul_le_mul_left 6000 (Nat.le_succ c)), sn := h.sn, wi := h.wi, w1 := h.w1, lf := h.lf, st := h.st, ch := h.ch, sh := h.sh }
theorem inv.forgot (h : inv k n hh lz c v m) {f : Nat} (hf : f < 8) : inv k n hh (fun i => if i = f then 0 else lz i) (c + 1) { v with le := upd v.le f 0 } { m with cd := 0, le := upd m.le f 0 } :=
  { pf := h.pf, pn := h.pn, pm := h.pm, pw := h.pw, vo := h.vo, mo := h.mo, to := h.to, co := h.co, fo := h.fo,
    lv := fun i hi => by
      show upd v.le f 0 i = nI (if i = f then 0 else lz i)
      unfold upd
      by_cases h9 : i = f
      · rw [if_pos h9, if_pos h9]; rfl
      · rw [if_neg h9, if_neg h9]; exact h.lv i hi
    lm := fun i hi => by
      show upd m.le f 0 i = nI (if i = f then 0 else lz i)
      unfold upd
      by_cases h9 : i = f
      · rw [if_pos h9, if_pos h9]; rfl
      · rw [if_neg h9, if_neg h9]; exact h.lm i hi
    l8 := fun i hi => by
      show (if i = f then 0 else lz i) ≤ 8
      by_cases h9 : i = f
      · rw [if_pos h9]; omega
      · rw [if_neg h9]; exact h.l8 i hi
    ep := h.ep, fe := h.fe, T := h.T, g := h.g, Tc := Nat.le_trans h.Tc (Nat.mul_le_mul_left 6000 (Nat.le_succ c)), sn := h.sn, wi := h.wi, w1 := h.w1, lf := h.lf, st := h.st, ch := h.ch,
    sh := fun f' b x hf' hb hx1 hx2 hfl => by
      have hb : b < if f' = f then 0 else lz f' := hb
      by_cases h9 : f' = f
      · rw [if_pos h9] at hb; omega
      · rw [if_neg h9] at hb; exact h.sh f' b x hf' hb hx1 hx2 hfl }
theorem inv.emptied (g : geo k n hh ff) (h : inv k n hh lz c v m) {x : Nat} (hx1 : 1 ≤ x) (hxn : x ≤ n) : inv k n hh lz (c + 1) { v with fl := upd v.fl x 0, rw := va_up v.rw (hh x) (ar_f 0 64 (v.rw (hh x))) } { m with cd := 0, em := upd m.em x 1 } :=
  { pf := h.pf, pn := h.pn, pm := h.pm, pw := h.pw, vo := h.vo, mo := h.mo, to := h.to, co := h.co, fo := h.fo, lv := h.lv, lm := h.lm, l8 := h.l8, ep := h.ep,
    fe := fun b hb1 hb2 => by
      show upd v.fl x 0 b = 0 ↔ ¬ upd m.em x 1 b = 0
      unfold upd
      by_cases h9 : b = x
      · rw [if_pos h9, if_pos h9]; exact ⟨fun _ => by decide, fun _ => rfl⟩
      · rw [if_neg h9, if_neg h9]; exact h.fe b hb1 hb2
    T := h.T, g := h.g, Tc := Nat.le_trans h.Tc (Nat.mul_le_mul_left 6000 (Nat.le_succ c)), sn := h.sn, wi := h.wi, w1 := h.w1, lf := h.lf, st := h.st, ch := h.ch,
    sh := fun f b y hf hb hy1 hy2 hfl => by
      have hfl : ¬ upd v.fl x 0 y = 0 := hfl
      have hne : y ≠ x := fun h9 => hfl (by rw [h9]; exact pk_us)
      unfold upd at hfl
      rw [if_neg hne] at hfl
      show va_up v.rw (hh x) _ (hh y) (f * 8 + b) = _
      rw [va_up_ne _ _ (fun h9 => hne (g.hi y x hy2 hxn h9))]
      exact h.sh f b y hf hb hy1 hy2 hfl }
theorem inv.jb0 (h : inv k n hh lz c v m) : (v.M.2.2.2 = 0 ↔ m.jb = 0) ∧ (m.jb ≤ 0 ↔ m.jb = 0) := by
  rcases h.st with ⟨h1, h2⟩ | ⟨h1, h2, _⟩
  · rw [h1, h2]; exact ⟨⟨fun _ => rfl, fun _ => rfl⟩, ⟨fun _ => rfl, fun _ => by decide⟩⟩
  · rw [h1]
    rcases h2 with h2 | h2 | h2 <;> rw [h2] <;> exact ⟨⟨fun h9 => absurd h9 (by decide), fun h9 => absurd h9 (by decide)⟩, ⟨fun h9 => absurd h9 (by decide), fun h9 => absurd h9 (by decide)⟩⟩
/-- resume: a job that was stopped ahead of FLIP is dropped -/
theorem inv.dropped (h : inv k n hh lz c v m) : inv k n hh lz (c + 1) { v with M := ms_u v.M } { m with cd := 0, jb := 0 } :=
  { pf := h.pf, pn := h.pn, pm := h.pm, pw := h.pw, vo := h.vo, mo := h.mo, to := h.to, co := h.co, fo := h.fo, lv := h.lv, lm := h.lm, l8 := h.l8, ep := h.ep, fe := h.fe, T := h.T, g := h.g, Tc := Nat.le_trans h.Tc (Nat.mul_le_mul_left 6000 (Nat.le_succ c)), sn := h.sn, wi := h.wi, w1 := h.w1, lf := h.lf, st := Or.inl ⟨rfl, rfl⟩, ch := h.ch, sh := h.sh }
/-- .. and one behind it is finished -/
theorem fin_r (d : Nat) : ∀ (b : Nat) (M : ms_T) (N : mm_T), M.1 = N.1 → M.2.1 = N.2.1 → M.2.2.1 ≤ M.1 → M.1 + d < 2 ^ 31 → M.2.2.2 = 0 → N.2.2.1 = -1 → N.2.2.2 = 0 → (ms_t (-1) d b M).1 = (mt_f d b (N, b)).1.1 ∧ (ms_t (-1) d b M).2.1 = (mt_f d b (N, b)).1.2.1 ∧ (ms_t (-1) d b M).2.2.2 = 0 ∧ (mt_f d b (N, b)).1.2.2.1 = -1 ∧ (ms_t (-1) d b M).2.2.1 ≤ (ms_t (-1) d b M).1 := by
  intro b M N h1 h2 h3 hT h4 h5 h6
  obtain ⟨T0, hT0⟩ : ∃ T0, M.1 = T0 + M.2.2.1 := ⟨M.1 - M.2.2.1, by omega⟩
  have hr : rl T0 (-1) M N := ⟨h1, h2, by rw [h4, h6], hT0, Or.inl ⟨rfl, h5, h6⟩⟩
  have h := rl_t d b M N hr hT
  obtain ⟨⟨a1, a2, a3, a4, a5⟩, _⟩ := h
  rcases a5 with ⟨_, b2, b3⟩ | ⟨r, b1, b2, _⟩
  · exact ⟨a1, a2, by rw [a3]; exact b3, b2, by omega⟩
  · exact absurd b2.symm (ii_neg1 b1)
theorem inv.finished (h : inv k n hh lz c v m) {a b : Nat} (ha : a ≤ 10) (hb : b ≤ 10) (hc : c ≤ 512) : inv k n hh lz (c + 1) { v with M := ms_t (-1) (b + 1 - a) a (ms_u v.M), lim := -1, nt := nI (ms_n (-1) (b + 1 - a) a (ms_u v.M) a) } { m with cd := 0, M := (mt_f (b + 1 - a) a ((m.M.1, m.M.2.1, m.M.2.2.1, 0), a)).1, jb := 0, tf := nI (mt_f (b + 1 - a) a ((m.M.1, m.M.2.1, m.M.2.2.1, 0), a)).2 } := by
  have hT := h.Tc
  have e := fin_r (b + 1 - a) a (ms_u v.M) (m.M.1, m.M.2.1, m.M.2.2.1, 0) h.T h.g h.sn (by show v.M.1 + (b + 1 - a) < 2 ^ 31; omega) rfl h.lf rfl
  have hb2 := mst_b (-1) (b + 1 - a) a (ms_u v.M)
  have e2 : (ms_u v.M).1 = v.M.1 := rfl
  exact { pf := h.pf, pn := h.pn, pm := h.pm, pw := h.pw, vo := h.vo, mo := h.mo, to := h.to, co := h.co, fo := h.fo, lv := h.lv, lm := h.lm, l8 := h.l8, ep := h.ep, fe := h.fe, T := e.1, g := e.2.1, Tc := by show (ms_t (-1) (b + 1 - a) a (ms_u v.M)).1 ≤ _; omega, sn := e.2.2.2.2, wi := h.wi, w1 := h.w1, lf := e.2.2.2.1, st := Or.inl ⟨e.2.2.1, rfl⟩, ch := h.ch, sh := h.sh }
end
