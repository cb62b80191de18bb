/-! a box is rebuilt -/
def xx (s : Nat → Int32) : Nat → Int32
  | 0 => 0
  | n + 1 => xx s n ^^^ s n
theorem xx_congr {s s' : Nat → Int32} {n : Nat} (h : ∀ i, i < n → s i = s' i) : xx s n = xx s' n := by
  induction n with
  | zero => rfl
  | succ n ih =>
    show xx s n ^^^ s n = xx s' n ^^^ s' n
    rw [ih (fun i hi => h i (by omega)), h n (by omega)]
theorem xx_upd (s : Nat → Int32) (p : Int32) {n h : Nat} (hh : h < n) : xx (upd s h (s h ^^^ p)) n = xx s n ^^^ p := by
  induction n with
  | zero => omega
  | succ n ih =>
    show xx (upd s h (s h ^^^ p)) n ^^^ upd s h (s h ^^^ p) n = (xx s n ^^^ s n) ^^^ p
    by_cases h1 : h = n
    · subst h1
      have e : xx (upd s h (s h ^^^ p)) h = xx s h := xx_congr (fun i hi => if_neg (by omega))
      rw [pk_us, e, Int32.xor_assoc]
    · have e : upd s h (s h ^^^ p) n = s n := if_neg (fun h9 => h1 h9.symm)
      rw [ih (by omega), e, Int32.xor_assoc, Int32.xor_assoc, Int32.xor_comm p]
theorem xx_0 (n : Nat) : xx (fun _ => 0) n = 0 := by
  induction n with
  | zero => rfl
  | succ n ih => show xx (fun _ => 0) n ^^^ 0 = 0; rw [ih]; rfl
theorem xx_L (sb wb : Nat → BitVec 8) (n : Nat) : xx (tm_f sb wb) n = bI (gf_L sb wb n) := by
  induction n with
  | zero => exact bI_0.symm
  | succ n ih =>
    show xx (tm_f sb wb) n ^^^ bI (gf_m (sb n) (wb n)) = bI (gf_L sb wb n ^^^ gf_m (sb n) (wb n))
    rw [ih, bI_xor]
theorem rb_ij {pr tk nv nm : Nat → Int32} {pf0 nx k tt : Nat} {T0 : Nat} {lim : Int32} (hpf : pf0 < 1000) (htk : ∀ i, i < tt → tk i = pr (pft pf0 i)) (hnb : ∀ i, i < k → nv i = nm i) (g : Nat) (hg : g < k) (S : rb_T) (Z : mb_T) (h1 : S.1 = Z.1) (h2 : S.2.1 = Z.2.1) (h3 : ∀ i, i < k → S.2.2.1 i = Z.2.2.1 i) (h4 : rl T0 lim S.2.2.2 Z.2.2.2) (hb : nx + S.1 + (k - 1) ≤ tt) (hT : S.2.2.2.1 + k < 2 ^ 31) (h : Nat) (hh : h ≤ k) :
    (rb_i pr (pft pf0 nx) k nv lim g h S).1 = (mb_i tk nx k nm g h Z).1 ∧ (rb_i pr (pft pf0 nx) k nv lim g h S).2.1 = (mb_i tk nx k nm g h Z).2.1 ∧ (∀ i, i < k → (rb_i pr (pft pf0 nx) k nv lim g h S).2.2.1 i = (mb_i tk nx k nm g h Z).2.2.1 i) ∧ rl T0 lim (rb_i pr (pft pf0 nx) k nv lim g h S).2.2.2 (mb_i tk nx k nm g h Z).2.2.2 := by
  induction h with
  | zero => exact ⟨h1, h2, h3, h4⟩
  | succ h ih =>
    obtain ⟨i1, i2, i3, i4⟩ := ih (by omega)
    have c1 := rb_i1 pr (pft pf0 nx) k nv lim g h S
    have c2 := rb_i2 pr (pft pf0 nx) k nv lim g h S
    show (rb_s pr (pft pf0 nx) k nv lim g h (rb_i pr (pft pf0 nx) k nv lim g h S)).1 = (mb_s tk nx k nm g h (mb_i tk nx k nm g h Z)).1 ∧ (rb_s pr (pft pf0 nx) k nv lim g h (rb_i pr (pft pf0 nx) k nv lim g h S)).2.1 = (mb_s tk nx k nm g h (mb_i tk nx k nm g h Z)).2.1 ∧ (∀ i, i < k → (rb_s pr (pft pf0 nx) k nv lim g h (rb_i pr (pft pf0 nx) k nv lim g h S)).2.2.1 i = (mb_s tk nx k nm g h (mb_i tk nx k nm g h Z)).2.2.1 i) ∧ rl T0 lim (rb_s pr (pft pf0 nx) k nv lim g h (rb_i pr (pft pf0 nx) k nv lim g h S)).2.2.2 (mb_s tk nx k nm g h (mb_i tk nx k nm g h Z)).2.2.2
    generalize rb_i pr (pft pf0 nx) k nv lim g h S = A at *
    generalize mb_i tk nx k nm g h Z = B at *
    have ep : (if h < k - 1 then pr (pft (pft pf0 nx) A.1) else A.2.1) = (if h = k - 1 then B.2.1 else tk (nx + B.1)) := by
      by_cases h9 : h < k - 1
      · rw [if_pos h9, if_neg (by omega), pft_add hpf, ← i1, htk _ (by omega)]
      · rw [if_neg h9, if_pos (by omega), i2]
    unfold rb_s mb_s
    dsimp only
    rw [ep, hnb g hg, hnb h (by omega)]
    refine ⟨?_, ?_, fun i hi => ?_, rl_s i4 (by omega) _ _ _⟩
    · by_cases h9 : h < k - 1
      · rw [if_pos h9, if_neg (by omega), i1]
      · rw [if_neg h9, if_pos (by omega), i1]
    · rw [i2]
    · unfold upd
      by_cases h9 : i = h
      · rw [if_pos h9, if_pos h9, i3 h (by omega)]
      · rw [if_neg h9, if_neg h9, i3 i hi]
theorem rb_oj {pr tk nv nm : Nat → Int32} {pf0 nx k tt : Nat} {T0 : Nat} {lim : Int32} (hpf : pf0 < 1000) (htk : ∀ i, i < tt → tk i = pr (pft pf0 i)) (hnb : ∀ i, i < k → nv i = nm i) {tv tm : Nat → Int32} (htm : ∀ g, g < k → tv g = tm g) (sv sm : Nat → Int32) (M : ms_T) (N : mm_T) (h3 : ∀ i, i < k → sv i = sm i) (h4 : rl T0 lim M N) (hb : nx + k * (k - 1) ≤ tt) (hT : M.1 + k * k < 2 ^ 31) (g : Nat) (hg : g ≤ k) :
    (rb_o pr (pft pf0 nx) k nv lim tv g (0, sv, M)).1 = (mb_o tk nx k nm tm g (0, sm, N)).1 ∧ (∀ i, i < k → (rb_o pr (pft pf0 nx) k nv lim tv g (0, sv, M)).2.1 i = (mb_o tk nx k nm tm g (0, sm, N)).2.1 i) ∧ rl T0 lim (rb_o pr (pft pf0 nx) k nv lim tv g (0, sv, M)).2.2 (mb_o tk nx k nm tm g (0, sm, N)).2.2 := by
  induction g with
  | zero => exact ⟨rfl, h3, h4⟩
  | succ g ih =>
    obtain ⟨i1, i2, i3⟩ := ih (by omega)
    have c1 := rb_o1 pr (pft pf0 nx) k nv lim tv g sv M
    have c2 := rb_o2 pr (pft pf0 nx) k nv lim tv g (0, sv, M)
    have m1 : (g + 1) * (k - 1) ≤ k * (k - 1) := Nat.mul_le_mul_right _ hg
    have m2 : (g + 1) * k ≤ k * k := Nat.mul_le_mul_right _ hg
    rw [Nat.add_mul, Nat.one_mul] at m1 m2
    dsimp only at c2
    have hs := rb_ij (lim := lim) hpf htk hnb g (by omega) ((rb_o pr (pft pf0 nx) k nv lim tv g (0, sv, M)).1, tv g, (rb_o pr (pft pf0 nx) k nv lim tv g (0, sv, M)).2.1, (rb_o pr (pft pf0 nx) k nv lim tv g (0, sv, M)).2.2) ((mb_o tk nx k nm tm g (0, sm, N)).1, tm g, (mb_o tk nx k nm tm g (0, sm, N)).2.1, (mb_o tk nx k nm tm g (0, sm, N)).2.2) i1 (htm g (by omega)) i2 i3 (by show nx + (rb_o pr (pft pf0 nx) k nv lim tv g (0, sv, M)).1 + (k - 1) ≤ tt; rw [c1]; omega) (by show (rb_o pr (pft pf0 nx) k nv lim tv g (0, sv, M)).2.2.1 + k < 2 ^ 31; omega) k (Nat.le_refl k)
    exact ⟨hs.1, hs.2.2.1, hs.2.2.2⟩
theorem rb_ej {pr tk nv nm : Nat → Int32} {pf0 k tt : Nat} {T0 : Nat} {lim : Int32} (hpf : pf0 < 1000) (htk : ∀ i, i < tt → tk i = pr (pft pf0 i)) (hnb : ∀ i, i < k → nv i = nm i) (sv sm : Nat → Int32) (h3 : ∀ i, i < k → sv i = sm i) (x : Int32) (v : Int32) (M : ms_T) (N : mm_T) (h4 : rl T0 lim M N) (hT : M.1 + k < 2 ^ 31) (h : Nat) (hh : h ≤ k) : rl T0 lim (rb_e sv nv lim x h (v, M)).2 (mb_e sm nm x h N) := by
  induction h with
  | zero => exact h4
  | succ h ih =>
    have c := rb_e2 sv nv lim x h (v, M)
    show rl T0 lim (ms_s lim (rb_e sv nv lim x h (v, M)).2 (nv h) x (sv h)) (mm_s (mb_e sm nm x h N) (nm h) x (sm h))
    rw [hnb h (by omega), h3 h (by omega)]
    exact rl_s (ih (by omega)) (by dsimp only at c; omega) _ _ _
theorem rb_e1 (su nb : Nat → Int32) (lim x : Int32) (M : ms_T) (h : Nat) : (rb_e su nb lim x h (0, M)).1 = xx su h := by
  induction h with
  | zero => rfl
  | succ h ih => show (rb_e su nb lim x h (0, M)).1 ^^^ su h = xx su h ^^^ su h; rw [ih]
theorem rb_ix (pr : Nat → Int32) (pf k : Nat) (nb : Nat → Int32) (lim : Int32) (g : Nat) (S : rb_T) (h : Nat) (hh : h ≤ k) : xx (rb_i pr pf k nb lim g h S).2.2.1 k ^^^ (rb_i pr pf k nb lim g h S).2.1 = xx S.2.2.1 k ^^^ S.2.1 := by
  induction h with
  | zero => rfl
  | succ h ih =>
    have e := ih (by omega)
    show xx (rb_s pr pf k nb lim g h (rb_i pr pf k nb lim g h S)).2.2.1 k ^^^ (rb_s pr pf k nb lim g h (rb_i pr pf k nb lim g h S)).2.1 = _
    generalize rb_i pr pf k nb lim g h S = A at *
    unfold rb_s
    dsimp only
    generalize (if h < k - 1 then pr (pft pf A.1) else A.2.1) = p
    rw [xx_upd _ _ (by omega), Int32.xor_comm A.2.1 p, Int32.xor_assoc, ← Int32.xor_assoc p p, Int32.xor_self, Int32.zero_xor]
    exact e
theorem rb_ir (pr : Nat → Int32) (pf k : Nat) (nb : Nat → Int32) (lim : Int32) (g : Nat) (S : rb_T) (hk : 1 ≤ k) : (rb_i pr pf k nb lim g k S).2.1 = 0 := by
  obtain ⟨q, rfl⟩ : ∃ q, k = q + 1 := ⟨k - 1, by omega⟩
  show (rb_s pr pf (q + 1) nb lim g q (rb_i pr pf (q + 1) nb lim g q S)).2.1 = 0
  unfold rb_s
  dsimp only
  rw [if_neg (by omega), Int32.xor_self]
theorem rb_ox (pr : Nat → Int32) (pf k : Nat) (nb : Nat → Int32) (lim : Int32) (tm su : Nat → Int32) (M : ms_T) (hk : 1 ≤ k) (g : Nat) (hg : g ≤ k) : xx (rb_o pr pf k nb lim tm g (0, su, M)).2.1 k = xx su k ^^^ xx tm g := by
  induction g with
  | zero => show xx su k = xx su k ^^^ 0; rw [Int32.xor_zero]
  | succ g ih =>
    have e := rb_ix pr pf k nb lim g ((rb_o pr pf k nb lim tm g (0, su, M)).1, tm g, (rb_o pr pf k nb lim tm g (0, su, M)).2.1, (rb_o pr pf k nb lim tm g (0, su, M)).2.2) k (Nat.le_refl k)
    rw [rb_ir pr pf k nb lim g _ hk, Int32.xor_zero] at e
    show xx (rb_i pr pf k nb lim g k ((rb_o pr pf k nb lim tm g (0, su, M)).1, tm g, (rb_o pr pf k nb lim tm g (0, su, M)).2.1, (rb_o pr pf k nb lim tm g (0, su, M)).2.2)).2.2.1 k = xx su k ^^^ (xx tm g ^^^ tm g)
    rw [e, ← Int32.xor_assoc]
    dsimp only
    rw [ih (by omega)]
theorem zs_i (su : Nat → Int32) (h i : Nat) : zs_f h su i = if i < h then 0 else su i := by
  induction h with
  | zero => rw [if_neg (by omega)]; rfl
  | succ h ih =>
    show upd (zs_f h su) h 0 i = _
    unfold upd
    by_cases h1 : i = h
    · rw [if_pos h1, if_pos (by omega)]
    · rw [if_neg h1, ih]
      by_cases h2 : i < h
      · rw [if_pos h2, if_pos (by omega)]
      · rw [if_neg h2, if_neg (by omega)]
