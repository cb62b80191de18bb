/-! the vault's messages and the reference's -/
theorem ii_neg1 {n : Nat} (h : n < 2 ^ 31) : ¬ nI n = -1 := fun h9 => by
  have h1 := nI_pos' h
  rw [h9] at h1
  exact absurd h1 (by decide)
/-- a job's messages: lim is the vault's limit; the reference counts down what is left -/
def rl (T0 : Nat) (lim : Int32) (M : ms_T) (N : mm_T) : Prop :=
  M.1 = N.1 ∧ M.2.1 = N.2.1 ∧ M.2.2.2 = N.2.2.2 ∧ M.1 = T0 + M.2.2.1 ∧
  ((lim = -1 ∧ N.2.2.1 = -1 ∧ N.2.2.2 = 0) ∨ ∃ r : Nat, M.2.2.1 + r < 2 ^ 31 ∧ lim = nI (M.2.2.1 + r) ∧ N.2.2.1 = nI r ∧ (N.2.2.2 = 0 ∨ (N.2.2.2 = 1 ∧ r = 0)))
theorem rl_s {T0 : Nat} {lim : Int32} {M : ms_T} {N : mm_T} (h : rl T0 lim M N) (hT : M.1 < 2 ^ 31) (a b x : Int32) : rl T0 lim (ms_s lim M a b x) (mm_s N a b x) := by
  obtain ⟨T, g, u, st⟩ := M
  obtain ⟨T', g', lf, cu⟩ := N
  obtain ⟨h1, h2, h3, h4, h5⟩ := h
  dsimp only at h1 h2 h3 h4 h5 hT
  subst h1; subst h2; subst h3
  rcases h5 with ⟨r1, r2, r3⟩ | ⟨r, r1, r2, r3, r4⟩
  · subst r1; subst r2; subst r3
    have e1 : ms_s (-1) (T, g, u, 0) a b x = (T + 1, lg_put g T a b x, u + 1, 0) := ms_sy (ii_neg1 (by show u < 2 ^ 31; omega))
    have e2 : mm_s (T, g, -1, 0) a b x = (T + 1, lg_put g T a b x, -1, 0) := by
      unfold mm_s
      rw [if_pos ⟨rfl, show ¬ (-1 : Int32) = 0 by decide⟩, if_pos (show (-1 : Int32) ≤ 0 by decide)]
    rw [e1, e2]
    exact ⟨rfl, rfl, rfl, (by show T + 1 = T0 + (u + 1); omega), Or.inl ⟨rfl, rfl, rfl⟩⟩
  · subst r2; subst r3
    cases r with
    | zero =>
      have e1 : ms_s (nI (u + 0)) (T, g, u, st) a b x = (T, g, u, 1) := ms_sn rfl
      have e2 : mm_s (T, g, nI 0, st) a b x = (T, g, nI 0, 1) := by
        unfold mm_s
        rw [if_neg (fun h => h.2 rfl)]
      rw [e1, e2]
      exact ⟨rfl, rfl, rfl, h4, Or.inr ⟨0, r1, rfl, rfl, Or.inr ⟨rfl, rfl⟩⟩⟩
    | succ r =>
      have h0 : st = 0 := by
        rcases r4 with h | h
        · exact h
        · exact absurd h.2 (by omega)
      subst h0
      have e1 : ms_s (nI (u + (r + 1))) (T, g, u, 0) a b x = (T + 1, lg_put g T a b x, u + 1, 0) := ms_sy (fun h => by
        have := (nI_eq (a := u) (b := u + (r + 1)) (by omega) (by omega)).mp h
        omega)
      have e2 : mm_s (T, g, nI (r + 1), 0) a b x = (T + 1, lg_put g T a b x, nI r, 0) := by
        unfold mm_s
        rw [if_pos ⟨rfl, nI_ne0 (by omega) (by omega)⟩]
        dsimp only
        rw [if_neg (nI_nle (by omega) (by omega)), nI_pred]
      rw [e1, e2]
      refine ⟨rfl, rfl, rfl, (by show T + 1 = T0 + (u + 1); omega), Or.inr ⟨r, by show u + 1 + r < 2 ^ 31; omega, ?_, rfl, Or.inl rfl⟩⟩
      show nI (u + (r + 1)) = nI (u + 1 + r)
      rw [show u + (r + 1) = u + 1 + r by omega]
theorem rl_0 {M : ms_T} {wi : Int32} (hs : M.2.2.2 = 0) (hwi : ¬ wi < -1) : rl M.1 wi (ms_0 M) (M.1, M.2.1, wi, 0) := by
  refine ⟨rfl, rfl, hs, rfl, ?_⟩
  by_cases h : wi < 0
  · have h1 : wi = -1 := by
      apply Int32.toInt_inj.mp
      have h2 := Int32.lt_iff_toInt_lt.mp h
      have h3 : ¬ wi.toInt < (-1 : Int32).toInt := fun h9 => hwi (Int32.lt_iff_toInt_lt.mpr h9)
      have h4 : (-1 : Int32).toInt = -1 := by decide
      have h5 : (0 : Int32).toInt = 0 := by decide
      omega
    exact Or.inl ⟨h1, h1, rfl⟩
  · obtain ⟨j, hj, rfl⟩ := nI_of h
    exact Or.inr ⟨j, by show 0 + j < 2 ^ 31; omega, by show nI j = nI (0 + j); rw [Nat.zero_add], rfl, Or.inl rfl⟩
theorem rl_T {T0 : Nat} {lim : Int32} {M : ms_T} {N : mm_T} (h : rl T0 lim M N) : M.1 = N.1 := h.1
/-- sent or not: the two flags -/
theorem rl_r {T0 : Nat} {lim : Int32} {M : ms_T} {N : mm_T} (h : rl T0 lim M N) (hT : M.1 < 2 ^ 31) (a b x : Int32) : ms_r lim M = 0 ↔ ¬ (mm_s N a b x).2.2.2 = 0 := by
  have h1 := rl_s h hT a b x
  rw [← h1.2.2.1, ms_r0]
  constructor
  · intro h2
    rw [ms_sn h2]
    show ¬ (1 : Int32) = 0
    decide
  · intro h2
    by_cases h3 : nI M.2.2.1 = lim
    · exact h3
    · rw [ms_sy h3] at h2
      exfalso
      apply h2
      show M.2.2.2 = 0
      obtain ⟨_, _, e3, _, h5⟩ := h
      rcases h5 with ⟨r1, r2, r3⟩ | ⟨r, r1, r2, r3, r4⟩
      · rw [e3]; exact r3
      · rcases r4 with h | h
        · rw [e3]; exact h
        · exfalso
          apply h3
          rw [r2, h.2, Nat.add_zero]
/-- once stopped, no more -/
theorem rl_cut {T0 : Nat} {lim : Int32} {M : ms_T} {N : mm_T} (h : rl T0 lim M N) (hc : ¬ N.2.2.2 = 0) : nI M.2.2.1 = lim := by
  obtain ⟨_, _, e3, _, h5⟩ := h
  rcases h5 with ⟨r1, r2, r3⟩ | ⟨r, r1, r2, r3, r4⟩
  · exact absurd r3 hc
  · rcases r4 with h | h
    · exact absurd h hc
    · rw [r2, h.2, Nat.add_zero]
theorem ms_cut {lim : Int32} {M : ms_T} (h : nI M.2.2.1 = lim) (hs : M.2.2.2 = 1) (d : Nat) : ∀ b n, ms_t lim d b M = M ∧ ms_n lim d b M n = n := by
  induction d with
  | zero => intro b n; exact ⟨rfl, rfl⟩
  | succ d ih =>
    intro b n
    have e : ms_s lim M 0 (nI b) 257 = M := by
      rw [ms_sn h, ← hs]
    constructor
    · show ms_t lim d (b + 1) (ms_s lim M 0 (nI b) 257) = M
      rw [e]; exact (ih (b + 1) n).1
    · show ms_n lim d (b + 1) (ms_s lim M 0 (nI b) 257) (if nI M.2.2.1 = lim then n else b + 1) = n
      rw [e, if_pos h]; exact (ih (b + 1) n).2
theorem rl_one {T0 : Nat} {lim : Int32} {M : ms_T} {N : mm_T} (h : rl T0 lim M N) (hc : ¬ N.2.2.2 = 0) : M.2.2.2 = 1 := by
  obtain ⟨_, _, e3, _, h5⟩ := h
  rcases h5 with ⟨r1, r2, r3⟩ | ⟨r, r1, r2, r3, r4⟩
  · exact absurd r3 hc
  · rcases r4 with h | h
    · exact absurd h hc
    · rw [e3]; exact h.1
/-- the tidying: the vault's goes on, the reference's stops at the first that is cut -/
theorem rl_t {T0 : Nat} {lim : Int32} (d : Nat) : ∀ (b : Nat) (M : ms_T) (N : mm_T) , rl T0 lim M N → M.1 + d < 2 ^ 31 → rl T0 lim (ms_t lim d b M) (mt_f d b (N, b)).1 ∧ ms_n lim d b M b = (mt_f d b (N, b)).2 := by
  induction d with
  | zero => intro b M N h _; exact ⟨h, rfl⟩
  | succ d ih =>
    intro b M N h hT
    by_cases hc : N.2.2.2 = 0
    · have e : mt_f (d + 1) b (N, b) = mt_f d (b + 1) (mm_s N 0 (nI b) 257, if (mm_s N 0 (nI b) 257).2.2.2 = 0 then b + 1 else b) := if_pos hc
      have h1 := rl_s h (by omega) 0 (nI b) 257
      have hb := ms_b lim M 0 (nI b) 257
      rw [e]
      have hr := rl_r h (by omega) 0 (nI b) 257
      rw [ms_r0] at hr
      show rl T0 lim (ms_t lim d (b + 1) (ms_s lim M 0 (nI b) 257)) _ ∧ ms_n lim d (b + 1) (ms_s lim M 0 (nI b) 257) (if nI M.2.2.1 = lim then b else b + 1) = _
      by_cases hc2 : (mm_s N 0 (nI b) 257).2.2.2 = 0
      · rw [if_pos hc2, if_neg (fun h9 => hr.mp h9 hc2)]
        exact ih (b + 1) _ _ h1 (by omega)
      · rw [if_neg hc2, if_pos (hr.mpr hc2)]
        have e3 : mt_f d (b + 1) (mm_s N 0 (nI b) 257, b) = (mm_s N 0 (nI b) 257, b) := by
          cases d with
          | zero => rfl
          | succ d => exact if_neg hc2
        rw [e3]
        have h2 := ms_cut (rl_cut h1 hc2) (rl_one h1 hc2) d (b + 1) b
        rw [h2.1, h2.2]
        exact ⟨h1, rfl⟩
    · have e : mt_f (d + 1) b (N, b) = (N, b) := if_neg hc
      rw [e]
      have h2 := ms_cut (rl_cut h hc) (rl_one h hc) (d + 1) b b
      rw [h2.1, h2.2]
      exact ⟨h, rfl⟩
