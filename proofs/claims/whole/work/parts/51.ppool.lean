/-! the pool: the vault's ring and the reference's row -/
theorem pft_eq {f : Nat} (hf : f < 1000) (t : Nat) : pft f t = (f + t) % 1000 := by
  induction t with
  | zero => show f = (f + 0) % 1000; omega
  | succ t ih => show (pft f t + 1) % 1000 = (f + (t + 1)) % 1000; rw [ih]; omega
theorem pft_add {f : Nat} (hf : f < 1000) (s t : Nat) : pft (pft f s) t = pft f (s + t) := by
  rw [pft_eq (pft_lt hf), pft_eq hf, pft_eq hf]; omega
/-- the same bytes wait -/
def pq (pf pn : Nat) (pv pm : Nat → Int32) : Prop := ∀ i, i < pn → pm i = pv ((pf + i) % 1000)
theorem tq_i (t : Nat) (tk pr : Nat → Int32) (j : Nat) : (∀ i, i < j → i < t → (tq_f t j (tk, pr)).1 i = pr i) ∧ (∀ i, i + t < j → (tq_f t j (tk, pr)).2 i = pr (i + t)) ∧ (∀ i, j ≤ i + t → (tq_f t j (tk, pr)).2 i = pr i) := by
  induction j with
  | zero => exact ⟨fun i h => absurd h (Nat.not_lt_zero i), fun i h => absurd h (Nat.not_lt_zero _), fun i _ => rfl⟩
  | succ j ih =>
    obtain ⟨h1, h2, h3⟩ := ih
    by_cases h : j < t
    · have e : tq_f t (j + 1) (tk, pr) = (upd (tq_f t j (tk, pr)).1 j ((tq_f t j (tk, pr)).2 j), (tq_f t j (tk, pr)).2) := if_pos h
      rw [e]
      refine ⟨fun i hi ht => ?_, fun i hi => h2 i (by omega), fun i hi => h3 i (by omega)⟩
      show upd (tq_f t j (tk, pr)).1 j ((tq_f t j (tk, pr)).2 j) i = pr i
      unfold upd
      by_cases h9 : i = j
      · rw [if_pos h9, h9]; exact h3 j (by omega)
      · rw [if_neg h9]; exact h1 i (by omega) ht
    · have e : tq_f t (j + 1) (tk, pr) = ((tq_f t j (tk, pr)).1, upd (tq_f t j (tk, pr)).2 (j - t) ((tq_f t j (tk, pr)).2 j)) := if_neg h
      rw [e]
      refine ⟨fun i hi ht => h1 i (by omega) ht, fun i hi => ?_, fun i hi => ?_⟩
      · show upd (tq_f t j (tk, pr)).2 (j - t) ((tq_f t j (tk, pr)).2 j) i = pr (i + t)
        unfold upd
        by_cases h9 : i = j - t
        · rw [if_pos h9, h9, show j - t + t = j by omega]; exact h3 j (by omega)
        · rw [if_neg h9]; exact h2 i (by omega)
      · show upd (tq_f t j (tk, pr)).2 (j - t) ((tq_f t j (tk, pr)).2 j) i = pr i
        unfold upd
        rw [if_neg (by omega)]; exact h3 i (by omega)
theorem pq_take {pf pn t : Nat} {pv pm tk : Nat → Int32} (hpf : pf < 1000) (h : pq pf pn pv pm) (ht : t ≤ pn) : pq (pft pf t) (pn - t) pv (tq_f t pn (tk, pm)).2 := by
  intro i hi
  rw [(tq_i t tk pm pn).2.1 i (by omega), h (i + t) (by omega), pft_eq hpf]
  congr 1; omega
theorem pq_tk {pf pn t : Nat} {pv pm tk : Nat → Int32} (hpf : pf < 1000) (h : pq pf pn pv pm) (ht : t ≤ pn) (i : Nat) (hi : i < t) : (tq_f t pn (tk, pm)).1 i = pv (pft pf i) := by
  rw [(tq_i t tk pm pn).1 i (by omega) hi, h i (by omega), pft_eq hpf]
theorem fd_i (x : Int64) (pn : Nat) (pr : Nat → Int32) (j : Nat) (i : Nat) : fd_f x pn j pr i = if pn ≤ i ∧ i < pn + j then bI (lb x (i - pn)) else pr i := by
  induction j with
  | zero => rw [if_neg (by omega)]; rfl
  | succ j ih =>
    show upd (fd_f x pn j pr) (pn + j) (bI (lb x j)) i = _
    unfold upd
    by_cases h : i = pn + j
    · rw [if_pos h, if_pos (by omega), h, Nat.add_sub_cancel_left]
    · rw [if_neg h, ih]
      by_cases h2 : pn ≤ i ∧ i < pn + j
      · rw [if_pos h2, if_pos (by omega)]
      · rw [if_neg h2, if_neg (by omega)]
theorem vf_i (x : Int64) {pf pn : Nat} (pr : Nat → Int32) (j : Nat) (hp : pn + j ≤ 1000) (hpf : pf < 1000) : ∀ i, i < 1000 → vf_f x pf pn j pr ((pf + i) % 1000) = if pn ≤ i ∧ i < pn + j then bI (lb x (i - pn)) else pr ((pf + i) % 1000) := by
  induction j with
  | zero => intro i _; rw [if_neg (by omega)]; rfl
  | succ j ih =>
    intro i hi
    show upd (vf_f x pf pn j pr) ((pf + (pn + j)) % 1000) (bI (lb x j)) ((pf + i) % 1000) = _
    unfold upd
    by_cases h : i = pn + j
    · rw [if_pos (by rw [h]), if_pos (by omega), h, Nat.add_sub_cancel_left]
    · rw [if_neg (by omega), ih (by omega) i hi]
      by_cases h2 : pn ≤ i ∧ i < pn + j
      · rw [if_pos h2, if_pos (by omega)]
      · rw [if_neg h2, if_neg (by omega)]
theorem pq_feed {pf pn m : Nat} {pv pm : Nat → Int32} (x : Int64) (hpf : pf < 1000) (h : pq pf pn pv pm) (hp : pn + m ≤ 1000) : pq pf (pn + m) (vf_f x pf pn m pv) (fd_f x pn m pm) := by
  intro i hi
  rw [fd_i, vf_i x pv m hp hpf i (by omega)]
  by_cases h2 : pn ≤ i ∧ i < pn + m
  · rw [if_pos h2, if_pos h2]
  · rw [if_neg h2, if_neg h2]; exact h i (by omega)
theorem vf_ok (x : Int64) (pf pn : Nat) {pr : Nat → Int32} (h : ∀ i, okb (pr i)) (j : Nat) : ∀ i, okb (vf_f x pf pn j pr i) := by
  induction j with
  | zero => exact h
  | succ j ih => exact okb_upd ih (okb_bI _)
theorem fd_ok (x : Int64) (pn : Nat) {pr : Nat → Int32} (h : ∀ i, okb (pr i)) (j : Nat) : ∀ i, okb (fd_f x pn j pr i) := by
  induction j with
  | zero => exact h
  | succ j ih => exact okb_upd ih (okb_bI _)
