/-! the start -/
theorem st_of {x : Int32} {a b : Nat} (ha : a < 2 ^ 31) (hb : b < 2 ^ 31) (h1 : nI a ≤ x) (h2 : x ≤ nI b) : ∃ j : Nat, a ≤ j ∧ j ≤ b ∧ x = nI j := by
  have h0 : ¬ x < 0 := fun h9 => nI_pos ha (Int32.lt_of_le_of_lt h1 h9)
  obtain ⟨j, hj, rfl⟩ := nI_of h0
  exact ⟨j, (nI_leI ha hj).mp h1, (nI_leI hj hb).mp h2, rfl⟩
theorem st_nn (b : Int32) : ∃ n : Nat, 2 ≤ n ∧ n ≤ 9 ∧ nn_f b = nI n ∧ mn_f (mx_f b 2) 9 = nI n := by
  unfold nn_f mn_f mx_f
  by_cases h : 2 ≤ b
  · rw [if_pos h, if_neg (Int32.not_lt.mpr h)]
    by_cases h2 : b ≤ 9
    · obtain ⟨j, j1, j2, rfl⟩ := st_of (a := 2) (b := 9) (by omega) (by omega) h h2
      rw [if_pos h2, if_neg (Int32.not_lt.mpr h2)]
      exact ⟨j, j1, j2, rfl, rfl⟩
    · rw [if_neg h2, if_pos (Int32.not_le.mp h2)]
      exact ⟨9, by omega, by omega, rfl, rfl⟩
  · rw [if_neg h, if_pos (Int32.not_le.mp h)]
    exact ⟨2, by omega, by omega, rfl, rfl⟩
theorem st_kk (a b : Int32) {n : Nat} (h2n : 2 ≤ n) (hn9 : n ≤ 9) (hn : nn_f b = nI n) : ∃ k : Nat, 2 ≤ k ∧ k ≤ n ∧ kk_f a b = nI k ∧ mn_f (mx_f a 2) (nI n) = nI k := by
  unfold kk_f mn_f mx_f
  rw [hn]
  by_cases h : 2 ≤ a
  · rw [if_pos h, if_neg (Int32.not_lt.mpr h)]
    by_cases h2 : a ≤ nI n
    · obtain ⟨j, j1, j2, rfl⟩ := st_of (a := 2) (b := n) (by omega) (by omega) h h2
      rw [if_pos h2, if_neg (Int32.not_lt.mpr h2)]
      exact ⟨j, j1, j2, rfl, rfl⟩
    · rw [if_neg h2, if_pos (Int32.not_le.mp h2)]
      exact ⟨n, h2n, Nat.le_refl n, rfl, rfl⟩
  · rw [if_neg h, if_pos (Int32.not_le.mp h), if_neg (show ¬ nI n < 2 from nI_nlt (a := n) (b := 2) h2n (by omega))]
    exact ⟨2, by omega, by omega, rfl, rfl⟩
def vs0 (fl : Nat → Int32) : VS := (VS.mk (0) (0) (fun _ => 0) (-1) ((0, fun _ => 0, 0, 0)) (0) (-1) (0) (0) (fun _ => 0) (fun _ => 0) (fun _ => 0) (fun _ => 0) (fun _ => 0) (fl) (0) (fun _ _ => 0))
def ms0 : MS := (MS.mk (0) (0) (0) (0) ((0, fun _ => 0, -1, 0)) (-1) (0) (0) (0) (0) (0) (0) (0) (fun _ => 0) (fun _ => 0) (fun _ => 0) (fun _ => 0) (fun _ => 0) (fun _ => 0) (fun _ => 0) (fun _ => 0))
theorem inv0 (k n : Nat) (hh : Nat → Nat) (fl : Nat → Int32) (hfl : ∀ b, 1 ≤ b → b ≤ n → ¬ fl b = 0) : inv k n hh (fun _ => 0) 0 (vs0 fl) ms0 :=
  (inv.mk (pf_ := by show 0 < 1000; omega) (pn_ := Nat.zero_le _) (pm_ := rfl) (pw_ := fun i hi => absurd hi (Nat.not_lt_zero i)) (vo_ := fun _ => okb_0) (mo_ := fun _ => okb_0) (to_ := fun _ => okb_0) (co_ := fun _ => okb_0) (fo_ := fun _ => okb_0) (lv_ := fun _ _ => rfl) (lm_ := fun _ _ => rfl) (l8_ := fun _ _ => Nat.zero_le _) (ep_ := rfl) (fe_ := fun b h1 h2 => ⟨fun h9 => absurd h9 (hfl b h1 h2), fun h9 => absurd rfl h9⟩) (T_ := rfl) (g_ := rfl) (Tc_ := Nat.zero_le _) (sn_ := Nat.le_refl _) (wi_ := rfl) (w1_ := show ¬ (-1 : Int32) < -1 by decide) (lf_ := rfl) (st_ := Or.inl ⟨rfl, rfl⟩) (ch_ := rfl) (sh_ := fun f b x _ hb => absurd hb (Nat.not_lt_zero b)))
