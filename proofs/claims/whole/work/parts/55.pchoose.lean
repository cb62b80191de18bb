theorem fe_n {fl em : Nat → Int32} {n : Nat} (hfe : ∀ b, 1 ≤ b → b ≤ n → (fl b = 0 ↔ ¬ em b = 0)) (b : Nat) (h1 : 1 ≤ b) (h2 : b ≤ n) : ¬ fl b = 0 ↔ em b = 0 := by
  rw [hfe b h1 h2]; exact Decidable.not_not
theorem fe_s {fl em : Nat → Int32} {n : Nat} (hfe : ∀ b, 1 ≤ b → b ≤ n → (fl b = 0 ↔ ¬ em b = 0)) (b : Nat) (hb : b ≤ n) : sm_f fl b = sm_e em b := by
  induction b with
  | zero => rfl
  | succ b ih =>
    by_cases h : fl (b + 1) = 0
    · rw [sm_f0 h, sm_e1 ((hfe _ (by omega) hb).mp h)]; exact ih (by omega)
    · rw [sm_f1 h, sm_e0 ((fe_n hfe _ (by omega) hb).mp h), ih (by omega)]
theorem ck_k {fl em : Nat → Int32} {n : Nat} (hn9 : n ≤ 9) (hfe : ∀ b, 1 ≤ b → b ≤ n → (fl b = 0 ↔ ¬ em b = 0)) (mk : Int32) (b : Nat) (h1 : 1 ≤ b) (h2 : b ≤ n) : ch_k fl mk b = mh_k em mk b := by
  apply Bool.eq_iff_iff.mpr
  rw [ch_ks, mh_ks, fe_n hfe b h1 h2, mk_bit mk b (by omega)]
theorem ck_f {fl em : Nat → Int32} {n : Nat} (hn9 : n ≤ 9) (hfe : ∀ b, 1 ≤ b → b ≤ n → (fl b = 0 ↔ ¬ em b = 0)) (mk : Int32) (k d : Nat) : ∀ (b : Nat) (P Q : Nat × (Nat → Int32)), 1 ≤ b → b + d ≤ n + 1 → P.1 = Q.1 → (∀ i, i < P.1 → P.2 i = Q.2 i) → (ch_f fl mk k d b P).1 = (mh_f em mk k d b Q).1 ∧ ∀ i, i < (ch_f fl mk k d b P).1 → (ch_f fl mk k d b P).2 i = (mh_f em mk k d b Q).2 i := by
  induction d with
  | zero => intro b P Q _ _ h1 h2; exact ⟨h1, h2⟩
  | succ d ih =>
    intro b P Q hb hbn h1 h2
    have e1 : ch_f fl mk k (d + 1) b P = if P.1 < k then (if ch_k fl mk b = true then ch_f fl mk k d (b + 1) (P.1 + 1, upd P.2 P.1 (nI b)) else ch_f fl mk k d (b + 1) P) else P := rfl
    have e2 : mh_f em mk k (d + 1) b Q = if Q.1 < k then (if mh_k em mk b = true then mh_f em mk k d (b + 1) (Q.1 + 1, upd Q.2 Q.1 (nI b)) else mh_f em mk k d (b + 1) Q) else Q := rfl
    rw [e1, e2, ← h1, ck_k hn9 hfe mk b hb (by omega)]
    by_cases h3 : P.1 < k
    · rw [if_pos h3, if_pos h3]
      by_cases h4 : mh_k em mk b = true
      · rw [if_pos h4, if_pos h4]
        refine ih (b + 1) _ _ (by omega) (by omega) rfl (fun i hi => ?_)
        show upd P.2 P.1 (nI b) i = upd Q.2 P.1 (nI b) i
        unfold upd
        by_cases h5 : i = P.1
        · rw [if_pos h5, if_pos h5]
        · rw [if_neg h5, if_neg h5]
          exact h2 i (by dsimp only at hi; omega)
      · rw [if_neg h4, if_neg h4]
        exact ih (b + 1) P Q (by omega) (by omega) h1 h2
    · rw [if_neg h3, if_neg h3]
      exact ⟨h1, h2⟩
theorem sm_s_mono {fl em : Nat → Int32} {n : Nat} (hn9 : n ≤ 9) (hfe : ∀ b, 1 ≤ b → b ≤ n → (fl b = 0 ↔ ¬ em b = 0)) (em : Nat → Int32) (mk : Int32) (c d : Nat) : sm_s em mk c ≤ sm_s em mk (c + d) := by
  induction d with
  | zero => exact Nat.le_refl _
  | succ d ih =>
    have : sm_s em mk (c + d) ≤ sm_s em mk (c + d + 1) := by
      show sm_s em mk (c + d) ≤ if em (c + d + 1) = 0 ∧ ((mk >>> (nI (c + d + 1) &&& 31)) &&& 1) = 1 then sm_s em mk (c + d) + 1 else sm_s em mk (c + d)
      split
      · exact Nat.le_succ _
      · exact Nat.le_refl _
    exact Nat.le_trans ih this
theorem ck_n {fl em : Nat → Int32} {n : Nat} (hn9 : n ≤ 9) (hfe : ∀ b, 1 ≤ b → b ≤ n → (fl b = 0 ↔ ¬ em b = 0)) (mk : Int32) (k d : Nat) : ∀ (c : Nat) (P : Nat × (Nat → Int32)), c + d ≤ n → P.1 ≤ k → (ch_f fl mk k d (c + 1) P).1 = min k (P.1 + (sm_s em mk (c + d) - sm_s em mk c)) := by
  induction d with
  | zero => intro c P _ h; show P.1 = min k (P.1 + (sm_s em mk c - sm_s em mk c)); omega
  | succ d ih =>
    intro c P hc h
    have e1 : ch_f fl mk k (d + 1) (c + 1) P = if P.1 < k then (if ch_k fl mk (c + 1) = true then ch_f fl mk k d (c + 1 + 1) (P.1 + 1, upd P.2 P.1 (nI (c + 1))) else ch_f fl mk k d (c + 1 + 1) P) else P := rfl
    have hm := sm_s_mono hn9 hfe em mk (c + 1) d
    rw [e1, ck_k hn9 hfe mk (c + 1) (by omega) (by omega)]
    by_cases h3 : P.1 < k
    · rw [if_pos h3]
      by_cases h4 : mh_k em mk (c + 1) = true
      · rw [if_pos h4, ih (c + 1) (P.1 + 1, upd P.2 P.1 (nI (c + 1))) (by omega) h3]
        have e := sm_s1 (mh_ks.mp h4)
        dsimp only
        rw [show c + (d + 1) = c + 1 + d by omega]
        congr 1
        omega
      · rw [if_neg h4, ih (c + 1) _ (by omega) h]
        have e := sm_s0 (fun h9 => h4 (mh_ks.mpr h9))
        rw [show c + (d + 1) = c + 1 + d by omega]
        congr 1
        omega
    · rw [if_neg h3, Nat.min_eq_left (by omega)]
      omega
theorem ck_e {fl em : Nat → Int32} {n : Nat} (hn9 : n ≤ 9) (hfe : ∀ b, 1 ≤ b → b ≤ n → (fl b = 0 ↔ ¬ em b = 0)) (mk : Int32) (k : Nat) (nb : Nat → Int32) : (ch_f fl mk k n 1 (0, nb)).1 = k ↔ ¬ sm_s em mk n < k := by
  have h := ck_n hn9 hfe mk k n 0 (0, nb) (by omega) (Nat.zero_le _)
  rw [h, Nat.zero_add, Nat.zero_add]
  show min k (sm_s em mk n - 0) = k ↔ _
  omega
theorem ch_g (fl : Nat → Int32) (mk : Int32) (k d : Nat) : ∀ (b : Nat) (P : Nat × (Nat → Int32)), 1 ≤ b → (∃ xs : Nat → Nat, ∀ i, i < P.1 → P.2 i = nI (xs i) ∧ 1 ≤ xs i ∧ xs i < b ∧ ch_k fl mk (xs i) = true ∧ ∀ j, j < i → xs j < xs i) → ∃ xs : Nat → Nat, ∀ i, i < (ch_f fl mk k d b P).1 → (ch_f fl mk k d b P).2 i = nI (xs i) ∧ 1 ≤ xs i ∧ xs i < b + d ∧ ch_k fl mk (xs i) = true ∧ ∀ j, j < i → xs j < xs i := by
  induction d with
  | zero => intro b P _ h; exact h
  | succ d ih =>
    intro b P hb h
    have e1 : ch_f fl mk k (d + 1) b P = if P.1 < k then (if ch_k fl mk b = true then ch_f fl mk k d (b + 1) (P.1 + 1, upd P.2 P.1 (nI b)) else ch_f fl mk k d (b + 1) P) else P := rfl
    rw [e1, show b + (d + 1) = b + 1 + d by omega]
    obtain ⟨xs, hx⟩ := h
    by_cases h3 : P.1 < k
    · rw [if_pos h3]
      by_cases h4 : ch_k fl mk b = true
      · rw [if_pos h4]
        refine ih (b + 1) _ (by omega) ⟨fun i => if i = P.1 then b else xs i, fun i hi => ?_⟩
        dsimp only at hi ⊢
        by_cases h5 : i = P.1
        · subst h5
          rw [if_pos rfl]
          refine ⟨pk_us, hb, by omega, h4, fun j hj => ?_⟩
          rw [if_neg (by omega)]
          exact (hx j hj).2.2.1
        · have := hx i (by omega)
          rw [if_neg h5]
          refine ⟨?_, this.2.1, by omega, this.2.2.2.1, fun j hj => ?_⟩
          · unfold upd; rw [if_neg h5]; exact this.1
          · rw [if_neg (by omega)]; exact this.2.2.2.2 j hj
      · rw [if_neg h4]
        exact ih (b + 1) P (by omega) ⟨xs, fun i hi => by
          have := hx i hi
          exact ⟨this.1, this.2.1, by omega, this.2.2.2⟩⟩
    · rw [if_neg h3]
      exact ⟨xs, fun i hi => by
        have := hx i hi
        exact ⟨this.1, this.2.1, by omega, this.2.2.2⟩⟩
theorem ch_xs (fl : Nat → Int32) (mk : Int32) (k n : Nat) (nb : Nat → Int32) (hE : (ch_f fl mk k n 1 (0, nb)).1 = k) : ∃ xs : Nat → Nat, (∀ g, g < k → (ch_f fl mk k n 1 (0, nb)).2 g = nI (xs g)) ∧ (∀ g, g < k → 1 ≤ xs g) ∧ (∀ g, g < k → xs g ≤ n) ∧ (∀ g, g < k → ¬ fl (xs g) = 0) ∧ (∀ i j, i < k → j < k → xs i = xs j → i = j) := by
  obtain ⟨xs, h⟩ := ch_g fl mk k n 1 (0, nb) (Nat.le_refl 1) ⟨fun _ => 0, fun i hi => absurd hi (Nat.not_lt_zero i)⟩
  rw [hE] at h
  refine ⟨xs, fun g hg => (h g hg).1, fun g hg => (h g hg).2.1, fun g hg => ?_, fun g hg => (ch_ks.mp (h g hg).2.2.2.1).1, fun i j hi hj he => ?_⟩
  · have := (h g hg).2.2.1; omega
  · rcases Nat.lt_trichotomy i j with h9 | h9 | h9
    · have := (h j hj).2.2.2.2 i h9; omega
    · exact h9
    · have := (h i hi).2.2.2.2 j h9; omega
theorem bn_inj {x y : Nat} (hx : x ≤ 9) (hy : y ≤ 9) (h : BitVec.ofNat 8 x = BitVec.ofNat 8 y) : x = y := by
  have h1 := congrArg BitVec.toNat h
  rw [BitVec.toNat_ofNat, BitVec.toNat_ofNat] at h1
  omega
