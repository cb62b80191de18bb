theorem as_i {hh ff : Nat → Nat} {x : Nat} (hn : hh x ≠ ff x) (f : Nat) (rw0 : Nat → Nat → Int32) (b : Nat) (q i : Nat) : as_f hh ff x f b rw0 q i = if q = hh x ∧ f * 8 ≤ i ∧ i < f * 8 + b then rw0 (ff x) i else rw0 q i := by
  induction b generalizing q i with
  | zero => rw [if_neg (by omega)]; rfl
  | succ b ih =>
    show va_up (as_f hh ff x f b rw0) (hh x) (upd (as_f hh ff x f b rw0 (hh x)) (f * 8 + b) (as_f hh ff x f b rw0 (ff x) (f * 8 + b))) q i = _
    by_cases h : q = hh x
    · subst h
      rw [va_up_self]
      unfold upd
      by_cases h2 : i = f * 8 + b
      · rw [if_pos h2, if_pos ⟨rfl, by omega, by omega⟩, ih, if_neg (fun h9 => hn h9.1.symm), h2]
      · rw [if_neg h2, ih]
        by_cases h3 : f * 8 ≤ i ∧ i < f * 8 + b
        · rw [if_pos ⟨rfl, h3⟩, if_pos ⟨rfl, by omega, by omega⟩]
        · rw [if_neg (fun h9 => h3 h9.2), if_neg (fun h9 => h3 ⟨h9.2.1, by omega⟩)]
    · rw [va_up_ne _ _ h, ih, if_neg (fun h9 => h h9.1), if_neg (fun h9 => h h9.1)]
theorem af_i {hh ff : Nat → Nat} {n : Nat} (hi : ∀ x y, 1 ≤ x → x ≤ n → 1 ≤ y → y ≤ n → hh x = hh y → x = y) (hn : ∀ x y, 1 ≤ x → x ≤ n → 1 ≤ y → y ≤ n → hh x ≠ ff y) (f lf : Nat) (rw0 : Nat → Nat → Int32) (u : Nat) (hu : u ≤ n) : (∀ x i, 1 ≤ x → x ≤ u → af_f hh ff f lf u rw0 (hh x) i = if f * 8 ≤ i ∧ i < f * 8 + lf then rw0 (ff x) i else rw0 (hh x) i) ∧ (∀ q, (∀ x, 1 ≤ x → x ≤ u → q ≠ hh x) → af_f hh ff f lf u rw0 q = rw0 q) := by
  induction u with
  | zero => exact ⟨fun x i h1 h2 => by omega, fun q _ => rfl⟩
  | succ u ih =>
    obtain ⟨h1, h2⟩ := ih (by omega)
    have hne := hn (u + 1) (u + 1) (by omega) hu (by omega) hu
    have e : af_f hh ff f lf u rw0 (ff (u + 1)) = rw0 (ff (u + 1)) := h2 _ (fun x hx hx2 h9 => hn x (u + 1) hx (by omega) (by omega) hu h9.symm)
    constructor
    · intro x i hx hx2
      show as_f hh ff (u + 1) f lf (af_f hh ff f lf u rw0) (hh x) i = _
      rw [as_i hne, e]
      by_cases h : x = u + 1
      · subst h
        rw [h2 (hh (u + 1)) (fun x hx hx2 h9 => by
          have := hi _ _ (by omega) hu hx (by omega) h9
          omega)]
        by_cases h3 : f * 8 ≤ i ∧ i < f * 8 + lf
        · rw [if_pos ⟨rfl, h3⟩, if_pos h3]
        · rw [if_neg (fun h9 => h3 h9.2), if_neg h3]
      · rw [if_neg (fun h9 => h (hi _ _ hx (by omega) (by omega) hu h9.1))]
        exact h1 x i hx (by omega)
    · intro q hq
      funext i
      show as_f hh ff (u + 1) f lf (af_f hh ff f lf u rw0) q i = _
      rw [as_i hne, if_neg (fun h9 => hq (u + 1) (by omega) (Nat.le_refl _) h9.1), h2 q (fun x hx hx2 => hq x hx (by omega))]
theorem aa_i {hh ff : Nat → Nat} {n : Nat} (hi : ∀ x y, 1 ≤ x → x ≤ n → 1 ≤ y → y ≤ n → hh x = hh y → x = y) (hn : ∀ x y, 1 ≤ x → x ≤ n → 1 ≤ y → y ≤ n → hh x ≠ ff y) (lz : Nat → Nat) (hlz : ∀ i, i < 8 → lz i ≤ 8) (rw0 : Nat → Nat → Int32) (f : Nat) (hf : f ≤ 8) : (∀ x i, 1 ≤ x → x ≤ n → aa_f hh ff n lz f rw0 (hh x) i = if i / 8 < f ∧ i % 8 < lz (i / 8) then rw0 (ff x) i else rw0 (hh x) i) ∧ (∀ q, (∀ x, 1 ≤ x → x ≤ n → q ≠ hh x) → aa_f hh ff n lz f rw0 q = rw0 q) := by
  induction f with
  | zero => exact ⟨fun x i h1 h2 => by rw [if_neg (by omega)]; rfl, fun q _ => rfl⟩
  | succ f ih =>
    obtain ⟨h1, h2⟩ := ih (by omega)
    have hl := hlz f (by omega)
    have ha := af_i hi hn f (lz f) (aa_f hh ff n lz f rw0) n (Nat.le_refl n)
    constructor
    · intro x i hx hx2
      show af_f hh ff f (lz f) n (aa_f hh ff n lz f rw0) (hh x) i = _
      rw [ha.1 x i hx hx2, h1 x i hx hx2, h2 (ff x) (fun y hy hy2 h9 => hn y x hy hy2 hx hx2 h9.symm)]
      by_cases h3 : f * 8 ≤ i ∧ i < f * 8 + lz f
      · have e : i / 8 = f := by omega
        rw [if_pos h3, e, if_pos ⟨by omega, by omega⟩]
      · rw [if_neg h3]
        by_cases h4 : i / 8 < f ∧ i % 8 < lz (i / 8)
        · rw [if_pos h4, if_pos ⟨by omega, h4.2⟩]
        · rw [if_neg h4, if_neg (fun h9 => by
            by_cases h5 : i / 8 = f
            · rw [h5] at h9; omega
            · exact h4 ⟨by omega, h9.2⟩)]
    · intro q hq
      show af_f hh ff f (lz f) n (aa_f hh ff n lz f rw0) q = _
      rw [ha.2 q hq, h2 q hq]
theorem ab_i {hh ff : Nat → Nat} {x : Nat} (hn : hh x ≠ ff x) (lz : Nat → Nat) (hlz : ∀ i, i < 8 → lz i ≤ 8) (rw0 : Nat → Nat → Int32) (f : Nat) (hf : f ≤ 8) (q i : Nat) : ab_f hh ff x lz f rw0 q i = if q = hh x ∧ i / 8 < f ∧ i % 8 < lz (i / 8) then rw0 (ff x) i else rw0 q i := by
  induction f generalizing q i with
  | zero => rw [if_neg (by omega)]; rfl
  | succ f ih =>
    have hl := hlz f (by omega)
    have e1 : ab_f hh ff x lz f rw0 (ff x) i = rw0 (ff x) i := by rw [ih (by omega), if_neg (fun h9 => hn h9.1.symm)]
    show as_f hh ff x f (lz f) (ab_f hh ff x lz f rw0) q i = _
    rw [as_i hn, e1, ih (by omega)]
    by_cases h3 : f * 8 ≤ i ∧ i < f * 8 + lz f
    · have e : i / 8 = f := by omega
      by_cases h4 : q = hh x
      · rw [if_pos ⟨h4, h3⟩, e, if_pos ⟨h4, by omega, by omega⟩]
      · rw [if_neg (fun h9 => h4 h9.1), if_neg (fun h9 => h4 h9.1), if_neg (fun h9 => h4 h9.1)]
    · rw [if_neg (fun h9 => h3 h9.2)]
      by_cases h4 : q = hh x ∧ i / 8 < f ∧ i % 8 < lz (i / 8)
      · rw [if_pos h4, if_pos ⟨h4.1, by omega, h4.2.2⟩]
      · rw [if_neg h4, if_neg (fun h9 => by
          by_cases h5 : i / 8 = f
          · rw [h5] at h9; omega
          · exact h4 ⟨h9.1, by omega, h9.2.2⟩)]
/-! which boxes help -/
theorem mk_bit (mk : Int32) : ∀ b, b < 10 → (((mk.toUInt32 >>> ((nI b).toUInt32 &&& Int32.toUInt32 31)).toInt32 &&& 1) = 1 ↔ ((mk >>> (nI b &&& 31)) &&& 1) = 1) := by
  intro b hb
  rw [← Int32.toBitVec_inj, ← Int32.toBitVec_inj]
  have h1 : ((mk.toUInt32 >>> ((nI b).toUInt32 &&& Int32.toUInt32 31)).toInt32 &&& 1).toBitVec = (mk.toBitVec >>> b) &&& 1#32 := by
    rw [Int32.toBitVec_and]
    congr 1
    show (mk.toUInt32 >>> ((nI b).toUInt32 &&& Int32.toUInt32 31)).toBitVec = _
    rw [UInt32.toBitVec_shiftRight]
    have h2 : (((nI b).toUInt32 &&& Int32.toUInt32 31).toBitVec % 32).toNat = b := by
      revert b; decide +kernel
    show mk.toBitVec >>> (((nI b).toUInt32 &&& Int32.toUInt32 31).toBitVec % 32) = _
    rw [BitVec.ushiftRight_eq', h2]
  have h3 : ((mk >>> (nI b &&& 31)) &&& 1).toBitVec = (mk.toBitVec.sshiftRight b) &&& 1#32 := by
    rw [Int32.toBitVec_and, Int32.toBitVec_shiftRight]
    congr 1
    show BitVec.sshiftRight' mk.toBitVec ((nI b &&& 31).toBitVec.smod 32) = _
    unfold BitVec.sshiftRight'
    rw [sh_l b (by omega)]
  rw [h1, h3]
  show mk.toBitVec >>> b &&& 1#32 = 1#32 ↔ mk.toBitVec.sshiftRight b &&& 1#32 = 1#32
  rw [bv_odd, bv_odd, BitVec.getLsbD_ushiftRight, BitVec.getLsbD_sshiftRight]
  simp
  omega
