/-! dealing: the vault adds values to shares, the reference adds coefficients -/
def hv (row : Nat → Int32) (o k x : Nat) : BitVec 8 := gf_h (fun j => by_ (row (o + j))) (BitVec.ofNat 8 x) k 0#8
theorem hv_congr {r r' : Nat → Int32} {o o' k : Nat} (x : Nat) (h : ∀ j, j < k → r (o + j) = r' (o' + j)) : hv r o k x = hv r' o' k x := by
  unfold hv
  rw [gf_h0, gf_h0]
  exact gf_s_congr (fun j hj => by rw [h j hj])
theorem hv_const {r : Nat → Int32} {o k : Nat} {c : BitVec 8} (x : Nat) (hk : 1 ≤ k) (h0 : r o = bI c) (h : ∀ j, 1 ≤ j → j < k → r (o + j) = 0) : hv r o k x = c := by
  unfold hv
  rw [gf_h0]
  obtain ⟨k, rfl⟩ : ∃ q, k = q + 1 := ⟨k - 1, by omega⟩
  rw [gf_s_low, gf_s_congr (co' := fun _ => 0#8), gf_s_0, gf_0l, BitVec.xor_zero, Nat.add_zero, h0, by_bI]
  intro j hj
  skip
  rw [h (j + 1) (by omega) (by omega), ← bI_0, by_bI]
theorem cn_i {ff : Nat → Nat} {n : Nat} (hi : ∀ x y, 1 ≤ x → x ≤ n → 1 ≤ y → y ≤ n → ff x = ff y → x = y) {T0 : Nat} (lim : Int32) (j : Nat) (vb vm : Nat → BitVec 8) (rw0 : Nat → Nat → Int32) (M : ms_T) (N : mm_T) (hr : rl T0 lim M N) (hT : M.1 + n < 2 ^ 31) (hv : ∀ x, 1 ≤ x → x ≤ n → rw0 (ff x) j ^^^ bI (vb x) = bI (vm x)) (u : Nat) (hu : u ≤ n) :
    (∀ x, 1 ≤ x → x ≤ u → (cn_f ff lim j vb u (rw0, M)).1 (ff x) j = bI (vm x)) ∧ (∀ q i, (i ≠ j ∨ ∀ x, 1 ≤ x → x ≤ u → q ≠ ff x) → (cn_f ff lim j vb u (rw0, M)).1 q i = rw0 q i) ∧ rl T0 lim (cn_f ff lim j vb u (rw0, M)).2 (ds_f vm u N) := by
  induction u with
  | zero => exact ⟨fun x h1 h2 => by omega, fun q i _ => rfl, hr⟩
  | succ u ih =>
    obtain ⟨h1, h2, h3⟩ := ih (by omega)
    have hb := cn_b ff lim j vb u (rw0, M)
    have e0 : (cn_f ff lim j vb u (rw0, M)).1 (ff (u + 1)) j ^^^ bI (vb (u + 1)) = bI (vm (u + 1)) := by
      rw [h2 (ff (u + 1)) j (Or.inr fun x hx hx2 h9 => by
        have := hi (u + 1) x (by omega) (by omega) hx (by omega) h9
        omega)]
      exact hv (u + 1) (by omega) hu
    have e : cn_f ff lim j vb (u + 1) (rw0, M) = (va_up (cn_f ff lim j vb u (rw0, M)).1 (ff (u + 1)) (upd ((cn_f ff lim j vb u (rw0, M)).1 (ff (u + 1))) j (bI (vm (u + 1)))), ms_s lim (cn_f ff lim j vb u (rw0, M)).2 0 (nI (u + 1)) (bI (vm (u + 1)))) := by
      rw [← e0]; rfl
    rw [e]
    refine ⟨fun x hx hx2 => ?_, fun q i hq => ?_, rl_s h3 (by dsimp only at hb; omega) _ _ _⟩
    · dsimp only
      by_cases h : x = u + 1
      · subst h
        rw [va_up_self, pk_us]
      · rw [va_up_ne _ _ (fun h9 => h (hi _ _ hx (by omega) (by omega) (by omega) h9))]
        exact h1 x hx (by omega)
    · dsimp only
      rcases hq with hq | hq
      · by_cases h : q = ff (u + 1)
        · subst h
          rw [va_up_self]
          show upd _ j _ i = _
          unfold upd
          rw [if_neg hq]
          exact h2 _ i (Or.inl hq)
        · rw [va_up_ne _ _ h]
          exact h2 q i (Or.inl hq)
      · rw [va_up_ne _ _ (hq (u + 1) (by omega) (Nat.le_refl _))]
        exact h2 q i (Or.inr fun x hx hx2 => hq x hx (by omega))
/-- one job's dealing, as far as it has come: dn holds of the slots that are dealt -/
def rd (ff : Nat → Nat) (pf0 pn0 k n : Nat) (T0 : Nat) (lim : Int32) (rw0 : Nat → Nat → Int32) (fr0 : Nat → Int32) (dn : Nat → Prop) (S : vs_T) (Z : dd_T) : Prop :=
  S.1 = pft pf0 Z.2.1 ∧ S.2.1 = pn0 - Z.2.1 ∧ S.2.2.1 0 = 0 ∧ rl T0 lim S.2.2.2.2 Z.2.2 ∧ (∀ i, okb (Z.1 i)) ∧
  (∀ j x, dn j → 1 ≤ x → x ≤ n → S.2.2.2.1 (ff x) j = bI (hv Z.1 (9 * j) k x)) ∧
  (∀ q, (∀ x, 1 ≤ x → x ≤ n → q ≠ ff x) → S.2.2.2.1 q = rw0 q) ∧
  (∀ j i, ¬ dn j → i < 9 → Z.1 (9 * j + i) = fr0 (9 * j + i))
theorem dl_o (tk : Nat → Int32) (o nx t : Nat) (fr : Nat → Int32) (i : Nat) (h : i ≤ o ∨ o + t < i) : dl_f tk o nx t fr i = fr i := by
  induction t with
  | zero => rfl
  | succ t ih =>
    show upd (dl_f tk o nx t fr) (o + (t + 1)) _ i = fr i
    unfold upd
    rw [if_neg (by omega)]
    exact ih (by omega)
theorem rd_step {ff : Nat → Nat} {pf0 pn0 k n tt f b : Nat} {T0 : Nat} {lim : Int32} {rw0 : Nat → Nat → Int32} {fr0 pr tk : Nat → Int32} {dn : Nat → Prop} {S : vs_T} {Z : dd_T}
    (hi : ∀ x y, 1 ≤ x → x ≤ n → 1 ≤ y → y ≤ n → ff x = ff y → x = y) (hk1 : 1 ≤ k) (hk9 : k ≤ 9) (hpf : pf0 < 1000) (htt : tt ≤ 1000) (htk : ∀ i, i < tt → tk i = pr (pft pf0 i)) (hokt : ∀ i, okb (tk i)) (hokp : ∀ i, okb (pr i))
    (h : rd ff pf0 pn0 k n T0 lim rw0 fr0 dn S Z) (hnx : Z.2.1 + (k - 1) ≤ tt) (hT : S.2.2.2.2.1 + n < 2 ^ 31) (hj : ¬ dn (f * 8 + b)) {RW : Nat → Nat → Int32}
    (hr1 : ∀ x, 1 ≤ x → x ≤ n → RW (ff x) (f * 8 + b) = bI (hv Z.1 (9 * (f * 8 + b)) k x)) (hr2 : ∀ q i, (i ≠ f * 8 + b ∨ ∀ x, 1 ≤ x → x ≤ n → q ≠ ff x) → RW q i = S.2.2.2.1 q i) :
    rd ff pf0 pn0 k n T0 lim rw0 fr0 (fun i => dn i ∨ i = f * 8 + b) (vs_c ff lim pr k n (f * 8 + b) (S.1, S.2.1, S.2.2.1, RW, S.2.2.2.2)) (dd_f tk k n f b Z) := by
  obtain ⟨h1, h2, h0, h3, h4, h5, h6, h7⟩ := h
  have eo : 9 * (8 * f + b) = 9 * (f * 8 + b) := by omega
  have hv1 : ∀ j, j < k → dl_f tk (9 * (f * 8 + b)) Z.2.1 (k - 1) Z.1 (9 * (f * 8 + b) + j) = bI (dm_f (fun j => by_ (Z.1 (9 * (f * 8 + b) + j))) (fun i => by_ (tk i)) Z.2.1 j) :=
    dm_b (fun j _ => h4 _) (fun i _ => hokt i) (by omega) hk1
  have hs : ∀ x, gf_h (dm_f (fun j => by_ (Z.1 (9 * (f * 8 + b) + j))) (fun i => by_ (tk i)) Z.2.1) (BitVec.ofNat 8 x) k 0#8 = hv Z.1 (9 * (f * 8 + b)) k x ^^^ cv_f (fun i => by_ (pr i)) S.1 k x := by
    intro x
    unfold cv_f hv
    rw [gf_h0, gf_h0, gf_h0, ← gf_s_add]
    apply gf_s_congr
    intro j hj
    unfold dm_f cb_f
    by_cases h9 : j = 0
    · rw [if_pos h9, if_pos h9, h9, BitVec.xor_zero]
    · dsimp only
      rw [if_neg h9, if_neg h9, htk _ (by omega), h1, pft_add hpf]
  have hcn := cn_i hi lim (f * 8 + b) (cv_f (fun i => by_ (pr i)) S.1 k) (fun i => gf_h (dm_f (fun j => by_ (Z.1 (9 * (f * 8 + b) + j))) (fun i => by_ (tk i)) Z.2.1) (BitVec.ofNat 8 i) k 0#8) RW S.2.2.2.2 Z.2.2 h3 hT (fun x hx hx2 => by
    rw [hr1 x hx hx2, bI_xor, hs x]) n (Nat.le_refl n)
  obtain ⟨c1, c2, c3⟩ := hcn
  unfold dd_f vs_c
  rw [eo]
  refine ⟨?_, ?_, ?_, c3, dl_ok tk _ _ _ _ hokt h4, fun j x hd hx hx2 => ?_, fun q hq => ?_, fun j i hd hi9 => ?_⟩
  · show pft S.1 (k - 1) = pft pf0 (Z.2.1 + (k - 1))
    rw [h1, pft_add hpf]
  · show S.2.1 - (k - 1) = pn0 - (Z.2.1 + (k - 1))
    rw [h2, Nat.sub_sub]
  · show cg_f pr S.1 S.2.2.1 (k - 1) 0 = 0
    rw [cg_i, if_neg (by omega)]; exact h0
  · dsimp only
    by_cases h9 : j = f * 8 + b
    · subst h9
      rw [c1 x hx hx2]
      unfold hv
      rw [gf_h0, gf_h0]
      congr 1
      apply gf_s_congr
      intro i hi9
      skip
      rw [hv1 i hi9, by_bI]
    · rw [c2 _ j (Or.inl h9), hr2 _ j (Or.inl h9), h5 j x (hd.resolve_right h9) hx hx2]
      congr 1
      apply hv_congr
      intro i hi9
      rw [dl_o]
      omega
  · dsimp only
    funext i
    rw [c2 q i (Or.inr hq), hr2 q i (Or.inr hq), h6 q hq]
  · dsimp only
    have hne : j ≠ f * 8 + b := fun h9 => hd (Or.inr h9)
    rw [dl_o _ _ _ _ _ _ (by omega)]
    exact h7 j i (fun h9 => hd (Or.inl h9)) hi9
theorem rd_dn {ff : Nat → Nat} {pf0 pn0 k n : Nat} {T0 : Nat} {lim : Int32} {rw0 : Nat → Nat → Int32} {fr0 : Nat → Int32} {dn dn' : Nat → Prop} {S : vs_T} {Z : dd_T} (hd : ∀ i, dn i ↔ dn' i) (h : rd ff pf0 pn0 k n T0 lim rw0 fr0 dn S Z) : rd ff pf0 pn0 k n T0 lim rw0 fr0 dn' S Z := by
  have e : dn = dn' := funext fun i => propext (hd i)
  rw [← e]; exact h
theorem ow_i {ff : Nat → Nat} (j : Nat) (v : Int32) (rw0 : Nat → Nat → Int32) (u : Nat) : (∀ x, 1 ≤ x → x ≤ u → ow_f ff j v u rw0 (ff x) j = v) ∧ (∀ q i, (i ≠ j ∨ ∀ x, 1 ≤ x → x ≤ u → q ≠ ff x) → ow_f ff j v u rw0 q i = rw0 q i) := by
  induction u with
  | zero => exact ⟨fun x h1 h2 => by omega, fun q i _ => rfl⟩
  | succ u ih =>
    obtain ⟨h1, h2⟩ := ih
    constructor
    · intro x hx hx2
      show va_up (ow_f ff j v u rw0) (ff (u + 1)) (upd (ow_f ff j v u rw0 (ff (u + 1))) j v) (ff x) j = v
      by_cases h : ff x = ff (u + 1)
      · rw [h, va_up_self, pk_us]
      · rw [va_up_ne _ _ h]
        exact h1 x hx (by
          have : x ≠ u + 1 := fun h9 => h (by rw [h9])
          omega)
    · intro q i hq
      show va_up (ow_f ff j v u rw0) (ff (u + 1)) (upd (ow_f ff j v u rw0 (ff (u + 1))) j v) q i = rw0 q i
      rcases hq with hq | hq
      · by_cases h : q = ff (u + 1)
        · subst h
          rw [va_up_self]
          unfold upd
          rw [if_neg hq]
          exact h2 _ i (Or.inl hq)
        · rw [va_up_ne _ _ h]
          exact h2 q i (Or.inl hq)
      · rw [va_up_ne _ _ (hq (u + 1) (by omega) (Nat.le_refl _))]
        exact h2 q i (Or.inr fun x hx hx2 => hq x hx (by omega))
theorem oc_i {hh ff : Nat → Nat} {n : Nat} (hi : ∀ x y, 1 ≤ x → x ≤ n → 1 ≤ y → y ≤ n → ff x = ff y → x = y) (hn : ∀ x y, 1 ≤ x → x ≤ n → 1 ≤ y → y ≤ n → hh x ≠ ff y) (j : Nat) (rw0 : Nat → Nat → Int32) (u : Nat) (hu : u ≤ n) : (∀ x, 1 ≤ x → x ≤ u → oc_f hh ff j u rw0 (ff x) j = rw0 (hh x) j) ∧ (∀ q i, (i ≠ j ∨ ∀ x, 1 ≤ x → x ≤ u → q ≠ ff x) → oc_f hh ff j u rw0 q i = rw0 q i) := by
  induction u with
  | zero => exact ⟨fun x h1 h2 => by omega, fun q i _ => rfl⟩
  | succ u ih =>
    obtain ⟨h1, h2⟩ := ih (by omega)
    have e : oc_f hh ff j u rw0 (hh (u + 1)) j = rw0 (hh (u + 1)) j := h2 _ _ (Or.inr fun x hx hx2 => hn _ _ (by omega) hu hx (by omega))
    constructor
    · intro x hx hx2
      show va_up (oc_f hh ff j u rw0) (ff (u + 1)) (upd (oc_f hh ff j u rw0 (ff (u + 1))) j (oc_f hh ff j u rw0 (hh (u + 1)) j)) (ff x) j = _
      rw [e]
      by_cases h : x = u + 1
      · subst h
        rw [va_up_self, pk_us]
      · rw [va_up_ne _ _ (fun h9 => h (hi _ _ hx (by omega) (by omega) hu h9))]
        exact h1 x hx (by omega)
    · intro q i hq
      show va_up (oc_f hh ff j u rw0) (ff (u + 1)) (upd (oc_f hh ff j u rw0 (ff (u + 1))) j (oc_f hh ff j u rw0 (hh (u + 1)) j)) q i = rw0 q i
      rcases hq with hq | hq
      · by_cases h : q = ff (u + 1)
        · subst h
          rw [va_up_self]
          unfold upd
          rw [if_neg hq]
          exact h2 _ i (Or.inl hq)
        · rw [va_up_ne _ _ h]
          exact h2 q i (Or.inl hq)
      · rw [va_up_ne _ _ (hq (u + 1) (by omega) (Nat.le_refl _))]
        exact h2 q i (Or.inr fun x hx hx2 => hq x hx (by omega))
