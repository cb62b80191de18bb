theorem cp_i (co : Nat → Int32) (j : Nat) (fr : Nat → Int32) (i : Nat) : cp_f co j fr i = if i < j then co i else fr i := by
  induction j with
  | zero => rw [if_neg (by omega)]; rfl
  | succ j ih =>
    show upd (cp_f co j fr) j (co j) i = _
    unfold upd
    by_cases h : i = j
    · rw [if_pos h, if_pos (by omega), h]
    · rw [if_neg h, ih]
      by_cases h2 : i < j
      · rw [if_pos h2, if_pos (by omega)]
      · rw [if_neg h2, if_neg (by omega)]
theorem sc_i (x : Int64) (f b : Nat) (fr : Nat → Int32) (g : Nat) (hg : g ≤ 9) (j i : Nat) (hi : i < 9) : sc_f x f b g fr (9 * j + i) = if j = 8 * f + b ∧ i < g then sv_f x b i else fr (9 * j + i) := by
  induction g with
  | zero => rw [if_neg (by omega)]; rfl
  | succ g ih =>
    show upd (sc_f x f b g fr) (9 * (8 * f + b) + g) (sv_f x b g) (9 * j + i) = _
    unfold upd
    by_cases h : 9 * j + i = 9 * (8 * f + b) + g
    · have h1 : j = 8 * f + b := by omega
      have h2 : i = g := by omega
      rw [if_pos h, if_pos ⟨h1, by omega⟩, h2]
    · rw [if_neg h, ih (by omega)]
      by_cases h2 : j = 8 * f + b ∧ i < g
      · rw [if_pos h2, if_pos ⟨h2.1, by omega⟩]
      · rw [if_neg h2, if_neg (fun h9 => by
          have : i ≠ g := fun h8 => h (by rw [h9.1, h8])
          exact h2 ⟨h9.1, by omega⟩)]
theorem sb_i (x : Int64) (f : Nat) (fr : Nat → Int32) (b : Nat) (j i : Nat) (hi : i < 9) : sb_f x f b fr (9 * j + i) = if 8 * f ≤ j ∧ j < 8 * f + b then sv_f x (j - 8 * f) i else fr (9 * j + i) := by
  induction b with
  | zero => rw [if_neg (by omega)]; rfl
  | succ b ih =>
    show sc_f x f b 9 (sb_f x f b fr) (9 * j + i) = _
    rw [sc_i x f b _ 9 (Nat.le_refl 9) j i hi, ih]
    by_cases h : j = 8 * f + b
    · rw [if_pos ⟨h, hi⟩, if_pos (by omega), h, Nat.add_sub_cancel_left]
    · rw [if_neg (fun h9 => h h9.1)]
      by_cases h2 : 8 * f ≤ j ∧ j < 8 * f + b
      · rw [if_pos h2, if_pos (by omega)]
      · rw [if_neg h2, if_neg (by omega)]
theorem ra_lz1 (tk : Nat → Int32) (k n fx lx : Nat) (S : dd_T) (f : Nat) : ra_f tk k n (lz1 fx lx) f S = if fx < f then rf_f tk k n fx lx S else S := by
  induction f with
  | zero => rw [if_neg (by omega)]; rfl
  | succ f ih =>
    show rf_f tk k n f (lz1 fx lx f) (ra_f tk k n (lz1 fx lx) f S) = _
    rw [ih]
    unfold lz1
    by_cases h : f = fx
    · subst h
      rw [if_pos rfl, if_neg (by omega), if_pos (by omega)]
    · rw [if_neg h]
      show (if fx < f then rf_f tk k n fx lx S else S) = _
      by_cases h2 : fx < f
      · rw [if_pos h2, if_pos (by omega)]
      · rw [if_neg h2, if_neg (by omega)]
theorem rd_store {ff : Nat → Nat} {pf pn k n tt : Nat} {T0 : Nat} {lim : Int32} {rw0 : Nat → Nat → Int32} {pr tk ch : Nat → Int32} {M : ms_T} {N : mm_T} (hi : ∀ x y, 1 ≤ x → x ≤ n → 1 ≤ y → y ≤ n → ff x = ff y → x = y) (hk1 : 1 ≤ k) (hk9 : k ≤ 9) (hpf : pf < 1000) (htt : tt ≤ 1000) (htk : ∀ i, i < tt → tk i = pr (pft pf i)) (hokt : ∀ i, okb (tk i)) (hokp : ∀ i, okb (pr i)) (hch : ch 0 = 0) (hr : rl T0 lim M N) (x : Int64) (f lx : Nat) (FR : Nat → Int32) (hFR : ∀ i, okb (FR i)) (hlx : lx ≤ 8) (htt2 : lx * (k - 1) ≤ tt) (hT : M.1 + lx * n + n < 2 ^ 31) (b : Nat) (hb : b ≤ lx) :
    rd ff pf pn k n T0 lim rw0 (sb_f x f lx FR) (fun i => f * 8 ≤ i ∧ i < f * 8 + b) (vs_l x f ff lim pr k n b (pf, pn, ch, rw0, M)) (rf_f tk k n f b (sb_f x f lx FR, 0, N)) := by
  induction b with
  | zero => exact ⟨rfl, rfl, hch, hr, sb_ok x f lx FR hFR, fun j x h => by omega, fun q _ => rfl, fun j i _ _ => rfl⟩
  | succ b ih =>
    have h := ih (by omega)
    have hx := rf_x tk k n f b (sb_f x f lx FR, 0, N)
    have hm : (b + 1) * (k - 1) ≤ lx * (k - 1) := Nat.mul_le_mul_right _ hb
    rw [Nat.add_mul, Nat.one_mul] at hm
    have ht := vs_t x f ff lim pr k n b (pf, pn, ch, rw0, M)
    have hm2 : b * n ≤ lx * n := Nat.mul_le_mul_right _ (by omega)
    dsimp only at hx ht
    have ho := ow_i (ff := ff) (f * 8 + b) (bI (lb x b)) (vs_l x f ff lim pr k n b (pf, pn, ch, rw0, M)).2.2.2.1 n
    refine rd_dn (fun i => ?_) (rd_step (f := f) (b := b) hi hk1 hk9 hpf htt htk hokt hokp h (by omega) (by omega) (by omega) (RW := ow_f ff (f * 8 + b) (bI (lb x b)) n (vs_l x f ff lim pr k n b (pf, pn, ch, rw0, M)).2.2.2.1) (fun y hy hy2 => ?_) ho.2)
    · omega
    · rw [ho.1 y hy hy2]
      congr 1
      have e : ∀ i, i < 9 → (rf_f tk k n f b (sb_f x f lx FR, 0, N)).1 (9 * (f * 8 + b) + i) = sv_f x b i := fun i hi9 => by
        rw [h.2.2.2.2.2.2.2 (f * 8 + b) i (by omega) hi9, sb_i x f FR lx (f * 8 + b) i hi9, if_pos (by omega), show f * 8 + b - 8 * f = b by omega]
      refine (hv_const y hk1 ?_ (fun i hi1 hi2 => ?_)).symm
      · have := e 0 (by omega)
        rw [Nat.add_zero] at this
        rw [this]; exact if_pos rfl
      · rw [e i (by omega)]; exact if_neg (by omega)
theorem rd_ref_f {hh ff : Nat → Nat} {pf pn k n tt : Nat} {T0 : Nat} {lim : Int32} {rw0 : Nat → Nat → Int32} {pr tk ch : Nat → Int32} {M : ms_T} {N : mm_T} (hi : ∀ x y, 1 ≤ x → x ≤ n → 1 ≤ y → y ≤ n → ff x = ff y → x = y) (hk1 : 1 ≤ k) (hk9 : k ≤ 9) (hpf : pf < 1000) (htt : tt ≤ 1000) (htk : ∀ i, i < tt → tk i = pr (pft pf i)) (hokt : ∀ i, okb (tk i)) (hokp : ∀ i, okb (pr i)) (hch : ch 0 = 0) (hr : rl T0 lim M N) (hn : ∀ x y, 1 ≤ x → x ≤ n → 1 ≤ y → y ≤ n → hh x ≠ ff y) (f lf : Nat) (FR : Nat → Int32) (dn : Nat → Prop) (S : vs_T) (Z : dd_T) (h0 : rd ff pf pn k n T0 lim rw0 FR dn S Z) (hdn : ∀ b, b < lf → ¬ dn (f * 8 + b)) (hval : ∀ b x, b < lf → 1 ≤ x → x ≤ n → rw0 (hh x) (f * 8 + b) = bI (hv FR (9 * (f * 8 + b)) k x)) (htt2 : Z.2.1 + lf * (k - 1) ≤ tt) (hT : S.2.2.2.2.1 + lf * n + n < 2 ^ 31) (b : Nat) (hb : b ≤ lf) :
    rd ff pf pn k n T0 lim rw0 FR (fun i => dn i ∨ (f * 8 ≤ i ∧ i < f * 8 + b)) (vr_f hh ff lim pr k n f b S) (rf_f tk k n f b Z) := by
  induction b with
  | zero => exact rd_dn (fun i => ⟨fun h => Or.inl h, fun h => h.elim id (fun h => by omega)⟩) h0
  | succ b ih =>
    have h := ih (by omega)
    have hx := rf_x tk k n f b Z
    have hm : (b + 1) * (k - 1) ≤ lf * (k - 1) := Nat.mul_le_mul_right _ hb
    rw [Nat.add_mul, Nat.one_mul] at hm
    have ht := vr_ft hh ff lim pr k n f b S
    have hm2 : b * n ≤ lf * n := Nat.mul_le_mul_right _ (by omega)
    have ho := oc_i hi hn (f * 8 + b) (vr_f hh ff lim pr k n f b S).2.2.2.1 n (Nat.le_refl n)
    have hnd : ¬ (dn (f * 8 + b) ∨ (f * 8 ≤ f * 8 + b ∧ f * 8 + b < f * 8 + b)) := fun h9 => h9.elim (hdn b (by omega)) (fun h8 => by omega)
    refine rd_dn (fun i => ?_) (rd_step (f := f) (b := b) hi hk1 hk9 hpf htt htk hokt hokp h (by omega) (by omega) hnd (RW := oc_f hh ff (f * 8 + b) n (vr_f hh ff lim pr k n f b S).2.2.2.1) (fun y hy hy2 => ?_) ho.2)
    · constructor
      · rintro ((h9 | h9) | h9)
        · exact Or.inl h9
        · exact Or.inr (by omega)
        · exact Or.inr (by omega)
      · rintro (h9 | h9)
        · exact Or.inl (Or.inl h9)
        · by_cases h8 : i = f * 8 + b
          · exact Or.inr h8
          · exact Or.inl (Or.inr (by omega))
    · rw [ho.1 y hy hy2, h.2.2.2.2.2.2.1 (hh y) (fun z hz hz2 => hn y z hy hy2 hz hz2), hval b y (by omega) hy hy2]
      congr 1
      apply hv_congr
      intro i hi9
      rw [h.2.2.2.2.2.2.2 (f * 8 + b) i hnd (by omega)]
theorem rd_ref {hh ff : Nat → Nat} {pf pn k n tt : Nat} {T0 : Nat} {lim : Int32} {rw0 : Nat → Nat → Int32} {pr tk ch : Nat → Int32} {M : ms_T} {N : mm_T} (hi : ∀ x y, 1 ≤ x → x ≤ n → 1 ≤ y → y ≤ n → ff x = ff y → x = y) (hk1 : 1 ≤ k) (hk9 : k ≤ 9) (hpf : pf < 1000) (htt : tt ≤ 1000) (htk : ∀ i, i < tt → tk i = pr (pft pf i)) (hokt : ∀ i, okb (tk i)) (hokp : ∀ i, okb (pr i)) (hch : ch 0 = 0) (hr : rl T0 lim M N) (hn : ∀ x y, 1 ≤ x → x ≤ n → 1 ≤ y → y ≤ n → hh x ≠ ff y) (lz : Nat → Nat) (hlz : ∀ i, i < 8 → lz i ≤ 8) (FR : Nat → Int32) (hFR : ∀ i, okb (FR i)) (hval : ∀ f b x, f < 8 → b < lz f → 1 ≤ x → x ≤ n → rw0 (hh x) (f * 8 + b) = bI (hv FR (9 * (f * 8 + b)) k x)) (htt2 : sm_b lz 8 * (k - 1) ≤ tt) (hT : M.1 + sm_b lz 8 * n + n < 2 ^ 31) (f : Nat) (hf : f ≤ 8) :
    rd ff pf pn k n T0 lim rw0 FR (fun i => i / 8 < f ∧ i % 8 < lz (i / 8)) (vr_a hh ff lim pr k n lz f (pf, pn, ch, rw0, M)) (ra_f tk k n lz f (FR, 0, N)) := by
  induction f with
  | zero => exact ⟨rfl, rfl, hch, hr, hFR, fun j x h => by omega, fun q _ => rfl, fun j i _ _ => rfl⟩
  | succ f ih =>
    have h := ih (by omega)
    have hl := hlz f (by omega)
    have hsm := sm_mono (lz := lz) (f := f) (g := 8) (by omega)
    have hx := ra_x tk k n lz f (FR, 0, N)
    have ht := vr_at hh ff lim pr k n lz f (pf, pn, ch, rw0, M)
    have hm : (sm_b lz f + lz f) * (k - 1) ≤ sm_b lz 8 * (k - 1) := Nat.mul_le_mul_right _ hsm
    have hm2 : (sm_b lz f + lz f) * n ≤ sm_b lz 8 * n := Nat.mul_le_mul_right _ hsm
    rw [Nat.add_mul] at hm hm2
    dsimp only at hx ht
    refine rd_dn (fun i => ?_) (rd_ref_f hi hk1 hk9 hpf htt htk hokt hokp hch hr hn f (lz f) FR _ _ _ h (fun b hb h9 => by omega) (fun b x hb hx1 hx2 => hval f b x (by omega) hb hx1 hx2) (by omega) (by omega) (lz f) (Nat.le_refl _))
    constructor
    · rintro (h9 | h9)
      · exact ⟨by omega, h9.2⟩
      · have e : i / 8 = f := by omega
        rw [e]
        exact ⟨by omega, by omega⟩
    · intro h9
      by_cases h8 : i / 8 < f
      · exact Or.inl ⟨h8, h9.2⟩
      · have e : i / 8 = f := by omega
        rw [e] at h9
        exact Or.inr (by omega)
