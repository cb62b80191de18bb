def rg (ff : Nat → Nat) (pf0 pn0 k : Nat) (T0 : Nat) (lim : Int32) (rw0 : Nat → Nat → Int32) (x : Nat) (co : Nat → Int32) (dn : Nat → Prop) (S : vs_T) (Z : bb_T) : Prop :=
  S.1 = pft pf0 Z.1 ∧ S.2.1 = pn0 - Z.1 ∧ rl T0 lim S.2.2.2.2 Z.2.2 ∧ (∀ j, dn j → S.2.2.2.1 (ff x) j = bI (hv co (9 * j) k x)) ∧ (∀ q, q ≠ ff x → S.2.2.2.1 q = rw0 q)
theorem rg_dn {ff : Nat → Nat} {pf0 pn0 k x : Nat} {T0 : Nat} {lim : Int32} {rw0 : Nat → Nat → Int32} {co : Nat → Int32} {dn dn' : Nat → Prop} {S : vs_T} {Z : bb_T} (hd : ∀ i, dn i ↔ dn' i) (h : rg ff pf0 pn0 k T0 lim rw0 x co dn S Z) : rg ff pf0 pn0 k T0 lim rw0 x co dn' S Z := by
  have e : dn = dn' := funext fun i => propext (hd i)
  rw [← e]; exact h
theorem rg_step {ff : Nat → Nat} {pf pn k tt x : Nat} {T0 : Nat} {lim : Int32} {rw0 : Nat → Nat → Int32} {pr tk co nv nm : Nat → Int32} {xs : Nat → Nat} {sb : Nat → Nat → BitVec 8} {wb : Nat → BitVec 8} (hk1 : 1 ≤ k) (hk9 : k ≤ 9) (hx9 : x ≤ 9) (hpf : pf < 1000) (htk : ∀ i, i < tt → tk i = pr (pft pf i)) (hnb : ∀ i, i < k → nv i = nm i) (hd : ∀ i j, i < k → j < k → BitVec.ofNat 8 (xs i) = BitVec.ofNat 8 (xs j) → i = j) (hwb : ∀ g, g < k → wb g = gf_w (fun i => BitVec.ofNat 8 (xs i)) k (BitVec.ofNat 8 x) g) {f b : Nat} {dn : Nat → Prop} {S : vs_T} {Z : bb_T} (hsb : ∀ g, g < k → sb (f * 8 + b) g = hv co (9 * (f * 8 + b)) k (xs g)) (h : rg ff pf pn k T0 lim rw0 x co dn S Z) (htt : Z.1 + k * (k - 1) ≤ tt) (hT : S.2.2.2.2.1 + (k * k + k) < 2 ^ 31) :
    rg ff pf pn k T0 lim rw0 x co (fun i => dn i ∨ i = f * 8 + b) (vg_c ff lim pr k nv x (tm_f (sb (f * 8 + b)) wb) (f * 8 + b) S) (bb_f tk k nm co (fun i => BitVec.ofNat 8 (xs i)) (BitVec.ofNat 8 x) f b Z) := by
  obtain ⟨h1, h2, h3, h4, h5⟩ := h
  obtain ⟨S1, S2, S3, S4, S5⟩ := S
  dsimp only at h1 h2 h3 h4 h5 hT
  subst h1
  have eo : 9 * (8 * f + b) = 9 * (f * 8 + b) := by omega
  have htm : ∀ g, g < k → tm_f (sb (f * 8 + b)) wb g = mv_f (fun j => by_ (co (9 * (8 * f + b) + j))) (fun i => BitVec.ofNat 8 (xs i)) (BitVec.ofNat 8 x) k g := by
    intro g hg
    unfold tm_f mv_f
    rw [gf_R_w, hsb g hg, hwb g hg, eo]
    rfl
  have ho := rb_oj (lim := lim) (nx := Z.1) hpf htk hnb htm (ar_f 0 k S3) (zs_f k Z.2.1) S5 Z.2.2 (fun i hi => by rw [zs_i, if_pos hi]; exact if_pos hi) h3 htt (by omega) k (Nat.le_refl k)
  obtain ⟨o1, o2, o3⟩ := ho
  have ob := rb_o2 pr (pft pf Z.1) k nv lim (tm_f (sb (f * 8 + b)) wb) k (0, ar_f 0 k S3, S5)
  have ox := rb_ox pr (pft pf Z.1) k nv lim (tm_f (sb (f * 8 + b)) wb) (ar_f 0 k S3) S5 hk1 k (Nat.le_refl k)
  rw [xx_congr (s := ar_f 0 k S3) (s' := fun _ => 0) (fun i hi => if_pos hi), xx_0, Int32.zero_xor, xx_L] at ox
  have hlag : gf_L (sb (f * 8 + b)) wb k = hv co (9 * (f * 8 + b)) k x := by
    have hl := gf_lagrange (fun j => by_ (co (9 * (f * 8 + b) + j))) (fun i => BitVec.ofNat 8 (xs i)) hd (BitVec.ofNat 8 x)
    have e : ∀ m, m ≤ k → gf_L (sb (f * 8 + b)) wb m = gf_L (fun g => gf_s (fun j => by_ (co (9 * (f * 8 + b) + j))) (BitVec.ofNat 8 (xs g)) k) (gf_w (fun i => BitVec.ofNat 8 (xs i)) k (BitVec.ofNat 8 x)) m := by
      intro m hm
      induction m with
      | zero => rfl
      | succ m ih =>
        show gf_L (sb (f * 8 + b)) wb m ^^^ gf_m (sb (f * 8 + b) m) (wb m) = _
        rw [ih (by omega), hsb m (by omega), hwb m (by omega)]
        unfold hv
        rw [gf_h0]
        rfl
    rw [e k (Nat.le_refl k), hl]
    unfold hv
    rw [gf_h0]
  rw [hlag] at ox
  unfold vg_c bb_f bo_f
  dsimp only
  generalize rb_o pr (pft pf Z.1) k nv lim (tm_f (sb (f * 8 + b)) wb) k (0, ar_f 0 k S3, S5) = A at *
  generalize mb_o tk Z.1 k nm (mv_f (fun j => by_ (co (9 * (8 * f + b) + j))) (fun i => BitVec.ofNat 8 (xs i)) (BitVec.ofNat 8 x) k) k (0, zs_f k Z.2.1, Z.2.2) = B at *
  dsimp only at ob
  refine ⟨?_, ?_, ?_, fun j hj => ?_, fun q hq => ?_⟩
  · dsimp only
    rw [pft_add hpf, o1]
  · dsimp only
    rw [h2, o1, Nat.sub_sub]
  · dsimp only
    rw [← bI_of (by omega : x < 256)]
    exact rb_ej hpf htk hnb A.2.1 B.2.1 o2 (nI x) 0 A.2.2 B.2.2 o3 (by omega) k (Nat.le_refl k)
  · dsimp only
    rw [va_up_self, rb_e1, ox]
    unfold upd
    by_cases h9 : j = f * 8 + b
    · rw [if_pos h9, h9]
    · rw [if_neg h9]
      exact h4 j (hj.resolve_right h9)
  · dsimp only
    rw [va_up_ne _ _ hq]
    exact h5 q hq
theorem rg_f {ff : Nat → Nat} {pf pn k tt x : Nat} {T0 : Nat} {lim : Int32} {rw0 : Nat → Nat → Int32} {pr tk co nv nm : Nat → Int32} {xs : Nat → Nat} {sb : Nat → Nat → BitVec 8} {wb : Nat → BitVec 8} (hk1 : 1 ≤ k) (hk9 : k ≤ 9) (hx9 : x ≤ 9) (hpf : pf < 1000) (htk : ∀ i, i < tt → tk i = pr (pft pf i)) (hnb : ∀ i, i < k → nv i = nm i) (hd : ∀ i j, i < k → j < k → BitVec.ofNat 8 (xs i) = BitVec.ofNat 8 (xs j) → i = j) (hwb : ∀ g, g < k → wb g = gf_w (fun i => BitVec.ofNat 8 (xs i)) k (BitVec.ofNat 8 x) g) (f lf : Nat) (dn : Nat → Prop) (S : vs_T) (Z : bb_T) (hsb : ∀ b g, b < lf → g < k → sb (f * 8 + b) g = hv co (9 * (f * 8 + b)) k (xs g)) (h0 : rg ff pf pn k T0 lim rw0 x co dn S Z) (htt : Z.1 + lf * (k * (k - 1)) ≤ tt) (hT : S.2.2.2.2.1 + lf * (k * k + k) < 2 ^ 31) (b : Nat) (hb : b ≤ lf) :
    rg ff pf pn k T0 lim rw0 x co (fun i => dn i ∨ (f * 8 ≤ i ∧ i < f * 8 + b)) (vb_f ff lim pr k nv x sb wb f b S) (rbf_f tk k nm co (fun i => BitVec.ofNat 8 (xs i)) (BitVec.ofNat 8 x) f b Z) := by
  induction b with
  | zero => exact rg_dn (fun i => ⟨fun h => Or.inl h, fun h => h.elim id (fun h => by omega)⟩) h0
  | succ b ih =>
    have h := ih (by omega)
    have hx := rbf_x tk k nm co (fun i => BitVec.ofNat 8 (xs i)) (BitVec.ofNat 8 x) f b Z
    have ht := vb_ft ff lim pr k nv x sb wb f b S
    have hm : (b + 1) * (k * (k - 1)) ≤ lf * (k * (k - 1)) := Nat.mul_le_mul_right _ hb
    have hm2 : (b + 1) * (k * k + k) ≤ lf * (k * k + k) := Nat.mul_le_mul_right _ hb
    rw [Nat.add_mul b 1, Nat.one_mul] at hm hm2
    refine rg_dn (fun i => ?_) (rg_step hk1 hk9 hx9 hpf htk hnb hd hwb (f := f) (b := b) (fun g hg => hsb b g (by omega) hg) h (by rw [hx]; omega) (by omega))
    constructor
    · rintro ((h9 | h9) | h9)
      · exact Or.inl h9
      · exact Or.inr (by omega)
      · exact Or.inr (by omega)
    · rintro (h9 | h9)
      · exact Or.inl (Or.inl h9)
      · by_cases h8 : i = f * 8 + b
        · exact Or.inr h8
        · exact Or.inl (Or.inr (by omega))
theorem rg_a {ff : Nat → Nat} {pf pn k tt x : Nat} {T0 : Nat} {lim : Int32} {rw0 : Nat → Nat → Int32} {pr tk co nv nm su sm : Nat → Int32} {xs : Nat → Nat} {sb : Nat → Nat → BitVec 8} {wb : Nat → BitVec 8} {M : ms_T} {N : mm_T} (hk1 : 1 ≤ k) (hk9 : k ≤ 9) (hx9 : x ≤ 9) (hpf : pf < 1000) (htk : ∀ i, i < tt → tk i = pr (pft pf i)) (hnb : ∀ i, i < k → nv i = nm i) (hd : ∀ i j, i < k → j < k → BitVec.ofNat 8 (xs i) = BitVec.ofNat 8 (xs j) → i = j) (hwb : ∀ g, g < k → wb g = gf_w (fun i => BitVec.ofNat 8 (xs i)) k (BitVec.ofNat 8 x) g) (hr : rl T0 lim M N) (lz : Nat → Nat) (hlz : ∀ i, i < 8 → lz i ≤ 8) (hsb : ∀ f b g, f < 8 → b < lz f → g < k → sb (f * 8 + b) g = hv co (9 * (f * 8 + b)) k (xs g)) (htt : sm_b lz 8 * (k * (k - 1)) ≤ tt) (hT : M.1 + sm_b lz 8 * (k * k + k) < 2 ^ 31) (f : Nat) (hf : f ≤ 8) :
    rg ff pf pn k T0 lim rw0 x co (fun i => i / 8 < f ∧ i % 8 < lz (i / 8)) (vb_a ff lim pr k nv x sb wb lz f (pf, pn, su, rw0, M)) (rba_f tk k nm co (fun i => BitVec.ofNat 8 (xs i)) (BitVec.ofNat 8 x) lz f (0, sm, N)) := by
  induction f with
  | zero => exact ⟨rfl, rfl, hr, fun j h => by omega, fun q _ => rfl⟩
  | succ f ih =>
    have h := ih (by omega)
    have hl := hlz f (by omega)
    have hsm := sm_mono (lz := lz) (f := f) (g := 8) (by omega)
    have hx := rba_x tk k nm co (fun i => BitVec.ofNat 8 (xs i)) (BitVec.ofNat 8 x) lz f (0, sm, N)
    have ht := vb_at ff lim pr k nv x sb wb lz f (pf, pn, su, rw0, M)
    have hm : (sm_b lz f + lz f) * (k * (k - 1)) ≤ sm_b lz 8 * (k * (k - 1)) := Nat.mul_le_mul_right _ hsm
    have hm2 : (sm_b lz f + lz f) * (k * k + k) ≤ sm_b lz 8 * (k * k + k) := Nat.mul_le_mul_right _ hsm
    rw [Nat.add_mul (sm_b lz f)] at hm hm2
    dsimp only at hx ht
    refine rg_dn (fun i => ?_) (rg_f hk1 hk9 hx9 hpf htk hnb hd hwb f (lz f) _ _ _ (fun b g hb hg => hsb f b g (by omega) hb hg) h (by rw [hx]; omega) (by omega) (lz f) (Nat.le_refl _))
    constructor
    · rintro (h9 | h9)
      · exact ⟨by omega, h9.2⟩
      · have e : i / 8 = f := by omega
        rw [e]
        exact ⟨by omega, by omega⟩
    · intro h9
      by_cases h8 : i / 8 < f
      · exact Or.inl ⟨h8, h9.2⟩
      · have e : i / 8 = f := by omega
        rw [e] at h9
        exact Or.inr (by omega)
