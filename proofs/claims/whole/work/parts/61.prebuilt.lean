section
variable {k n : Nat} {hh ff : Nat → Nat} {lz : Nat → Nat} {c : Nat} {v : VS} {m : MS}
/-! rebuild -/
theorem inv.rebuilt (g : geo k n hh ff) (h : inv k n hh lz c v m) (hc : c ≤ 512) {x : Nat} (hxn : x ≤ n) (mk : Int32) (hs : v.M.2.2.2 = 0) (hp : sm_b lz 8 * (k * (k - 1)) ≤ v.pn) (hE : (ch_f v.fl mk k n 1 (0, v.nb)).1 = k) :
    ∃ (xs : Nat → Nat) (sb : Nat → Nat → BitVec 8) (wb : Nat → BitVec 8), (∀ i, i < k → (ch_f v.fl mk k n 1 (0, v.nb)).2 i = nI (xs i)) ∧ (∀ i, i < k → xs i < n + 1) ∧ (∀ f b i, f < 8 → b < lz f → i < k → v.rw (hh (xs i)) (f * 8 + b) = bI (sb (f * 8 + b) i)) ∧ (∀ i, i < k → wg_f (fun j => BitVec.ofNat 8 (xs j)) k (BitVec.ofNat 8 x) v.wt k i = bI (wb i)) ∧
      (∀ j, j < k → (mh_f m.em mk k n 1 (0, m.nb)).2 j = bI (BitVec.ofNat 8 (xs j))) ∧ (∀ i j, i < k → j < k → BitVec.ofNat 8 (xs i) = BitVec.ofNat 8 (xs j) → i = j) ∧
      rg ff v.pf v.pn k v.M.1 v.wi v.rw x m.co (fun i => i / 8 < 8 ∧ i % 8 < lz (i / 8)) (vb_a ff v.wi v.pr k (ch_f v.fl mk k n 1 (0, v.nb)).2 x sb wb lz 8 (v.pf, v.pn, v.su, v.rw, ms_0 v.M)) (rba_f (tq_f (sm_b lz 8 * (k - 1) * k) m.pn (m.tk, m.pr)).1 k (mh_f m.em mk k n 1 (0, m.nb)).2 m.co (fun j => BitVec.ofNat 8 (xs j)) (BitVec.ofNat 8 x) lz 8 (0, m.su, (m.M.1, m.M.2.1, m.wi, 0))) := by
  have hT := h.Tc
  have h9 := g.n9
  have hkn := g.kn
  have hk2 := g.k2
  have hpn := h.pn
  obtain ⟨xs, x1, x2, x3, x4, x5⟩ := ch_xs v.fl mk k n v.nb hE
  have hck := ck_f h9 h.fe mk k n 1 (0, v.nb) (0, m.nb) (Nat.le_refl 1) (by omega) rfl (fun i hi => absurd hi (Nat.not_lt_zero i))
  rw [hE] at hck
  have et : sm_b lz 8 * (k * (k - 1)) = sm_b lz 8 * (k - 1) * k := by rw [Nat.mul_assoc, Nat.mul_comm k]
  have hd : ∀ i j, i < k → j < k → BitVec.ofNat 8 (xs i) = BitVec.ofNat 8 (xs j) → i = j := fun i j hi hj he => x5 i j hi hj (bn_inj (by have := x3 i hi; omega) (by have := x3 j hj; omega) he)
  have hs8 := sm_le h.l8 8 (Nat.le_refl 8)
  have hkk : k * k ≤ 9 * 9 := Nat.mul_le_mul (by omega) (by omega)
  have hnl : sm_b lz 8 * (k * k + k) ≤ 64 * 90 := Nat.mul_le_mul hs8 (by omega)
  have e0 : (ms_0 v.M).1 = v.M.1 := rfl
  refine ⟨xs, fun j i => hv m.co (9 * j) k (xs i), fun i => gf_w (fun j => BitVec.ofNat 8 (xs j)) k (BitVec.ofNat 8 x) i, x1, fun i hi => by have := x3 i hi; omega, fun f b i hf hb hi => h.sh f b (xs i) hf hb (x2 i hi) (x3 i hi) (x4 i hi), fun i hi => if_pos hi, fun j hj => ?_, hd, ?_⟩
  · rw [← hck.2 j hj, x1 j hj]
    exact bI_of (by have := x3 j hj; omega)
  · rw [← et, h.pm]
    exact rg_a (by omega) (by omega) (by omega) h.pf (tt := sm_b lz 8 * (k * (k - 1))) (fun i hi => pq_tk h.pf h.pw hp i hi) (fun i hi => hck.2 i hi) hd (fun _ _ => rfl) (h.rl0 hs) lz h.l8 (fun _ _ _ _ _ _ => rfl) (Nat.le_refl _) (by omega) 8 (Nat.le_refl 8)
theorem rg_M {pf0 pn0 k T0 x : Nat} {lim : Int32} {rw0 : Nat → Nat → Int32} {co : Nat → Int32} {dn : Nat → Prop} {S : vs_T} {Z : bb_T} (h : rg ff pf0 pn0 k T0 lim rw0 x co dn S Z) : rl T0 lim S.2.2.2.2 Z.2.2 := h.2.2.1
theorem inv.rebuilt_A (g : geo k n hh ff) (h : inv k n hh lz c v m) (hc : c ≤ 512) {x t : Nat} (hxn : x ≤ n) {dn : Nat → Prop} {S : vs_T} {Z : bb_T} (hr : rg ff v.pf v.pn k v.M.1 v.wi v.rw x m.co dn S Z) (ht : t ≤ v.pn) (hz : Z.1 = t) (hB : S.2.2.2.2.1 ≤ v.M.1 + 5900) (hA : ms_r v.wi S.2.2.2.2 = 0) (nt tf bx : Int32) (nb wt nm : Nat → Int32) :
    inv k n hh lz (c + 1) (VS.mk (S.1) (S.2.1) v.pr (-1) (ms_t v.wi (x + 1 - x) x (ms_s v.wi S.2.2.2.2 0 0 256)) (ms_r v.wi S.2.2.2.2) (v.wi) (nt) (nI x) (nb) (S.2.2.1) (wt) v.ch v.le v.fl v.ep (S.2.2.2.1))
      (MS.mk (0) (m.pn - t) (Z.1) m.ep (((mm_s Z.2.2 0 0 256).1, (mm_s Z.2.2 0 0 256).2.1, -1, (mm_s Z.2.2 0 0 256).2.2.2)) (-1) (3) (0) (tf) (nI x) m.fi m.ln (bx) ((tq_f t m.pn (m.tk, m.pr)).2) ((tq_f t m.pn (m.tk, m.pr)).1) m.le m.co m.fr m.em (nm) (Z.2.1)) ∧
    nI (ms_t v.wi (x + 1 - x) x (ms_s v.wi S.2.2.2.2 0 0 256)).2.2.1 = nI (mm_s Z.2.2 0 0 256).1 - nI m.M.1 ∧ ¬ (mm_s Z.2.2 0 0 256).2.2.2 = 0 := by
  have hT := h.Tc
  have hj := job_A (x + 1 - x) x (rg_M hr) (by omega) hA
  obtain ⟨j0, j1, j2, j3, j4, j5⟩ := hj
  obtain ⟨r1, r2, r4, r6, r7⟩ := hr
  rw [hz] at r1 r2
  refine ⟨(inv.mk (pf_ := by show S.1 < 1000; rw [r1]; exact pft_lt h.pf) (pn_ := by show S.2.1 ≤ 1000; rw [r2]; have := h.pn; omega) (pm_ := by show m.pn - t = S.2.1; rw [r2, h.pm]) (pw_ := by show pq S.1 S.2.1 v.pr (tq_f t m.pn (m.tk, m.pr)).2; rw [r1, r2, h.pm]; exact pq_take h.pf h.pw ht) (vo_ := h.vo) (mo_ := fun i => (tq_ok _ _ _ _ h.to h.mo i).2) (to_ := fun i => (tq_ok _ _ _ _ h.to h.mo i).1) (co_ := h.co) (fo_ := h.fo) (lv_ := h.lv) (lm_ := h.lm) (l8_ := h.l8) (ep_ := h.ep) (fe_ := h.fe) (T_ := j1) (g_ := j2) (Tc_ := by show (ms_t v.wi (x + 1 - x) x (ms_s v.wi S.2.2.2.2 0 0 256)).1 ≤ _; omega) (sn_ := by show (ms_t v.wi (x + 1 - x) x (ms_s v.wi S.2.2.2.2 0 0 256)).2.2.1 ≤ (ms_t v.wi (x + 1 - x) x (ms_s v.wi S.2.2.2.2 0 0 256)).1; omega) (wi_ := rfl) (w1_ := show ¬ (-1 : Int32) < -1 by decide) (lf_ := rfl) (st_ := Or.inr ⟨j3, Or.inr (Or.inr rfl), Or.inl ⟨hA, rfl⟩⟩) (ch_ := h.ch) (sh_ := ?_)), ?_, j0⟩
  · intro f b y hf hb hy1 hy2 hfl
    show S.2.2.2.1 (hh y) (f * 8 + b) = _
    rw [r7 (hh y) (g.hf y x hy2 hxn)]
    exact h.sh f b y hf hb hy1 hy2 hfl
  · rw [← j1, j4, ← h.T, nI_d]
theorem inv.rebuilt_B (g : geo k n hh ff) (h : inv k n hh lz c v m) (hc : c ≤ 512) {x t : Nat} (hxn : x ≤ n) {S : vs_T} {Z : bb_T} (hr : rg ff v.pf v.pn k v.M.1 v.wi v.rw x m.co (fun i => i / 8 < 8 ∧ i % 8 < lz (i / 8)) S Z) (ht : t ≤ v.pn) (hz : Z.1 = t) (hB : S.2.2.2.2.1 ≤ v.M.1 + 5900) (hA : ¬ ms_r v.wi S.2.2.2.2 = 0) (bx : Int32) (nb wt nm : Nat → Int32) :
    inv k n hh lz (c + 1) (VS.mk (S.1) (S.2.1) v.pr (-1) (ms_t v.wi (x + 1 - x) x (ms_s v.wi S.2.2.2.2 0 0 256)) (ms_r v.wi S.2.2.2.2) (v.wi) (nI (ms_n v.wi (x + 1 - x) x (ms_s v.wi S.2.2.2.2 0 0 256) x)) (nI x) (nb) (S.2.2.1) (wt) v.ch v.le (upd v.fl x 1) v.ep (ab_f hh ff x lz 8 S.2.2.2.1))
      (MS.mk (0) (m.pn - t) (Z.1) m.ep (((mt_f (x + 1 - x) x (mm_s Z.2.2 0 0 256, x)).1.1, (mt_f (x + 1 - x) x (mm_s Z.2.2 0 0 256, x)).1.2.1, -1, (mt_f (x + 1 - x) x (mm_s Z.2.2 0 0 256, x)).1.2.2.2)) (-1) (jb_f (mt_f (x + 1 - x) x (mm_s Z.2.2 0 0 256, x)).1 3) (1) (nI (mt_f (x + 1 - x) x (mm_s Z.2.2 0 0 256, x)).2) (nI x) m.fi m.ln (bx) ((tq_f t m.pn (m.tk, m.pr)).2) ((tq_f t m.pn (m.tk, m.pr)).1) m.le m.co m.fr (upd m.em x 0) (nm) (Z.2.1)) ∧
    nI (ms_t v.wi (x + 1 - x) x (ms_s v.wi S.2.2.2.2 0 0 256)).2.2.1 = nI (mt_f (x + 1 - x) x (mm_s Z.2.2 0 0 256, x)).1.1 - nI m.M.1 ∧ (mm_s Z.2.2 0 0 256).2.2.2 = 0 := by
  have hT := h.Tc
  have hn9 := g.n9
  have hkn := g.kn
  have hj := job_B (x + 1 - x) x (rg_M hr) (by omega) hA
  obtain ⟨j0, j9, j1, j2, j4, j5, j6, j7, j8⟩ := hj
  obtain ⟨r1, r2, r4, r6, r7⟩ := hr
  rw [hz] at r1 r2
  refine ⟨(inv.mk (pf_ := by show S.1 < 1000; rw [r1]; exact pft_lt h.pf) (pn_ := by show S.2.1 ≤ 1000; rw [r2]; have := h.pn; omega) (pm_ := by show m.pn - t = S.2.1; rw [r2, h.pm]) (pw_ := by show pq S.1 S.2.1 v.pr (tq_f t m.pn (m.tk, m.pr)).2; rw [r1, r2, h.pm]; exact pq_take h.pf h.pw ht) (vo_ := h.vo) (mo_ := fun i => (tq_ok _ _ _ _ h.to h.mo i).2) (to_ := fun i => (tq_ok _ _ _ _ h.to h.mo i).1) (co_ := h.co) (fo_ := h.fo) (lv_ := h.lv) (lm_ := h.lm) (l8_ := h.l8) (ep_ := h.ep) (fe_ := ?_) (T_ := j1) (g_ := j2) (Tc_ := by show (ms_t v.wi (x + 1 - x) x (ms_s v.wi S.2.2.2.2 0 0 256)).1 ≤ _; omega) (sn_ := by show (ms_t v.wi (x + 1 - x) x (ms_s v.wi S.2.2.2.2 0 0 256)).2.2.1 ≤ (ms_t v.wi (x + 1 - x) x (ms_s v.wi S.2.2.2.2 0 0 256)).1; omega) (wi_ := rfl) (w1_ := show ¬ (-1 : Int32) < -1 by decide) (lf_ := rfl) (st_ := ?_) (ch_ := h.ch) (sh_ := ?_)), ?_, j0⟩
  · intro b hb1 hb2
    show upd v.fl x 1 b = 0 ↔ ¬ upd m.em x 0 b = 0
    unfold upd
    by_cases h9 : b = x
    · rw [if_pos h9, if_pos h9]; exact ⟨fun h8 => absurd h8 (by decide), fun h8 => absurd rfl h8⟩
    · rw [if_neg h9, if_neg h9]; exact h.fe b hb1 hb2
  · rcases j8 with ⟨a1, a2⟩ | ⟨a1, a2⟩
    · exact Or.inl ⟨a1, if_pos a2⟩
    · refine Or.inr ⟨a1, Or.inr (Or.inr (if_neg a2)), Or.inr ⟨j9, rfl, (mt_f (x + 1 - x) x (mm_s Z.2.2 0 0 256, x)).2, x, by omega, by omega, ?_, rfl, rfl, rfl⟩⟩
      show nI (ms_n v.wi (x + 1 - x) x (ms_s v.wi S.2.2.2.2 0 0 256) x) = _
      rw [j5]
  · intro f' b y hf' hb hy1 hy2 hfl
    have hfl : ¬ upd v.fl x 1 y = 0 := hfl
    have hlf := h.l8 f' hf'
    have e8 : (f' * 8 + b) / 8 = f' := by omega
    have hd : (f' * 8 + b) / 8 < 8 ∧ (f' * 8 + b) % 8 < lz ((f' * 8 + b) / 8) := by rw [e8]; exact ⟨hf', by omega⟩
    show ab_f hh ff x lz 8 S.2.2.2.1 (hh y) (f' * 8 + b) = bI (hv m.co (9 * (f' * 8 + b)) k y)
    rw [ab_i (g.hf x x hxn hxn) lz h.l8 S.2.2.2.1 8 (Nat.le_refl 8)]
    by_cases h9 : y = x
    · subst h9
      rw [if_pos ⟨rfl, hd⟩]
      exact r6 (f' * 8 + b) hd
    · unfold upd at hfl
      rw [if_neg h9] at hfl
      rw [if_neg (fun h8 => h9 (g.hi y x hy2 hxn h8.1)), r7 (hh y) (g.hf y x hy2 hxn)]
      exact h.sh f' b y hf' hb hy1 hy2 hfl
  · rw [← j1, j4, ← h.T, nI_d]
/-! restore -/
theorem inv.restored (g : geo k n hh ff) (h : inv k n hh lz c v m) (mk : Int32) {f : Nat} (hf : f < 8) (hE : (ch_f v.fl mk k n 1 (0, v.nb)).1 = k) :
    ∃ (xs : Nat → Nat) (sb : Nat → Nat → BitVec 8) (wb : Nat → BitVec 8), (∀ i, i < k → (ch_f v.fl mk k n 1 (0, v.nb)).2 i = nI (xs i)) ∧ (∀ i, i < k → xs i < n + 1) ∧ (∀ b i, b < lz f → i < k → v.rw (hh (xs i)) (f * 8 + b) = bI (sb (f * 8 + b) i)) ∧ (∀ i, i < k → wg_f (fun j => BitVec.ofNat 8 (xs j)) k 0#8 v.wt k i = bI (wb i)) ∧
      rv_f (fun b => gf_L (sb (f * 8 + b)) wb k) (lz f) (lz f) = rs_f m.co f (lz f) := by
  have h9 := g.n9
  have hkn := g.kn
  have hk2 := g.k2
  have hl := h.l8 f hf
  obtain ⟨xs, x1, x2, x3, x4, x5⟩ := ch_xs v.fl mk k n v.nb hE
  have hd : ∀ i j, i < k → j < k → BitVec.ofNat 8 (xs i) = BitVec.ofNat 8 (xs j) → i = j := fun i j hi hj he => x5 i j hi hj (bn_inj (by have := x3 i hi; omega) (by have := x3 j hj; omega) he)
  refine ⟨xs, fun j i => hv m.co (9 * j) k (xs i), fun i => gf_w (fun j => BitVec.ofNat 8 (xs j)) k 0#8 i, x1, fun i hi => by have := x3 i hi; omega, fun b i hb hi => h.sh f b (xs i) hf hb (x2 i hi) (x3 i hi) (x4 i hi), fun i hi => if_pos hi, ?_⟩
  refine rv_rs m.co f (lz f) _ hl (fun b hb => ?_)
  have hlag := gf_lagrange (fun j => by_ (m.co (9 * (f * 8 + b) + j))) (fun i => BitVec.ofNat 8 (xs i)) hd 0#8
  have e : gf_L (fun i => hv m.co (9 * (f * 8 + b)) k (xs i)) (fun i => gf_w (fun j => BitVec.ofNat 8 (xs j)) k 0#8 i) k = by_ (m.co (9 * (f * 8 + b))) := by
    rw [← hv_0 m.co (9 * (f * 8 + b)) k (by omega)]
    unfold hv
    rw [gf_h0, ← hlag]
    exact gf_Lc (fun i _ => by rw [gf_h0]) (fun i _ => rfl)
  rw [show 9 * (8 * f + b) = 9 * (f * 8 + b) by omega]
  show _ = bI (gf_L (fun i => hv m.co (9 * (f * 8 + b)) k (xs i)) (fun i => gf_w (fun j => BitVec.ofNat 8 (xs j)) k 0#8 i) k)
  rw [e]
  exact h.co _
end
