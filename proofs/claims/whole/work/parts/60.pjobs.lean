section
variable {k n : Nat} {hh ff : Nat → Nat} {lz : Nat → Nat} {c : Nat} {v : VS} {m : MS}
/-- the polynomials that count are as they were -/
theorem hv_same {co co' : Nat → Int32} {k : Nat} (hk : k ≤ 9) (j : Nat) (h : ∀ i, i < 9 → co' (9 * j + i) = co (9 * j + i)) (x : Nat) : hv co' (9 * j) k x = hv co (9 * j) k x := hv_congr x (fun i hi => h i (by omega))
theorem inv.rl0 (h : inv k n hh lz c v m) (hs : v.M.2.2.2 = 0) : rl v.M.1 v.wi (ms_0 v.M) (m.M.1, m.M.2.1, m.wi, 0) := by
  have e := rl_0 (M := v.M) (wi := v.wi) hs h.w1
  rw [← h.T, ← h.g, ← h.wi]
  exact e
theorem inv.filled (g : geo k n hh ff) (h : inv k n hh lz c v m) (hE : n ≤ sm_f v.fl n) : ∀ x, 1 ≤ x → x ≤ n → ¬ v.fl x = 0 := by
  have key : ∀ b, b ≤ n → b ≤ sm_f v.fl b → ∀ x, 1 ≤ x → x ≤ b → ¬ v.fl x = 0 := by
    intro b
    induction b with
    | zero => intro _ _ x h1 h2; omega
    | succ b ih =>
      intro hb hs x h1 h2
      by_cases h9 : v.fl (b + 1) = 0
      · rw [sm_f0 h9] at hs
        have := sm_f_le v.fl b
        omega
      · rw [sm_f1 h9] at hs
        by_cases h8 : x = b + 1
        · rw [h8]; exact h9
        · exact ih (by omega) (by omega) x h1 (by omega)
  exact key n (Nat.le_refl n) hE
theorem nI_d {a b : Nat} : nI (a + b) - nI a = nI b := by rw [pk_sub (by omega), Nat.add_sub_cancel_left]
/-! store -/
theorem inv.stored (g : geo k n hh ff) (h : inv k n hh lz c v m) (hc : c ≤ 512) (x : Int64) {f lx : Nat} (hlx : lx ≤ 8) (hs : v.M.2.2.2 = 0) (hp : lx * (k - 1) ≤ v.pn) :
    rd ff v.pf v.pn k n v.M.1 v.wi v.rw (sb_f x f lx (cp_f m.co 576 m.fr)) (fun i => f * 8 ≤ i ∧ i < f * 8 + lx) (vs_l x f ff v.wi v.pr k n lx (v.pf, v.pn, v.ch, v.rw, ms_0 v.M)) (rf_f (tq_f (lx * (k - 1)) m.pn (m.tk, m.pr)).1 k n f lx (sb_f x f lx (cp_f m.co 576 m.fr), 0, (m.M.1, m.M.2.1, m.wi, 0))) := by
  have hT := h.Tc
  have h9 := g.n9
  have hn : lx * n ≤ 72 := Nat.le_trans (Nat.mul_le_mul hlx h9) (by omega)
  have hpn := h.pn
  have e0 : (ms_0 v.M).1 = v.M.1 := rfl
  rw [h.pm]
  exact rd_store (fun x y _ hx _ hy he => g.fi x y hx hy he) (by have := g.k2; omega) (by have := g.kn; omega) h.pf (tt := lx * (k - 1)) (by omega) (fun i hi => pq_tk h.pf h.pw hp i hi) (fun i => (tq_ok _ _ _ _ h.to h.mo i).1) h.vo h.ch (h.rl0 hs) x f lx _ (cp_ok _ _ _ h.co h.fo) hlx (Nat.le_refl _) (by omega) lx (Nat.le_refl _)
theorem rd_M {pf0 pn0 k n T0 : Nat} {lim : Int32} {rw0 : Nat → Nat → Int32} {fr0 : Nat → Int32} {dn : Nat → Prop} {S : vs_T} {Z : dd_T} (h : rd ff pf0 pn0 k n T0 lim rw0 fr0 dn S Z) : rl T0 lim S.2.2.2.2 Z.2.2 := h.2.2.2.1
/-- behind dealing, not flipped (store, refresh): w is the job -/
theorem inv.dealt_A (g : geo k n hh ff) (h : inv k n hh lz c v m) (hc : c ≤ 512) {w t : Nat} (hw : w = 1 ∨ w = 2) {fr0 : Nat → Int32} {dn : Nat → Prop} {S : vs_T} {Z : dd_T} (hr : rd ff v.pf v.pn k n v.M.1 v.wi v.rw fr0 dn S Z) (ht : t ≤ v.pn) (hz : Z.2.1 = t) (hB : S.2.2.2.2.1 ≤ v.M.1 + 576) (hA : ms_r v.wi S.2.2.2.2 = 0) (nt tf fi ln : Int32) :
    inv k n hh lz (c + 1) (VS.mk (S.1) (S.2.1) v.pr (-1) (ms_t v.wi (n + 1 - 1) 1 (ms_s v.wi S.2.2.2.2 0 0 256)) (ms_r v.wi S.2.2.2.2) (v.wi) (nt) (nI n) v.nb v.su v.wt (S.2.2.1) v.le v.fl v.ep (S.2.2.2.1))
      (MS.mk (0) (m.pn - t) (Z.2.1) m.ep (((mm_s Z.2.2 0 0 256).1, (mm_s Z.2.2 0 0 256).2.1, -1, (mm_s Z.2.2 0 0 256).2.2.2)) (-1) (nI w) (0) (tf) (nI n) (fi) (ln) m.bx ((tq_f t m.pn (m.tk, m.pr)).2) ((tq_f t m.pn (m.tk, m.pr)).1) m.le m.co (Z.1) m.em m.nb m.su) ∧
    nI (ms_t v.wi (n + 1 - 1) 1 (ms_s v.wi S.2.2.2.2 0 0 256)).2.2.1 = nI (mm_s Z.2.2 0 0 256).1 - nI m.M.1 ∧ ¬ (mm_s Z.2.2 0 0 256).2.2.2 = 0 := by
  have hT := h.Tc
  have hj := job_A (n + 1 - 1) 1 (rd_M hr) (by omega) hA
  obtain ⟨j0, j1, j2, j3, j4, j5⟩ := hj
  obtain ⟨r1, r2, r3, r4, r5, r6, r7, r8⟩ := hr
  rw [hz] at r1 r2
  refine ⟨(inv.mk (pf_ := by show S.1 < 1000; rw [r1]; exact pft_lt h.pf) (pn_ := by show S.2.1 ≤ 1000; rw [r2]; have := h.pn; omega) (pm_ := by show m.pn - t = S.2.1; rw [r2, h.pm]) (pw_ := by show pq S.1 S.2.1 v.pr (tq_f t m.pn (m.tk, m.pr)).2; rw [r1, r2, h.pm]; exact pq_take h.pf h.pw ht) (vo_ := h.vo) (mo_ := fun i => (tq_ok _ _ _ _ h.to h.mo i).2) (to_ := fun i => (tq_ok _ _ _ _ h.to h.mo i).1) (co_ := h.co) (fo_ := r5) (lv_ := h.lv) (lm_ := h.lm) (l8_ := h.l8) (ep_ := h.ep) (fe_ := h.fe) (T_ := j1) (g_ := j2) (Tc_ := by show (ms_t v.wi (n + 1 - 1) 1 (ms_s v.wi S.2.2.2.2 0 0 256)).1 ≤ _; omega) (sn_ := by show (ms_t v.wi (n + 1 - 1) 1 (ms_s v.wi S.2.2.2.2 0 0 256)).2.2.1 ≤ (ms_t v.wi (n + 1 - 1) 1 (ms_s v.wi S.2.2.2.2 0 0 256)).1; omega) (wi_ := rfl) (w1_ := show ¬ (-1 : Int32) < -1 by decide) (lf_ := rfl) (st_ := Or.inr ⟨j3, ?_, Or.inl ⟨hA, rfl⟩⟩) (ch_ := r3) (sh_ := ?_)), ?_, j0⟩
  · rcases hw with h9 | h9 <;> subst h9
    · exact Or.inl rfl
    · exact Or.inr (Or.inl rfl)
  · intro f b x hf hb hx1 hx2 hfl
    show S.2.2.2.1 (hh x) (f * 8 + b) = _
    rw [r7 (hh x) (fun y _ hy => g.hf x y hx2 hy)]
    exact h.sh f b x hf hb hx1 hx2 hfl
  · rw [← j1, j4, ← h.T, nI_d]
theorem inv.stored_B (g : geo k n hh ff) (h : inv k n hh lz c v m) (hc : c ≤ 512) {f lx t : Nat} (hf8 : f < 8) (hlx : lx ≤ 8) (x : Int64) {S : vs_T} {Z : dd_T} (hr : rd ff v.pf v.pn k n v.M.1 v.wi v.rw (sb_f x f lx (cp_f m.co 576 m.fr)) (fun i => f * 8 ≤ i ∧ i < f * 8 + lx) S Z) (ht : t ≤ v.pn) (hz : Z.2.1 = t) (hB : S.2.2.2.2.1 ≤ v.M.1 + 576) (hA : ¬ ms_r v.wi S.2.2.2.2 = 0) (fi ln : Int32) :
    inv k n hh (fun i => if i = f then lx else lz i) (c + 1) (VS.mk (S.1) (S.2.1) v.pr (-1) (ms_t v.wi (n + 1 - 1) 1 (ms_s v.wi S.2.2.2.2 0 0 256)) (ms_r v.wi S.2.2.2.2) (v.wi) (nI (ms_n v.wi (n + 1 - 1) 1 (ms_s v.wi S.2.2.2.2 0 0 256) 1)) (nI n) v.nb v.su v.wt (S.2.2.1) (upd v.le f (nI lx)) v.fl v.ep (af_f hh ff f lx n S.2.2.2.1))
      (MS.mk (0) (m.pn - t) (Z.2.1) m.ep (((mt_f (n + 1 - 1) 1 (mm_s Z.2.2 0 0 256, 1)).1.1, (mt_f (n + 1 - 1) 1 (mm_s Z.2.2 0 0 256, 1)).1.2.1, -1, (mt_f (n + 1 - 1) 1 (mm_s Z.2.2 0 0 256, 1)).1.2.2.2)) (-1) (jb_f (mt_f (n + 1 - 1) 1 (mm_s Z.2.2 0 0 256, 1)).1 1) (1) (nI (mt_f (n + 1 - 1) 1 (mm_s Z.2.2 0 0 256, 1)).2) (nI n) (fi) (ln) m.bx ((tq_f t m.pn (m.tk, m.pr)).2) ((tq_f t m.pn (m.tk, m.pr)).1) (upd m.le f (nI lx)) (cp_f Z.1 576 m.co) (Z.1) m.em m.nb m.su) ∧
    nI (ms_t v.wi (n + 1 - 1) 1 (ms_s v.wi S.2.2.2.2 0 0 256)).2.2.1 = nI (mt_f (n + 1 - 1) 1 (mm_s Z.2.2 0 0 256, 1)).1.1 - nI m.M.1 ∧ (mm_s Z.2.2 0 0 256).2.2.2 = 0 := by
  have hT := h.Tc
  have hn9 := g.n9
  have hkn := g.kn
  have hj := job_B (n + 1 - 1) 1 (rd_M hr) (by omega) hA
  obtain ⟨j0, j9, j1, j2, j4, j5, j6, j7, j8⟩ := hj
  obtain ⟨r1, r2, r3, r4, r5, r6, r7, r8⟩ := hr
  rw [hz] at r1 r2
  refine ⟨(inv.mk (pf_ := by show S.1 < 1000; rw [r1]; exact pft_lt h.pf) (pn_ := by show S.2.1 ≤ 1000; rw [r2]; have := h.pn; omega) (pm_ := by show m.pn - t = S.2.1; rw [r2, h.pm]) (pw_ := by show pq S.1 S.2.1 v.pr (tq_f t m.pn (m.tk, m.pr)).2; rw [r1, r2, h.pm]; exact pq_take h.pf h.pw ht) (vo_ := h.vo) (mo_ := fun i => (tq_ok _ _ _ _ h.to h.mo i).2) (to_ := fun i => (tq_ok _ _ _ _ h.to h.mo i).1) (co_ := cp_ok _ _ _ r5 h.co) (fo_ := r5) (lv_ := ?_) (lm_ := ?_) (l8_ := ?_) (ep_ := h.ep) (fe_ := h.fe) (T_ := j1) (g_ := j2) (Tc_ := by show (ms_t v.wi (n + 1 - 1) 1 (ms_s v.wi S.2.2.2.2 0 0 256)).1 ≤ _; omega) (sn_ := by show (ms_t v.wi (n + 1 - 1) 1 (ms_s v.wi S.2.2.2.2 0 0 256)).2.2.1 ≤ (ms_t v.wi (n + 1 - 1) 1 (ms_s v.wi S.2.2.2.2 0 0 256)).1; omega) (wi_ := rfl) (w1_ := show ¬ (-1 : Int32) < -1 by decide) (lf_ := rfl) (st_ := ?_) (ch_ := r3) (sh_ := ?_)), ?_, j0⟩
  · intro i hi
    show upd v.le f (nI lx) i = nI (if i = f then lx else lz i)
    unfold upd
    by_cases h9 : i = f
    · rw [if_pos h9, if_pos h9]
    · rw [if_neg h9, if_neg h9]; exact h.lv i hi
  · intro i hi
    show upd m.le f (nI lx) i = nI (if i = f then lx else lz i)
    unfold upd
    by_cases h9 : i = f
    · rw [if_pos h9, if_pos h9]
    · rw [if_neg h9, if_neg h9]; exact h.lm i hi
  · intro i hi
    show (if i = f then lx else lz i) ≤ 8
    split
    · exact hlx
    · exact h.l8 i hi
  · rcases j8 with ⟨a1, a2⟩ | ⟨a1, a2⟩
    · exact Or.inl ⟨a1, if_pos a2⟩
    · refine Or.inr ⟨a1, Or.inl (if_neg a2), Or.inr ⟨j9, rfl, (mt_f (n + 1 - 1) 1 (mm_s Z.2.2 0 0 256, 1)).2, n, by omega, by omega, ?_, rfl, rfl, rfl⟩⟩
      show nI (ms_n v.wi (n + 1 - 1) 1 (ms_s v.wi S.2.2.2.2 0 0 256) 1) = _
      rw [j5]
  · intro f' b y hf' hb hy1 hy2 hfl
    have hb : b < if f' = f then lx else lz f' := hb
    have hlf := h.l8 f' hf'
    have ha := (af_i (fun x y _ hx _ hy he => g.hi x y hx hy he) (fun x y _ hx _ hy => g.hf x y hx hy) f lx S.2.2.2.1 n (Nat.le_refl n)).1 y (f' * 8 + b) hy1 hy2
    show af_f hh ff f lx n S.2.2.2.1 (hh y) (f' * 8 + b) = bI (hv (cp_f Z.1 576 m.co) (9 * (f' * 8 + b)) k y)
    have hco : ∀ i, i < 9 → b < 8 → cp_f Z.1 576 m.co (9 * (f' * 8 + b) + i) = Z.1 (9 * (f' * 8 + b) + i) := fun i hi hb8 => by
      rw [cp_i, if_pos (by omega)]
    by_cases h9 : f' = f
    · rw [if_pos h9] at hb
      rw [ha, if_pos (by omega), r6 (f' * 8 + b) y (by omega) hy1 hy2, hv_same (by omega) _ (fun i hi => hco i hi (by omega))]
    · rw [if_neg h9] at hb
      rw [ha, if_neg (by omega), r7 (hh y) (fun z _ hz => g.hf y z hy2 hz), h.sh f' b y hf' hb hy1 hy2 hfl]
      congr 1
      refine (hv_same (by omega) _ (fun i hi => ?_) _).symm
      rw [hco i hi (by omega), r8 (f' * 8 + b) i (by omega) hi, sb_i x f _ lx (f' * 8 + b) i hi, if_neg (by omega), cp_i, if_pos (by omega)]
  · rw [← j1, j4, ← h.T, nI_d]
/-! refresh -/
theorem inv.refreshed (g : geo k n hh ff) (h : inv k n hh lz c v m) (hc : c ≤ 512) (hE : n ≤ sm_f v.fl n) (hs : v.M.2.2.2 = 0) (hp : sm_b lz 8 * (k - 1) ≤ v.pn) :
    rd ff v.pf v.pn k n v.M.1 v.wi v.rw (cp_f m.co 576 m.fr) (fun i => i / 8 < 8 ∧ i % 8 < lz (i / 8)) (vr_a hh ff v.wi v.pr k n lz 8 (v.pf, v.pn, v.ch, v.rw, ms_0 v.M)) (ra_f (tq_f (sm_b lz 8 * (k - 1)) m.pn (m.tk, m.pr)).1 k n lz 8 (cp_f m.co 576 m.fr, 0, (m.M.1, m.M.2.1, m.wi, 0))) := by
  have hT := h.Tc
  have h9 := g.n9
  have hs8 := sm_le h.l8 8 (Nat.le_refl 8)
  have hn : sm_b lz 8 * n ≤ 64 * 9 := Nat.mul_le_mul hs8 h9
  have hpn := h.pn
  have e0 : (ms_0 v.M).1 = v.M.1 := rfl
  have hkn := g.kn
  rw [h.pm]
  exact rd_ref (fun x y _ hx _ hy he => g.fi x y hx hy he) (by have := g.k2; omega) (by omega) h.pf (tt := sm_b lz 8 * (k - 1)) (by omega) (fun i hi => pq_tk h.pf h.pw hp i hi) (fun i => (tq_ok _ _ _ _ h.to h.mo i).1) h.vo h.ch (h.rl0 hs) (fun x y _ hx _ hy => g.hf x y hx hy) lz h.l8 _ (cp_ok _ _ _ h.co h.fo)
    (fun f b x hf hb hx1 hx2 => by
      have hl := h.l8 f hf
      rw [h.sh f b x hf hb hx1 hx2 (h.filled g hE x hx1 hx2)]
      congr 1
      refine (hv_same (by omega) _ (fun i hi => ?_) _).symm
      rw [cp_i, if_pos (by omega)]) (Nat.le_refl _) (by omega) 8 (Nat.le_refl 8)
theorem inv.refreshed_B (g : geo k n hh ff) (h : inv k n hh lz c v m) (hc : c ≤ 512) {t : Nat} {S : vs_T} {Z : dd_T} (hr : rd ff v.pf v.pn k n v.M.1 v.wi v.rw (cp_f m.co 576 m.fr) (fun i => i / 8 < 8 ∧ i % 8 < lz (i / 8)) S Z) (ht : t ≤ v.pn) (hz : Z.2.1 = t) (hB : S.2.2.2.2.1 ≤ v.M.1 + 576) (hA : ¬ ms_r v.wi S.2.2.2.2 = 0) :
    inv k n hh lz (c + 1) (VS.mk (S.1) (S.2.1) v.pr (-1) (ms_t v.wi (n + 1 - 1) 1 (ms_s v.wi S.2.2.2.2 0 0 256)) (ms_r v.wi S.2.2.2.2) (v.wi) (nI (ms_n v.wi (n + 1 - 1) 1 (ms_s v.wi S.2.2.2.2 0 0 256) 1)) (nI n) v.nb v.su v.wt (S.2.2.1) v.le v.fl (v.ep + 1) (aa_f hh ff n lz 8 S.2.2.2.1))
      (MS.mk (0) (m.pn - t) (Z.2.1) (m.ep + 1) (((mt_f (n + 1 - 1) 1 (mm_s Z.2.2 0 0 256, 1)).1.1, (mt_f (n + 1 - 1) 1 (mm_s Z.2.2 0 0 256, 1)).1.2.1, -1, (mt_f (n + 1 - 1) 1 (mm_s Z.2.2 0 0 256, 1)).1.2.2.2)) (-1) (jb_f (mt_f (n + 1 - 1) 1 (mm_s Z.2.2 0 0 256, 1)).1 2) (1) (nI (mt_f (n + 1 - 1) 1 (mm_s Z.2.2 0 0 256, 1)).2) (nI n) m.fi m.ln m.bx ((tq_f t m.pn (m.tk, m.pr)).2) ((tq_f t m.pn (m.tk, m.pr)).1) m.le (cp_f Z.1 576 m.co) (Z.1) m.em m.nb m.su) ∧
    nI (ms_t v.wi (n + 1 - 1) 1 (ms_s v.wi S.2.2.2.2 0 0 256)).2.2.1 = nI (mt_f (n + 1 - 1) 1 (mm_s Z.2.2 0 0 256, 1)).1.1 - nI m.M.1 ∧ (mm_s Z.2.2 0 0 256).2.2.2 = 0 := by
  have hT := h.Tc
  have hn9 := g.n9
  have hkn := g.kn
  have hj := job_B (n + 1 - 1) 1 (rd_M hr) (by omega) hA
  obtain ⟨j0, j9, j1, j2, j4, j5, j6, j7, j8⟩ := hj
  obtain ⟨r1, r2, r3, r4, r5, r6, r7, r8⟩ := hr
  rw [hz] at r1 r2
  refine ⟨(inv.mk (pf_ := by show S.1 < 1000; rw [r1]; exact pft_lt h.pf) (pn_ := by show S.2.1 ≤ 1000; rw [r2]; have := h.pn; omega) (pm_ := by show m.pn - t = S.2.1; rw [r2, h.pm]) (pw_ := by show pq S.1 S.2.1 v.pr (tq_f t m.pn (m.tk, m.pr)).2; rw [r1, r2, h.pm]; exact pq_take h.pf h.pw ht) (vo_ := h.vo) (mo_ := fun i => (tq_ok _ _ _ _ h.to h.mo i).2) (to_ := fun i => (tq_ok _ _ _ _ h.to h.mo i).1) (co_ := cp_ok _ _ _ r5 h.co) (fo_ := r5) (lv_ := h.lv) (lm_ := h.lm) (l8_ := h.l8) (ep_ := by show v.ep + 1 = m.ep + 1; rw [h.ep]) (fe_ := h.fe) (T_ := j1) (g_ := j2) (Tc_ := by show (ms_t v.wi (n + 1 - 1) 1 (ms_s v.wi S.2.2.2.2 0 0 256)).1 ≤ _; omega) (sn_ := by show (ms_t v.wi (n + 1 - 1) 1 (ms_s v.wi S.2.2.2.2 0 0 256)).2.2.1 ≤ (ms_t v.wi (n + 1 - 1) 1 (ms_s v.wi S.2.2.2.2 0 0 256)).1; omega) (wi_ := rfl) (w1_ := show ¬ (-1 : Int32) < -1 by decide) (lf_ := rfl) (st_ := ?_) (ch_ := r3) (sh_ := ?_)), ?_, j0⟩
  · rcases j8 with ⟨a1, a2⟩ | ⟨a1, a2⟩
    · exact Or.inl ⟨a1, if_pos a2⟩
    · refine Or.inr ⟨a1, Or.inr (Or.inl (if_neg a2)), Or.inr ⟨j9, rfl, (mt_f (n + 1 - 1) 1 (mm_s Z.2.2 0 0 256, 1)).2, n, by omega, by omega, ?_, rfl, rfl, rfl⟩⟩
      show nI (ms_n v.wi (n + 1 - 1) 1 (ms_s v.wi S.2.2.2.2 0 0 256) 1) = _
      rw [j5]
  · intro f' b y hf' hb hy1 hy2 hfl
    have hlf := h.l8 f' hf'
    have ha := (aa_i (fun x y _ hx _ hy he => g.hi x y hx hy he) (fun x y _ hx _ hy => g.hf x y hx hy) lz h.l8 S.2.2.2.1 8 (Nat.le_refl 8)).1 y (f' * 8 + b) hy1 hy2
    show aa_f hh ff n lz 8 S.2.2.2.1 (hh y) (f' * 8 + b) = bI (hv (cp_f Z.1 576 m.co) (9 * (f' * 8 + b)) k y)
    have e8 : (f' * 8 + b) / 8 = f' := by omega
    have hd : (f' * 8 + b) / 8 < 8 ∧ (f' * 8 + b) % 8 < lz ((f' * 8 + b) / 8) := by rw [e8]; exact ⟨hf', by omega⟩
    rw [ha, if_pos hd, r6 (f' * 8 + b) y hd hy1 hy2]
    congr 1
    refine (hv_same (by omega) _ (fun i hi => ?_) _).symm
    rw [cp_i, if_pos (by omega)]
  · rw [← j1, j4, ← h.T, nI_d]
end
