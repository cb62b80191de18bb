/-! the two states, and what holds between them behind every call -/
def VS : Type := (Nat) × (Nat) × (Nat → Int32) × (Int32) × (ms_T) × (Int32) × (Int32) × (Int32) × (Int32) × (Nat → Int32) × (Nat → Int32) × (Nat → Int32) × (Nat → Int32) × (Nat → Int32) × (Nat → Int32) × (Int32) × (Nat → Nat → Int32)
def VS.pf (r : VS) : Nat := r.1
def VS.pn (r : VS) : Nat := r.2.1
def VS.pr (r : VS) : Nat → Int32 := r.2.2.1
def VS.wi (r : VS) : Int32 := r.2.2.2.1
def VS.M (r : VS) : ms_T := r.2.2.2.2.1
def VS.hf (r : VS) : Int32 := r.2.2.2.2.2.1
def VS.lim (r : VS) : Int32 := r.2.2.2.2.2.2.1
def VS.nt (r : VS) : Int32 := r.2.2.2.2.2.2.2.1
def VS.lt (r : VS) : Int32 := r.2.2.2.2.2.2.2.2.1
def VS.nb (r : VS) : Nat → Int32 := r.2.2.2.2.2.2.2.2.2.1
def VS.su (r : VS) : Nat → Int32 := r.2.2.2.2.2.2.2.2.2.2.1
def VS.wt (r : VS) : Nat → Int32 := r.2.2.2.2.2.2.2.2.2.2.2.1
def VS.ch (r : VS) : Nat → Int32 := r.2.2.2.2.2.2.2.2.2.2.2.2.1
def VS.le (r : VS) : Nat → Int32 := r.2.2.2.2.2.2.2.2.2.2.2.2.2.1
def VS.fl (r : VS) : Nat → Int32 := r.2.2.2.2.2.2.2.2.2.2.2.2.2.2.1
def VS.ep (r : VS) : Int32 := r.2.2.2.2.2.2.2.2.2.2.2.2.2.2.2.1
def VS.rw (r : VS) : Nat → Nat → Int32 := r.2.2.2.2.2.2.2.2.2.2.2.2.2.2.2.2
def VS.mk (pf : Nat) (pn : Nat) (pr : Nat → Int32) (wi : Int32) (M : ms_T) (hf : Int32) (lim : Int32) (nt : Int32) (lt : Int32) (nb : Nat → Int32) (su : Nat → Int32) (wt : Nat → Int32) (ch : Nat → Int32) (le : Nat → Int32) (fl : Nat → Int32) (ep : Int32) (rw : Nat → Nat → Int32) : VS := (pf, pn, pr, wi, M, hf, lim, nt, lt, nb, su, wt, ch, le, fl, ep, rw)
def MS : Type := (Int32) × (Nat) × (Nat) × (Int32) × (mm_T) × (Int32) × (Int32) × (Int32) × (Int32) × (Int32) × (Int32) × (Int32) × (Int32) × (Nat → Int32) × (Nat → Int32) × (Nat → Int32) × (Nat → Int32) × (Nat → Int32) × (Nat → Int32) × (Nat → Int32) × (Nat → Int32)
def MS.cd (r : MS) : Int32 := r.1
def MS.pn (r : MS) : Nat := r.2.1
def MS.nx (r : MS) : Nat := r.2.2.1
def MS.ep (r : MS) : Int32 := r.2.2.2.1
def MS.M (r : MS) : mm_T := r.2.2.2.2.1
def MS.wi (r : MS) : Int32 := r.2.2.2.2.2.1
def MS.jb (r : MS) : Int32 := r.2.2.2.2.2.2.1
def MS.fp (r : MS) : Int32 := r.2.2.2.2.2.2.2.1
def MS.tf (r : MS) : Int32 := r.2.2.2.2.2.2.2.2.1
def MS.tt (r : MS) : Int32 := r.2.2.2.2.2.2.2.2.2.1
def MS.fi (r : MS) : Int32 := r.2.2.2.2.2.2.2.2.2.2.1
def MS.ln (r : MS) : Int32 := r.2.2.2.2.2.2.2.2.2.2.2.1
def MS.bx (r : MS) : Int32 := r.2.2.2.2.2.2.2.2.2.2.2.2.1
def MS.pr (r : MS) : Nat → Int32 := r.2.2.2.2.2.2.2.2.2.2.2.2.2.1
def MS.tk (r : MS) : Nat → Int32 := r.2.2.2.2.2.2.2.2.2.2.2.2.2.2.1
def MS.le (r : MS) : Nat → Int32 := r.2.2.2.2.2.2.2.2.2.2.2.2.2.2.2.1
def MS.co (r : MS) : Nat → Int32 := r.2.2.2.2.2.2.2.2.2.2.2.2.2.2.2.2.1
def MS.fr (r : MS) : Nat → Int32 := r.2.2.2.2.2.2.2.2.2.2.2.2.2.2.2.2.2.1
def MS.em (r : MS) : Nat → Int32 := r.2.2.2.2.2.2.2.2.2.2.2.2.2.2.2.2.2.2.1
def MS.nb (r : MS) : Nat → Int32 := r.2.2.2.2.2.2.2.2.2.2.2.2.2.2.2.2.2.2.2.1
def MS.su (r : MS) : Nat → Int32 := r.2.2.2.2.2.2.2.2.2.2.2.2.2.2.2.2.2.2.2.2
def MS.mk (cd : Int32) (pn : Nat) (nx : Nat) (ep : Int32) (M : mm_T) (wi : Int32) (jb : Int32) (fp : Int32) (tf : Int32) (tt : Int32) (fi : Int32) (ln : Int32) (bx : Int32) (pr : Nat → Int32) (tk : Nat → Int32) (le : Nat → Int32) (co : Nat → Int32) (fr : Nat → Int32) (em : Nat → Int32) (nb : Nat → Int32) (su : Nat → Int32) : MS := (cd, pn, nx, ep, M, wi, jb, fp, tf, tt, fi, ln, bx, pr, tk, le, co, fr, em, nb, su)
def geo (k n : Nat) (hh ff : Nat → Nat) : Prop := (2 ≤ k) ∧ (k ≤ n) ∧ (n ≤ 9) ∧ (∀ x y, x ≤ n → y ≤ n → hh x = hh y → x = y) ∧ (∀ x y, x ≤ n → y ≤ n → ff x = ff y → x = y) ∧ (∀ x y, x ≤ n → y ≤ n → hh x ≠ ff y)
theorem geo.k2 {k n : Nat} {hh ff : Nat → Nat} (h : geo k n hh ff) : 2 ≤ k := h.1
theorem geo.kn {k n : Nat} {hh ff : Nat → Nat} (h : geo k n hh ff) : k ≤ n := h.2.1
theorem geo.n9 {k n : Nat} {hh ff : Nat → Nat} (h : geo k n hh ff) : n ≤ 9 := h.2.2.1
theorem geo.hi {k n : Nat} {hh ff : Nat → Nat} (h : geo k n hh ff) : ∀ x y, x ≤ n → y ≤ n → hh x = hh y → x = y := h.2.2.2.1
theorem geo.fi {k n : Nat} {hh ff : Nat → Nat} (h : geo k n hh ff) : ∀ x y, x ≤ n → y ≤ n → ff x = ff y → x = y := h.2.2.2.2.1
theorem geo.hf {k n : Nat} {hh ff : Nat → Nat} (h : geo k n hh ff) : ∀ x y, x ≤ n → y ≤ n → hh x ≠ ff y := h.2.2.2.2.2
theorem geo.mk {k n : Nat} {hh ff : Nat → Nat} (k2_ : 2 ≤ k) (kn_ : k ≤ n) (n9_ : n ≤ 9) (hi_ : ∀ x y, x ≤ n → y ≤ n → hh x = hh y → x = y) (fi_ : ∀ x y, x ≤ n → y ≤ n → ff x = ff y → x = y) (hf_ : ∀ x y, x ≤ n → y ≤ n → hh x ≠ ff y) : geo k n hh ff := ⟨k2_, kn_, n9_, hi_, fi_, hf_⟩
def inv (k n : Nat) (hh : Nat → Nat) (lz : Nat → Nat) (c : Nat) (v : VS) (m : MS) : Prop := (v.pf < 1000) ∧ (v.pn ≤ 1000) ∧ (m.pn = v.pn) ∧ (pq v.pf v.pn v.pr m.pr) ∧ (∀ i, okb (v.pr i)) ∧ (∀ i, okb (m.pr i)) ∧ (∀ i, okb (m.tk i)) ∧ (∀ i, okb (m.co i)) ∧ (∀ i, okb (m.fr i)) ∧ (∀ i, i < 8 → v.le i = nI (lz i)) ∧ (∀ i, i < 8 → m.le i = nI (lz i)) ∧ (∀ i, i < 8 → lz i ≤ 8) ∧ (v.ep = m.ep) ∧ (∀ b, 1 ≤ b → b ≤ n → (v.fl b = 0 ↔ ¬ m.em b = 0)) ∧ (v.M.1 = m.M.1) ∧ (v.M.2.1 = m.M.2.1) ∧ (v.M.1 ≤ 6000 * c) ∧ (v.M.2.2.1 ≤ v.M.1) ∧ (v.wi = m.wi) ∧ (¬ v.wi < -1) ∧ (m.M.2.2.1 = -1) ∧ ((v.M.2.2.2 = 0 ∧ m.jb = 0) ∨ (v.M.2.2.2 = 1 ∧ (m.jb = 1 ∨ m.jb = 2 ∨ m.jb = 3) ∧ ((v.hf = 0 ∧ m.fp = 0) ∨ (v.hf = 1 ∧ m.fp = 1 ∧ ∃ a b : Nat, a ≤ 10 ∧ b ≤ 10 ∧ v.nt = nI a ∧ m.tf = nI a ∧ v.lt = nI b ∧ m.tt = nI b)))) ∧ (v.ch 0 = 0) ∧ (∀ f b x, f < 8 → b < lz f → 1 ≤ x → x ≤ n → ¬ v.fl x = 0 → v.rw (hh x) (f * 8 + b) = bI (hv m.co (9 * (f * 8 + b)) k x))
theorem inv.pf {k n : Nat} {hh : Nat → Nat} {lz : Nat → Nat} {c : Nat} {v : VS} {m : MS} (h : inv k n hh lz c v m) : v.pf < 1000 := h.1
theorem inv.pn {k n : Nat} {hh : Nat → Nat} {lz : Nat → Nat} {c : Nat} {v : VS} {m : MS} (h : inv k n hh lz c v m) : v.pn ≤ 1000 := h.2.1
theorem inv.pm {k n : Nat} {hh : Nat → Nat} {lz : Nat → Nat} {c : Nat} {v : VS} {m : MS} (h : inv k n hh lz c v m) : m.pn = v.pn := h.2.2.1
theorem inv.pw {k n : Nat} {hh : Nat → Nat} {lz : Nat → Nat} {c : Nat} {v : VS} {m : MS} (h : inv k n hh lz c v m) : pq v.pf v.pn v.pr m.pr := h.2.2.2.1
theorem inv.vo {k n : Nat} {hh : Nat → Nat} {lz : Nat → Nat} {c : Nat} {v : VS} {m : MS} (h : inv k n hh lz c v m) : ∀ i, okb (v.pr i) := h.2.2.2.2.1
theorem inv.mo {k n : Nat} {hh : Nat → Nat} {lz : Nat → Nat} {c : Nat} {v : VS} {m : MS} (h : inv k n hh lz c v m) : ∀ i, okb (m.pr i) := h.2.2.2.2.2.1
theorem inv.to {k n : Nat} {hh : Nat → Nat} {lz : Nat → Nat} {c : Nat} {v : VS} {m : MS} (h : inv k n hh lz c v m) : ∀ i, okb (m.tk i) := h.2.2.2.2.2.2.1
theorem inv.co {k n : Nat} {hh : Nat → Nat} {lz : Nat → Nat} {c : Nat} {v : VS} {m : MS} (h : inv k n hh lz c v m) : ∀ i, okb (m.co i) := h.2.2.2.2.2.2.2.1
theorem inv.fo {k n : Nat} {hh : Nat → Nat} {lz : Nat → Nat} {c : Nat} {v : VS} {m : MS} (h : inv k n hh lz c v m) : ∀ i, okb (m.fr i) := h.2.2.2.2.2.2.2.2.1
theorem inv.lv {k n : Nat} {hh : Nat → Nat} {lz : Nat → Nat} {c : Nat} {v : VS} {m : MS} (h : inv k n hh lz c v m) : ∀ i, i < 8 → v.le i = nI (lz i) := h.2.2.2.2.2.2.2.2.2.1
theorem inv.lm {k n : Nat} {hh : Nat → Nat} {lz : Nat → Nat} {c : Nat} {v : VS} {m : MS} (h : inv k n hh lz c v m) : ∀ i, i < 8 → m.le i = nI (lz i) := h.2.2.2.2.2.2.2.2.2.2.1
theorem inv.l8 {k n : Nat} {hh : Nat → Nat} {lz : Nat → Nat} {c : Nat} {v : VS} {m : MS} (h : inv k n hh lz c v m) : ∀ i, i < 8 → lz i ≤ 8 := h.2.2.2.2.2.2.2.2.2.2.2.1
theorem inv.ep {k n : Nat} {hh : Nat → Nat} {lz : Nat → Nat} {c : Nat} {v : VS} {m : MS} (h : inv k n hh lz c v m) : v.ep = m.ep := h.2.2.2.2.2.2.2.2.2.2.2.2.1
theorem inv.fe {k n : Nat} {hh : Nat → Nat} {lz : Nat → Nat} {c : Nat} {v : VS} {m : MS} (h : inv k n hh lz c v m) : ∀ b, 1 ≤ b → b ≤ n → (v.fl b = 0 ↔ ¬ m.em b = 0) := h.2.2.2.2.2.2.2.2.2.2.2.2.2.1
theorem inv.T {k n : Nat} {hh : Nat → Nat} {lz : Nat → Nat} {c : Nat} {v : VS} {m : MS} (h : inv k n hh lz c v m) : v.M.1 = m.M.1 := h.2.2.2.2.2.2.2.2.2.2.2.2.2.2.1
theorem inv.g {k n : Nat} {hh : Nat → Nat} {lz : Nat → Nat} {c : Nat} {v : VS} {m : MS} (h : inv k n hh lz c v m) : v.M.2.1 = m.M.2.1 := h.2.2.2.2.2.2.2.2.2.2.2.2.2.2.2.1
theorem inv.Tc {k n : Nat} {hh : Nat → Nat} {lz : Nat → Nat} {c : Nat} {v : VS} {m : MS} (h : inv k n hh lz c v m) : v.M.1 ≤ 6000 * c := h.2.2.2.2.2.2.2.2.2.2.2.2.2.2.2.2.1
theorem inv.sn {k n : Nat} {hh : Nat → Nat} {lz : Nat → Nat} {c : Nat} {v : VS} {m : MS} (h : inv k n hh lz c v m) : v.M.2.2.1 ≤ v.M.1 := h.2.2.2.2.2.2.2.2.2.2.2.2.2.2.2.2.2.1
theorem inv.wi {k n : Nat} {hh : Nat → Nat} {lz : Nat → Nat} {c : Nat} {v : VS} {m : MS} (h : inv k n hh lz c v m) : v.wi = m.wi := h.2.2.2.2.2.2.2.2.2.2.2.2.2.2.2.2.2.2.1
theorem inv.w1 {k n : Nat} {hh : Nat → Nat} {lz : Nat → Nat} {c : Nat} {v : VS} {m : MS} (h : inv k n hh lz c v m) : ¬ v.wi < -1 := h.2.2.2.2.2.2.2.2.2.2.2.2.2.2.2.2.2.2.2.1
theorem inv.lf {k n : Nat} {hh : Nat → Nat} {lz : Nat → Nat} {c : Nat} {v : VS} {m : MS} (h : inv k n hh lz c v m) : m.M.2.2.1 = -1 := h.2.2.2.2.2.2.2.2.2.2.2.2.2.2.2.2.2.2.2.2.1
theorem inv.st {k n : Nat} {hh : Nat → Nat} {lz : Nat → Nat} {c : Nat} {v : VS} {m : MS} (h : inv k n hh lz c v m) : (v.M.2.2.2 = 0 ∧ m.jb = 0) ∨ (v.M.2.2.2 = 1 ∧ (m.jb = 1 ∨ m.jb = 2 ∨ m.jb = 3) ∧ ((v.hf = 0 ∧ m.fp = 0) ∨ (v.hf = 1 ∧ m.fp = 1 ∧ ∃ a b : Nat, a ≤ 10 ∧ b ≤ 10 ∧ v.nt = nI a ∧ m.tf = nI a ∧ v.lt = nI b ∧ m.tt = nI b))) := h.2.2.2.2.2.2.2.2.2.2.2.2.2.2.2.2.2.2.2.2.2.1
theorem inv.ch {k n : Nat} {hh : Nat → Nat} {lz : Nat → Nat} {c : Nat} {v : VS} {m : MS} (h : inv k n hh lz c v m) : v.ch 0 = 0 := h.2.2.2.2.2.2.2.2.2.2.2.2.2.2.2.2.2.2.2.2.2.2.1
theorem inv.sh {k n : Nat} {hh : Nat → Nat} {lz : Nat → Nat} {c : Nat} {v : VS} {m : MS} (h : inv k n hh lz c v m) : ∀ f b x, f < 8 → b < lz f → 1 ≤ x → x ≤ n → ¬ v.fl x = 0 → v.rw (hh x) (f * 8 + b) = bI (hv m.co (9 * (f * 8 + b)) k x) := h.2.2.2.2.2.2.2.2.2.2.2.2.2.2.2.2.2.2.2.2.2.2.2
theorem inv.mk {k n : Nat} {hh : Nat → Nat} {lz : Nat → Nat} {c : Nat} {v : VS} {m : MS} (pf_ : v.pf < 1000) (pn_ : v.pn ≤ 1000) (pm_ : m.pn = v.pn) (pw_ : pq v.pf v.pn v.pr m.pr) (vo_ : ∀ i, okb (v.pr i)) (mo_ : ∀ i, okb (m.pr i)) (to_ : ∀ i, okb (m.tk i)) (co_ : ∀ i, okb (m.co i)) (fo_ : ∀ i, okb (m.fr i)) (lv_ : ∀ i, i < 8 → v.le i = nI (lz i)) (lm_ : ∀ i, i < 8 → m.le i = nI (lz i)) (l8_ : ∀ i, i < 8 → lz i ≤ 8) (ep_ : v.ep = m.ep) (fe_ : ∀ b, 1 ≤ b → b ≤ n → (v.fl b = 0 ↔ ¬ m.em b = 0)) (T_ : v.M.1 = m.M.1) (g_ : v.M.2.1 = m.M.2.1) (Tc_ : v.M.1 ≤ 6000 * c) (sn_ : v.M.2.2.1 ≤ v.M.1) (wi_ : v.wi = m.wi) (w1_ : ¬ v.wi < -1) (lf_ : m.M.2.2.1 = -1) (st_ : (v.M.2.2.2 = 0 ∧ m.jb = 0) ∨ (v.M.2.2.2 = 1 ∧ (m.jb = 1 ∨ m.jb = 2 ∨ m.jb = 3) ∧ ((v.hf = 0 ∧ m.fp = 0) ∨ (v.hf = 1 ∧ m.fp = 1 ∧ ∃ a b : Nat, a ≤ 10 ∧ b ≤ 10 ∧ v.nt = nI a ∧ m.tf = nI a ∧ v.lt = nI b ∧ m.tt = nI b)))) (ch_ : v.ch 0 = 0) (sh_ : ∀ f b x, f < 8 → b < lz f → 1 ≤ x → x ≤ n → ¬ v.fl x = 0 → v.rw (hh x) (f * 8 + b) = bI (hv m.co (9 * (f * 8 + b)) k x)) : inv k n hh lz c v m := ⟨pf_, pn_, pm_, pw_, vo_, mo_, to_, co_, fo_, lv_, lm_, l8_, ep_, fe_, T_, g_, Tc_, sn_, wi_, w1_, lf_, st_, ch_, sh_⟩
/-- a job's end, not flipped -/
theorem job_A {T0 : Nat} {wi : Int32} {M8 : ms_T} {N8 : mm_T} (d b : Nat) (h : rl T0 wi M8 N8) (hT : M8.1 < 2 ^ 31) (hA : ms_r wi M8 = 0) : ¬ (mm_s N8 0 0 256).2.2.2 = 0 ∧ (ms_t wi d b (ms_s wi M8 0 0 256)).1 = (mm_s N8 0 0 256).1 ∧ (ms_t wi d b (ms_s wi M8 0 0 256)).2.1 = (mm_s N8 0 0 256).2.1 ∧ (ms_t wi d b (ms_s wi M8 0 0 256)).2.2.2 = 1 ∧ (ms_t wi d b (ms_s wi M8 0 0 256)).1 = T0 + (ms_t wi d b (ms_s wi M8 0 0 256)).2.2.1 ∧ (ms_t wi d b (ms_s wi M8 0 0 256)).1 ≤ M8.1 + 1 := by
  have h1 := rl_s h hT 0 0 256
  have h2 := (rl_r h hT 0 0 256).mp hA
  have h3 := rl_one h1 h2
  have h4 := (ms_cut (rl_cut h1 h2) h3 d b b).1
  rw [h4]
  exact ⟨h2, h1.1, h1.2.1, h3, h1.2.2.2.1, ms_b _ _ _ _ _⟩
theorem mt_le (d : Nat) : ∀ (b a : Nat) (N : mm_T), a ≤ b → (mt_f d b (N, a)).2 ≤ b + d := by
  induction d with
  | zero => intro b a N h; exact h
  | succ d ih =>
    intro b a N h
    show (if N.2.2.2 = 0 then mt_f d (b + 1) (mm_s N 0 (nI b) 257, if (mm_s N 0 (nI b) 257).2.2.2 = 0 then b + 1 else b) else (N, a)).2 ≤ b + (d + 1)
    split
    · have := ih (b + 1) (if (mm_s N 0 (nI b) 257).2.2.2 = 0 then b + 1 else b) (mm_s N 0 (nI b) 257) (by split <;> omega)
      omega
    · show a ≤ _; omega
theorem mst_b (lim : Int32) (d : Nat) : ∀ (b : Nat) (M : ms_T), (ms_t lim d b M).1 ≤ M.1 + d := by
  induction d with
  | zero => intro b M; exact Nat.le_refl _
  | succ d ih =>
    intro b M
    have h1 := ih (b + 1) (ms_s lim M 0 (nI b) 257)
    have h2 := ms_b lim M 0 (nI b) 257
    show (ms_t lim d (b + 1) (ms_s lim M 0 (nI b) 257)).1 ≤ _
    omega
theorem job_B {T0 : Nat} {wi : Int32} {M8 : ms_T} {N8 : mm_T} (d b : Nat) (h : rl T0 wi M8 N8) (hT : M8.1 + 1 + d < 2 ^ 31) (hB : ¬ ms_r wi M8 = 0) : (mm_s N8 0 0 256).2.2.2 = 0 ∧ ms_r wi M8 = 1 ∧ (ms_t wi d b (ms_s wi M8 0 0 256)).1 = (mt_f d b (mm_s N8 0 0 256, b)).1.1 ∧ (ms_t wi d b (ms_s wi M8 0 0 256)).2.1 = (mt_f d b (mm_s N8 0 0 256, b)).1.2.1 ∧ (ms_t wi d b (ms_s wi M8 0 0 256)).1 = T0 + (ms_t wi d b (ms_s wi M8 0 0 256)).2.2.1 ∧ ms_n wi d b (ms_s wi M8 0 0 256) b = (mt_f d b (mm_s N8 0 0 256, b)).2 ∧ (mt_f d b (mm_s N8 0 0 256, b)).2 ≤ b + d ∧ (ms_t wi d b (ms_s wi M8 0 0 256)).1 ≤ M8.1 + 1 + d ∧
    (((ms_t wi d b (ms_s wi M8 0 0 256)).2.2.2 = 0 ∧ (mt_f d b (mm_s N8 0 0 256, b)).1.2.2.2 = 0) ∨ ((ms_t wi d b (ms_s wi M8 0 0 256)).2.2.2 = 1 ∧ ¬ (mt_f d b (mm_s N8 0 0 256, b)).1.2.2.2 = 0)) := by
  have h1 := rl_s h (by omega) 0 0 256
  have h2 : (mm_s N8 0 0 256).2.2.2 = 0 := Decidable.not_not.mp (fun h9 => hB ((rl_r h (by omega) 0 0 256).mpr h9))
  have h3 := ms_b wi M8 0 0 256
  have h4 := rl_t d b _ _ h1 (by omega)
  have h5 := mst_b wi d b (ms_s wi M8 0 0 256)
  refine ⟨h2, ?_, h4.1.1, h4.1.2.1, h4.1.2.2.2.1, h4.2, mt_le d b b _ (Nat.le_refl b), by omega, ?_⟩
  · unfold ms_r at hB ⊢
    split at hB
    · exact absurd rfl hB
    · rename_i h9; rw [if_neg h9]
  · by_cases h9 : (mt_f d b (mm_s N8 0 0 256, b)).1.2.2.2 = 0
    · exact Or.inl ⟨by rw [h4.1.2.2.1]; exact h9, h9⟩
    · exact Or.inr ⟨rl_one h4.1 h9, h9⟩
section
variable {k n : Nat} {hh ff : Nat → Nat} {lz : Nat → Nat} {c : Nat} {v : VS} {m : MS}
theorem inv.up (h : inv k n hh lz c v m) {c' : Nat} (hc : c ≤ c') : inv k n hh lz c' v m :=
  (inv.mk (pf_ := h.pf) (pn_ := h.pn) (pm_ := h.pm) (pw_ := h.pw) (vo_ := h.vo) (mo_ := h.mo) (to_ := h.to) (co_ := h.co) (fo_ := h.fo) (lv_ := h.lv) (lm_ := h.lm) (l8_ := h.l8) (ep_ := h.ep) (fe_ := h.fe) (T_ := h.T) (g_ := h.g) (Tc_ := Nat.le_trans h.Tc (Nat.mul_le_mul_left 6000 hc)) (sn_ := h.sn) (wi_ := h.wi) (w1_ := h.w1) (lf_ := h.lf) (st_ := h.st) (ch_ := h.ch) (sh_ := h.sh))
theorem inv.cd (h : inv k n hh lz c v m) (z : Int32) : inv k n hh lz (c + 1) v (MS.mk (z) m.pn m.nx m.ep m.M m.wi m.jb m.fp m.tf m.tt m.fi m.ln m.bx m.pr m.tk m.le m.co m.fr m.em m.nb m.su) :=
  (inv.mk (pf_ := h.pf) (pn_ := h.pn) (pm_ := h.pm) (pw_ := h.pw) (vo_ := h.vo) (mo_ := h.mo) (to_ := h.to) (co_ := h.co) (fo_ := h.fo) (lv_ := h.lv) (lm_ := h.lm) (l8_ := h.l8) (ep_ := h.ep) (fe_ := h.fe) (T_ := h.T) (g_ := h.g) (Tc_ := Nat.le_trans h.Tc (Nat.mul_le_mul_left 6000 (Nat.le_succ c))) (sn_ := h.sn) (wi_ := h.wi) (w1_ := h.w1) (lf_ := h.lf) (st_ := h.st) (ch_ := h.ch) (sh_ := h.sh))
theorem inv.nb (h : inv k n hh lz c v m) (a b : Nat → Int32) : inv k n hh lz c (VS.mk v.pf v.pn v.pr v.wi v.M v.hf v.lim v.nt v.lt (a) v.su (b) v.ch v.le v.fl v.ep v.rw) m :=
  (inv.mk (pf_ := h.pf) (pn_ := h.pn) (pm_ := h.pm) (pw_ := h.pw) (vo_ := h.vo) (mo_ := h.mo) (to_ := h.to) (co_ := h.co) (fo_ := h.fo) (lv_ := h.lv) (lm_ := h.lm) (l8_ := h.l8) (ep_ := h.ep) (fe_ := h.fe) (T_ := h.T) (g_ := h.g) (Tc_ := h.Tc) (sn_ := h.sn) (wi_ := h.wi) (w1_ := h.w1) (lf_ := h.lf) (st_ := h.st) (ch_ := h.ch) (sh_ := h.sh))
theorem inv.wish (h : inv k n hh lz c v m) {w : Int32} (hw : ¬ w < -1) : inv k n hh lz (c + 1) (VS.mk v.pf v.pn v.pr (w) v.M v.hf v.lim v.nt v.lt v.nb v.su v.wt v.ch v.le v.fl v.ep v.rw) (MS.mk (0) m.pn m.nx m.ep m.M (w) m.jb m.fp m.tf m.tt m.fi m.ln m.bx m.pr m.tk m.le m.co m.fr m.em m.nb m.su) :=
  (inv.mk (pf_ := h.pf) (pn_ := h.pn) (pm_ := h.pm) (pw_ := h.pw) (vo_ := h.vo) (mo_ := h.mo) (to_ := h.to) (co_ := h.co) (fo_ := h.fo) (lv_ := h.lv) (lm_ := h.lm) (l8_ := h.l8) (ep_ := h.ep) (fe_ := h.fe) (T_ := h.T) (g_ := h.g) (Tc_ := Nat.le_trans h.Tc (Nat.mul_le_mul_left 6000 (Nat.le_succ c))) (sn_ := h.sn) (wi_ := rfl) (w1_ := hw) (lf_ := h.lf) (st_ := h.st) (ch_ := h.ch) (sh_ := h.sh))
theorem inv.fed (h : inv k n hh lz c v m) (x : Int64) {q : Nat} (hq : v.pn + q ≤ 1000) : inv k n hh lz (c + 1) (VS.mk v.pf (v.pn + q) (vf_f x v.pf v.pn q v.pr) v.wi v.M v.hf v.lim v.nt v.lt v.nb v.su v.wt v.ch v.le v.fl v.ep v.rw) (MS.mk (0) (m.pn + q) m.nx m.ep m.M m.wi m.jb m.fp m.tf m.tt m.fi m.ln m.bx (fd_f x m.pn q m.pr) m.tk m.le m.co m.fr m.em m.nb m.su) :=
  (inv.mk (pf_ := h.pf) (pn_ := hq) (pm_ := by show m.pn + q = v.pn + q; rw [h.pm]) (pw_ := by show pq v.pf (v.pn + q) _ (fd_f x m.pn q m.pr); rw [h.pm]; exact pq_feed x h.pf h.pw hq) (vo_ := vf_ok x _ _ h.vo q) (mo_ := fd_ok x _ h.mo q) (to_ := h.to) (co_ := h.co) (fo_ := h.fo) (lv_ := h.lv) (lm_ := h.lm) (l8_ := h.l8) (ep_ := h.ep) (fe_ := h.fe) (T_ := h.T) (g_ := h.g) (Tc_ := Nat.le_trans h.Tc (Nat.mul_le_mul_left 6000 (Nat.le_succ c))) (sn_ := h.sn) (wi_ := h.wi) (w1_ := h.w1) (lf_ := h.lf) (st_ := h.st) (ch_ := h.ch) (sh_ := h.sh))
theorem inv.forgot (h : inv k n hh lz c v m) {f : Nat} (hf : f < 8) : inv k n hh (fun i => if i = f then 0 else lz i) (c + 1) (VS.mk v.pf v.pn v.pr v.wi v.M v.hf v.lim v.nt v.lt v.nb v.su v.wt v.ch (upd v.le f 0) v.fl v.ep v.rw) (MS.mk (0) m.pn m.nx m.ep m.M m.wi m.jb m.fp m.tf m.tt m.fi m.ln m.bx m.pr m.tk (upd m.le f 0) m.co m.fr m.em m.nb m.su) :=
  (inv.mk (pf_ := h.pf) (pn_ := h.pn) (pm_ := h.pm) (pw_ := h.pw) (vo_ := h.vo) (mo_ := h.mo) (to_ := h.to) (co_ := h.co) (fo_ := h.fo) (lv_ := fun i hi => by
      show upd v.le f 0 i = nI (if i = f then 0 else lz i)
      unfold upd
      by_cases h9 : i = f
      · rw [if_pos h9, if_pos h9]; rfl
      · rw [if_neg h9, if_neg h9]; exact h.lv i hi) (lm_ := fun i hi => by
      show upd m.le f 0 i = nI (if i = f then 0 else lz i)
      unfold upd
      by_cases h9 : i = f
      · rw [if_pos h9, if_pos h9]; rfl
      · rw [if_neg h9, if_neg h9]; exact h.lm i hi) (l8_ := fun i hi => by
      show (if i = f then 0 else lz i) ≤ 8
      by_cases h9 : i = f
      · rw [if_pos h9]; omega
      · rw [if_neg h9]; exact h.l8 i hi) (ep_ := h.ep) (fe_ := h.fe) (T_ := h.T) (g_ := h.g) (Tc_ := Nat.le_trans h.Tc (Nat.mul_le_mul_left 6000 (Nat.le_succ c))) (sn_ := h.sn) (wi_ := h.wi) (w1_ := h.w1) (lf_ := h.lf) (st_ := h.st) (ch_ := h.ch) (sh_ := fun f' b x hf' hb hx1 hx2 hfl => by
      have hb : b < if f' = f then 0 else lz f' := hb
      by_cases h9 : f' = f
      · rw [if_pos h9] at hb; omega
      · rw [if_neg h9] at hb; exact h.sh f' b x hf' hb hx1 hx2 hfl))
theorem inv.emptied (g : geo k n hh ff) (h : inv k n hh lz c v m) {x : Nat} (hx1 : 1 ≤ x) (hxn : x ≤ n) : inv k n hh lz (c + 1) (VS.mk v.pf v.pn v.pr v.wi v.M v.hf v.lim v.nt v.lt v.nb v.su v.wt v.ch v.le (upd v.fl x 0) v.ep (va_up v.rw (hh x) (ar_f 0 64 (v.rw (hh x))))) (MS.mk (0) m.pn m.nx m.ep m.M m.wi m.jb m.fp m.tf m.tt m.fi m.ln m.bx m.pr m.tk m.le m.co m.fr (upd m.em x 1) m.nb m.su) :=
  (inv.mk (pf_ := h.pf) (pn_ := h.pn) (pm_ := h.pm) (pw_ := h.pw) (vo_ := h.vo) (mo_ := h.mo) (to_ := h.to) (co_ := h.co) (fo_ := h.fo) (lv_ := h.lv) (lm_ := h.lm) (l8_ := h.l8) (ep_ := h.ep) (fe_ := fun b hb1 hb2 => by
      show upd v.fl x 0 b = 0 ↔ ¬ upd m.em x 1 b = 0
      unfold upd
      by_cases h9 : b = x
      · rw [if_pos h9, if_pos h9]; exact ⟨fun _ => by decide, fun _ => rfl⟩
      · rw [if_neg h9, if_neg h9]; exact h.fe b hb1 hb2) (T_ := h.T) (g_ := h.g) (Tc_ := Nat.le_trans h.Tc (Nat.mul_le_mul_left 6000 (Nat.le_succ c))) (sn_ := h.sn) (wi_ := h.wi) (w1_ := h.w1) (lf_ := h.lf) (st_ := h.st) (ch_ := h.ch) (sh_ := fun f b y hf hb hy1 hy2 hfl => by
      have hfl : ¬ upd v.fl x 0 y = 0 := hfl
      have hne : y ≠ x := fun h9 => hfl (by rw [h9]; exact pk_us)
      unfold upd at hfl
      rw [if_neg hne] at hfl
      show va_up v.rw (hh x) _ (hh y) (f * 8 + b) = _
      rw [va_up_ne _ _ (fun h9 => hne (g.hi y x hy2 hxn h9))]
      exact h.sh f b y hf hb hy1 hy2 hfl))
theorem inv.jb0 (h : inv k n hh lz c v m) : (v.M.2.2.2 = 0 ↔ m.jb = 0) ∧ (m.jb ≤ 0 ↔ m.jb = 0) := by
  rcases h.st with ⟨h1, h2⟩ | ⟨h1, h2, _⟩
  · rw [h1, h2]; exact ⟨⟨fun _ => rfl, fun _ => rfl⟩, ⟨fun _ => rfl, fun _ => by decide⟩⟩
  · rw [h1]
    rcases h2 with h2 | h2 | h2 <;> rw [h2] <;> exact ⟨⟨fun h9 => absurd h9 (by decide), fun h9 => absurd h9 (by decide)⟩, ⟨fun h9 => absurd h9 (by decide), fun h9 => absurd h9 (by decide)⟩⟩
/-- resume: a job that was stopped ahead of FLIP is dropped -/
theorem inv.dropped (h : inv k n hh lz c v m) : inv k n hh lz (c + 1) (VS.mk v.pf v.pn v.pr v.wi (ms_u v.M) v.hf v.lim v.nt v.lt v.nb v.su v.wt v.ch v.le v.fl v.ep v.rw) (MS.mk (0) m.pn m.nx m.ep m.M m.wi (0) m.fp m.tf m.tt m.fi m.ln m.bx m.pr m.tk m.le m.co m.fr m.em m.nb m.su) :=
  (inv.mk (pf_ := h.pf) (pn_ := h.pn) (pm_ := h.pm) (pw_ := h.pw) (vo_ := h.vo) (mo_ := h.mo) (to_ := h.to) (co_ := h.co) (fo_ := h.fo) (lv_ := h.lv) (lm_ := h.lm) (l8_ := h.l8) (ep_ := h.ep) (fe_ := h.fe) (T_ := h.T) (g_ := h.g) (Tc_ := Nat.le_trans h.Tc (Nat.mul_le_mul_left 6000 (Nat.le_succ c))) (sn_ := h.sn) (wi_ := h.wi) (w1_ := h.w1) (lf_ := h.lf) (st_ := Or.inl ⟨rfl, rfl⟩) (ch_ := h.ch) (sh_ := h.sh))
/-- .. and one behind it is finished -/
theorem fin_r (d : Nat) : ∀ (b : Nat) (M : ms_T) (N : mm_T), M.1 = N.1 → M.2.1 = N.2.1 → M.2.2.1 ≤ M.1 → M.1 + d < 2 ^ 31 → M.2.2.2 = 0 → N.2.2.1 = -1 → N.2.2.2 = 0 → (ms_t (-1) d b M).1 = (mt_f d b (N, b)).1.1 ∧ (ms_t (-1) d b M).2.1 = (mt_f d b (N, b)).1.2.1 ∧ (ms_t (-1) d b M).2.2.2 = 0 ∧ (mt_f d b (N, b)).1.2.2.1 = -1 ∧ (ms_t (-1) d b M).2.2.1 ≤ (ms_t (-1) d b M).1 := by
  intro b M N h1 h2 h3 hT h4 h5 h6
  obtain ⟨T0, hT0⟩ : ∃ T0, M.1 = T0 + M.2.2.1 := ⟨M.1 - M.2.2.1, by omega⟩
  have hr : rl T0 (-1) M N := ⟨h1, h2, by rw [h4, h6], hT0, Or.inl ⟨rfl, h5, h6⟩⟩
  have h := rl_t d b M N hr hT
  obtain ⟨⟨a1, a2, a3, a4, a5⟩, _⟩ := h
  rcases a5 with ⟨_, b2, b3⟩ | ⟨r, b1, b2, _⟩
  · exact ⟨a1, a2, by rw [a3]; exact b3, b2, by omega⟩
  · exact absurd b2.symm (ii_neg1 b1)
theorem inv.finished (h : inv k n hh lz c v m) {a b : Nat} (ha : a ≤ 10) (hb : b ≤ 10) (hc : c ≤ 512) : inv k n hh lz (c + 1) (VS.mk v.pf v.pn v.pr v.wi (ms_t (-1) (b + 1 - a) a (ms_u v.M)) v.hf (-1) (nI (ms_n (-1) (b + 1 - a) a (ms_u v.M) a)) v.lt v.nb v.su v.wt v.ch v.le v.fl v.ep v.rw) (MS.mk (0) m.pn m.nx m.ep ((mt_f (b + 1 - a) a ((m.M.1, m.M.2.1, m.M.2.2.1, 0), a)).1) m.wi (0) m.fp (nI (mt_f (b + 1 - a) a ((m.M.1, m.M.2.1, m.M.2.2.1, 0), a)).2) m.tt m.fi m.ln m.bx m.pr m.tk m.le m.co m.fr m.em m.nb m.su) := by
  have hT := h.Tc
  have e := fin_r (b + 1 - a) a (ms_u v.M) (m.M.1, m.M.2.1, m.M.2.2.1, 0) h.T h.g h.sn (by show v.M.1 + (b + 1 - a) < 2 ^ 31; omega) rfl h.lf rfl
  have hb2 := mst_b (-1) (b + 1 - a) a (ms_u v.M)
  have e2 : (ms_u v.M).1 = v.M.1 := rfl
  exact (inv.mk (pf_ := h.pf) (pn_ := h.pn) (pm_ := h.pm) (pw_ := h.pw) (vo_ := h.vo) (mo_ := h.mo) (to_ := h.to) (co_ := h.co) (fo_ := h.fo) (lv_ := h.lv) (lm_ := h.lm) (l8_ := h.l8) (ep_ := h.ep) (fe_ := h.fe) (T_ := e.1) (g_ := e.2.1) (Tc_ := by show (ms_t (-1) (b + 1 - a) a (ms_u v.M)).1 ≤ _; omega) (sn_ := e.2.2.2.2) (wi_ := h.wi) (w1_ := h.w1) (lf_ := e.2.2.2.1) (st_ := Or.inl ⟨e.2.2.1, rfl⟩) (ch_ := h.ch) (sh_ := h.sh))
end
