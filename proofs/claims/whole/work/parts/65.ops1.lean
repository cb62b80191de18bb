theorem i_lt3 {w : Int32} (h : w < 3) : w ≤ 2 := by
  apply Int32.le_iff_toInt_le.mpr
  have h1 := Int32.lt_iff_toInt_lt.mp h
  have h3 : (3 : Int32).toInt = 3 := by decide
  have h2 : (2 : Int32).toInt = 2 := by decide
  omega
theorem msg_in {T : Nat} (hT : T < 2 ^ 31) {j : Int32} (h : 0 ≤ j ∧ j < nI (min T 64)) : 0 ≤ j ∧ j ≤ 63 ∧ j < nI T := by
  obtain ⟨q, hq, rfl⟩ := nI_of (Int32.not_lt.mpr h.1)
  have h1 := (nI_ltI hq (by omega)).mp h.2
  exact ⟨h.1, nI_le (b := 63) (by omega) (by omega), nI_lt (by omega) (by omega)⟩
theorem sm_f_pos {fl : Nat → Int32} {x n : Nat} (h : ¬ fl x = 0) (h1 : 1 ≤ x) (h2 : x ≤ n) : 1 ≤ sm_f fl n := by
  induction n with
  | zero => omega
  | succ n ih =>
    by_cases h9 : x = n + 1
    · subst h9
      rw [sm_f1 h]; omega
    · have := ih (by omega)
      by_cases h8 : fl (n + 1) = 0
      · rw [sm_f0 h8]; exact this
      · rw [sm_f1 h8]; omega

theorem op_feed {l : Launch} {D : va_G} {cI cZ cQ : ClassId} {a : VA} {b : MA} {lz : Nat → Nat} {c : Nat} {v : VS} {m : MS} (hst : l.stackTraces = false) (ga : geo a.k a.n a.hh a.ff) (hhL : ∀ i, i < a.n + 1 → a.hh i ∈ a.L) (ffL : ∀ i, i < a.n + 1 → a.ff i ∈ a.L) (h : inv a.k a.n a.hh lz c v m) (hc : c ≤ 512) (x : Int64) (z : Int32) : ∃ (m' : MS) (r9 : Int32) (v' : VS) (lz' : Nat → Nat), okM l D cI cZ cQ a b y_M_feed b_M_feed 5 .int [.ref b.qm, .long x, .int z] m r9 m' ∧ inv a.k a.n a.hh lz' (c + 1) v' m' ∧ ((m'.cd = 0 ∧ okV l D cI cZ cQ a y_V_feed b_V_feed 5 .int [.ref a.qv, .long x, .int z] v r9 v') ∨ ∃ q ∈ ([("java/lang/IllegalArgumentException", 1), ("java/lang/UnsupportedOperationException", 2)] : List (String × Int32)), m'.cd = q.2 ∧ thV l D cI cZ cQ a y_V_feed b_V_feed 5 (some .int) [.ref a.qv, .long x, .int z] v q.1 v') := by
  have hn9 := ga.n9
  have hkn := ga.kn
  have hk2 := ga.k2
  have hk : a.k < 2 ^ 20 := by omega
  have hn : a.n < 2 ^ 20 := by omega
  have hk9 : a.k ≤ 9 := by omega
  have hk1 : 1 ≤ a.k := by omega
  have hTc := h.Tc
  have hT : v.M.1 + 6000 < 2 ^ 31 := by omega
  have hTm : m.M.1 + 6000 < 2 ^ 31 := by rw [← h.T]; exact hT
  have hj := h.jb0
  by_cases hz : 1 ≤ z ∧ z ≤ 8
  · obtain ⟨q, q1, q2, rfl⟩ := st_of (a := 1) (b := 8) (by omega) (by omega) hz.1 hz.2
    by_cases hp : v.pn + q ≤ 1000
    · refine ⟨_, nI (m.pn + q), _, lz, ⟨_, by decide, (c_M_feed_0 l D cI cZ cQ (b.qm) (b.mp) (b.mt) (b.ml) (b.mc) (b.mf) (b.me) (b.mg) (b.mh) (b.mu) (a.k) (a.n) (m.pn) (m.nx) (m.cd) (m.ep) (m.M) (m.wi) (m.jb) (m.fp) (m.tf) (m.tt) (m.fi) (m.ln) (m.bx) (m.pr) (m.tk) (m.le) (m.co) (m.fr) (m.em) (m.nb) (m.su) (x) (q) (hk9) (hn9) (q1) (q2) (by rw [h.pm]; exact hp))⟩, h.fed x hp, Or.inl ⟨rfl, ?_⟩⟩
      rw [h.pm]
      exact ⟨_, by decide, (c_V_feed_y l D cI cZ cQ (a.qv) (a.qp) (a.qr) (a.qj) (a.qg) (a.qs) (a.qh) (a.qn) (a.qu) (a.qw) (a.qH) (a.qF) (a.qc) (a.ql) (a.qf) (a.k) (a.n) (v.pf) (v.pn) (v.pr) (v.wi) (v.M) (v.hf) (v.lim) (v.nt) (v.lt) (v.nb) (v.su) (v.wt) (v.ch) (v.le) (v.fl) (v.ep) (a.L) (a.hh) (a.ff) (v.rw) (x) (q) (hk) (hn) (hhL) (ffL) (q1) (q2) (h.pf) (hp))⟩
    · exact ⟨_, 0, _, lz, ⟨_, by decide, (c_M_feed_2 l D cI cZ cQ (b.qm) (b.mp) (b.mt) (b.ml) (b.mc) (b.mf) (b.me) (b.mg) (b.mh) (b.mu) (a.k) (a.n) (m.pn) (m.nx) (m.cd) (m.ep) (m.M) (m.wi) (m.jb) (m.fp) (m.tf) (m.tt) (m.fi) (m.ln) (m.bx) (m.pr) (m.tk) (m.le) (m.co) (m.fr) (m.em) (m.nb) (m.su) (x) (q) (hk9) (hn9) (q1) (q2) (by rw [h.pm]; exact h.pn) (by rw [h.pm]; omega))⟩, h.cd 2, Or.inr ⟨_, List.mem_of_getElem? (i := 1) rfl, rfl, ⟨_, by decide, (c_V_feed_x2 l D cI cZ cQ (a.qv) (a.qp) (a.qr) (a.qj) (a.qg) (a.qs) (a.qh) (a.qn) (a.qu) (a.qw) (a.qH) (a.qF) (a.qc) (a.ql) (a.qf) (a.k) (a.n) (v.pf) (v.pn) (v.pr) (v.wi) (v.M) (v.hf) (v.lim) (v.nt) (v.lt) (v.nb) (v.su) (v.wt) (v.ch) (v.le) (v.fl) (v.ep) (a.L) (a.hh) (a.ff) (v.rw) (x) (q) (hst) (hk) (hn) (hhL) (ffL) (q1) (q2) (h.pn) (by omega))⟩⟩⟩
  · exact ⟨_, 0, _, lz, ⟨_, by decide, (c_M_feed_1 l D cI cZ cQ (b.qm) (b.mp) (b.mt) (b.ml) (b.mc) (b.mf) (b.me) (b.mg) (b.mh) (b.mu) (a.k) (a.n) (m.pn) (m.nx) (m.cd) (m.ep) (m.M) (m.wi) (m.jb) (m.fp) (m.tf) (m.tt) (m.fi) (m.ln) (m.bx) (m.pr) (m.tk) (m.le) (m.co) (m.fr) (m.em) (m.nb) (m.su) (x) (z) (hk9) (hn9) (hz))⟩, h.cd 1, Or.inr ⟨_, List.mem_of_getElem? (i := 0) rfl, rfl, ⟨_, by decide, (c_V_feed_x1 l D cI cZ cQ (a.qv) (a.qp) (a.qr) (a.qj) (a.qg) (a.qs) (a.qh) (a.qn) (a.qu) (a.qw) (a.qH) (a.qF) (a.qc) (a.ql) (a.qf) (a.k) (a.n) (v.pf) (v.pn) (v.pr) (v.wi) (v.M) (v.hf) (v.lim) (v.nt) (v.lt) (v.nb) (v.su) (v.wt) (v.ch) (v.le) (v.fl) (v.ep) (a.L) (a.hh) (a.ff) (v.rw) (x) (z) (hst) (hk) (hn) (hhL) (ffL) (hz))⟩⟩⟩
theorem op_pool {l : Launch} {D : va_G} {cI cZ cQ : ClassId} {a : VA} {b : MA} {lz : Nat → Nat} {c : Nat} {v : VS} {m : MS} (hst : l.stackTraces = false) (ga : geo a.k a.n a.hh a.ff) (hhL : ∀ i, i < a.n + 1 → a.hh i ∈ a.L) (ffL : ∀ i, i < a.n + 1 → a.ff i ∈ a.L) (h : inv a.k a.n a.hh lz c v m) (hc : c ≤ 512) : ∃ (m' : MS) (r9 : Int32) (v' : VS) (lz' : Nat → Nat), okM l D cI cZ cQ a b y_M_pool b_M_pool 1 .int [.ref b.qm] m r9 m' ∧ inv a.k a.n a.hh lz' (c + 1) v' m' ∧ okV l D cI cZ cQ a y_V_pool b_V_pool 1 .int [.ref a.qv] v r9 v' := by
  have hn9 := ga.n9
  have hkn := ga.kn
  have hk2 := ga.k2
  have hk : a.k < 2 ^ 20 := by omega
  have hn : a.n < 2 ^ 20 := by omega
  have hk9 : a.k ≤ 9 := by omega
  have hk1 : 1 ≤ a.k := by omega
  have hTc := h.Tc
  have hT : v.M.1 + 6000 < 2 ^ 31 := by omega
  have hTm : m.M.1 + 6000 < 2 ^ 31 := by rw [← h.T]; exact hT
  have hj := h.jb0
  refine ⟨_, nI m.pn, _, lz, ⟨_, by decide, (c_M_pool l D cI cZ cQ (b.qm) (b.mp) (b.mt) (b.ml) (b.mc) (b.mf) (b.me) (b.mg) (b.mh) (b.mu) (a.k) (a.n) (m.pn) (m.nx) (m.cd) (m.ep) (m.M) (m.wi) (m.jb) (m.fp) (m.tf) (m.tt) (m.fi) (m.ln) (m.bx) (m.pr) (m.tk) (m.le) (m.co) (m.fr) (m.em) (m.nb) (m.su) (hk9) (hn9))⟩, h.cd 0, ?_⟩
  rw [h.pm]
  exact ⟨_, by decide, (c_V_pool l D cI cZ cQ (a.qv) (a.qp) (a.qr) (a.qj) (a.qg) (a.qs) (a.qh) (a.qn) (a.qu) (a.qw) (a.qH) (a.qF) (a.qc) (a.ql) (a.qf) (a.k) (a.n) (v.pf) (v.pn) (v.pr) (v.wi) (v.M) (v.hf) (v.lim) (v.nt) (v.lt) (v.nb) (v.su) (v.wt) (v.ch) (v.le) (v.fl) (v.ep) (a.L) (a.hh) (a.ff) (v.rw) (hk) (hn) (hhL) (ffL))⟩
theorem op_epoch {l : Launch} {D : va_G} {cI cZ cQ : ClassId} {a : VA} {b : MA} {lz : Nat → Nat} {c : Nat} {v : VS} {m : MS} (hst : l.stackTraces = false) (ga : geo a.k a.n a.hh a.ff) (hhL : ∀ i, i < a.n + 1 → a.hh i ∈ a.L) (ffL : ∀ i, i < a.n + 1 → a.ff i ∈ a.L) (h : inv a.k a.n a.hh lz c v m) (hc : c ≤ 512) : ∃ (m' : MS) (r9 : Int32) (v' : VS) (lz' : Nat → Nat), okM l D cI cZ cQ a b y_M_epoch b_M_epoch 1 .int [.ref b.qm] m r9 m' ∧ inv a.k a.n a.hh lz' (c + 1) v' m' ∧ okV l D cI cZ cQ a y_V_epoch b_V_epoch 1 .int [.ref a.qv] v r9 v' := by
  have hn9 := ga.n9
  have hkn := ga.kn
  have hk2 := ga.k2
  have hk : a.k < 2 ^ 20 := by omega
  have hn : a.n < 2 ^ 20 := by omega
  have hk9 : a.k ≤ 9 := by omega
  have hk1 : 1 ≤ a.k := by omega
  have hTc := h.Tc
  have hT : v.M.1 + 6000 < 2 ^ 31 := by omega
  have hTm : m.M.1 + 6000 < 2 ^ 31 := by rw [← h.T]; exact hT
  have hj := h.jb0
  refine ⟨_, m.ep, _, lz, ⟨_, by decide, (c_M_epoch l D cI cZ cQ (b.qm) (b.mp) (b.mt) (b.ml) (b.mc) (b.mf) (b.me) (b.mg) (b.mh) (b.mu) (a.k) (a.n) (m.pn) (m.nx) (m.cd) (m.ep) (m.M) (m.wi) (m.jb) (m.fp) (m.tf) (m.tt) (m.fi) (m.ln) (m.bx) (m.pr) (m.tk) (m.le) (m.co) (m.fr) (m.em) (m.nb) (m.su) (hk9) (hn9))⟩, h.cd 0, ?_⟩
  rw [← h.ep]
  exact ⟨_, by decide, (c_V_epoch l D cI cZ cQ (a.qv) (a.qp) (a.qr) (a.qj) (a.qg) (a.qs) (a.qh) (a.qn) (a.qu) (a.qw) (a.qH) (a.qF) (a.qc) (a.ql) (a.qf) (a.k) (a.n) (v.pf) (v.pn) (v.pr) (v.wi) (v.M) (v.hf) (v.lim) (v.nt) (v.lt) (v.nb) (v.su) (v.wt) (v.ch) (v.le) (v.fl) (v.ep) (a.L) (a.hh) (a.ff) (v.rw) (hk) (hn) (hhL) (ffL))⟩
theorem op_sent {l : Launch} {D : va_G} {cI cZ cQ : ClassId} {a : VA} {b : MA} {lz : Nat → Nat} {c : Nat} {v : VS} {m : MS} (hst : l.stackTraces = false) (ga : geo a.k a.n a.hh a.ff) (hhL : ∀ i, i < a.n + 1 → a.hh i ∈ a.L) (ffL : ∀ i, i < a.n + 1 → a.ff i ∈ a.L) (h : inv a.k a.n a.hh lz c v m) (hc : c ≤ 512) : ∃ (m' : MS) (r9 : Int32) (v' : VS) (lz' : Nat → Nat), okM l D cI cZ cQ a b y_M_sent b_M_sent 1 .int [.ref b.qm] m r9 m' ∧ inv a.k a.n a.hh lz' (c + 1) v' m' ∧ okV l D cI cZ cQ a y_V_sent b_V_sent 1 .int [.ref a.qv] v r9 v' := by
  have hn9 := ga.n9
  have hkn := ga.kn
  have hk2 := ga.k2
  have hk : a.k < 2 ^ 20 := by omega
  have hn : a.n < 2 ^ 20 := by omega
  have hk9 : a.k ≤ 9 := by omega
  have hk1 : 1 ≤ a.k := by omega
  have hTc := h.Tc
  have hT : v.M.1 + 6000 < 2 ^ 31 := by omega
  have hTm : m.M.1 + 6000 < 2 ^ 31 := by rw [← h.T]; exact hT
  have hj := h.jb0
  refine ⟨_, nI m.M.1, _, lz, ⟨_, by decide, (c_M_sent l D cI cZ cQ (b.qm) (b.mp) (b.mt) (b.ml) (b.mc) (b.mf) (b.me) (b.mg) (b.mh) (b.mu) (a.k) (a.n) (m.pn) (m.nx) (m.cd) (m.ep) (m.M) (m.wi) (m.jb) (m.fp) (m.tf) (m.tt) (m.fi) (m.ln) (m.bx) (m.pr) (m.tk) (m.le) (m.co) (m.fr) (m.em) (m.nb) (m.su) (hk9) (hn9))⟩, h.cd 0, ?_⟩
  rw [← h.T]
  exact ⟨_, by decide, (c_V_sent l D cI cZ cQ (a.qv) (a.qp) (a.qr) (a.qj) (a.qg) (a.qs) (a.qh) (a.qn) (a.qu) (a.qw) (a.qH) (a.qF) (a.qc) (a.ql) (a.qf) (a.k) (a.n) (v.pf) (v.pn) (v.pr) (v.wi) (v.M) (v.hf) (v.lim) (v.nt) (v.lt) (v.nb) (v.su) (v.wt) (v.ch) (v.le) (v.fl) (v.ep) (a.L) (a.hh) (a.ff) (v.rw) (hk) (hn) (hhL) (ffL))⟩
theorem op_files {l : Launch} {D : va_G} {cI cZ cQ : ClassId} {a : VA} {b : MA} {lz : Nat → Nat} {c : Nat} {v : VS} {m : MS} (hst : l.stackTraces = false) (ga : geo a.k a.n a.hh a.ff) (hhL : ∀ i, i < a.n + 1 → a.hh i ∈ a.L) (ffL : ∀ i, i < a.n + 1 → a.ff i ∈ a.L) (h : inv a.k a.n a.hh lz c v m) (hc : c ≤ 512) : ∃ (m' : MS) (r9 : Int32) (v' : VS) (lz' : Nat → Nat), okM l D cI cZ cQ a b y_M_files b_M_files 1 .int [.ref b.qm] m r9 m' ∧ inv a.k a.n a.hh lz' (c + 1) v' m' ∧ okV l D cI cZ cQ a y_V_files b_V_files 1 .int [.ref a.qv] v r9 v' := by
  have hn9 := ga.n9
  have hkn := ga.kn
  have hk2 := ga.k2
  have hk : a.k < 2 ^ 20 := by omega
  have hn : a.n < 2 ^ 20 := by omega
  have hk9 : a.k ≤ 9 := by omega
  have hk1 : 1 ≤ a.k := by omega
  have hTc := h.Tc
  have hT : v.M.1 + 6000 < 2 ^ 31 := by omega
  have hTm : m.M.1 + 6000 < 2 ^ 31 := by rw [← h.T]; exact hT
  have hj := h.jb0
  refine ⟨_, nI (sm_k lz 8), _, lz, ⟨_, by decide, (c_M_files l D cI cZ cQ (b.qm) (b.mp) (b.mt) (b.ml) (b.mc) (b.mf) (b.me) (b.mg) (b.mh) (b.mu) (a.k) (a.n) (m.pn) (m.nx) (m.cd) (m.ep) (m.M) (m.wi) (m.jb) (m.fp) (m.tf) (m.tt) (m.fi) (m.ln) (m.bx) (m.pr) (m.tk) (m.le) (m.co) (m.fr) (m.em) (m.nb) (m.su) (lz) (hk9) (hn9) (h.lm) (h.l8))⟩, h.cd 0, ?_⟩
  exact ⟨_, by decide, (c_V_files l D cI cZ cQ (a.qv) (a.qp) (a.qr) (a.qj) (a.qg) (a.qs) (a.qh) (a.qn) (a.qu) (a.qw) (a.qH) (a.qF) (a.qc) (a.ql) (a.qf) (a.k) (a.n) (v.pf) (v.pn) (v.pr) (v.wi) (v.M) (v.hf) (v.lim) (v.nt) (v.lt) (v.nb) (v.su) (v.wt) (v.ch) (v.le) (v.fl) (v.ep) (a.L) (a.hh) (a.ff) (v.rw) (lz) (hk) (hn) (hhL) (ffL) (h.lv) (h.l8))⟩
theorem op_stopped {l : Launch} {D : va_G} {cI cZ cQ : ClassId} {a : VA} {b : MA} {lz : Nat → Nat} {c : Nat} {v : VS} {m : MS} (hst : l.stackTraces = false) (ga : geo a.k a.n a.hh a.ff) (hhL : ∀ i, i < a.n + 1 → a.hh i ∈ a.L) (ffL : ∀ i, i < a.n + 1 → a.ff i ∈ a.L) (h : inv a.k a.n a.hh lz c v m) (hc : c ≤ 512) : ∃ (m' : MS) (r9 : Int32) (v' : VS) (lz' : Nat → Nat), okM l D cI cZ cQ a b y_M_stopped b_M_stopped 1 .boolean [.ref b.qm] m r9 m' ∧ inv a.k a.n a.hh lz' (c + 1) v' m' ∧ okV l D cI cZ cQ a y_V_stopped b_V_stopped 1 .boolean [.ref a.qv] v r9 v' := by
  have hn9 := ga.n9
  have hkn := ga.kn
  have hk2 := ga.k2
  have hk : a.k < 2 ^ 20 := by omega
  have hn : a.n < 2 ^ 20 := by omega
  have hk9 : a.k ≤ 9 := by omega
  have hk1 : 1 ≤ a.k := by omega
  have hTc := h.Tc
  have hT : v.M.1 + 6000 < 2 ^ 31 := by omega
  have hTm : m.M.1 + 6000 < 2 ^ 31 := by rw [← h.T]; exact hT
  have hj := h.jb0
  by_cases h9 : m.jb = 0
  · refine ⟨_, 0, _, lz, ⟨_, by decide, (c_M_stopped_0 l D cI cZ cQ (b.qm) (b.mp) (b.mt) (b.ml) (b.mc) (b.mf) (b.me) (b.mg) (b.mh) (b.mu) (a.k) (a.n) (m.pn) (m.nx) (m.cd) (m.ep) (m.M) (m.wi) (m.jb) (m.fp) (m.tf) (m.tt) (m.fi) (m.ln) (m.bx) (m.pr) (m.tk) (m.le) (m.co) (m.fr) (m.em) (m.nb) (m.su) (hk9) (hn9) (hj.2.mpr h9))⟩, h.cd 0, ?_⟩
    have e : v.M.2.2.2 = 0 := hj.1.mpr h9
    exact okV.eq e ⟨_, by decide, (c_V_stopped l D cI cZ cQ (a.qv) (a.qp) (a.qr) (a.qj) (a.qg) (a.qs) (a.qh) (a.qn) (a.qu) (a.qw) (a.qH) (a.qF) (a.qc) (a.ql) (a.qf) (a.k) (a.n) (v.pf) (v.pn) (v.pr) (v.wi) (v.M) (v.hf) (v.lim) (v.nt) (v.lt) (v.nb) (v.su) (v.wt) (v.ch) (v.le) (v.fl) (v.ep) (a.L) (a.hh) (a.ff) (v.rw) (hk) (hn) (hhL) (ffL) (by rw [e]; rfl))⟩
  · refine ⟨_, 1, _, lz, ⟨_, by decide, (c_M_stopped_1 l D cI cZ cQ (b.qm) (b.mp) (b.mt) (b.ml) (b.mc) (b.mf) (b.me) (b.mg) (b.mh) (b.mu) (a.k) (a.n) (m.pn) (m.nx) (m.cd) (m.ep) (m.M) (m.wi) (m.jb) (m.fp) (m.tf) (m.tt) (m.fi) (m.ln) (m.bx) (m.pr) (m.tk) (m.le) (m.co) (m.fr) (m.em) (m.nb) (m.su) (hk9) (hn9) (fun h8 => h9 (hj.2.mp h8)))⟩, h.cd 0, ?_⟩
    have e : v.M.2.2.2 = 1 := by
      rcases h.st with ⟨_, h2⟩ | ⟨h1, _⟩
      · exact absurd h2 h9
      · exact h1
    exact okV.eq e ⟨_, by decide, (c_V_stopped l D cI cZ cQ (a.qv) (a.qp) (a.qr) (a.qj) (a.qg) (a.qs) (a.qh) (a.qn) (a.qu) (a.qw) (a.qH) (a.qF) (a.qc) (a.ql) (a.qf) (a.k) (a.n) (v.pf) (v.pn) (v.pr) (v.wi) (v.M) (v.hf) (v.lim) (v.nt) (v.lt) (v.nb) (v.su) (v.wt) (v.ch) (v.le) (v.fl) (v.ep) (a.L) (a.hh) (a.ff) (v.rw) (hk) (hn) (hhL) (ffL) (by rw [e]; rfl))⟩
theorem op_resume {l : Launch} {D : va_G} {cI cZ cQ : ClassId} {a : VA} {b : MA} {lz : Nat → Nat} {c : Nat} {v : VS} {m : MS} (hst : l.stackTraces = false) (ga : geo a.k a.n a.hh a.ff) (hhL : ∀ i, i < a.n + 1 → a.hh i ∈ a.L) (ffL : ∀ i, i < a.n + 1 → a.ff i ∈ a.L) (h : inv a.k a.n a.hh lz c v m) (hc : c ≤ 512) : ∃ (m' : MS) (r9 : Int32) (v' : VS) (lz' : Nat → Nat), okM l D cI cZ cQ a b y_M_resume b_M_resume 1 .int [.ref b.qm] m r9 m' ∧ inv a.k a.n a.hh lz' (c + 1) v' m' ∧ okV l D cI cZ cQ a y_V_resume b_V_resume 1 .int [.ref a.qv] v r9 v' := by
  have hn9 := ga.n9
  have hkn := ga.kn
  have hk2 := ga.k2
  have hk : a.k < 2 ^ 20 := by omega
  have hn : a.n < 2 ^ 20 := by omega
  have hk9 : a.k ≤ 9 := by omega
  have hk1 : 1 ≤ a.k := by omega
  have hTc := h.Tc
  have hT : v.M.1 + 6000 < 2 ^ 31 := by omega
  have hTm : m.M.1 + 6000 < 2 ^ 31 := by rw [← h.T]; exact hT
  have hj := h.jb0
  rcases h.st with ⟨s1, s2⟩ | ⟨s1, s2, ⟨s3, s4⟩ | ⟨s3, s4, p, q, hp, hq, s5, s6, s7, s8⟩⟩
  · exact ⟨_, 0, _, lz, ⟨_, by decide, (c_M_resume_0 l D cI cZ cQ (b.qm) (b.mp) (b.mt) (b.ml) (b.mc) (b.mf) (b.me) (b.mg) (b.mh) (b.mu) (a.k) (a.n) (m.pn) (m.nx) (m.cd) (m.ep) (m.M) (m.wi) (m.jb) (m.fp) (m.tf) (m.tt) (m.fi) (m.ln) (m.bx) (m.pr) (m.tk) (m.le) (m.co) (m.fr) (m.em) (m.nb) (m.su) (hk9) (hn9) (s2))⟩, h.cd 0, ⟨_, by decide, (c_V_resume_0 l D cI cZ cQ (a.qv) (a.qp) (a.qr) (a.qj) (a.qg) (a.qs) (a.qh) (a.qn) (a.qu) (a.qw) (a.qH) (a.qF) (a.qc) (a.ql) (a.qf) (a.k) (a.n) (v.pf) (v.pn) (v.pr) (v.wi) (v.M) (v.hf) (v.lim) (v.nt) (v.lt) (v.nb) (v.su) (v.wt) (v.ch) (v.le) (v.fl) (v.ep) (a.L) (a.hh) (a.ff) (v.rw) (hk) (hn) (hhL) (ffL) (s1))⟩⟩
  · have hj0 : ¬ m.jb = 0 := fun h9 => by rw [h9] at s2; rcases s2 with h8 | h8 | h8 <;> exact absurd h8 (by decide)
    exact ⟨_, 1, _, lz, ⟨_, by decide, (c_M_resume_1 l D cI cZ cQ (b.qm) (b.mp) (b.mt) (b.ml) (b.mc) (b.mf) (b.me) (b.mg) (b.mh) (b.mu) (a.k) (a.n) (m.pn) (m.nx) (m.cd) (m.ep) (m.M) (m.wi) (m.jb) (m.fp) (m.tf) (m.tt) (m.fi) (m.ln) (m.bx) (m.pr) (m.tk) (m.le) (m.co) (m.fr) (m.em) (m.nb) (m.su) (hk9) (hn9) (hj0) (s4))⟩, h.dropped, ⟨_, by decide, (c_V_resume_1 l D cI cZ cQ (a.qv) (a.qp) (a.qr) (a.qj) (a.qg) (a.qs) (a.qh) (a.qn) (a.qu) (a.qw) (a.qH) (a.qF) (a.qc) (a.ql) (a.qf) (a.k) (a.n) (v.pf) (v.pn) (v.pr) (v.wi) (v.M) (v.hf) (v.lim) (v.nt) (v.lt) (v.nb) (v.su) (v.wt) (v.ch) (v.le) (v.fl) (v.ep) (a.L) (a.hh) (a.ff) (v.rw) (hk) (hn) (hhL) (ffL) (by rw [s1]; decide) (s3))⟩⟩
  · have hj0 : ¬ m.jb = 0 := fun h9 => by rw [h9] at s2; rcases s2 with h8 | h8 | h8 <;> exact absurd h8 (by decide)
    refine ⟨_, 2, _, lz, ?_, h.finished hp hq hc, ?_⟩
    · have hM := (c_M_resume_2 l D cI cZ cQ (b.qm) (b.mp) (b.mt) (b.ml) (b.mc) (b.mf) (b.me) (b.mg) (b.mh) (b.mu) (a.k) (a.n) (m.pn) (m.nx) (m.cd) (m.ep) (m.M) (m.wi) (m.jb) (m.fp) (m.fi) (m.ln) (m.bx) (m.pr) (m.tk) (m.le) (m.co) (m.fr) (m.em) (m.nb) (m.su) (p) (q) (hk9) (hn9) (hj0) (by rw [s4]; decide) (by omega) (by omega) (by omega))
      rw [← s6, ← s8] at hM
      exact ⟨_, by decide, hM⟩
    · have hV := (c_V_resume_2 l D cI cZ cQ (a.qv) (a.qp) (a.qr) (a.qj) (a.qg) (a.qs) (a.qh) (a.qn) (a.qu) (a.qw) (a.qH) (a.qF) (a.qc) (a.ql) (a.qf) (a.k) (a.n) (v.pf) (v.pn) (v.pr) (v.wi) (v.M) (v.hf) (v.lim) (v.nb) (v.su) (v.wt) (v.ch) (v.le) (v.fl) (v.ep) (a.L) (a.hh) (a.ff) (v.rw) (p) (q) (hk) (hn) (hhL) (ffL) (by omega) (by omega) (by omega) (by rw [s1]; decide) (by rw [s3]; decide))
      rw [← s5, ← s7] at hV
      exact ⟨_, by decide, hV⟩
theorem op_stopAfter {l : Launch} {D : va_G} {cI cZ cQ : ClassId} {a : VA} {b : MA} {lz : Nat → Nat} {c : Nat} {v : VS} {m : MS} (hst : l.stackTraces = false) (ga : geo a.k a.n a.hh a.ff) (hhL : ∀ i, i < a.n + 1 → a.hh i ∈ a.L) (ffL : ∀ i, i < a.n + 1 → a.ff i ∈ a.L) (h : inv a.k a.n a.hh lz c v m) (hc : c ≤ 512) (z : Int32) : ∃ (m' : MS) (v' : VS) (lz' : Nat → Nat), okW l D cI cZ cQ a b y_M_stopAfter b_M_stopAfter 2 [.ref b.qm, .int z] m m' ∧ inv a.k a.n a.hh lz' (c + 1) v' m' ∧ ((m'.cd = 0 ∧ okU l D cI cZ cQ a y_V_stopAfter b_V_stopAfter 2 [.ref a.qv, .int z] v v') ∨ ∃ q ∈ ([("java/lang/IllegalArgumentException", 1)] : List (String × Int32)), m'.cd = q.2 ∧ thV l D cI cZ cQ a y_V_stopAfter b_V_stopAfter 2 none [.ref a.qv, .int z] v q.1 v') := by
  have hn9 := ga.n9
  have hkn := ga.kn
  have hk2 := ga.k2
  have hk : a.k < 2 ^ 20 := by omega
  have hn : a.n < 2 ^ 20 := by omega
  have hk9 : a.k ≤ 9 := by omega
  have hk1 : 1 ≤ a.k := by omega
  have hTc := h.Tc
  have hT : v.M.1 + 6000 < 2 ^ 31 := by omega
  have hTm : m.M.1 + 6000 < 2 ^ 31 := by rw [← h.T]; exact hT
  have hj := h.jb0
  by_cases hz : z < -1
  · exact ⟨_, _, lz, ⟨_, by decide, (c_M_stopAfter_1 l D cI cZ cQ (b.qm) (b.mp) (b.mt) (b.ml) (b.mc) (b.mf) (b.me) (b.mg) (b.mh) (b.mu) (a.k) (a.n) (m.pn) (m.nx) (m.cd) (m.ep) (m.M) (m.wi) (m.jb) (m.fp) (m.tf) (m.tt) (m.fi) (m.ln) (m.bx) (m.pr) (m.tk) (m.le) (m.co) (m.fr) (m.em) (m.nb) (m.su) (z) (hk9) (hn9) (hz))⟩, h.cd 1, Or.inr ⟨_, List.mem_of_getElem? (i := 0) rfl, rfl, ⟨_, by decide, (c_V_stopAfter_x l D cI cZ cQ (a.qv) (a.qp) (a.qr) (a.qj) (a.qg) (a.qs) (a.qh) (a.qn) (a.qu) (a.qw) (a.qH) (a.qF) (a.qc) (a.ql) (a.qf) (a.k) (a.n) (v.pf) (v.pn) (v.pr) (v.wi) (v.M) (v.hf) (v.lim) (v.nt) (v.lt) (v.nb) (v.su) (v.wt) (v.ch) (v.le) (v.fl) (v.ep) (a.L) (a.hh) (a.ff) (v.rw) (z) (hst) (hk) (hn) (hhL) (ffL) (hz))⟩⟩⟩
  · exact ⟨_, _, lz, ⟨_, by decide, (c_M_stopAfter_0 l D cI cZ cQ (b.qm) (b.mp) (b.mt) (b.ml) (b.mc) (b.mf) (b.me) (b.mg) (b.mh) (b.mu) (a.k) (a.n) (m.pn) (m.nx) (m.cd) (m.ep) (m.M) (m.wi) (m.jb) (m.fp) (m.tf) (m.tt) (m.fi) (m.ln) (m.bx) (m.pr) (m.tk) (m.le) (m.co) (m.fr) (m.em) (m.nb) (m.su) (z) (hk9) (hn9) (hz))⟩, h.wish hz, Or.inl ⟨rfl, ⟨_, by decide, (c_V_stopAfter_y l D cI cZ cQ (a.qv) (a.qp) (a.qr) (a.qj) (a.qg) (a.qs) (a.qh) (a.qn) (a.qu) (a.qw) (a.qH) (a.qF) (a.qc) (a.ql) (a.qf) (a.k) (a.n) (v.pf) (v.pn) (v.pr) (v.wi) (v.M) (v.hf) (v.lim) (v.nt) (v.lt) (v.nb) (v.su) (v.wt) (v.ch) (v.le) (v.fl) (v.ep) (a.L) (a.hh) (a.ff) (v.rw) (z) (hk) (hn) (hhL) (ffL) (hz))⟩⟩⟩
theorem op_length {l : Launch} {D : va_G} {cI cZ cQ : ClassId} {a : VA} {b : MA} {lz : Nat → Nat} {c : Nat} {v : VS} {m : MS} (hst : l.stackTraces = false) (ga : geo a.k a.n a.hh a.ff) (hhL : ∀ i, i < a.n + 1 → a.hh i ∈ a.L) (ffL : ∀ i, i < a.n + 1 → a.ff i ∈ a.L) (h : inv a.k a.n a.hh lz c v m) (hc : c ≤ 512) (f : Int32) : ∃ (m' : MS) (r9 : Int32) (v' : VS) (lz' : Nat → Nat), okM l D cI cZ cQ a b y_M_length b_M_length 2 .int [.ref b.qm, .int f] m r9 m' ∧ inv a.k a.n a.hh lz' (c + 1) v' m' ∧ ((m'.cd = 0 ∧ okV l D cI cZ cQ a y_V_length b_V_length 2 .int [.ref a.qv, .int f] v r9 v') ∨ ∃ q ∈ ([("java/lang/IllegalArgumentException", 1)] : List (String × Int32)), m'.cd = q.2 ∧ thV l D cI cZ cQ a y_V_length b_V_length 2 (some .int) [.ref a.qv, .int f] v q.1 v') := by
  have hn9 := ga.n9
  have hkn := ga.kn
  have hk2 := ga.k2
  have hk : a.k < 2 ^ 20 := by omega
  have hn : a.n < 2 ^ 20 := by omega
  have hk9 : a.k ≤ 9 := by omega
  have hk1 : 1 ≤ a.k := by omega
  have hTc := h.Tc
  have hT : v.M.1 + 6000 < 2 ^ 31 := by omega
  have hTm : m.M.1 + 6000 < 2 ^ 31 := by rw [← h.T]; exact hT
  have hj := h.jb0
  by_cases hfx : 0 ≤ f ∧ f ≤ 7
  · obtain ⟨f, f1, f2, rfl⟩ := st_of (a := 0) (b := 7) (by omega) (by omega) hfx.1 hfx.2
    have hf8 : f < 8 := by omega
    have hl8 := h.l8 f hf8
    have hlv := h.lv f hf8
    have hlm := h.lm f hf8
    refine ⟨_, m.le f, _, lz, ⟨_, by decide, (c_M_length_0 l D cI cZ cQ (b.qm) (b.mp) (b.mt) (b.ml) (b.mc) (b.mf) (b.me) (b.mg) (b.mh) (b.mu) (a.k) (a.n) (m.pn) (m.nx) (m.cd) (m.ep) (m.M) (m.wi) (m.jb) (m.fp) (m.tf) (m.tt) (m.fi) (m.ln) (m.bx) (m.pr) (m.tk) (m.le) (m.co) (m.fr) (m.em) (m.nb) (m.su) (f) (hk9) (hn9) (hf8))⟩, h.cd 0, Or.inl ⟨rfl, ?_⟩⟩
    rw [hlm, ← hlv]
    exact ⟨_, by decide, (c_V_length_y l D cI cZ cQ (a.qv) (a.qp) (a.qr) (a.qj) (a.qg) (a.qs) (a.qh) (a.qn) (a.qu) (a.qw) (a.qH) (a.qF) (a.qc) (a.ql) (a.qf) (a.k) (a.n) (v.pf) (v.pn) (v.pr) (v.wi) (v.M) (v.hf) (v.lim) (v.nt) (v.lt) (v.nb) (v.su) (v.wt) (v.ch) (v.le) (v.fl) (v.ep) (a.L) (a.hh) (a.ff) (v.rw) (f) (hk) (hn) (hhL) (ffL) (hf8))⟩
  · exact ⟨_, 0, _, lz, ⟨_, by decide, (c_M_length_1 l D cI cZ cQ (b.qm) (b.mp) (b.mt) (b.ml) (b.mc) (b.mf) (b.me) (b.mg) (b.mh) (b.mu) (a.k) (a.n) (m.pn) (m.nx) (m.cd) (m.ep) (m.M) (m.wi) (m.jb) (m.fp) (m.tf) (m.tt) (m.fi) (m.ln) (m.bx) (m.pr) (m.tk) (m.le) (m.co) (m.fr) (m.em) (m.nb) (m.su) (f) (hk9) (hn9) (hfx))⟩, h.cd 1, Or.inr ⟨_, List.mem_of_getElem? (i := 0) rfl, rfl, ⟨_, by decide, (c_V_length_x l D cI cZ cQ (a.qv) (a.qp) (a.qr) (a.qj) (a.qg) (a.qs) (a.qh) (a.qn) (a.qu) (a.qw) (a.qH) (a.qF) (a.qc) (a.ql) (a.qf) (a.k) (a.n) (v.pf) (v.pn) (v.pr) (v.wi) (v.M) (v.hf) (v.lim) (v.nt) (v.lt) (v.nb) (v.su) (v.wt) (v.ch) (v.le) (v.fl) (v.ep) (a.L) (a.hh) (a.ff) (v.rw) (f) (hst) (hk) (hn) (hhL) (ffL) (hfx))⟩⟩⟩
theorem op_forget {l : Launch} {D : va_G} {cI cZ cQ : ClassId} {a : VA} {b : MA} {lz : Nat → Nat} {c : Nat} {v : VS} {m : MS} (hst : l.stackTraces = false) (ga : geo a.k a.n a.hh a.ff) (hhL : ∀ i, i < a.n + 1 → a.hh i ∈ a.L) (ffL : ∀ i, i < a.n + 1 → a.ff i ∈ a.L) (h : inv a.k a.n a.hh lz c v m) (hc : c ≤ 512) (f : Int32) : ∃ (m' : MS) (r9 : Int32) (v' : VS) (lz' : Nat → Nat), okM l D cI cZ cQ a b y_M_forget b_M_forget 2 .int [.ref b.qm, .int f] m r9 m' ∧ inv a.k a.n a.hh lz' (c + 1) v' m' ∧ ((m'.cd = 0 ∧ okV l D cI cZ cQ a y_V_forget b_V_forget 2 .int [.ref a.qv, .int f] v r9 v') ∨ ∃ q ∈ ([("java/lang/IllegalArgumentException", 1), ("java/util/NoSuchElementException", 2), ("java/lang/IllegalStateException", 3)] : List (String × Int32)), m'.cd = q.2 ∧ thV l D cI cZ cQ a y_V_forget b_V_forget 2 (some .int) [.ref a.qv, .int f] v q.1 v') := by
  have hn9 := ga.n9
  have hkn := ga.kn
  have hk2 := ga.k2
  have hk : a.k < 2 ^ 20 := by omega
  have hn : a.n < 2 ^ 20 := by omega
  have hk9 : a.k ≤ 9 := by omega
  have hk1 : 1 ≤ a.k := by omega
  have hTc := h.Tc
  have hT : v.M.1 + 6000 < 2 ^ 31 := by omega
  have hTm : m.M.1 + 6000 < 2 ^ 31 := by rw [← h.T]; exact hT
  have hj := h.jb0
  by_cases hfx : 0 ≤ f ∧ f ≤ 7
  · obtain ⟨f, f1, f2, rfl⟩ := st_of (a := 0) (b := 7) (by omega) (by omega) hfx.1 hfx.2
    have hf8 : f < 8 := by omega
    have hl8 := h.l8 f hf8
    have hlv := h.lv f hf8
    have hlm := h.lm f hf8
    by_cases hl0 : lz f = 0
    · exact ⟨_, 0, _, lz, ⟨_, by decide, (c_M_forget_2 l D cI cZ cQ (b.qm) (b.mp) (b.mt) (b.ml) (b.mc) (b.mf) (b.me) (b.mg) (b.mh) (b.mu) (a.k) (a.n) (m.pn) (m.nx) (m.cd) (m.ep) (m.M) (m.wi) (m.jb) (m.fp) (m.tf) (m.tt) (m.fi) (m.ln) (m.bx) (m.pr) (m.tk) (m.le) (m.co) (m.fr) (m.em) (m.nb) (m.su) (f) (hk9) (hn9) (hf8) (by rw [hlm, hl0]; rfl))⟩, h.cd 2, Or.inr ⟨_, List.mem_of_getElem? (i := 1) rfl, rfl, ⟨_, by decide, (c_V_forget_x2 l D cI cZ cQ (a.qv) (a.qp) (a.qr) (a.qj) (a.qg) (a.qs) (a.qh) (a.qn) (a.qu) (a.qw) (a.qH) (a.qF) (a.qc) (a.ql) (a.qf) (a.k) (a.n) (v.pf) (v.pn) (v.pr) (v.wi) (v.M) (v.hf) (v.lim) (v.nt) (v.lt) (v.nb) (v.su) (v.wt) (v.ch) (v.le) (v.fl) (v.ep) (a.L) (a.hh) (a.ff) (v.rw) (f) (hst) (hk) (hn) (hhL) (ffL) (hf8) (by rw [hlv, hl0]; rfl))⟩⟩⟩
    · have hlv0 : ¬ v.le f = 0 := by rw [hlv]; exact nI_ne0 (by omega) (by omega)
      have hlm0 : ¬ m.le f = 0 := by rw [hlm]; exact nI_ne0 (by omega) (by omega)
      by_cases hs : m.jb = 0
      · have hi := h.forgot hf8
        exact ⟨_, nI (sm_k (fun i => if i = f then 0 else lz i) 8), _, _, ⟨_, by decide, (c_M_forget_0 l D cI cZ cQ (b.qm) (b.mp) (b.mt) (b.ml) (b.mc) (b.mf) (b.me) (b.mg) (b.mh) (b.mu) (a.k) (a.n) (m.pn) (m.nx) (m.cd) (m.ep) (m.M) (m.wi) (m.jb) (m.fp) (m.tf) (m.tt) (m.fi) (m.ln) (m.bx) (m.pr) (m.tk) (m.le) (m.co) (m.fr) (m.em) (m.nb) (m.su) (f) ((fun i => if i = f then 0 else lz i)) (hk9) (hn9) (hf8) (hlm0) (hj.2.mpr hs) (hi.lm) (hi.l8))⟩, hi, Or.inl ⟨rfl, ⟨_, by decide, (c_V_forget_y l D cI cZ cQ (a.qv) (a.qp) (a.qr) (a.qj) (a.qg) (a.qs) (a.qh) (a.qn) (a.qu) (a.qw) (a.qH) (a.qF) (a.qc) (a.ql) (a.qf) (a.k) (a.n) (v.pf) (v.pn) (v.pr) (v.wi) (v.M) (v.hf) (v.lim) (v.nt) (v.lt) (v.nb) (v.su) (v.wt) (v.ch) (v.le) (v.fl) (v.ep) (a.L) (a.hh) (a.ff) (v.rw) (f) ((fun i => if i = f then 0 else lz i)) (hk) (hn) (hhL) (ffL) (hf8) (hlv0) (hj.1.mpr hs) (hi.lv) (hi.l8))⟩⟩⟩
      · exact ⟨_, 0, _, lz, ⟨_, by decide, (c_M_forget_3 l D cI cZ cQ (b.qm) (b.mp) (b.mt) (b.ml) (b.mc) (b.mf) (b.me) (b.mg) (b.mh) (b.mu) (a.k) (a.n) (m.pn) (m.nx) (m.cd) (m.ep) (m.M) (m.wi) (m.jb) (m.fp) (m.tf) (m.tt) (m.fi) (m.ln) (m.bx) (m.pr) (m.tk) (m.le) (m.co) (m.fr) (m.em) (m.nb) (m.su) (f) (hk9) (hn9) (hf8) (hlm0) (fun h9 => hs (hj.2.mp h9)))⟩, h.cd 3, Or.inr ⟨_, List.mem_of_getElem? (i := 2) rfl, rfl, ⟨_, by decide, (c_V_forget_x3 l D cI cZ cQ (a.qv) (a.qp) (a.qr) (a.qj) (a.qg) (a.qs) (a.qh) (a.qn) (a.qu) (a.qw) (a.qH) (a.qF) (a.qc) (a.ql) (a.qf) (a.k) (a.n) (v.pf) (v.pn) (v.pr) (v.wi) (v.M) (v.hf) (v.lim) (v.nt) (v.lt) (v.nb) (v.su) (v.wt) (v.ch) (v.le) (v.fl) (v.ep) (a.L) (a.hh) (a.ff) (v.rw) (f) (hst) (hk) (hn) (hhL) (ffL) (hf8) (hlv0) (fun h9 => hs (hj.1.mp h9)))⟩⟩⟩
  · exact ⟨_, 0, _, lz, ⟨_, by decide, (c_M_forget_1 l D cI cZ cQ (b.qm) (b.mp) (b.mt) (b.ml) (b.mc) (b.mf) (b.me) (b.mg) (b.mh) (b.mu) (a.k) (a.n) (m.pn) (m.nx) (m.cd) (m.ep) (m.M) (m.wi) (m.jb) (m.fp) (m.tf) (m.tt) (m.fi) (m.ln) (m.bx) (m.pr) (m.tk) (m.le) (m.co) (m.fr) (m.em) (m.nb) (m.su) (f) (hk9) (hn9) (hfx))⟩, h.cd 1, Or.inr ⟨_, List.mem_of_getElem? (i := 0) rfl, rfl, ⟨_, by decide, (c_V_forget_x1 l D cI cZ cQ (a.qv) (a.qp) (a.qr) (a.qj) (a.qg) (a.qs) (a.qh) (a.qn) (a.qu) (a.qw) (a.qH) (a.qF) (a.qc) (a.ql) (a.qf) (a.k) (a.n) (v.pf) (v.pn) (v.pr) (v.wi) (v.M) (v.hf) (v.lim) (v.nt) (v.lt) (v.nb) (v.su) (v.wt) (v.ch) (v.le) (v.fl) (v.ep) (a.L) (a.hh) (a.ff) (v.rw) (f) (hst) (hk) (hn) (hhL) (ffL) (hfx))⟩⟩⟩
theorem op_need {l : Launch} {D : va_G} {cI cZ cQ : ClassId} {a : VA} {b : MA} {lz : Nat → Nat} {c : Nat} {v : VS} {m : MS} (hst : l.stackTraces = false) (ga : geo a.k a.n a.hh a.ff) (hhL : ∀ i, i < a.n + 1 → a.hh i ∈ a.L) (ffL : ∀ i, i < a.n + 1 → a.ff i ∈ a.L) (h : inv a.k a.n a.hh lz c v m) (hc : c ≤ 512) (z : Int32) : ∃ (m' : MS) (r9 : Int32) (v' : VS) (lz' : Nat → Nat), okM l D cI cZ cQ a b y_M_need b_M_need 2 .int [.ref b.qm, .int z] m r9 m' ∧ inv a.k a.n a.hh lz' (c + 1) v' m' ∧ ((m'.cd = 0 ∧ okV l D cI cZ cQ a y_V_need b_V_need 2 .int [.ref a.qv, .int z] v r9 v') ∨ ∃ q ∈ ([("java/lang/IllegalArgumentException", 1)] : List (String × Int32)), m'.cd = q.2 ∧ thV l D cI cZ cQ a y_V_need b_V_need 2 (some .int) [.ref a.qv, .int z] v q.1 v') := by
  have hn9 := ga.n9
  have hkn := ga.kn
  have hk2 := ga.k2
  have hk : a.k < 2 ^ 20 := by omega
  have hn : a.n < 2 ^ 20 := by omega
  have hk9 : a.k ≤ 9 := by omega
  have hk1 : 1 ≤ a.k := by omega
  have hTc := h.Tc
  have hT : v.M.1 + 6000 < 2 ^ 31 := by omega
  have hTm : m.M.1 + 6000 < 2 ^ 31 := by rw [← h.T]; exact hT
  have hj := h.jb0
  by_cases hz : 0 ≤ z ∧ z ≤ 2
  · obtain ⟨q, q1, q2, rfl⟩ := st_of (a := 0) (b := 2) (by omega) (by omega) hz.1 hz.2
    have hV := (c_V_need_y l D cI cZ cQ (a.qv) (a.qp) (a.qr) (a.qj) (a.qg) (a.qs) (a.qh) (a.qn) (a.qu) (a.qw) (a.qH) (a.qF) (a.qc) (a.ql) (a.qf) (a.k) (a.n) (v.pf) (v.pn) (v.pr) (v.wi) (v.M) (v.hf) (v.lim) (v.nt) (v.lt) (v.nb) (v.su) (v.wt) (v.ch) (v.le) (v.fl) (v.ep) (a.L) (a.hh) (a.ff) (v.rw) (q) (lz) (hk) (hn) (hhL) (ffL) (q2) (hk2) (h.lv) (h.l8))
    have h3 : q = 0 ∨ q = 1 ∨ q = 2 := by omega
    rcases h3 with rfl | rfl | rfl
    · refine ⟨_, nI (a.k - 1), _, lz, ⟨_, by decide, (c_M_need_00 l D cI cZ cQ (b.qm) (b.mp) (b.mt) (b.ml) (b.mc) (b.mf) (b.me) (b.mg) (b.mh) (b.mu) (a.k) (a.n) (m.pn) (m.nx) (m.cd) (m.ep) (m.M) (m.wi) (m.jb) (m.fp) (m.tf) (m.tt) (m.fi) (m.ln) (m.bx) (m.pr) (m.tk) (m.le) (m.co) (m.fr) (m.em) (m.nb) (m.su) (hk9) (hn9) (hk1))⟩, h.cd 0, Or.inl ⟨rfl, ?_⟩⟩
      rw [show nd_f lz a.k 0 = a.k - 1 from Nat.one_mul _] at hV
      exact ⟨_, by decide, hV⟩
    · exact ⟨_, nI (sm_b lz 8 * (a.k - 1)), _, lz, ⟨_, by decide, (c_M_need_01 l D cI cZ cQ (b.qm) (b.mp) (b.mt) (b.ml) (b.mc) (b.mf) (b.me) (b.mg) (b.mh) (b.mu) (a.k) (a.n) (m.pn) (m.nx) (m.cd) (m.ep) (m.M) (m.wi) (m.jb) (m.fp) (m.tf) (m.tt) (m.fi) (m.ln) (m.bx) (m.pr) (m.tk) (m.le) (m.co) (m.fr) (m.em) (m.nb) (m.su) (lz) (hk9) (hn9) (hk1) (h.lm))⟩, h.cd 0, Or.inl ⟨rfl, ⟨_, by decide, hV⟩⟩⟩
    · refine ⟨_, nI (sm_b lz 8 * (a.k - 1) * a.k), _, lz, ⟨_, by decide, (c_M_need_02 l D cI cZ cQ (b.qm) (b.mp) (b.mt) (b.ml) (b.mc) (b.mf) (b.me) (b.mg) (b.mh) (b.mu) (a.k) (a.n) (m.pn) (m.nx) (m.cd) (m.ep) (m.M) (m.wi) (m.jb) (m.fp) (m.tf) (m.tt) (m.fi) (m.ln) (m.bx) (m.pr) (m.tk) (m.le) (m.co) (m.fr) (m.em) (m.nb) (m.su) (lz) (hk9) (hn9) (hk1) (h.lm))⟩, h.cd 0, Or.inl ⟨rfl, ?_⟩⟩
      rw [show nd_f lz a.k 2 = sm_b lz 8 * (a.k - 1) * a.k by show sm_b lz 8 * (a.k * (a.k - 1)) = _; rw [Nat.mul_assoc, Nat.mul_comm a.k]] at hV
      exact ⟨_, by decide, hV⟩
  · exact ⟨_, 0, _, lz, ⟨_, by decide, (c_M_need_1 l D cI cZ cQ (b.qm) (b.mp) (b.mt) (b.ml) (b.mc) (b.mf) (b.me) (b.mg) (b.mh) (b.mu) (a.k) (a.n) (m.pn) (m.nx) (m.cd) (m.ep) (m.M) (m.wi) (m.jb) (m.fp) (m.tf) (m.tt) (m.fi) (m.ln) (m.bx) (m.pr) (m.tk) (m.le) (m.co) (m.fr) (m.em) (m.nb) (m.su) (z) (hk9) (hn9) (hz))⟩, h.cd 1, Or.inr ⟨_, List.mem_of_getElem? (i := 0) rfl, rfl, ⟨_, by decide, (c_V_need_x l D cI cZ cQ (a.qv) (a.qp) (a.qr) (a.qj) (a.qg) (a.qs) (a.qh) (a.qn) (a.qu) (a.qw) (a.qH) (a.qF) (a.qc) (a.ql) (a.qf) (a.k) (a.n) (v.pf) (v.pn) (v.pr) (v.wi) (v.M) (v.hf) (v.lim) (v.nt) (v.lt) (v.nb) (v.su) (v.wt) (v.ch) (v.le) (v.fl) (v.ep) (a.L) (a.hh) (a.ff) (v.rw) (z) (hst) (hk) (hn) (hhL) (ffL) (hz))⟩⟩⟩
theorem op_message {l : Launch} {D : va_G} {cI cZ cQ : ClassId} {a : VA} {b : MA} {lz : Nat → Nat} {c : Nat} {v : VS} {m : MS} (hst : l.stackTraces = false) (ga : geo a.k a.n a.hh a.ff) (hhL : ∀ i, i < a.n + 1 → a.hh i ∈ a.L) (ffL : ∀ i, i < a.n + 1 → a.ff i ∈ a.L) (h : inv a.k a.n a.hh lz c v m) (hc : c ≤ 512) (j : Int32) (w : Int32) : ∃ (m' : MS) (r9 : Int32) (v' : VS) (lz' : Nat → Nat), okM l D cI cZ cQ a b y_M_message b_M_message 3 .int [.ref b.qm, .int j, .int w] m r9 m' ∧ inv a.k a.n a.hh lz' (c + 1) v' m' ∧ ((m'.cd = 0 ∧ okV l D cI cZ cQ a y_V_message b_V_message 3 .int [.ref a.qv, .int j, .int w] v r9 v') ∨ ∃ q ∈ ([("java/lang/IndexOutOfBoundsException", 1), ("java/lang/IllegalArgumentException", 2)] : List (String × Int32)), m'.cd = q.2 ∧ thV l D cI cZ cQ a y_V_message b_V_message 3 (some .int) [.ref a.qv, .int j, .int w] v q.1 v') := by
  have hn9 := ga.n9
  have hkn := ga.kn
  have hk2 := ga.k2
  have hk : a.k < 2 ^ 20 := by omega
  have hn : a.n < 2 ^ 20 := by omega
  have hk9 : a.k ≤ 9 := by omega
  have hk1 : 1 ≤ a.k := by omega
  have hTc := h.Tc
  have hT : v.M.1 + 6000 < 2 ^ 31 := by omega
  have hTm : m.M.1 + 6000 < 2 ^ 31 := by rw [← h.T]; exact hT
  have hj := h.jb0
  have hT2 : v.M.1 < 2 ^ 31 := by omega
  have hTm2 : m.M.1 < 2 ^ 31 := by rw [← h.T]; exact hT2
  by_cases hjx : 0 ≤ j ∧ j ≤ 63 ∧ j < nI m.M.1
  · obtain ⟨q, q1, q2, rfl⟩ := st_of (a := 0) (b := 63) (by omega) (by omega) hjx.1 hjx.2.1
    have hq3 : q < m.M.1 := (nI_ltI (by omega) (by omega)).mp hjx.2.2
    have hqv : q < v.M.1 := by rw [h.T]; exact hq3
    by_cases hw : 0 ≤ w ∧ w ≤ 2
    · obtain ⟨y, y1, y2, rfl⟩ := st_of (a := 0) (b := 2) (by omega) (by omega) hw.1 hw.2
      refine ⟨_, m.M.2.1 ((m.M.1 - 1 - q) % 64 * 3 + y), _, lz, ⟨_, by decide, (c_M_message_0 l D cI cZ cQ (b.qm) (b.mp) (b.mt) (b.ml) (b.mc) (b.mf) (b.me) (b.mg) (b.mh) (b.mu) (a.k) (a.n) (m.pn) (m.nx) (m.cd) (m.ep) (m.M) (m.wi) (m.jb) (m.fp) (m.tf) (m.tt) (m.fi) (m.ln) (m.bx) (m.pr) (m.tk) (m.le) (m.co) (m.fr) (m.em) (m.nb) (m.su) (q) (y) (hk9) (hn9) (by omega) (hq3) (hTm2) (by omega))⟩, h.cd 0, Or.inl ⟨rfl, ?_⟩⟩
      rw [← h.T, ← h.g]
      exact ⟨_, by decide, (c_V_message_y l D cI cZ cQ (a.qv) (a.qp) (a.qr) (a.qj) (a.qg) (a.qs) (a.qh) (a.qn) (a.qu) (a.qw) (a.qH) (a.qF) (a.qc) (a.ql) (a.qf) (a.k) (a.n) (v.pf) (v.pn) (v.pr) (v.wi) (v.M) (v.hf) (v.lim) (v.nt) (v.lt) (v.nb) (v.su) (v.wt) (v.ch) (v.le) (v.fl) (v.ep) (a.L) (a.hh) (a.ff) (v.rw) (q) (y) (hk) (hn) (hhL) (ffL) (hT2) (by omega) (by omega))⟩
    · exact ⟨_, 0, _, lz, ⟨_, by decide, (c_M_message_2 l D cI cZ cQ (b.qm) (b.mp) (b.mt) (b.ml) (b.mc) (b.mf) (b.me) (b.mg) (b.mh) (b.mu) (a.k) (a.n) (m.pn) (m.nx) (m.cd) (m.ep) (m.M) (m.wi) (m.jb) (m.fp) (m.tf) (m.tt) (m.fi) (m.ln) (m.bx) (m.pr) (m.tk) (m.le) (m.co) (m.fr) (m.em) (m.nb) (m.su) (nI q) (w) (hk9) (hn9) (hjx) (hw))⟩, h.cd 2, Or.inr ⟨_, List.mem_of_getElem? (i := 1) rfl, rfl, ⟨_, by decide, (c_V_message_x2 l D cI cZ cQ (a.qv) (a.qp) (a.qr) (a.qj) (a.qg) (a.qs) (a.qh) (a.qn) (a.qu) (a.qw) (a.qH) (a.qF) (a.qc) (a.ql) (a.qf) (a.k) (a.n) (v.pf) (v.pn) (v.pr) (v.wi) (v.M) (v.hf) (v.lim) (v.nt) (v.lt) (v.nb) (v.su) (v.wt) (v.ch) (v.le) (v.fl) (v.ep) (a.L) (a.hh) (a.ff) (v.rw) (q) (w) (hst) (hk) (hn) (hhL) (ffL) (hT2) (by omega) (fun h9 => hw ⟨h9.1, i_lt3 h9.2⟩))⟩⟩⟩
  · exact ⟨_, 0, _, lz, ⟨_, by decide, (c_M_message_1 l D cI cZ cQ (b.qm) (b.mp) (b.mt) (b.ml) (b.mc) (b.mf) (b.me) (b.mg) (b.mh) (b.mu) (a.k) (a.n) (m.pn) (m.nx) (m.cd) (m.ep) (m.M) (m.wi) (m.jb) (m.fp) (m.tf) (m.tt) (m.fi) (m.ln) (m.bx) (m.pr) (m.tk) (m.le) (m.co) (m.fr) (m.em) (m.nb) (m.su) (j) (w) (hk9) (hn9) (hjx))⟩, h.cd 1, Or.inr ⟨_, List.mem_of_getElem? (i := 0) rfl, rfl, ⟨_, by decide, (c_V_message_x1 l D cI cZ cQ (a.qv) (a.qp) (a.qr) (a.qj) (a.qg) (a.qs) (a.qh) (a.qn) (a.qu) (a.qw) (a.qH) (a.qF) (a.qc) (a.ql) (a.qf) (a.k) (a.n) (v.pf) (v.pn) (v.pr) (v.wi) (v.M) (v.hf) (v.lim) (v.nt) (v.lt) (v.nb) (v.su) (v.wt) (v.ch) (v.le) (v.fl) (v.ep) (a.L) (a.hh) (a.ff) (v.rw) (j) (w) (hst) (hk) (hn) (hhL) (ffL) (hT2) (fun h9 => hjx (msg_in hTm2 (by rw [← h.T]; exact h9))))⟩⟩⟩
theorem op_empty {l : Launch} {D : va_G} {cI cZ cQ : ClassId} {a : VA} {b : MA} {lz : Nat → Nat} {c : Nat} {v : VS} {m : MS} (hst : l.stackTraces = false) (ga : geo a.k a.n a.hh a.ff) (hhL : ∀ i, i < a.n + 1 → a.hh i ∈ a.L) (ffL : ∀ i, i < a.n + 1 → a.ff i ∈ a.L) (h : inv a.k a.n a.hh lz c v m) (hc : c ≤ 512) (z : Int32) : ∃ (m' : MS) (r9 : Int32) (v' : VS) (lz' : Nat → Nat), okM l D cI cZ cQ a b y_M_empty b_M_empty 2 .int [.ref b.qm, .int z] m r9 m' ∧ inv a.k a.n a.hh lz' (c + 1) v' m' ∧ ((m'.cd = 0 ∧ okV l D cI cZ cQ a y_V_empty b_V_empty 2 .int [.ref a.qv, .int z] v r9 v') ∨ ∃ q ∈ ([("java/lang/IllegalArgumentException", 1), ("java/lang/IllegalStateException", 2)] : List (String × Int32)), m'.cd = q.2 ∧ thV l D cI cZ cQ a y_V_empty b_V_empty 2 (some .int) [.ref a.qv, .int z] v q.1 v') := by
  have hn9 := ga.n9
  have hkn := ga.kn
  have hk2 := ga.k2
  have hk : a.k < 2 ^ 20 := by omega
  have hn : a.n < 2 ^ 20 := by omega
  have hk9 : a.k ≤ 9 := by omega
  have hk1 : 1 ≤ a.k := by omega
  have hTc := h.Tc
  have hT : v.M.1 + 6000 < 2 ^ 31 := by omega
  have hTm : m.M.1 + 6000 < 2 ^ 31 := by rw [← h.T]; exact hT
  have hj := h.jb0
  by_cases hbx : 1 ≤ z ∧ z ≤ nI a.n
  · obtain ⟨x, hx1, hxn, rfl⟩ := st_of (a := 1) (b := a.n) (by omega) (by omega) hbx.1 hbx.2
    have hfe := h.fe x hx1 hxn
    have hsf := fe_s h.fe a.n (Nat.le_refl _)
    by_cases hfl : v.fl x = 0
    · exact ⟨_, 0, _, lz, ⟨_, by decide, (c_M_empty_2 l D cI cZ cQ (b.qm) (b.mp) (b.mt) (b.ml) (b.mc) (b.mf) (b.me) (b.mg) (b.mh) (b.mu) (a.k) (a.n) (m.pn) (m.nx) (m.cd) (m.ep) (m.M) (m.wi) (m.jb) (m.fp) (m.tf) (m.tt) (m.fi) (m.ln) (m.bx) (m.pr) (m.tk) (m.le) (m.co) (m.fr) (m.em) (m.nb) (m.su) (x) (hk9) (hn9) (hx1) (hxn) (Or.inl (hfe.mp hfl)))⟩, h.cd 2, Or.inr ⟨_, List.mem_of_getElem? (i := 1) rfl, rfl, ⟨_, by decide, (c_V_empty_x2 l D cI cZ cQ (a.qv) (a.qp) (a.qr) (a.qj) (a.qg) (a.qs) (a.qh) (a.qn) (a.qu) (a.qw) (a.qH) (a.qF) (a.qc) (a.ql) (a.qf) (a.k) (a.n) (v.pf) (v.pn) (v.pr) (v.wi) (v.M) (v.hf) (v.lim) (v.nt) (v.lt) (v.nb) (v.su) (v.wt) (v.ch) (v.le) (v.fl) (v.ep) (a.L) (a.hh) (a.ff) (v.rw) (x) (hst) (hk) (hn) (hhL) (ffL) (hx1) (hxn) (hfl))⟩⟩⟩
    · have hs1 : 1 ≤ sm_f v.fl a.n := sm_f_pos hfl hx1 hxn
      by_cases hk3 : sm_f v.fl a.n - 1 < a.k
      · exact ⟨_, 0, _, lz, ⟨_, by decide, (c_M_empty_2 l D cI cZ cQ (b.qm) (b.mp) (b.mt) (b.ml) (b.mc) (b.mf) (b.me) (b.mg) (b.mh) (b.mu) (a.k) (a.n) (m.pn) (m.nx) (m.cd) (m.ep) (m.M) (m.wi) (m.jb) (m.fp) (m.tf) (m.tt) (m.fi) (m.ln) (m.bx) (m.pr) (m.tk) (m.le) (m.co) (m.fr) (m.em) (m.nb) (m.su) (x) (hk9) (hn9) (hx1) (hxn) (Or.inr (Or.inl (by rw [← hsf]; omega))))⟩, h.cd 2, Or.inr ⟨_, List.mem_of_getElem? (i := 1) rfl, rfl, ⟨_, by decide, (c_V_empty_x3 l D cI cZ cQ (a.qv) (a.qp) (a.qr) (a.qj) (a.qg) (a.qs) (a.qh) (a.qn) (a.qu) (a.qw) (a.qH) (a.qF) (a.qc) (a.ql) (a.qf) (a.k) (a.n) (v.pf) (v.pn) (v.pr) (v.wi) (v.M) (v.hf) (v.lim) (v.nt) (v.lt) (v.nb) (v.su) (v.wt) (v.ch) (v.le) (v.fl) (v.ep) (a.L) (a.hh) (a.ff) (v.rw) (x) (hst) (hk) (hn) (hhL) (ffL) (hx1) (hxn) (hfl) (hs1) (hk3))⟩⟩⟩
      · by_cases hs : m.jb = 0
        · refine ⟨_, nI (sm_e (upd m.em x 1) a.n), _, lz, ⟨_, by decide, (c_M_empty_0 l D cI cZ cQ (b.qm) (b.mp) (b.mt) (b.ml) (b.mc) (b.mf) (b.me) (b.mg) (b.mh) (b.mu) (a.k) (a.n) (m.pn) (m.nx) (m.cd) (m.ep) (m.M) (m.wi) (m.jb) (m.fp) (m.tf) (m.tt) (m.fi) (m.ln) (m.bx) (m.pr) (m.tk) (m.le) (m.co) (m.fr) (m.em) (m.nb) (m.su) (x) (hk9) (hn9) (hx1) (hxn) (Decidable.not_not.mp (fun h9 => hfl (hfe.mpr h9))) (by rw [← hsf]; omega) (hj.2.mpr hs))⟩, h.emptied ga hx1 hxn, Or.inl ⟨rfl, ?_⟩⟩
          rw [show sm_e (upd m.em x 1) a.n = sm_f (upd v.fl x 0) a.n from (fe_s (h.emptied ga hx1 hxn).fe a.n (Nat.le_refl _)).symm]
          exact ⟨_, by decide, (c_V_empty_y l D cI cZ cQ (a.qv) (a.qp) (a.qr) (a.qj) (a.qg) (a.qs) (a.qh) (a.qn) (a.qu) (a.qw) (a.qH) (a.qF) (a.qc) (a.ql) (a.qf) (a.k) (a.n) (v.pf) (v.pn) (v.pr) (v.wi) (v.M) (v.hf) (v.lim) (v.nt) (v.lt) (v.nb) (v.su) (v.wt) (v.ch) (v.le) (v.fl) (v.ep) (a.L) (a.hh) (a.ff) (v.rw) (x) (hk) (hn) (hhL) (ffL) (hx1) (hxn) (hfl) (hs1) (by omega) (hj.1.mpr hs))⟩
        · exact ⟨_, 0, _, lz, ⟨_, by decide, (c_M_empty_2 l D cI cZ cQ (b.qm) (b.mp) (b.mt) (b.ml) (b.mc) (b.mf) (b.me) (b.mg) (b.mh) (b.mu) (a.k) (a.n) (m.pn) (m.nx) (m.cd) (m.ep) (m.M) (m.wi) (m.jb) (m.fp) (m.tf) (m.tt) (m.fi) (m.ln) (m.bx) (m.pr) (m.tk) (m.le) (m.co) (m.fr) (m.em) (m.nb) (m.su) (x) (hk9) (hn9) (hx1) (hxn) (Or.inr (Or.inr (fun h9 => hs (hj.2.mp h9)))))⟩, h.cd 2, Or.inr ⟨_, List.mem_of_getElem? (i := 1) rfl, rfl, ⟨_, by decide, (c_V_empty_x4 l D cI cZ cQ (a.qv) (a.qp) (a.qr) (a.qj) (a.qg) (a.qs) (a.qh) (a.qn) (a.qu) (a.qw) (a.qH) (a.qF) (a.qc) (a.ql) (a.qf) (a.k) (a.n) (v.pf) (v.pn) (v.pr) (v.wi) (v.M) (v.hf) (v.lim) (v.nt) (v.lt) (v.nb) (v.su) (v.wt) (v.ch) (v.le) (v.fl) (v.ep) (a.L) (a.hh) (a.ff) (v.rw) (x) (hst) (hk) (hn) (hhL) (ffL) (hx1) (hxn) (hfl) (hs1) (by omega) (fun h9 => hs (hj.1.mp h9)))⟩⟩⟩
  · exact ⟨_, 0, _, lz, ⟨_, by decide, (c_M_empty_1 l D cI cZ cQ (b.qm) (b.mp) (b.mt) (b.ml) (b.mc) (b.mf) (b.me) (b.mg) (b.mh) (b.mu) (a.k) (a.n) (m.pn) (m.nx) (m.cd) (m.ep) (m.M) (m.wi) (m.jb) (m.fp) (m.tf) (m.tt) (m.fi) (m.ln) (m.bx) (m.pr) (m.tk) (m.le) (m.co) (m.fr) (m.em) (m.nb) (m.su) (z) (hk9) (hn9) (hbx))⟩, h.cd 1, Or.inr ⟨_, List.mem_of_getElem? (i := 0) rfl, rfl, ⟨_, by decide, (c_V_empty_x1 l D cI cZ cQ (a.qv) (a.qp) (a.qr) (a.qj) (a.qg) (a.qs) (a.qh) (a.qn) (a.qu) (a.qw) (a.qH) (a.qF) (a.qc) (a.ql) (a.qf) (a.k) (a.n) (v.pf) (v.pn) (v.pr) (v.wi) (v.M) (v.hf) (v.lim) (v.nt) (v.lt) (v.nb) (v.su) (v.wt) (v.ch) (v.le) (v.fl) (v.ep) (a.L) (a.hh) (a.ff) (v.rw) (z) (hst) (hk) (hn) (hhL) (ffL) (hbx))⟩⟩⟩
theorem op_share {l : Launch} {D : va_G} {cI cZ cQ : ClassId} {a : VA} {b : MA} {lz : Nat → Nat} {c : Nat} {v : VS} {m : MS} (hst : l.stackTraces = false) (ga : geo a.k a.n a.hh a.ff) (hhL : ∀ i, i < a.n + 1 → a.hh i ∈ a.L) (ffL : ∀ i, i < a.n + 1 → a.ff i ∈ a.L) (h : inv a.k a.n a.hh lz c v m) (hc : c ≤ 512) (z : Int32) (f : Int32) (y : Int32) : ∃ (m' : MS) (r9 : Int32) (v' : VS) (lz' : Nat → Nat), okM l D cI cZ cQ a b y_M_share b_M_share 4 .int [.ref b.qm, .int z, .int f, .int y] m r9 m' ∧ inv a.k a.n a.hh lz' (c + 1) v' m' ∧ ((m'.cd = 0 ∧ okV l D cI cZ cQ a y_V_share b_V_share 4 .int [.ref a.qv, .int z, .int f, .int y] v r9 v') ∨ ∃ q ∈ ([("java/lang/IllegalArgumentException", 1), ("java/util/NoSuchElementException", 2), ("java/lang/IndexOutOfBoundsException", 3)] : List (String × Int32)), m'.cd = q.2 ∧ thV l D cI cZ cQ a y_V_share b_V_share 4 (some .int) [.ref a.qv, .int z, .int f, .int y] v q.1 v') := by
  have hn9 := ga.n9
  have hkn := ga.kn
  have hk2 := ga.k2
  have hk : a.k < 2 ^ 20 := by omega
  have hn : a.n < 2 ^ 20 := by omega
  have hk9 : a.k ≤ 9 := by omega
  have hk1 : 1 ≤ a.k := by omega
  have hTc := h.Tc
  have hT : v.M.1 + 6000 < 2 ^ 31 := by omega
  have hTm : m.M.1 + 6000 < 2 ^ 31 := by rw [← h.T]; exact hT
  have hj := h.jb0
  by_cases hbx : 1 ≤ z ∧ z ≤ nI a.n
  · obtain ⟨x, hx1, hxn, rfl⟩ := st_of (a := 1) (b := a.n) (by omega) (by omega) hbx.1 hbx.2
    have hfe := h.fe x hx1 hxn
    by_cases hfx : 0 ≤ f ∧ f ≤ 7
    · obtain ⟨f, f1, f2, rfl⟩ := st_of (a := 0) (b := 7) (by omega) (by omega) hfx.1 hfx.2
      have hf8 : f < 8 := by omega
      have hl8 := h.l8 f hf8
      have hlv := h.lv f hf8
      have hlm := h.lm f hf8
      by_cases hl0 : lz f = 0
      · exact ⟨_, 0, _, lz, ⟨_, by decide, (c_M_share_2 l D cI cZ cQ (b.qm) (b.mp) (b.mt) (b.ml) (b.mc) (b.mf) (b.me) (b.mg) (b.mh) (b.mu) (a.k) (a.n) (m.pn) (m.nx) (m.cd) (m.ep) (m.M) (m.wi) (m.jb) (m.fp) (m.tf) (m.tt) (m.fi) (m.ln) (m.bx) (m.pr) (m.tk) (m.le) (m.co) (m.fr) (m.em) (m.nb) (m.su) (x) (f) (y) (hk9) (hn9) (hx1) (hxn) (hf8) (by rw [hlm, hl0]; rfl))⟩, h.cd 2, Or.inr ⟨_, List.mem_of_getElem? (i := 1) rfl, rfl, ⟨_, by decide, (c_V_share_x3 l D cI cZ cQ (a.qv) (a.qp) (a.qr) (a.qj) (a.qg) (a.qs) (a.qh) (a.qn) (a.qu) (a.qw) (a.qH) (a.qF) (a.qc) (a.ql) (a.qf) (a.k) (a.n) (v.pf) (v.pn) (v.pr) (v.wi) (v.M) (v.hf) (v.lim) (v.nt) (v.lt) (v.nb) (v.su) (v.wt) (v.ch) (v.le) (v.fl) (v.ep) (a.L) (a.hh) (a.ff) (v.rw) (x) (f) (y) (hst) (hk) (hn) (hhL) (ffL) (hx1) (hxn) (hf8) (by rw [hlv, hl0]; rfl))⟩⟩⟩
      · have hlv0 : ¬ v.le f = 0 := by rw [hlv]; exact nI_ne0 (by omega) (by omega)
        have hlm0 : ¬ m.le f = 0 := by rw [hlm]; exact nI_ne0 (by omega) (by omega)
        by_cases hy : 0 ≤ y ∧ y < nI (lz f)
        · obtain ⟨q, hq, rfl⟩ := nI_of (Int32.not_lt.mpr hy.1)
          have hql : q < lz f := (nI_ltI (by omega) (by omega)).mp hy.2
          by_cases hfl : v.fl x = 0
          · exact ⟨_, (-1), _, lz, ⟨_, by decide, (c_M_share_0e l D cI cZ cQ (b.qm) (b.mp) (b.mt) (b.ml) (b.mc) (b.mf) (b.me) (b.mg) (b.mh) (b.mu) (a.k) (a.n) (m.pn) (m.nx) (m.cd) (m.ep) (m.M) (m.wi) (m.jb) (m.fp) (m.tf) (m.tt) (m.fi) (m.ln) (m.bx) (m.pr) (m.tk) (m.le) (m.co) (m.fr) (m.em) (m.nb) (m.su) (x) (f) (q) (hk9) (hn9) (hx1) (hxn) (hf8) (hlm0) (by omega) (by rw [hlm]; exact hy.2) (hfe.mp hfl))⟩, h.cd 0, Or.inl ⟨rfl, ⟨_, by decide, (c_V_share_e l D cI cZ cQ (a.qv) (a.qp) (a.qr) (a.qj) (a.qg) (a.qs) (a.qh) (a.qn) (a.qu) (a.qw) (a.qH) (a.qF) (a.qc) (a.ql) (a.qf) (a.k) (a.n) (v.pf) (v.pn) (v.pr) (v.wi) (v.M) (v.hf) (v.lim) (v.nt) (v.lt) (v.nb) (v.su) (v.wt) (v.ch) (v.le) (v.fl) (v.ep) (a.L) (a.hh) (a.ff) (v.rw) (x) (f) (q) (lz f) (hk) (hn) (hhL) (ffL) (hx1) (hxn) (hf8) (hlv0) (hlv) (hql) (hl8) (hfl))⟩⟩⟩
          · refine ⟨_, bI (hv m.co (9 * (8 * f + q)) a.k x), _, lz, ⟨_, by decide, (c_M_share_0v l D cI cZ cQ (b.qm) (b.mp) (b.mt) (b.ml) (b.mc) (b.mf) (b.me) (b.mg) (b.mh) (b.mu) (a.k) (a.n) (m.pn) (m.nx) (m.cd) (m.ep) (m.M) (m.wi) (m.jb) (m.fp) (m.tf) (m.tt) (m.fi) (m.ln) (m.bx) (m.pr) (m.tk) (m.le) (m.co) (m.fr) (m.em) (m.nb) (m.su) (x) (f) (q) ((fun j => by_ (m.co (9 * (8 * f + q) + j)))) (hk9) (hn9) (hx1) (hxn) (hf8) (hlm0) (by omega) (by rw [hlm]; exact hy.2) (Decidable.not_not.mp (fun h9 => hfl (hfe.mpr h9))) (fun j _ => h.co _))⟩, h.cd 0, Or.inl ⟨rfl, ?_⟩⟩
            have hV := (c_V_share_v l D cI cZ cQ (a.qv) (a.qp) (a.qr) (a.qj) (a.qg) (a.qs) (a.qh) (a.qn) (a.qu) (a.qw) (a.qH) (a.qF) (a.qc) (a.ql) (a.qf) (a.k) (a.n) (v.pf) (v.pn) (v.pr) (v.wi) (v.M) (v.hf) (v.lim) (v.nt) (v.lt) (v.nb) (v.su) (v.wt) (v.ch) (v.le) (v.fl) (v.ep) (a.L) (a.hh) (a.ff) (v.rw) (x) (f) (q) (lz f) (hk) (hn) (hhL) (ffL) (hx1) (hxn) (hf8) (hlv0) (hlv) (hql) (hl8) (hfl))
            rw [h.sh f q x hf8 hql hx1 hxn hfl, show 9 * (f * 8 + q) = 9 * (8 * f + q) by omega] at hV
            exact ⟨_, by decide, hV⟩
        · exact ⟨_, 0, _, lz, ⟨_, by decide, (c_M_share_3 l D cI cZ cQ (b.qm) (b.mp) (b.mt) (b.ml) (b.mc) (b.mf) (b.me) (b.mg) (b.mh) (b.mu) (a.k) (a.n) (m.pn) (m.nx) (m.cd) (m.ep) (m.M) (m.wi) (m.jb) (m.fp) (m.tf) (m.tt) (m.fi) (m.ln) (m.bx) (m.pr) (m.tk) (m.le) (m.co) (m.fr) (m.em) (m.nb) (m.su) (x) (f) (y) (hk9) (hn9) (hx1) (hxn) (hf8) (hlm0) (by rw [hlm]; exact hy))⟩, h.cd 3, Or.inr ⟨_, List.mem_of_getElem? (i := 2) rfl, rfl, ⟨_, by decide, (c_V_share_x4 l D cI cZ cQ (a.qv) (a.qp) (a.qr) (a.qj) (a.qg) (a.qs) (a.qh) (a.qn) (a.qu) (a.qw) (a.qH) (a.qF) (a.qc) (a.ql) (a.qf) (a.k) (a.n) (v.pf) (v.pn) (v.pr) (v.wi) (v.M) (v.hf) (v.lim) (v.nt) (v.lt) (v.nb) (v.su) (v.wt) (v.ch) (v.le) (v.fl) (v.ep) (a.L) (a.hh) (a.ff) (v.rw) (x) (f) (y) (hst) (hk) (hn) (hhL) (ffL) (hx1) (hxn) (hf8) (hlv0) (by rw [hlv]; exact hy))⟩⟩⟩
    · exact ⟨_, 0, _, lz, ⟨_, by decide, (c_M_share_1b l D cI cZ cQ (b.qm) (b.mp) (b.mt) (b.ml) (b.mc) (b.mf) (b.me) (b.mg) (b.mh) (b.mu) (a.k) (a.n) (m.pn) (m.nx) (m.cd) (m.ep) (m.M) (m.wi) (m.jb) (m.fp) (m.tf) (m.tt) (m.fi) (m.ln) (m.bx) (m.pr) (m.tk) (m.le) (m.co) (m.fr) (m.em) (m.nb) (m.su) (nI x) (f) (y) (hk9) (hn9) (hbx) (hfx))⟩, h.cd 1, Or.inr ⟨_, List.mem_of_getElem? (i := 0) rfl, rfl, ⟨_, by decide, (c_V_share_x2 l D cI cZ cQ (a.qv) (a.qp) (a.qr) (a.qj) (a.qg) (a.qs) (a.qh) (a.qn) (a.qu) (a.qw) (a.qH) (a.qF) (a.qc) (a.ql) (a.qf) (a.k) (a.n) (v.pf) (v.pn) (v.pr) (v.wi) (v.M) (v.hf) (v.lim) (v.nt) (v.lt) (v.nb) (v.su) (v.wt) (v.ch) (v.le) (v.fl) (v.ep) (a.L) (a.hh) (a.ff) (v.rw) (x) (f) (y) (hst) (hk) (hn) (hhL) (ffL) (hx1) (hxn) (hfx))⟩⟩⟩
  · exact ⟨_, 0, _, lz, ⟨_, by decide, (c_M_share_1a l D cI cZ cQ (b.qm) (b.mp) (b.mt) (b.ml) (b.mc) (b.mf) (b.me) (b.mg) (b.mh) (b.mu) (a.k) (a.n) (m.pn) (m.nx) (m.cd) (m.ep) (m.M) (m.wi) (m.jb) (m.fp) (m.tf) (m.tt) (m.fi) (m.ln) (m.bx) (m.pr) (m.tk) (m.le) (m.co) (m.fr) (m.em) (m.nb) (m.su) (z) (f) (y) (hk9) (hn9) (hbx))⟩, h.cd 1, Or.inr ⟨_, List.mem_of_getElem? (i := 0) rfl, rfl, ⟨_, by decide, (c_V_share_x1 l D cI cZ cQ (a.qv) (a.qp) (a.qr) (a.qj) (a.qg) (a.qs) (a.qh) (a.qn) (a.qu) (a.qw) (a.qH) (a.qF) (a.qc) (a.ql) (a.qf) (a.k) (a.n) (v.pf) (v.pn) (v.pr) (v.wi) (v.M) (v.hf) (v.lim) (v.nt) (v.lt) (v.nb) (v.su) (v.wt) (v.ch) (v.le) (v.fl) (v.ep) (a.L) (a.hh) (a.ff) (v.rw) (z) (f) (y) (hst) (hk) (hn) (hhL) (ffL) (hbx))⟩⟩⟩
theorem op_restore {l : Launch} {D : va_G} {cI cZ cQ : ClassId} {a : VA} {b : MA} {lz : Nat → Nat} {c : Nat} {v : VS} {m : MS} (hst : l.stackTraces = false) (ga : geo a.k a.n a.hh a.ff) (hhL : ∀ i, i < a.n + 1 → a.hh i ∈ a.L) (ffL : ∀ i, i < a.n + 1 → a.ff i ∈ a.L) (h : inv a.k a.n a.hh lz c v m) (hc : c ≤ 512) (f : Int32) (mk : Int32) : ∃ (m' : MS) (r9 : Int64) (v' : VS) (lz' : Nat → Nat), okN l D cI cZ cQ a b y_M_restore b_M_restore 6 [.ref b.qm, .int f, .int mk] m r9 m' ∧ inv a.k a.n a.hh lz' (c + 1) v' m' ∧ ((m'.cd = 0 ∧ okJ l D cI cZ cQ a y_V_restore b_V_restore 6 [.ref a.qv, .int f, .int mk] v r9 v') ∨ ∃ q ∈ ([("java/lang/IllegalArgumentException", 1), ("java/util/NoSuchElementException", 2), ("java/lang/IllegalStateException", 3)] : List (String × Int32)), m'.cd = q.2 ∧ thV l D cI cZ cQ a y_V_restore b_V_restore 6 (some .long) [.ref a.qv, .int f, .int mk] v q.1 v') := by
  have hn9 := ga.n9
  have hkn := ga.kn
  have hk2 := ga.k2
  have hk : a.k < 2 ^ 20 := by omega
  have hn : a.n < 2 ^ 20 := by omega
  have hk9 : a.k ≤ 9 := by omega
  have hk1 : 1 ≤ a.k := by omega
  have hTc := h.Tc
  have hT : v.M.1 + 6000 < 2 ^ 31 := by omega
  have hTm : m.M.1 + 6000 < 2 ^ 31 := by rw [← h.T]; exact hT
  have hj := h.jb0
  by_cases hfx : 0 ≤ f ∧ f ≤ 7
  · obtain ⟨f, f1, f2, rfl⟩ := st_of (a := 0) (b := 7) (by omega) (by omega) hfx.1 hfx.2
    have hf8 : f < 8 := by omega
    have hl8 := h.l8 f hf8
    have hlv := h.lv f hf8
    have hlm := h.lm f hf8
    by_cases hl0 : lz f = 0
    · exact ⟨_, 0, _, lz, ⟨_, by decide, (c_M_restore_2 l D cI cZ cQ (b.qm) (b.mp) (b.mt) (b.ml) (b.mc) (b.mf) (b.me) (b.mg) (b.mh) (b.mu) (a.k) (a.n) (m.pn) (m.nx) (m.cd) (m.ep) (m.M) (m.wi) (m.jb) (m.fp) (m.tf) (m.tt) (m.fi) (m.ln) (m.bx) (m.pr) (m.tk) (m.le) (m.co) (m.fr) (m.em) (m.nb) (m.su) (f) (mk) (hk9) (hn9) (hf8) (by rw [hlm, hl0]; rfl))⟩, h.cd 2, Or.inr ⟨_, List.mem_of_getElem? (i := 1) rfl, rfl, ⟨_, by decide, (c_V_restore_x2 l D cI cZ cQ (a.qv) (a.qp) (a.qr) (a.qj) (a.qg) (a.qs) (a.qh) (a.qn) (a.qu) (a.qw) (a.qH) (a.qF) (a.qc) (a.ql) (a.qf) (a.k) (a.n) (v.pf) (v.pn) (v.pr) (v.wi) (v.M) (v.hf) (v.lim) (v.nt) (v.lt) (v.nb) (v.su) (v.wt) (v.ch) (v.le) (v.fl) (v.ep) (a.L) (a.hh) (a.ff) (v.rw) (f) (mk) (hst) (hk) (hn) (hhL) (ffL) (hf8) (by rw [hlv, hl0]; rfl))⟩⟩⟩
    · have hlv0 : ¬ v.le f = 0 := by rw [hlv]; exact nI_ne0 (by omega) (by omega)
      have hlm0 : ¬ m.le f = 0 := by rw [hlm]; exact nI_ne0 (by omega) (by omega)
      have hce := ck_e hn9 h.fe mk a.k v.nb
      by_cases hs : sm_s m.em mk a.n < a.k
      · exact ⟨_, 0, _, lz, ⟨_, by decide, (c_M_restore_3 l D cI cZ cQ (b.qm) (b.mp) (b.mt) (b.ml) (b.mc) (b.mf) (b.me) (b.mg) (b.mh) (b.mu) (a.k) (a.n) (m.pn) (m.nx) (m.cd) (m.ep) (m.M) (m.wi) (m.jb) (m.fp) (m.tf) (m.tt) (m.fi) (m.ln) (m.bx) (m.pr) (m.tk) (m.le) (m.co) (m.fr) (m.em) (m.nb) (m.su) (f) (mk) (hk9) (hn9) (hf8) (hlm0) (hs))⟩, (h.nb (ch_f v.fl mk a.k a.n 1 (0, v.nb)).2 v.wt).cd 3, Or.inr ⟨_, List.mem_of_getElem? (i := 2) rfl, rfl, ⟨_, by decide, (c_V_restore_x3 l D cI cZ cQ (a.qv) (a.qp) (a.qr) (a.qj) (a.qg) (a.qs) (a.qh) (a.qn) (a.qu) (a.qw) (a.qH) (a.qF) (a.qc) (a.ql) (a.qf) (a.k) (a.n) (v.pf) (v.pn) (v.pr) (v.wi) (v.M) (v.hf) (v.lim) (v.nt) (v.lt) (v.nb) (v.su) (v.wt) (v.ch) (v.le) (v.fl) (v.ep) (a.L) (a.hh) (a.ff) (v.rw) (f) (mk) (hst) (hk) (hn) (hhL) (ffL) (hf8) (hlv0) (fun h9 => hce.mp h9 hs))⟩⟩⟩
      · obtain ⟨xs, sb, wb, x1, x2, x3, x4, x5⟩ := h.restored ga mk hf8 (hce.mpr hs)
        refine ⟨_, rs_f m.co f (lz f), _, lz, ⟨_, by decide, (c_M_restore_0 l D cI cZ cQ (b.qm) (b.mp) (b.mt) (b.ml) (b.mc) (b.mf) (b.me) (b.mg) (b.mh) (b.mu) (a.k) (a.n) (m.pn) (m.nx) (m.cd) (m.ep) (m.M) (m.wi) (m.jb) (m.fp) (m.tf) (m.tt) (m.fi) (m.ln) (m.bx) (m.pr) (m.tk) (m.le) (m.co) (m.fr) (m.em) (m.nb) (m.su) (f) (mk) (lz f) (hk9) (hn9) (hf8) (hlm) (by omega) (hl8) (by omega))⟩, (h.nb (ch_f v.fl mk a.k a.n 1 (0, v.nb)).2 (wg_f (fun j => BitVec.ofNat 8 (xs j)) a.k 0#8 v.wt a.k)).cd 0, Or.inl ⟨rfl, ?_⟩⟩
        rw [← x5]
        exact ⟨_, by decide, (c_V_restore_y l D cI cZ cQ (a.qv) (a.qp) (a.qr) (a.qj) (a.qg) (a.qs) (a.qh) (a.qn) (a.qu) (a.qw) (a.qH) (a.qF) (a.qc) (a.ql) (a.qf) (a.k) (a.n) (v.pf) (v.pn) (v.pr) (v.wi) (v.M) (v.hf) (v.lim) (v.nt) (v.lt) (v.nb) (v.su) (v.wt) (v.ch) (v.le) (v.fl) (v.ep) (a.L) (a.hh) (a.ff) (v.rw) (f) (mk) (lz f) (xs) (sb) (wb) (hk) (hn) (hhL) (ffL) (hf8) (hlv0) (hlv) (by omega) (hl8) (hn9) (hce.mpr hs) (x1) (x2) (x3) (x4))⟩
  · exact ⟨_, 0, _, lz, ⟨_, by decide, (c_M_restore_1 l D cI cZ cQ (b.qm) (b.mp) (b.mt) (b.ml) (b.mc) (b.mf) (b.me) (b.mg) (b.mh) (b.mu) (a.k) (a.n) (m.pn) (m.nx) (m.cd) (m.ep) (m.M) (m.wi) (m.jb) (m.fp) (m.tf) (m.tt) (m.fi) (m.ln) (m.bx) (m.pr) (m.tk) (m.le) (m.co) (m.fr) (m.em) (m.nb) (m.su) (f) (mk) (hk9) (hn9) (hfx))⟩, h.cd 1, Or.inr ⟨_, List.mem_of_getElem? (i := 0) rfl, rfl, ⟨_, by decide, (c_V_restore_x1 l D cI cZ cQ (a.qv) (a.qp) (a.qr) (a.qj) (a.qg) (a.qs) (a.qh) (a.qn) (a.qu) (a.qw) (a.qH) (a.qF) (a.qc) (a.ql) (a.qf) (a.k) (a.n) (v.pf) (v.pn) (v.pr) (v.wi) (v.M) (v.hf) (v.lim) (v.nt) (v.lt) (v.nb) (v.su) (v.wt) (v.ch) (v.le) (v.fl) (v.ep) (a.L) (a.hh) (a.ff) (v.rw) (f) (mk) (hst) (hk) (hn) (hhL) (ffL) (hfx))⟩⟩⟩
