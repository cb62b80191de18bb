/-! the two states as worlds; what a call answers -/
def VA : Type := (Nat) × (Nat) × (Nat) × (Nat) × (Nat) × (Nat) × (Nat) × (Nat) × (Nat) × (Nat) × (Nat) × (Nat) × (Nat) × (Nat) × (Nat) × (Nat) × (Nat) × (List Nat) × (Nat → Nat) × (Nat → Nat)
def VA.qv (r : VA) : Nat := r.1
def VA.qp (r : VA) : Nat := r.2.1
def VA.qr (r : VA) : Nat := r.2.2.1
def VA.qj (r : VA) : Nat := r.2.2.2.1
def VA.qg (r : VA) : Nat := r.2.2.2.2.1
def VA.qs (r : VA) : Nat := r.2.2.2.2.2.1
def VA.qh (r : VA) : Nat := r.2.2.2.2.2.2.1
def VA.qn (r : VA) : Nat := r.2.2.2.2.2.2.2.1
def VA.qu (r : VA) : Nat := r.2.2.2.2.2.2.2.2.1
def VA.qw (r : VA) : Nat := r.2.2.2.2.2.2.2.2.2.1
def VA.qH (r : VA) : Nat := r.2.2.2.2.2.2.2.2.2.2.1
def VA.qF (r : VA) : Nat := r.2.2.2.2.2.2.2.2.2.2.2.1
def VA.qc (r : VA) : Nat := r.2.2.2.2.2.2.2.2.2.2.2.2.1
def VA.ql (r : VA) : Nat := r.2.2.2.2.2.2.2.2.2.2.2.2.2.1
def VA.qf (r : VA) : Nat := r.2.2.2.2.2.2.2.2.2.2.2.2.2.2.1
def VA.k (r : VA) : Nat := r.2.2.2.2.2.2.2.2.2.2.2.2.2.2.2.1
def VA.n (r : VA) : Nat := r.2.2.2.2.2.2.2.2.2.2.2.2.2.2.2.2.1
def VA.L (r : VA) : List Nat := r.2.2.2.2.2.2.2.2.2.2.2.2.2.2.2.2.2.1
def VA.hh (r : VA) : Nat → Nat := r.2.2.2.2.2.2.2.2.2.2.2.2.2.2.2.2.2.2.1
def VA.ff (r : VA) : Nat → Nat := r.2.2.2.2.2.2.2.2.2.2.2.2.2.2.2.2.2.2.2
def VA.mk (qv : Nat) (qp : Nat) (qr : Nat) (qj : Nat) (qg : Nat) (qs : Nat) (qh : Nat) (qn : Nat) (qu : Nat) (qw : Nat) (qH : Nat) (qF : Nat) (qc : Nat) (ql : Nat) (qf : Nat) (k : Nat) (n : Nat) (L : List Nat) (hh : Nat → Nat) (ff : Nat → Nat) : VA := (qv, qp, qr, qj, qg, qs, qh, qn, qu, qw, qH, qF, qc, ql, qf, k, n, L, hh, ff)
def MA : Type := (Nat) × (Nat) × (Nat) × (Nat) × (Nat) × (Nat) × (Nat) × (Nat) × (Nat) × (Nat)
def MA.qm (r : MA) : Nat := r.1
def MA.mp (r : MA) : Nat := r.2.1
def MA.mt (r : MA) : Nat := r.2.2.1
def MA.ml (r : MA) : Nat := r.2.2.2.1
def MA.mc (r : MA) : Nat := r.2.2.2.2.1
def MA.mf (r : MA) : Nat := r.2.2.2.2.2.1
def MA.me (r : MA) : Nat := r.2.2.2.2.2.2.1
def MA.mg (r : MA) : Nat := r.2.2.2.2.2.2.2.1
def MA.mh (r : MA) : Nat := r.2.2.2.2.2.2.2.2.1
def MA.mu (r : MA) : Nat := r.2.2.2.2.2.2.2.2.2
def MA.mk (qm : Nat) (mp : Nat) (mt : Nat) (ml : Nat) (mc : Nat) (mf : Nat) (me : Nat) (mg : Nat) (mh : Nat) (mu : Nat) : MA := (qm, mp, mt, ml, mc, mf, me, mg, mh, mu)
def vX (cI cZ cQ : ClassId) (a : VA) (v : VS) : va_W := ((vW cI cQ cZ a.qv a.qp a.qr a.qj a.qg a.qs a.qh a.qn a.qu a.qw a.qH a.qF a.qc a.ql a.qf (nI (a.k)) (nI (a.n)) (v.ep) (nI (v.pf)) (nI (v.pn)) (1000) (v.pr) (v.wi) (v.M.2.2.2) (v.hf) (nI v.M.2.2.1) (v.lim) (v.nt) (v.lt) (nI (v.M.1)) (192) (v.M.2.1) (a.k) (v.nb) (a.k) (v.su) (a.k) (v.wt) (a.n + 1) (fun i => if i < a.n + 1 then some (a.hh i) else none) (a.n + 1) (fun i => if i < a.n + 1 then some (a.ff i) else none) (a.k) (v.ch) (8) (v.le) (a.n + 1) (v.fl)) ++ va_pl a.L (rowE cI v.rw))
def mX (cI cZ : ClassId) (a : VA) (b : MA) (m : MS) : va_W := (mW cI cZ b.qm b.mp b.mt b.ml b.mc b.mf b.me b.mg b.mh b.mu (m.cd) (nI a.k) (nI a.n) (nI (m.pn)) (nI (m.nx)) (m.ep) (nI (m.M.1)) (m.M.2.2.1) (m.M.2.2.2) (m.wi) (m.jb) (m.fp) (m.tf) (m.tt) (m.fi) (m.ln) (m.bx) (1000) (m.pr) (1000) (m.tk) (8) (m.le) (576) (m.co) (576) (m.fr) (10) (m.em) (192) (m.M.2.1) (10) (m.nb) (10) (m.su))
/-- a room that suits every call -/
abbrev rb (r : Room) : Prop := r.frames ≤ 7 ∧ r.locals ≤ 120 ∧ r.cells ≤ 4 ∧ r.slots ≤ 40
def okV (l : Launch) (D : va_G) (cI cZ cQ : ClassId) (a : VA) (y : MethodName) (cc : ByteArray) (n : Nat) (ret : FieldType) (av : List Value) (v : VS) (r : Int32) (v' : VS) : Prop := ∃ rm : Room, rb rm ∧ sd_I l D (tyL cI cZ cQ) y cc n ret rm av (vX cI cZ cQ a v) r (vX cI cZ cQ a v')
def okJ (l : Launch) (D : va_G) (cI cZ cQ : ClassId) (a : VA) (y : MethodName) (cc : ByteArray) (n : Nat) (av : List Value) (v : VS) (r : Int64) (v' : VS) : Prop := ∃ rm : Room, rb rm ∧ sd_J l D (tyL cI cZ cQ) y cc n rm av (vX cI cZ cQ a v) r (vX cI cZ cQ a v')
def okU (l : Launch) (D : va_G) (cI cZ cQ : ClassId) (a : VA) (y : MethodName) (cc : ByteArray) (n : Nat) (av : List Value) (v : VS) (v' : VS) : Prop := ∃ rm : Room, rb rm ∧ sd_V l D (tyL cI cZ cQ) y cc n rm av (vX cI cZ cQ a v) (vX cI cZ cQ a v')
def thV (l : Launch) (D : va_G) (cI cZ cQ : ClassId) (a : VA) (y : MethodName) (cc : ByteArray) (n : Nat) (ret : Option FieldType) (av : List Value) (v : VS) (E : String) (v' : VS) : Prop := ∃ rm : Room, rb rm ∧ sd_X l D (tyL cI cZ cQ) y cc n ret rm av (vX cI cZ cQ a v) E (vX cI cZ cQ a v')
theorem okV.eq {l : Launch} {D : va_G} {cI cZ cQ : ClassId} {a : VA} {y : MethodName} {cc : ByteArray} {n : Nat} {ret : FieldType} {av : List Value} {v v' : VS} {r r' : Int32} (e : r = r') (h : okV l D cI cZ cQ a y cc n ret av v r v') : okV l D cI cZ cQ a y cc n ret av v r' v' := e ▸ h
def okM (l : Launch) (D : va_G) (cI cZ cQ : ClassId) (a : VA) (b : MA) (y : MethodName) (cc : ByteArray) (n : Nat) (ret : FieldType) (av : List Value) (m : MS) (r : Int32) (m' : MS) : Prop := ∃ rm : Room, rb rm ∧ sd_I l D (tyL cI cZ cQ) y cc n ret rm av (mX cI cZ a b m) r (mX cI cZ a b m')
def okN (l : Launch) (D : va_G) (cI cZ cQ : ClassId) (a : VA) (b : MA) (y : MethodName) (cc : ByteArray) (n : Nat) (av : List Value) (m : MS) (r : Int64) (m' : MS) : Prop := ∃ rm : Room, rb rm ∧ sd_J l D (tyL cI cZ cQ) y cc n rm av (mX cI cZ a b m) r (mX cI cZ a b m')
def okW (l : Launch) (D : va_G) (cI cZ cQ : ClassId) (a : VA) (b : MA) (y : MethodName) (cc : ByteArray) (n : Nat) (av : List Value) (m : MS) (m' : MS) : Prop := ∃ rm : Room, rb rm ∧ sd_V l D (tyL cI cZ cQ) y cc n rm av (mX cI cZ a b m) (mX cI cZ a b m')
