theorem va_adr {X X' : va_W} {L : List Nat} {f f' : Nat → va_E} (h : X'.map (fun q => q.1) = X.map (fun q => q.1)) : (X' ++ va_pl L f').map (fun q => q.1) = (X ++ va_pl L f).map (fun q => q.1) := by
  rw [List.map_append, List.map_append, h]
  unfold va_pl
  rw [List.map_map, List.map_map]
  rfl
theorem bI_of {b : Nat} (h : b < 256) : nI b = bI (BitVec.ofNat 8 b) := by
  unfold bI
  rw [BitVec.toNat_ofNat, Nat.mod_eq_of_lt h]
/-- the ring's front behind t bytes -/
def pft : Nat → Nat → Nat
  | f, 0 => f
  | f, t + 1 => (pft f t + 1) % 1000
theorem pft_lt {f t : Nat} (h : f < 1000) : pft f t < 1000 := by
  cases t with
  | zero => exact h
  | succ t => exact Nat.mod_lt _ (by omega)
/-- the changes behind t bytes -/
def cg_f (pr : Nat → Int32) (pf : Nat) (ch : Nat → Int32) : Nat → Nat → Int32
  | 0 => ch
  | t + 1 => upd (cg_f pr pf ch t) (t + 1) (pr (pft pf t))
def cb_f (pb : Nat → BitVec 8) (pf : Nat) : Nat → BitVec 8 := fun i => if i = 0 then 0#8 else pb (pft pf (i - 1))
def cv_f (pb : Nat → BitVec 8) (pf k : Nat) (b : Nat) : BitVec 8 := gf_h (cb_f pb pf) (BitVec.ofNat 8 b) k 0#8
theorem cg_i (pr : Nat → Int32) (pf : Nat) (ch : Nat → Int32) (t : Nat) : ∀ i, cg_f pr pf ch t i = if 1 ≤ i ∧ i ≤ t then pr (pft pf (i - 1)) else ch i := by
  induction t with
  | zero => intro i; rw [if_neg (by omega)]; rfl
  | succ t ih =>
    intro i
    show upd (cg_f pr pf ch t) (t + 1) (pr (pft pf t)) i = _
    unfold upd
    by_cases h : i = t + 1
    · rw [if_pos h, if_pos (by omega), h]; rfl
    · rw [if_neg h, ih]
      by_cases h2 : 1 ≤ i ∧ i ≤ t
      · rw [if_pos h2, if_pos (by omega)]
      · rw [if_neg h2, if_neg (by omega)]
theorem cg_b {pr : Nat → Int32} {pf k : Nat} {ch : Nat → Int32} {pb : Nat → BitVec 8} (hpr : ∀ i, i < 1000 → pr i = bI (pb i)) (hpf : pf < 1000) (hch : ch 0 = 0) (hk1 : 1 ≤ k) : ∀ i, i < k → cg_f pr pf ch (k - 1) i = bI (cb_f pb pf i) := by
  intro i hi
  rw [cg_i]
  unfold cb_f
  by_cases h : i = 0
  · subst h
    rw [if_neg (by omega), if_pos rfl, hch, bI_0]
  · rw [if_pos (by omega), if_neg h, hpr _ (pft_lt hpf)]
/-- the shares of u boxes are changed and sent -/
def cn_f (ff : Nat → Nat) (lim : Int32) (j : Nat) (vb : Nat → BitVec 8) : Nat → (Nat → Nat → Int32) × ms_T → (Nat → Nat → Int32) × ms_T
  | 0, S => S
  | u + 1, S => (va_up (cn_f ff lim j vb u S).1 (ff (u + 1)) (upd ((cn_f ff lim j vb u S).1 (ff (u + 1))) j ((cn_f ff lim j vb u S).1 (ff (u + 1)) j ^^^ bI (vb (u + 1)))), ms_s lim (cn_f ff lim j vb u S).2 0 (nI (u + 1)) ((cn_f ff lim j vb u S).1 (ff (u + 1)) j ^^^ bI (vb (u + 1))))
theorem cn_b (ff : Nat → Nat) (lim : Int32) (j : Nat) (vb : Nat → BitVec 8) (u : Nat) (S : (Nat → Nat → Int32) × ms_T) : (cn_f ff lim j vb u S).2.1 ≤ S.2.1 + u := by
  induction u with
  | zero => exact Nat.le_refl _
  | succ u ih =>
    have := ms_b lim (cn_f ff lim j vb u S).2 0 (nI (u + 1)) ((cn_f ff lim j vb u S).1 (ff (u + 1)) j ^^^ bI (vb (u + 1)))
    show (ms_s lim (cn_f ff lim j vb u S).2 0 (nI (u + 1)) ((cn_f ff lim j vb u S).1 (ff (u + 1)) j ^^^ bI (vb (u + 1)))).1 ≤ _
    omega
/-- the first b bytes of file f, of box x, become valid -/
def as_f (hh ff : Nat → Nat) (x f : Nat) : Nat → (Nat → Nat → Int32) → Nat → Nat → Int32
  | 0, rw => rw
  | b + 1, rw => va_up (as_f hh ff x f b rw) (hh x) (upd (as_f hh ff x f b rw (hh x)) (f * 8 + b) (as_f hh ff x f b rw (ff x) (f * 8 + b)))
def af_f (hh ff : Nat → Nat) (f lf : Nat) : Nat → (Nat → Nat → Int32) → Nat → Nat → Int32
  | 0, rw => rw
  | u + 1, rw => as_f hh ff (u + 1) f lf (af_f hh ff f lf u rw)
theorem d_V_change_0 : decode b_V_change 0 = .ok (.iconst 1, 1) := by decide +kernel
theorem d_V_change_1 : decode b_V_change 1 = .ok (.istore_n 2, 1) := by decide +kernel
theorem d_V_change_2 : decode b_V_change 2 = .ok (.iload_n 2, 1) := by decide +kernel
theorem d_V_change_3 : decode b_V_change 3 = .ok (.aload_n 0, 1) := by decide +kernel
theorem d_V_change_4 : decode b_V_change 4 = .ok (.getfield 43, 3) := by decide +kernel
theorem d_V_change_7 : decode b_V_change 7 = .ok (.if_icmp .ge 22, 3) := by decide +kernel
theorem d_V_change_10 : decode b_V_change 10 = .ok (.aload_n 0, 1) := by decide +kernel
theorem d_V_change_11 : decode b_V_change 11 = .ok (.getfield 63, 3) := by decide +kernel
theorem d_V_change_14 : decode b_V_change 14 = .ok (.iload_n 2, 1) := by decide +kernel
theorem d_V_change_15 : decode b_V_change 15 = .ok (.aload_n 0, 1) := by decide +kernel
theorem d_V_change_16 : decode b_V_change 16 = .ok (.getfield 10, 3) := by decide +kernel
theorem d_V_change_19 : decode b_V_change 19 = .ok (.invokevirtual 223, 3) := by decide +kernel
theorem d_V_change_22 : decode b_V_change 22 = .ok (.iastore, 1) := by decide +kernel
theorem d_V_change_23 : decode b_V_change 23 = .ok (.iinc 2 1, 3) := by decide +kernel
theorem d_V_change_26 : decode b_V_change 26 = .ok (.goto (-24), 3) := by decide +kernel
theorem d_V_change_29 : decode b_V_change 29 = .ok (.iconst 1, 1) := by decide +kernel
theorem d_V_change_30 : decode b_V_change 30 = .ok (.istore_n 2, 1) := by decide +kernel
theorem d_V_change_31 : decode b_V_change 31 = .ok (.iload_n 2, 1) := by decide +kernel
theorem d_V_change_32 : decode b_V_change 32 = .ok (.aload_n 0, 1) := by decide +kernel
theorem d_V_change_33 : decode b_V_change 33 = .ok (.getfield 40, 3) := by decide +kernel
theorem d_V_change_36 : decode b_V_change 36 = .ok (.if_icmp .gt 46, 3) := by decide +kernel
theorem d_V_change_39 : decode b_V_change 39 = .ok (.aload_n 0, 1) := by decide +kernel
theorem d_V_change_40 : decode b_V_change 40 = .ok (.getfield 60, 3) := by decide +kernel
theorem d_V_change_43 : decode b_V_change 43 = .ok (.iload_n 2, 1) := by decide +kernel
theorem d_V_change_44 : decode b_V_change 44 = .ok (.aaload, 1) := by decide +kernel
theorem d_V_change_45 : decode b_V_change 45 = .ok (.iload_n 1, 1) := by decide +kernel
theorem d_V_change_46 : decode b_V_change 46 = .ok (.dup2, 1) := by decide +kernel
theorem d_V_change_47 : decode b_V_change 47 = .ok (.iaload, 1) := by decide +kernel
theorem d_V_change_48 : decode b_V_change 48 = .ok (.aload_n 0, 1) := by decide +kernel
theorem d_V_change_49 : decode b_V_change 49 = .ok (.getfield 63, 3) := by decide +kernel
theorem d_V_change_52 : decode b_V_change 52 = .ok (.iload_n 2, 1) := by decide +kernel
theorem d_V_change_53 : decode b_V_change 53 = .ok (.invokestatic 226, 3) := by decide +kernel
theorem d_V_change_56 : decode b_V_change 56 = .ok (.ixor, 1) := by decide +kernel
theorem d_V_change_57 : decode b_V_change 57 = .ok (.iastore, 1) := by decide +kernel
theorem d_V_change_58 : decode b_V_change 58 = .ok (.aload_n 0, 1) := by decide +kernel
theorem d_V_change_59 : decode b_V_change 59 = .ok (.getfield 19, 3) := by decide +kernel
theorem d_V_change_62 : decode b_V_change 62 = .ok (.iconst 0, 1) := by decide +kernel
theorem d_V_change_63 : decode b_V_change 63 = .ok (.iload_n 2, 1) := by decide +kernel
theorem d_V_change_64 : decode b_V_change 64 = .ok (.aload_n 0, 1) := by decide +kernel
theorem d_V_change_65 : decode b_V_change 65 = .ok (.getfield 60, 3) := by decide +kernel
theorem d_V_change_68 : decode b_V_change 68 = .ok (.iload_n 2, 1) := by decide +kernel
theorem d_V_change_69 : decode b_V_change 69 = .ok (.aaload, 1) := by decide +kernel
theorem d_V_change_70 : decode b_V_change 70 = .ok (.iload_n 1, 1) := by decide +kernel
theorem d_V_change_71 : decode b_V_change 71 = .ok (.iaload, 1) := by decide +kernel
theorem d_V_change_72 : decode b_V_change 72 = .ok (.invokevirtual 230, 3) := by decide +kernel
theorem d_V_change_75 : decode b_V_change 75 = .ok (.pop, 1) := by decide +kernel
theorem d_V_change_76 : decode b_V_change 76 = .ok (.iinc 2 1, 3) := by decide +kernel
theorem d_V_change_79 : decode b_V_change 79 = .ok (.goto (-48), 3) := by decide +kernel
theorem d_V_change_82 : decode b_V_change 82 = .ok (.return_, 1) := by decide +kernel
theorem d_V_adoptShares_0 : decode b_V_adoptShares 0 = .ok (.iconst 0, 1) := by decide +kernel
theorem d_V_adoptShares_1 : decode b_V_adoptShares 1 = .ok (.istore_n 3, 1) := by decide +kernel
theorem d_V_adoptShares_2 : decode b_V_adoptShares 2 = .ok (.iload_n 3, 1) := by decide +kernel
theorem d_V_adoptShares_3 : decode b_V_adoptShares 3 = .ok (.aload_n 0, 1) := by decide +kernel
theorem d_V_adoptShares_4 : decode b_V_adoptShares 4 = .ok (.getfield 23, 3) := by decide +kernel
theorem d_V_adoptShares_7 : decode b_V_adoptShares 7 = .ok (.iload_n 2, 1) := by decide +kernel
theorem d_V_adoptShares_8 : decode b_V_adoptShares 8 = .ok (.iaload, 1) := by decide +kernel
theorem d_V_adoptShares_9 : decode b_V_adoptShares 9 = .ok (.if_icmp .ge 33, 3) := by decide +kernel
theorem d_V_adoptShares_12 : decode b_V_adoptShares 12 = .ok (.aload_n 0, 1) := by decide +kernel
theorem d_V_adoptShares_13 : decode b_V_adoptShares 13 = .ok (.getfield 57, 3) := by decide +kernel
theorem d_V_adoptShares_16 : decode b_V_adoptShares 16 = .ok (.iload_n 1, 1) := by decide +kernel
theorem d_V_adoptShares_17 : decode b_V_adoptShares 17 = .ok (.aaload, 1) := by decide +kernel
theorem d_V_adoptShares_18 : decode b_V_adoptShares 18 = .ok (.iload_n 2, 1) := by decide +kernel
theorem d_V_adoptShares_19 : decode b_V_adoptShares 19 = .ok (.iload_n 3, 1) := by decide +kernel
theorem d_V_adoptShares_20 : decode b_V_adoptShares 20 = .ok (.invokestatic 118, 3) := by decide +kernel
theorem d_V_adoptShares_23 : decode b_V_adoptShares 23 = .ok (.aload_n 0, 1) := by decide +kernel
theorem d_V_adoptShares_24 : decode b_V_adoptShares 24 = .ok (.getfield 60, 3) := by decide +kernel
theorem d_V_adoptShares_27 : decode b_V_adoptShares 27 = .ok (.iload_n 1, 1) := by decide +kernel
theorem d_V_adoptShares_28 : decode b_V_adoptShares 28 = .ok (.aaload, 1) := by decide +kernel
theorem d_V_adoptShares_29 : decode b_V_adoptShares 29 = .ok (.iload_n 2, 1) := by decide +kernel
theorem d_V_adoptShares_30 : decode b_V_adoptShares 30 = .ok (.iload_n 3, 1) := by decide +kernel
theorem d_V_adoptShares_31 : decode b_V_adoptShares 31 = .ok (.invokestatic 118, 3) := by decide +kernel
theorem d_V_adoptShares_34 : decode b_V_adoptShares 34 = .ok (.iaload, 1) := by decide +kernel
theorem d_V_adoptShares_35 : decode b_V_adoptShares 35 = .ok (.iastore, 1) := by decide +kernel
theorem d_V_adoptShares_36 : decode b_V_adoptShares 36 = .ok (.iinc 3 1, 3) := by decide +kernel
theorem d_V_adoptShares_39 : decode b_V_adoptShares 39 = .ok (.goto (-37), 3) := by decide +kernel
theorem d_V_adoptShares_42 : decode b_V_adoptShares 42 = .ok (.return_, 1) := by decide +kernel
theorem d_V_adoptFile_0 : decode b_V_adoptFile 0 = .ok (.iconst 1, 1) := by decide +kernel
theorem d_V_adoptFile_1 : decode b_V_adoptFile 1 = .ok (.istore_n 2, 1) := by decide +kernel
theorem d_V_adoptFile_2 : decode b_V_adoptFile 2 = .ok (.iload_n 2, 1) := by decide +kernel
theorem d_V_adoptFile_3 : decode b_V_adoptFile 3 = .ok (.aload_n 0, 1) := by decide +kernel
theorem d_V_adoptFile_4 : decode b_V_adoptFile 4 = .ok (.getfield 40, 3) := by decide +kernel
theorem d_V_adoptFile_7 : decode b_V_adoptFile 7 = .ok (.if_icmp .gt 15, 3) := by decide +kernel
theorem d_V_adoptFile_10 : decode b_V_adoptFile 10 = .ok (.aload_n 0, 1) := by decide +kernel
theorem d_V_adoptFile_11 : decode b_V_adoptFile 11 = .ok (.iload_n 2, 1) := by decide +kernel
theorem d_V_adoptFile_12 : decode b_V_adoptFile 12 = .ok (.iload_n 1, 1) := by decide +kernel
theorem d_V_adoptFile_13 : decode b_V_adoptFile 13 = .ok (.invokevirtual 169, 3) := by decide +kernel
theorem d_V_adoptFile_16 : decode b_V_adoptFile 16 = .ok (.iinc 2 1, 3) := by decide +kernel
theorem d_V_adoptFile_19 : decode b_V_adoptFile 19 = .ok (.goto (-17), 3) := by decide +kernel
theorem d_V_adoptFile_22 : decode b_V_adoptFile 22 = .ok (.return_, 1) := by decide +kernel
set_option maxHeartbeats 4000000 in
set_option maxRecDepth 100000 in
theorem c_V_change (l : Launch) (D : va_G) (cI cZ cQ : ClassId) (qv : Nat) (qp : Nat) (qr : Nat) (qj : Nat) (qg : Nat) (qs : Nat) (qh : Nat) (qn : Nat) (qu : Nat) (qw : Nat) (qH : Nat) (qF : Nat) (qc : Nat) (ql : Nat) (qf : Nat) (k : Nat) (n : Nat) (pf : Nat) (pn : Nat) (pr : Nat → Int32) (wi : Int32) (M : ms_T) (hf : Int32) (lim : Int32) (nt : Int32) (lt : Int32) (nb : Nat → Int32) (su : Nat → Int32) (wt : Nat → Int32) (ch : Nat → Int32) (le : Nat → Int32) (fl : Nat → Int32) (ep : Int32) (L : List Nat) (hh : Nat → Nat) (ff : Nat → Nat) (rw : Nat → Nat → Int32) (j : Nat) (pb : Nat → BitVec 8) (hk : k < 2 ^ 20) (hn : n < 2 ^ 20) (hhL : ∀ i, i < n + 1 → hh i ∈ L) (ffL : ∀ i, i < n + 1 → ff i ∈ L) (hj : j < 64) (hk1 : 1 ≤ k) (hn2 : n < 255) (hpf : pf < 1000) (hpn : k - 1 ≤ pn) (hpr : ∀ i, i < 1000 → pr i = bI (pb i)) (hch : ch 0 = 0) (hT : M.1 + n < 2 ^ 31) : sd_V l D (tyL cI cZ cQ) y_V_change b_V_change 3 ({ frames := 2, cells := 0, slots := 0, locals := 47 }) [.ref qv, .int (nI j)] ((vW cI cQ cZ qv qp qr qj qg qs qh qn qu qw qH qF qc ql qf (nI (k)) (nI (n)) (ep) (nI (pf)) (nI (pn)) (1000) (pr) (wi) (M.2.2.2) (hf) (nI M.2.2.1) (lim) (nt) (lt) (nI (M.1)) (192) (M.2.1) (k) (nb) (k) (su) (k) (wt) (n + 1) (fun i => if i < n + 1 then some (hh i) else none) (n + 1) (fun i => if i < n + 1 then some (ff i) else none) (k) (ch) (8) (le) (n + 1) (fl)) ++ va_pl L (rowE cI rw)) ((vW cI cQ cZ qv qp qr qj qg qs qh qn qu qw qH qF qc ql qf (nI (k)) (nI (n)) (ep) (nI (pft pf (k - 1))) (nI (pn - (k - 1))) (1000) (pr) (wi) ((cn_f ff lim j (cv_f pb pf k) n (rw, M)).2.2.2.2) (hf) (nI (cn_f ff lim j (cv_f pb pf k) n (rw, M)).2.2.2.1) (lim) (nt) (lt) (nI ((cn_f ff lim j (cv_f pb pf k) n (rw, M)).2.1)) (192) ((cn_f ff lim j (cv_f pb pf k) n (rw, M)).2.2.1) (k) (nb) (k) (su) (k) (wt) (n + 1) (fun i => if i < n + 1 then some (hh i) else none) (n + 1) (fun i => if i < n + 1 then some (ff i) else none) (k) (cg_f pr pf ch (k - 1)) (8) (le) (n + 1) (fl)) ++ va_pl L (rowE cI (cn_f ff lim j (cv_f pb pf k) n (rw, M)).1)) := by
  refine sd_ofV (by decide) (Nat.le_of_ble_eq_true rfl) ?_
  intro p e s m below meth c A ls hx hb hr hml hlk hown hts hK hP hD hA hS hl
  have hl : lv_has ls 3 [(0, .ref qv), (1, .int (nI j))] := hl
  refine lv_iconst (v := 1) hx hb d_V_change_0 (by decide) ?_
  refine sd_top (y := nI (0 + 1)) (rfl) ?_
  refine lv_istore_n hx hb d_V_change_1 rfl hl (Nat.le_of_ble_eq_true rfl) (lv' := [(2, .int (nI (0 + 1))), (0, .ref qv), (1, .int (nI j))]) rfl (fun ls hl => ?_)
  have hl := lv_sub hl (l' := [(0, .ref qv), (1, .int (nI j)), (2, .int (nI (0 + 1)))]) [1, 2, 0] rfl
  have loop2 : ∀ (d : Nat) (t : Nat) (ls : Array Slot) (H : Heap) (locs : List Loc), k - t = d → (t + 1 ≤ k) → lv_has ls 3 [(0, .ref qv), (1, .int (nI j)), (2, .int (nI (t + 1)))] → va_P D cls ((vW cI cQ cZ qv qp qr qj qg qs qh qn qu qw qH qF qc ql qf (nI (k)) (nI (n)) (ep) (nI (pft pf t)) (nI (pn - t)) (1000) (pr) (wi) (M.2.2.2) (hf) (nI M.2.2.1) (lim) (nt) (lt) (nI (M.1)) (192) (M.2.1) (k) (nb) (k) (su) (k) (wt) (n + 1) (fun i => if i < n + 1 then some (hh i) else none) (n + 1) (fun i => if i < n + 1 then some (ff i) else none) (k) (cg_f pr pf ch t) (8) (le) (n + 1) (fl)) ++ va_pl L (rowE cI rw)) H → va_D A ((vW cI cQ cZ qv qp qr qj qg qs qh qn qu qw qH qF qc ql qf (nI (k)) (nI (n)) (ep) (nI (pft pf t)) (nI (pn - t)) (1000) (pr) (wi) (M.2.2.2) (hf) (nI M.2.2.1) (lim) (nt) (lt) (nI (M.1)) (192) (M.2.1) (k) (nb) (k) (su) (k) (wt) (n + 1) (fun i => if i < n + 1 then some (hh i) else none) (n + 1) (fun i => if i < n + 1 then some (ff i) else none) (k) (cg_f pr pf ch t) (8) (le) (n + 1) (fl)) ++ va_pl L (rowE cI rw)) → va_S A s.heap H locs → W p l e ({ frames := 2, cells := 0, slots := 0, locals := 47 }) s m ([.ref qv, .int (nI j)] : List Value).toArray below meth c H locs 0 0 (MQ below (sd_qv D ((vW cI cQ cZ qv qp qr qj qg qs qh qn qu qw qH qF qc ql qf (nI (k)) (nI (n)) (ep) (nI (pft pf (k - 1))) (nI (pn - (k - 1))) (1000) (pr) (wi) ((cn_f ff lim j (cv_f pb pf k) n (rw, M)).2.2.2.2) (hf) (nI (cn_f ff lim j (cv_f pb pf k) n (rw, M)).2.2.2.1) (lim) (nt) (lt) (nI ((cn_f ff lim j (cv_f pb pf k) n (rw, M)).2.1)) (192) ((cn_f ff lim j (cv_f pb pf k) n (rw, M)).2.2.1) (k) (nb) (k) (su) (k) (wt) (n + 1) (fun i => if i < n + 1 then some (hh i) else none) (n + 1) (fun i => if i < n + 1 then some (ff i) else none) (k) (cg_f pr pf ch (k - 1)) (8) (le) (n + 1) (fl)) ++ va_pl L (rowE cI (cn_f ff lim j (cv_f pb pf k) n (rw, M)).1)) A) ([.ref qv, .int (nI j)] : List Value).toArray s 0 0 A) (F0 m 2 ls []) := by
    intro d
    induction d using Nat.strongRecOn with
    | _ d ih2 =>
    intro t ls H locs hd ht hl hP hD hS
    subst hd
    refine lv_iload_n hx hb d_V_change_2 rfl (lv_at hl 2 rfl) ?_
    refine lv_aload_n hx hb d_V_change_3 rfl (lv_at hl 0 rfl) ?_
    refine va_get (D := D) (ci := 4) (v := .int (nI (k))) (C := R_V) (T := F_V) (N := 11) hx hb hts wl_V hown hK hP 0 rfl rfl 0 (by decide) (hts _ wf_V_43) (fun _ h9 => h9) rfl d_V_change_4 ?_
    refine lv_icmp_ge (tgt := 29) hx hb d_V_change_7 rfl (fun hc7 => ?_) (fun hc7 => ?_)
    · skip
      rw [nI_leI (by omega) (by omega)] at hc7
      have ht2 : k - 1 = t := by omega
      subst ht2
      refine lv_iconst (v := 1) hx hb d_V_change_29 (by decide) ?_
      refine sd_top (y := nI (0 + 1)) (rfl) ?_
      refine lv_istore_n hx hb d_V_change_30 rfl hl (Nat.le_of_ble_eq_true rfl) (lv' := [(2, .int (nI (0 + 1))), (0, .ref qv), (1, .int (nI j))]) rfl (fun ls hl => ?_)
      have hl := lv_sub hl (l' := [(0, .ref qv), (1, .int (nI j)), (2, .int (nI (0 + 1)))]) [1, 2, 0] rfl
      have loop31 : ∀ (d : Nat) (u : Nat) (ls : Array Slot) (H : Heap) (locs : List Loc), n - u = d → (u ≤ n) → lv_has ls 3 [(0, .ref qv), (1, .int (nI j)), (2, .int (nI (u + 1)))] → va_P D cls ((vW cI cQ cZ qv qp qr qj qg qs qh qn qu qw qH qF qc ql qf (nI (k)) (nI (n)) (ep) (nI (pft pf (k - 1))) (nI (pn - (k - 1))) (1000) (pr) (wi) ((cn_f ff lim j (cv_f pb pf k) u (rw, M)).2.2.2.2) (hf) (nI (cn_f ff lim j (cv_f pb pf k) u (rw, M)).2.2.2.1) (lim) (nt) (lt) (nI ((cn_f ff lim j (cv_f pb pf k) u (rw, M)).2.1)) (192) ((cn_f ff lim j (cv_f pb pf k) u (rw, M)).2.2.1) (k) (nb) (k) (su) (k) (wt) (n + 1) (fun i => if i < n + 1 then some (hh i) else none) (n + 1) (fun i => if i < n + 1 then some (ff i) else none) (k) (cg_f pr pf ch (k - 1)) (8) (le) (n + 1) (fl)) ++ va_pl L (rowE cI (cn_f ff lim j (cv_f pb pf k) u (rw, M)).1)) H → va_D A ((vW cI cQ cZ qv qp qr qj qg qs qh qn qu qw qH qF qc ql qf (nI (k)) (nI (n)) (ep) (nI (pft pf (k - 1))) (nI (pn - (k - 1))) (1000) (pr) (wi) ((cn_f ff lim j (cv_f pb pf k) u (rw, M)).2.2.2.2) (hf) (nI (cn_f ff lim j (cv_f pb pf k) u (rw, M)).2.2.2.1) (lim) (nt) (lt) (nI ((cn_f ff lim j (cv_f pb pf k) u (rw, M)).2.1)) (192) ((cn_f ff lim j (cv_f pb pf k) u (rw, M)).2.2.1) (k) (nb) (k) (su) (k) (wt) (n + 1) (fun i => if i < n + 1 then some (hh i) else none) (n + 1) (fun i => if i < n + 1 then some (ff i) else none) (k) (cg_f pr pf ch (k - 1)) (8) (le) (n + 1) (fl)) ++ va_pl L (rowE cI (cn_f ff lim j (cv_f pb pf k) u (rw, M)).1)) → va_S A s.heap H locs → W p l e ({ frames := 2, cells := 0, slots := 0, locals := 47 }) s m ([.ref qv, .int (nI j)] : List Value).toArray below meth c H locs 0 0 (MQ below (sd_qv D ((vW cI cQ cZ qv qp qr qj qg qs qh qn qu qw qH qF qc ql qf (nI (k)) (nI (n)) (ep) (nI (pft pf (k - 1))) (nI (pn - (k - 1))) (1000) (pr) (wi) ((cn_f ff lim j (cv_f pb pf k) n (rw, M)).2.2.2.2) (hf) (nI (cn_f ff lim j (cv_f pb pf k) n (rw, M)).2.2.2.1) (lim) (nt) (lt) (nI ((cn_f ff lim j (cv_f pb pf k) n (rw, M)).2.1)) (192) ((cn_f ff lim j (cv_f pb pf k) n (rw, M)).2.2.1) (k) (nb) (k) (su) (k) (wt) (n + 1) (fun i => if i < n + 1 then some (hh i) else none) (n + 1) (fun i => if i < n + 1 then some (ff i) else none) (k) (cg_f pr pf ch (k - 1)) (8) (le) (n + 1) (fl)) ++ va_pl L (rowE cI (cn_f ff lim j (cv_f pb pf k) n (rw, M)).1)) A) ([.ref qv, .int (nI j)] : List Value).toArray s 0 0 A) (F0 m 31 ls []) := by
        intro d
        induction d using Nat.strongRecOn with
        | _ d ih31 =>
        intro u ls H locs hd hu hl hP hD hS
        subst hd
        refine lv_iload_n hx hb d_V_change_31 rfl (lv_at hl 2 rfl) ?_
        refine lv_aload_n hx hb d_V_change_32 rfl (lv_at hl 0 rfl) ?_
        refine va_get (D := D) (ci := 4) (v := .int (nI (n))) (C := R_V) (T := F_V) (N := 11) hx hb hts wl_V hown hK hP 0 rfl rfl 1 (by decide) (hts _ wf_V_40) (fun _ h9 => h9) rfl d_V_change_33 ?_
        refine lv_icmp_gt (tgt := 82) hx hb d_V_change_36 rfl (fun hc36 => ?_) (fun hc36 => ?_)
        · skip
          rw [nI_ltI (by omega) (by omega)] at hc36
          have hun : n = u := by omega
          subst hun
          exact sd_vret hx hb hr hlk hP hS (Nat.le_of_ble_eq_true rfl) (Nat.le_of_ble_eq_true rfl) d_V_change_82
        · skip
          rw [nI_ltI (by omega) (by omega)] at hc36
          have hTu : (cn_f ff lim j (cv_f pb pf k) u (rw, M)).2.1 < 2 ^ 31 := by
            have := cn_b ff lim j (cv_f pb pf k) u (rw, M)
            have h9 : ((rw, M) : (Nat → Nat → Int32) × ms_T).2.1 = M.1 := rfl
            omega
          refine lv_aload_n hx hb d_V_change_39 rfl (lv_at hl 0 rfl) ?_
          refine va_get (D := D) (ci := 4) (v := .ref qF) (C := R_V) (T := F_V) (N := 11) hx hb hts wl_V hown hK hP 0 rfl rfl 6 (by decide) (hts _ wf_V_60) (fun _ h9 => h9) rfl d_V_change_40 ?_
          refine lv_iload_n hx hb d_V_change_43 rfl (lv_at hl 2 rfl) ?_
          refine sd_aald (j := u + 1) (z := ff (u + 1)) hx hb hK hP 11 2 rfl rfl (by omega) (by omega) (if_pos (by omega)) d_V_change_44 ?_
          refine lv_iload_n hx hb d_V_change_45 rfl (lv_at hl 1 rfl) ?_
          refine lv_dup2_11 hx hb d_V_change_46 rfl rfl ?_
          refine sd_rld (z := ff (u + 1)) (j := j) hx hb hK hP (ffL (u + 1) (by omega)) 0 rfl (by omega) d_V_change_47 ?_
          refine lv_aload_n hx hb d_V_change_48 rfl (lv_at hl 0 rfl) ?_
          refine va_get (D := D) (ci := 4) (v := .ref qc) (C := R_V) (T := F_V) (N := 11) hx hb hts wl_V hown hK hP 0 rfl rfl 7 (by decide) (hts _ wf_V_63) (fun _ h9 => h9) rfl d_V_change_49 ?_
          refine lv_iload_n hx hb d_V_change_52 rfl (lv_at hl 2 rfl) ?_
          refine sd_top (y := bI (BitVec.ofNat 8 (u + 1))) (bI_of (by omega)) ?_
          refine sd_callSI (As := [.ref qc, .int (bI (BitVec.ofNat 8 (u + 1)))]) (rest := [.int ((cn_f ff lim j (cv_f pb pf k) u (rw, M)).1 (ff (u + 1)) (j)), .int (nI j), .ref (ff (u + 1))]) (cx := [(qc, .inl (cI, k, .inl (cg_f pr pf ch (k - 1))))]) (w1 := [(qc, .inl (cI, k, .inl (cg_f pr pf ch (k - 1))))]) (c_B_valueAt l D cI cZ cQ (qc) (k) (cg_f pr pf ch (k - 1)) (cb_f pb pf) (BitVec.ofNat 8 (u + 1)) (by omega) (cg_b hpr hpf hch hk1)) ⟨wc_B_valueAt, wm_V_226, wi_B, by decide, by decide, show (parseMethodDescriptor y_B_valueAt.desc).map (fun d => d.parameters.length) = some 2 by decide +kernel⟩ ws_B_valueAt hx hb hml hown hts hl.1 ⟨Nat.le_of_ble_eq_true rfl, Nat.le_of_ble_eq_true rfl⟩ ⟨Nat.le_of_ble_eq_true rfl, Nat.le_of_ble_eq_true rfl⟩ hK hP hD hS hA [12] rfl (by decide) rfl rfl rfl (Nat.le_of_ble_eq_true rfl) d_V_change_53 (fun H locs hP hD hS => ?_)
          have hP : va_P D cls ((vW cI cQ cZ qv qp qr qj qg qs qh qn qu qw qH qF qc ql qf (nI (k)) (nI (n)) (ep) (nI (pft pf (k - 1))) (nI (pn - (k - 1))) (1000) (pr) (wi) ((cn_f ff lim j (cv_f pb pf k) u (rw, M)).2.2.2.2) (hf) (nI (cn_f ff lim j (cv_f pb pf k) u (rw, M)).2.2.2.1) (lim) (nt) (lt) (nI ((cn_f ff lim j (cv_f pb pf k) u (rw, M)).2.1)) (192) ((cn_f ff lim j (cv_f pb pf k) u (rw, M)).2.2.1) (k) (nb) (k) (su) (k) (wt) (n + 1) (fun i => if i < n + 1 then some (hh i) else none) (n + 1) (fun i => if i < n + 1 then some (ff i) else none) (k) (cg_f pr pf ch (k - 1)) (8) (le) (n + 1) (fl)) ++ va_pl L (rowE cI (cn_f ff lim j (cv_f pb pf k) u (rw, M)).1)) H := hP
          have hD : va_D A ((vW cI cQ cZ qv qp qr qj qg qs qh qn qu qw qH qF qc ql qf (nI (k)) (nI (n)) (ep) (nI (pft pf (k - 1))) (nI (pn - (k - 1))) (1000) (pr) (wi) ((cn_f ff lim j (cv_f pb pf k) u (rw, M)).2.2.2.2) (hf) (nI (cn_f ff lim j (cv_f pb pf k) u (rw, M)).2.2.2.1) (lim) (nt) (lt) (nI ((cn_f ff lim j (cv_f pb pf k) u (rw, M)).2.1)) (192) ((cn_f ff lim j (cv_f pb pf k) u (rw, M)).2.2.1) (k) (nb) (k) (su) (k) (wt) (n + 1) (fun i => if i < n + 1 then some (hh i) else none) (n + 1) (fun i => if i < n + 1 then some (ff i) else none) (k) (cg_f pr pf ch (k - 1)) (8) (le) (n + 1) (fl)) ++ va_pl L (rowE cI (cn_f ff lim j (cv_f pb pf k) u (rw, M)).1)) := hD
          refine lv_ixor hx hb d_V_change_56 ?_
          refine sd_rst (z := ff (u + 1)) (j := j) hx hb hK hP hD hS (ffL (u + 1) (by omega)) 0 rfl (by omega) d_V_change_57 (fun H locs hP hD hS => ?_)
          have hP : va_P D cls ((vW cI cQ cZ qv qp qr qj qg qs qh qn qu qw qH qF qc ql qf (nI (k)) (nI (n)) (ep) (nI (pft pf (k - 1))) (nI (pn - (k - 1))) (1000) (pr) (wi) ((cn_f ff lim j (cv_f pb pf k) u (rw, M)).2.2.2.2) (hf) (nI (cn_f ff lim j (cv_f pb pf k) u (rw, M)).2.2.2.1) (lim) (nt) (lt) (nI ((cn_f ff lim j (cv_f pb pf k) u (rw, M)).2.1)) (192) ((cn_f ff lim j (cv_f pb pf k) u (rw, M)).2.2.1) (k) (nb) (k) (su) (k) (wt) (n + 1) (fun i => if i < n + 1 then some (hh i) else none) (n + 1) (fun i => if i < n + 1 then some (ff i) else none) (k) (cg_f pr pf ch (k - 1)) (8) (le) (n + 1) (fl)) ++ va_pl L (rowE cI (va_up (cn_f ff lim j (cv_f pb pf k) u (rw, M)).1 (ff (u + 1)) (upd ((cn_f ff lim j (cv_f pb pf k) u (rw, M)).1 (ff (u + 1))) (j) (((cn_f ff lim j (cv_f pb pf k) u (rw, M)).1 (ff (u + 1)) (j)) ^^^ (bI (gf_h (cb_f pb pf) (BitVec.ofNat 8 (u + 1)) k 0#8))))))) H := hP
          have hD : va_D A ((vW cI cQ cZ qv qp qr qj qg qs qh qn qu qw qH qF qc ql qf (nI (k)) (nI (n)) (ep) (nI (pft pf (k - 1))) (nI (pn - (k - 1))) (1000) (pr) (wi) ((cn_f ff lim j (cv_f pb pf k) u (rw, M)).2.2.2.2) (hf) (nI (cn_f ff lim j (cv_f pb pf k) u (rw, M)).2.2.2.1) (lim) (nt) (lt) (nI ((cn_f ff lim j (cv_f pb pf k) u (rw, M)).2.1)) (192) ((cn_f ff lim j (cv_f pb pf k) u (rw, M)).2.2.1) (k) (nb) (k) (su) (k) (wt) (n + 1) (fun i => if i < n + 1 then some (hh i) else none) (n + 1) (fun i => if i < n + 1 then some (ff i) else none) (k) (cg_f pr pf ch (k - 1)) (8) (le) (n + 1) (fl)) ++ va_pl L (rowE cI (va_up (cn_f ff lim j (cv_f pb pf k) u (rw, M)).1 (ff (u + 1)) (upd ((cn_f ff lim j (cv_f pb pf k) u (rw, M)).1 (ff (u + 1))) (j) (((cn_f ff lim j (cv_f pb pf k) u (rw, M)).1 (ff (u + 1)) (j)) ^^^ (bI (gf_h (cb_f pb pf) (BitVec.ofNat 8 (u + 1)) k 0#8))))))) := hD
          refine lv_aload_n hx hb d_V_change_58 rfl (lv_at hl 0 rfl) ?_
          refine va_get (D := D) (ci := 4) (v := .ref qj) (C := R_V) (T := F_V) (N := 11) hx hb hts wl_V hown hK hP 0 rfl rfl 3 (by decide) (hts _ wf_V_19) (fun _ h9 => h9) rfl d_V_change_59 ?_
          refine lv_iconst (v := 0) hx hb d_V_change_62 (by decide) ?_
          refine lv_iload_n hx hb d_V_change_63 rfl (lv_at hl 2 rfl) ?_
          refine lv_aload_n hx hb d_V_change_64 rfl (lv_at hl 0 rfl) ?_
          refine va_get (D := D) (ci := 4) (v := .ref qF) (C := R_V) (T := F_V) (N := 11) hx hb hts wl_V hown hK hP 0 rfl rfl 6 (by decide) (hts _ wf_V_60) (fun _ h9 => h9) rfl d_V_change_65 ?_
          refine lv_iload_n hx hb d_V_change_68 rfl (lv_at hl 2 rfl) ?_
          refine sd_aald (j := u + 1) (z := ff (u + 1)) hx hb hK hP 11 2 rfl rfl (by omega) (by omega) (if_pos (by omega)) d_V_change_69 ?_
          refine lv_iload_n hx hb d_V_change_70 rfl (lv_at hl 1 rfl) ?_
          refine sd_rld (z := ff (u + 1)) (j := j) hx hb hK hP (ffL (u + 1) (by omega)) 0 rfl (by omega) d_V_change_71 ?_
          refine sd_top (y := (cn_f ff lim j (cv_f pb pf k) u (rw, M)).1 (ff (u + 1)) (j) ^^^ bI (gf_h (cb_f pb pf) (BitVec.ofNat 8 (u + 1)) k 0#8)) (by rw [va_up_self, pk_us]) ?_
          refine sd_callVI (As := [.int (0), .int (nI (u + 1)), .int ((cn_f ff lim j (cv_f pb pf k) u (rw, M)).1 (ff (u + 1)) (j) ^^^ bI (gf_h (cb_f pb pf) (BitVec.ofNat 8 (u + 1)) k 0#8))]) (rest := []) (cx := [(qj, .inr (2, [.ref qg, .int (wi), .int (((cn_f ff lim j (cv_f pb pf k) u (rw, M)).2).2.2.2), .int (hf), .int (nI ((cn_f ff lim j (cv_f pb pf k) u (rw, M)).2).2.2.1), .int (lim), .int (nt), .int (lt)])), (qg, .inr (1, [.ref qs, .int (nI (((cn_f ff lim j (cv_f pb pf k) u (rw, M)).2).1))])), (qs, .inl (cI, 192, .inl (((cn_f ff lim j (cv_f pb pf k) u (rw, M)).2).2.1)))]) (w1 := [(qj, .inr (2, [.ref qg, .int (wi), .int ((ms_s lim ((cn_f ff lim j (cv_f pb pf k) u (rw, M)).2) 0 (nI (u + 1)) ((cn_f ff lim j (cv_f pb pf k) u (rw, M)).1 (ff (u + 1)) (j) ^^^ bI (gf_h (cb_f pb pf) (BitVec.ofNat 8 (u + 1)) k 0#8))).2.2.2), .int (hf), .int (nI (ms_s lim ((cn_f ff lim j (cv_f pb pf k) u (rw, M)).2) 0 (nI (u + 1)) ((cn_f ff lim j (cv_f pb pf k) u (rw, M)).1 (ff (u + 1)) (j) ^^^ bI (gf_h (cb_f pb pf) (BitVec.ofNat 8 (u + 1)) k 0#8))).2.2.1), .int (lim), .int (nt), .int (lt)])), (qg, .inr (1, [.ref qs, .int (nI ((ms_s lim ((cn_f ff lim j (cv_f pb pf k) u (rw, M)).2) 0 (nI (u + 1)) ((cn_f ff lim j (cv_f pb pf k) u (rw, M)).1 (ff (u + 1)) (j) ^^^ bI (gf_h (cb_f pb pf) (BitVec.ofNat 8 (u + 1)) k 0#8))).1))])), (qs, .inl (cI, 192, .inl ((ms_s lim ((cn_f ff lim j (cv_f pb pf k) u (rw, M)).2) 0 (nI (u + 1)) ((cn_f ff lim j (cv_f pb pf k) u (rw, M)).1 (ff (u + 1)) (j) ^^^ bI (gf_h (cb_f pb pf) (BitVec.ofNat 8 (u + 1)) k 0#8))).2.1)))]) (c_J_send l D cI cZ cQ (qj) (qg) (qs) (wi) ((cn_f ff lim j (cv_f pb pf k) u (rw, M)).2) (hf) (lim) (nt) (lt) (0) (nI (u + 1)) ((cn_f ff lim j (cv_f pb pf k) u (rw, M)).1 (ff (u + 1)) (j) ^^^ bI (gf_h (cb_f pb pf) (BitVec.ofNat 8 (u + 1)) k 0#8)) (hTu)) ⟨wc_J_send, wm_V_230, wi_J, by decide, by decide, show (parseMethodDescriptor y_J_send.desc).map (fun d => d.parameters.length) = some 3 by decide +kernel⟩ wo_J_send wz_J_send hx hb hml hown hts hl.1 ⟨Nat.le_of_ble_eq_true rfl, Nat.le_of_ble_eq_true rfl⟩ ⟨Nat.le_of_ble_eq_true rfl, Nat.le_of_ble_eq_true rfl⟩ hK hP hD hS hA [3, 4, 5] rfl (by decide) rfl rfl (q0 := 0) rfl rfl rfl (Nat.le_of_ble_eq_true rfl) d_V_change_72 (fun H locs hP hD hS => ?_)
          have hP : va_P D cls ((vW cI cQ cZ qv qp qr qj qg qs qh qn qu qw qH qF qc ql qf (nI (k)) (nI (n)) (ep) (nI (pft pf (k - 1))) (nI (pn - (k - 1))) (1000) (pr) (wi) ((ms_s lim ((cn_f ff lim j (cv_f pb pf k) u (rw, M)).2) 0 (nI (u + 1)) ((cn_f ff lim j (cv_f pb pf k) u (rw, M)).1 (ff (u + 1)) (j) ^^^ bI (gf_h (cb_f pb pf) (BitVec.ofNat 8 (u + 1)) k 0#8))).2.2.2) (hf) (nI (ms_s lim ((cn_f ff lim j (cv_f pb pf k) u (rw, M)).2) 0 (nI (u + 1)) ((cn_f ff lim j (cv_f pb pf k) u (rw, M)).1 (ff (u + 1)) (j) ^^^ bI (gf_h (cb_f pb pf) (BitVec.ofNat 8 (u + 1)) k 0#8))).2.2.1) (lim) (nt) (lt) (nI ((ms_s lim ((cn_f ff lim j (cv_f pb pf k) u (rw, M)).2) 0 (nI (u + 1)) ((cn_f ff lim j (cv_f pb pf k) u (rw, M)).1 (ff (u + 1)) (j) ^^^ bI (gf_h (cb_f pb pf) (BitVec.ofNat 8 (u + 1)) k 0#8))).1)) (192) ((ms_s lim ((cn_f ff lim j (cv_f pb pf k) u (rw, M)).2) 0 (nI (u + 1)) ((cn_f ff lim j (cv_f pb pf k) u (rw, M)).1 (ff (u + 1)) (j) ^^^ bI (gf_h (cb_f pb pf) (BitVec.ofNat 8 (u + 1)) k 0#8))).2.1) (k) (nb) (k) (su) (k) (wt) (n + 1) (fun i => if i < n + 1 then some (hh i) else none) (n + 1) (fun i => if i < n + 1 then some (ff i) else none) (k) (cg_f pr pf ch (k - 1)) (8) (le) (n + 1) (fl)) ++ va_pl L (rowE cI (va_up (cn_f ff lim j (cv_f pb pf k) u (rw, M)).1 (ff (u + 1)) (upd ((cn_f ff lim j (cv_f pb pf k) u (rw, M)).1 (ff (u + 1))) (j) (((cn_f ff lim j (cv_f pb pf k) u (rw, M)).1 (ff (u + 1)) (j)) ^^^ (bI (gf_h (cb_f pb pf) (BitVec.ofNat 8 (u + 1)) k 0#8))))))) H := hP
          have hD : va_D A ((vW cI cQ cZ qv qp qr qj qg qs qh qn qu qw qH qF qc ql qf (nI (k)) (nI (n)) (ep) (nI (pft pf (k - 1))) (nI (pn - (k - 1))) (1000) (pr) (wi) ((ms_s lim ((cn_f ff lim j (cv_f pb pf k) u (rw, M)).2) 0 (nI (u + 1)) ((cn_f ff lim j (cv_f pb pf k) u (rw, M)).1 (ff (u + 1)) (j) ^^^ bI (gf_h (cb_f pb pf) (BitVec.ofNat 8 (u + 1)) k 0#8))).2.2.2) (hf) (nI (ms_s lim ((cn_f ff lim j (cv_f pb pf k) u (rw, M)).2) 0 (nI (u + 1)) ((cn_f ff lim j (cv_f pb pf k) u (rw, M)).1 (ff (u + 1)) (j) ^^^ bI (gf_h (cb_f pb pf) (BitVec.ofNat 8 (u + 1)) k 0#8))).2.2.1) (lim) (nt) (lt) (nI ((ms_s lim ((cn_f ff lim j (cv_f pb pf k) u (rw, M)).2) 0 (nI (u + 1)) ((cn_f ff lim j (cv_f pb pf k) u (rw, M)).1 (ff (u + 1)) (j) ^^^ bI (gf_h (cb_f pb pf) (BitVec.ofNat 8 (u + 1)) k 0#8))).1)) (192) ((ms_s lim ((cn_f ff lim j (cv_f pb pf k) u (rw, M)).2) 0 (nI (u + 1)) ((cn_f ff lim j (cv_f pb pf k) u (rw, M)).1 (ff (u + 1)) (j) ^^^ bI (gf_h (cb_f pb pf) (BitVec.ofNat 8 (u + 1)) k 0#8))).2.1) (k) (nb) (k) (su) (k) (wt) (n + 1) (fun i => if i < n + 1 then some (hh i) else none) (n + 1) (fun i => if i < n + 1 then some (ff i) else none) (k) (cg_f pr pf ch (k - 1)) (8) (le) (n + 1) (fl)) ++ va_pl L (rowE cI (va_up (cn_f ff lim j (cv_f pb pf k) u (rw, M)).1 (ff (u + 1)) (upd ((cn_f ff lim j (cv_f pb pf k) u (rw, M)).1 (ff (u + 1))) (j) (((cn_f ff lim j (cv_f pb pf k) u (rw, M)).1 (ff (u + 1)) (j)) ^^^ (bI (gf_h (cb_f pb pf) (BitVec.ofNat 8 (u + 1)) k 0#8))))))) := hD
          refine lv_pop hx hb d_V_change_75 rfl ?_
          refine lv_iinc hx hb d_V_change_76 hl (k := 2) rfl (v := nI (u + 1 + 1)) (ii_1 _) (Nat.le_of_ble_eq_true rfl) (lv' := [(2, .int (nI (u + 1 + 1))), (0, .ref qv), (1, .int (nI j))]) rfl (fun ls hl => ?_)
          refine lv_goto (tgt := 31) hx hb d_V_change_79 rfl ?_
          have hl := lv_sub hl (l' := [(0, .ref qv), (1, .int (nI j)), (2, .int (nI (u + 1 + 1)))]) [1, 2, 0] rfl
          exact ih31 _ (by omega) (u + 1) ls _ _ rfl (by omega) hl hP hD hS
      exact loop31 _ (0) ls _ _ rfl (Nat.zero_le _) hl hP hD hS
    · skip
      rw [nI_leI (by omega) (by omega)] at hc7
      refine lv_aload_n hx hb d_V_change_10 rfl (lv_at hl 0 rfl) ?_
      refine va_get (D := D) (ci := 4) (v := .ref qc) (C := R_V) (T := F_V) (N := 11) hx hb hts wl_V hown hK hP 0 rfl rfl 7 (by decide) (hts _ wf_V_63) (fun _ h9 => h9) rfl d_V_change_11 ?_
      refine lv_iload_n hx hb d_V_change_14 rfl (lv_at hl 2 rfl) ?_
      refine lv_aload_n hx hb d_V_change_15 rfl (lv_at hl 0 rfl) ?_
      refine va_get (D := D) (ci := 4) (v := .ref qp) (C := R_V) (T := F_V) (N := 11) hx hb hts wl_V hown hK hP 0 rfl rfl 2 (by decide) (hts _ wf_V_10) (fun _ h9 => h9) rfl d_V_change_16 ?_
      refine sd_callVI (As := []) (rest := [.int (nI (t + 1)), .ref qc]) (cx := [(qp, .inr (0, [.ref qr, .int (nI ((pft pf t))), .int (nI ((pn - t)))])), (qr, .inl (cI, 1000, .inl (pr)))]) (w1 := [(qp, .inr (0, [.ref qr, .int (nI (((pft pf t) + 1) % 1000)), .int (nI ((pn - t) - 1))])), (qr, .inl (cI, 1000, .inl (pr)))]) (c_P_take l D cI cZ cQ (qp) (qr) (pft pf t) (pn - t) (pr) (pft_lt hpf) (by omega)) ⟨wc_P_take, wm_V_223, wi_P, by decide, by decide, show (parseMethodDescriptor y_P_take.desc).map (fun d => d.parameters.length) = some 0 by decide +kernel⟩ wo_P_take wz_P_take hx hb hml hown hts hl.1 ⟨Nat.le_of_ble_eq_true rfl, Nat.le_of_ble_eq_true rfl⟩ ⟨Nat.le_of_ble_eq_true rfl, Nat.le_of_ble_eq_true rfl⟩ hK hP hD hS hA [1, 2] rfl (by decide) rfl rfl (q0 := 0) rfl rfl rfl (Nat.le_of_ble_eq_true rfl) d_V_change_19 (fun H locs hP hD hS => ?_)
      have hP : va_P D cls ((vW cI cQ cZ qv qp qr qj qg qs qh qn qu qw qH qF qc ql qf (nI (k)) (nI (n)) (ep) (nI (((pft pf t) + 1) % 1000)) (nI ((pn - t) - 1)) (1000) (pr) (wi) (M.2.2.2) (hf) (nI M.2.2.1) (lim) (nt) (lt) (nI (M.1)) (192) (M.2.1) (k) (nb) (k) (su) (k) (wt) (n + 1) (fun i => if i < n + 1 then some (hh i) else none) (n + 1) (fun i => if i < n + 1 then some (ff i) else none) (k) (cg_f pr pf ch t) (8) (le) (n + 1) (fl)) ++ va_pl L (rowE cI rw)) H := hP
      have hD : va_D A ((vW cI cQ cZ qv qp qr qj qg qs qh qn qu qw qH qF qc ql qf (nI (k)) (nI (n)) (ep) (nI (((pft pf t) + 1) % 1000)) (nI ((pn - t) - 1)) (1000) (pr) (wi) (M.2.2.2) (hf) (nI M.2.2.1) (lim) (nt) (lt) (nI (M.1)) (192) (M.2.1) (k) (nb) (k) (su) (k) (wt) (n + 1) (fun i => if i < n + 1 then some (hh i) else none) (n + 1) (fun i => if i < n + 1 then some (ff i) else none) (k) (cg_f pr pf ch t) (8) (le) (n + 1) (fl)) ++ va_pl L (rowE cI rw)) := hD
      refine sd_iast (j := t + 1) hx hb hK hP hD hS 12 0 rfl rfl (by omega) (by omega) d_V_change_22 (fun H locs hP hD hS => ?_)
      have hP : va_P D cls ((vW cI cQ cZ qv qp qr qj qg qs qh qn qu qw qH qF qc ql qf (nI (k)) (nI (n)) (ep) (nI (((pft pf t) + 1) % 1000)) (nI ((pn - t) - 1)) (1000) (pr) (wi) (M.2.2.2) (hf) (nI M.2.2.1) (lim) (nt) (lt) (nI (M.1)) (192) (M.2.1) (k) (nb) (k) (su) (k) (wt) (n + 1) (fun i => if i < n + 1 then some (hh i) else none) (n + 1) (fun i => if i < n + 1 then some (ff i) else none) (k) (upd (cg_f pr pf ch t) (t + 1) (pr (pft pf t))) (8) (le) (n + 1) (fl)) ++ va_pl L (rowE cI rw)) H := hP
      have hD : va_D A ((vW cI cQ cZ qv qp qr qj qg qs qh qn qu qw qH qF qc ql qf (nI (k)) (nI (n)) (ep) (nI (((pft pf t) + 1) % 1000)) (nI ((pn - t) - 1)) (1000) (pr) (wi) (M.2.2.2) (hf) (nI M.2.2.1) (lim) (nt) (lt) (nI (M.1)) (192) (M.2.1) (k) (nb) (k) (su) (k) (wt) (n + 1) (fun i => if i < n + 1 then some (hh i) else none) (n + 1) (fun i => if i < n + 1 then some (ff i) else none) (k) (upd (cg_f pr pf ch t) (t + 1) (pr (pft pf t))) (8) (le) (n + 1) (fl)) ++ va_pl L (rowE cI rw)) := hD
      refine lv_iinc hx hb d_V_change_23 hl (k := 2) rfl (v := nI (t + 1 + 1)) (ii_1 _) (Nat.le_of_ble_eq_true rfl) (lv' := [(2, .int (nI (t + 1 + 1))), (0, .ref qv), (1, .int (nI j))]) rfl (fun ls hl => ?_)
      refine lv_goto (tgt := 2) hx hb d_V_change_26 rfl ?_
      have hl := lv_sub hl (l' := [(0, .ref qv), (1, .int (nI j)), (2, .int (nI (t + 1 + 1)))]) [1, 2, 0] rfl
      rw [Nat.sub_sub] at hP hD
      exact ih2 _ (by omega) (t + 1) ls _ _ rfl (by omega) hl hP hD hS
  exact loop2 _ (0) ls _ _ rfl (by omega) hl hP hD hS
set_option maxHeartbeats 4000000 in
set_option maxRecDepth 100000 in
theorem c_V_adoptShares (l : Launch) (D : va_G) (cI cZ cQ : ClassId) (qv : Nat) (qp : Nat) (qr : Nat) (qj : Nat) (qg : Nat) (qs : Nat) (qh : Nat) (qn : Nat) (qu : Nat) (qw : Nat) (qH : Nat) (qF : Nat) (qc : Nat) (ql : Nat) (qf : Nat) (k : Nat) (n : Nat) (pf : Nat) (pn : Nat) (pr : Nat → Int32) (wi : Int32) (M : ms_T) (hf : Int32) (lim : Int32) (nt : Int32) (lt : Int32) (nb : Nat → Int32) (su : Nat → Int32) (wt : Nat → Int32) (ch : Nat → Int32) (le : Nat → Int32) (fl : Nat → Int32) (ep : Int32) (L : List Nat) (hh : Nat → Nat) (ff : Nat → Nat) (rw : Nat → Nat → Int32) (x : Nat) (f : Nat) (lf : Nat) (hk : k < 2 ^ 20) (hn : n < 2 ^ 20) (hhL : ∀ i, i < n + 1 → hh i ∈ L) (ffL : ∀ i, i < n + 1 → ff i ∈ L) (hx1 : x < n + 1) (hf8 : f < 8) (hlf : le f = nI lf) (hl8 : lf ≤ 8) : sd_V l D (tyL cI cZ cQ) y_V_adoptShares b_V_adoptShares 4 ({ frames := 1, cells := 0, slots := 0, locals := 21 }) [.ref qv, .int (nI x), .int (nI f)] ((vW cI cQ cZ qv qp qr qj qg qs qh qn qu qw qH qF qc ql qf (nI (k)) (nI (n)) (ep) (nI (pf)) (nI (pn)) (1000) (pr) (wi) (M.2.2.2) (hf) (nI M.2.2.1) (lim) (nt) (lt) (nI (M.1)) (192) (M.2.1) (k) (nb) (k) (su) (k) (wt) (n + 1) (fun i => if i < n + 1 then some (hh i) else none) (n + 1) (fun i => if i < n + 1 then some (ff i) else none) (k) (ch) (8) (le) (n + 1) (fl)) ++ va_pl L (rowE cI rw)) ((vW cI cQ cZ qv qp qr qj qg qs qh qn qu qw qH qF qc ql qf (nI (k)) (nI (n)) (ep) (nI (pf)) (nI (pn)) (1000) (pr) (wi) (M.2.2.2) (hf) (nI M.2.2.1) (lim) (nt) (lt) (nI (M.1)) (192) (M.2.1) (k) (nb) (k) (su) (k) (wt) (n + 1) (fun i => if i < n + 1 then some (hh i) else none) (n + 1) (fun i => if i < n + 1 then some (ff i) else none) (k) (ch) (8) (le) (n + 1) (fl)) ++ va_pl L (rowE cI (as_f hh ff x f lf rw))) := by
  refine sd_ofV (by decide) (Nat.le_of_ble_eq_true rfl) ?_
  intro p e s m below meth c A ls hx hb hr hml hlk hown hts hK hP hD hA hS hl
  have hl : lv_has ls 4 [(0, .ref qv), (1, .int (nI x)), (2, .int (nI f))] := hl
  refine lv_iconst (v := 0) hx hb d_V_adoptShares_0 (by decide) ?_
  refine sd_top (y := nI 0) (rfl) ?_
  refine lv_istore_n hx hb d_V_adoptShares_1 rfl hl (Nat.le_of_ble_eq_true rfl) (lv' := [(3, .int (nI 0)), (0, .ref qv), (1, .int (nI x)), (2, .int (nI f))]) rfl (fun ls hl => ?_)
  have hl := lv_sub hl (l' := [(0, .ref qv), (1, .int (nI x)), (2, .int (nI f)), (3, .int (nI 0))]) [1, 2, 3, 0] rfl
  have loop2 : ∀ (d : Nat) (b : Nat) (ls : Array Slot) (H : Heap) (locs : List Loc), lf - b = d → (b ≤ lf) → lv_has ls 4 [(0, .ref qv), (1, .int (nI x)), (2, .int (nI f)), (3, .int (nI (b)))] → va_P D cls ((vW cI cQ cZ qv qp qr qj qg qs qh qn qu qw qH qF qc ql qf (nI (k)) (nI (n)) (ep) (nI (pf)) (nI (pn)) (1000) (pr) (wi) (M.2.2.2) (hf) (nI M.2.2.1) (lim) (nt) (lt) (nI (M.1)) (192) (M.2.1) (k) (nb) (k) (su) (k) (wt) (n + 1) (fun i => if i < n + 1 then some (hh i) else none) (n + 1) (fun i => if i < n + 1 then some (ff i) else none) (k) (ch) (8) (le) (n + 1) (fl)) ++ va_pl L (rowE cI (as_f hh ff x f b rw))) H → va_D A ((vW cI cQ cZ qv qp qr qj qg qs qh qn qu qw qH qF qc ql qf (nI (k)) (nI (n)) (ep) (nI (pf)) (nI (pn)) (1000) (pr) (wi) (M.2.2.2) (hf) (nI M.2.2.1) (lim) (nt) (lt) (nI (M.1)) (192) (M.2.1) (k) (nb) (k) (su) (k) (wt) (n + 1) (fun i => if i < n + 1 then some (hh i) else none) (n + 1) (fun i => if i < n + 1 then some (ff i) else none) (k) (ch) (8) (le) (n + 1) (fl)) ++ va_pl L (rowE cI (as_f hh ff x f b rw))) → va_S A s.heap H locs → W p l e ({ frames := 1, cells := 0, slots := 0, locals := 21 }) s m ([.ref qv, .int (nI x), .int (nI f)] : List Value).toArray below meth c H locs 0 0 (MQ below (sd_qv D ((vW cI cQ cZ qv qp qr qj qg qs qh qn qu qw qH qF qc ql qf (nI (k)) (nI (n)) (ep) (nI (pf)) (nI (pn)) (1000) (pr) (wi) (M.2.2.2) (hf) (nI M.2.2.1) (lim) (nt) (lt) (nI (M.1)) (192) (M.2.1) (k) (nb) (k) (su) (k) (wt) (n + 1) (fun i => if i < n + 1 then some (hh i) else none) (n + 1) (fun i => if i < n + 1 then some (ff i) else none) (k) (ch) (8) (le) (n + 1) (fl)) ++ va_pl L (rowE cI (as_f hh ff x f lf rw))) A) ([.ref qv, .int (nI x), .int (nI f)] : List Value).toArray s 0 0 A) (F0 m 2 ls []) := by
    intro d
    induction d using Nat.strongRecOn with
    | _ d ih2 =>
    intro b ls H locs hd hb8 hl hP hD hS
    subst hd
    refine lv_iload_n hx hb d_V_adoptShares_2 rfl (lv_at hl 3 rfl) ?_
    refine lv_aload_n hx hb d_V_adoptShares_3 rfl (lv_at hl 0 rfl) ?_
    refine va_get (D := D) (ci := 4) (v := .ref ql) (C := R_V) (T := F_V) (N := 11) hx hb hts wl_V hown hK hP 0 rfl rfl 8 (by decide) (hts _ wf_V_23) (fun _ h9 => h9) rfl d_V_adoptShares_4 ?_
    refine lv_iload_n hx hb d_V_adoptShares_7 rfl (lv_at hl 2 rfl) ?_
    refine sd_iald (j := f) hx hb hK hP 13 0 rfl rfl (by omega) (by omega) d_V_adoptShares_8 ?_
    refine sd_top (y := nI (lf)) (hlf) ?_
    refine lv_icmp_ge (tgt := 42) hx hb d_V_adoptShares_9 rfl (fun hc9 => ?_) (fun hc9 => ?_)
    · skip
      rw [nI_leI (by omega) (by omega)] at hc9
      have hbl : lf = b := by omega
      subst hbl
      exact sd_vret hx hb hr hlk hP hS (Nat.le_of_ble_eq_true rfl) (Nat.le_of_ble_eq_true rfl) d_V_adoptShares_42
    · skip
      rw [nI_leI (by omega) (by omega)] at hc9
      refine lv_aload_n hx hb d_V_adoptShares_12 rfl (lv_at hl 0 rfl) ?_
      refine va_get (D := D) (ci := 4) (v := .ref qH) (C := R_V) (T := F_V) (N := 11) hx hb hts wl_V hown hK hP 0 rfl rfl 5 (by decide) (hts _ wf_V_57) (fun _ h9 => h9) rfl d_V_adoptShares_13 ?_
      refine lv_iload_n hx hb d_V_adoptShares_16 rfl (lv_at hl 1 rfl) ?_
      refine sd_aald (j := x) (z := hh (x)) hx hb hK hP 10 2 rfl rfl (by omega) (by omega) (if_pos (by omega)) d_V_adoptShares_17 ?_
      refine lv_iload_n hx hb d_V_adoptShares_18 rfl (lv_at hl 2 rfl) ?_
      refine lv_iload_n hx hb d_V_adoptShares_19 rfl (lv_at hl 3 rfl) ?_
      refine sd_callSI (As := [.int (nI f), .int (nI b)]) (rest := [.ref (hh (x))]) (cx := []) (w1 := []) (c_V_slot l D cI cZ cQ (f) (b)) ⟨wc_V_slot, wm_V_118, wi_V, by decide, by decide, show (parseMethodDescriptor y_V_slot.desc).map (fun d => d.parameters.length) = some 2 by decide +kernel⟩ ws_V_slot hx hb hml hown hts hl.1 ⟨Nat.le_of_ble_eq_true rfl, Nat.le_of_ble_eq_true rfl⟩ ⟨Nat.le_of_ble_eq_true rfl, Nat.le_of_ble_eq_true rfl⟩ hK hP hD hS hA [] rfl (by decide) rfl rfl rfl (Nat.le_of_ble_eq_true rfl) d_V_adoptShares_20 (fun H locs hP hD hS => ?_)
      have hP : va_P D cls ((vW cI cQ cZ qv qp qr qj qg qs qh qn qu qw qH qF qc ql qf (nI (k)) (nI (n)) (ep) (nI (pf)) (nI (pn)) (1000) (pr) (wi) (M.2.2.2) (hf) (nI M.2.2.1) (lim) (nt) (lt) (nI (M.1)) (192) (M.2.1) (k) (nb) (k) (su) (k) (wt) (n + 1) (fun i => if i < n + 1 then some (hh i) else none) (n + 1) (fun i => if i < n + 1 then some (ff i) else none) (k) (ch) (8) (le) (n + 1) (fl)) ++ va_pl L (rowE cI (as_f hh ff x f b rw))) H := hP
      have hD : va_D A ((vW cI cQ cZ qv qp qr qj qg qs qh qn qu qw qH qF qc ql qf (nI (k)) (nI (n)) (ep) (nI (pf)) (nI (pn)) (1000) (pr) (wi) (M.2.2.2) (hf) (nI M.2.2.1) (lim) (nt) (lt) (nI (M.1)) (192) (M.2.1) (k) (nb) (k) (su) (k) (wt) (n + 1) (fun i => if i < n + 1 then some (hh i) else none) (n + 1) (fun i => if i < n + 1 then some (ff i) else none) (k) (ch) (8) (le) (n + 1) (fl)) ++ va_pl L (rowE cI (as_f hh ff x f b rw))) := hD
      refine lv_aload_n hx hb d_V_adoptShares_23 rfl (lv_at hl 0 rfl) ?_
      refine va_get (D := D) (ci := 4) (v := .ref qF) (C := R_V) (T := F_V) (N := 11) hx hb hts wl_V hown hK hP 0 rfl rfl 6 (by decide) (hts _ wf_V_60) (fun _ h9 => h9) rfl d_V_adoptShares_24 ?_
      refine lv_iload_n hx hb d_V_adoptShares_27 rfl (lv_at hl 1 rfl) ?_
      refine sd_aald (j := x) (z := ff (x)) hx hb hK hP 11 2 rfl rfl (by omega) (by omega) (if_pos (by omega)) d_V_adoptShares_28 ?_
      refine lv_iload_n hx hb d_V_adoptShares_29 rfl (lv_at hl 2 rfl) ?_
      refine lv_iload_n hx hb d_V_adoptShares_30 rfl (lv_at hl 3 rfl) ?_
      refine sd_callSI (As := [.int (nI f), .int (nI b)]) (rest := [.ref (ff (x)), .int (nI (f * 8 + b)), .ref (hh (x))]) (cx := []) (w1 := []) (c_V_slot l D cI cZ cQ (f) (b)) ⟨wc_V_slot, wm_V_118, wi_V, by decide, by decide, show (parseMethodDescriptor y_V_slot.desc).map (fun d => d.parameters.length) = some 2 by decide +kernel⟩ ws_V_slot hx hb hml hown hts hl.1 ⟨Nat.le_of_ble_eq_true rfl, Nat.le_of_ble_eq_true rfl⟩ ⟨Nat.le_of_ble_eq_true rfl, Nat.le_of_ble_eq_true rfl⟩ hK hP hD hS hA [] rfl (by decide) rfl rfl rfl (Nat.le_of_ble_eq_true rfl) d_V_adoptShares_31 (fun H locs hP hD hS => ?_)
      have hP : va_P D cls ((vW cI cQ cZ qv qp qr qj qg qs qh qn qu qw qH qF qc ql qf (nI (k)) (nI (n)) (ep) (nI (pf)) (nI (pn)) (1000) (pr) (wi) (M.2.2.2) (hf) (nI M.2.2.1) (lim) (nt) (lt) (nI (M.1)) (192) (M.2.1) (k) (nb) (k) (su) (k) (wt) (n + 1) (fun i => if i < n + 1 then some (hh i) else none) (n + 1) (fun i => if i < n + 1 then some (ff i) else none) (k) (ch) (8) (le) (n + 1) (fl)) ++ va_pl L (rowE cI (as_f hh ff x f b rw))) H := hP
      have hD : va_D A ((vW cI cQ cZ qv qp qr qj qg qs qh qn qu qw qH qF qc ql qf (nI (k)) (nI (n)) (ep) (nI (pf)) (nI (pn)) (1000) (pr) (wi) (M.2.2.2) (hf) (nI M.2.2.1) (lim) (nt) (lt) (nI (M.1)) (192) (M.2.1) (k) (nb) (k) (su) (k) (wt) (n + 1) (fun i => if i < n + 1 then some (hh i) else none) (n + 1) (fun i => if i < n + 1 then some (ff i) else none) (k) (ch) (8) (le) (n + 1) (fl)) ++ va_pl L (rowE cI (as_f hh ff x f b rw))) := hD
      refine sd_rld (z := ff (x)) (j := f * 8 + b) hx hb hK hP (ffL (x) (by omega)) 0 rfl (by omega) d_V_adoptShares_34 ?_
      refine sd_rst (z := hh (x)) (j := f * 8 + b) hx hb hK hP hD hS (hhL (x) (by omega)) 0 rfl (by omega) d_V_adoptShares_35 (fun H locs hP hD hS => ?_)
      have hP : va_P D cls ((vW cI cQ cZ qv qp qr qj qg qs qh qn qu qw qH qF qc ql qf (nI (k)) (nI (n)) (ep) (nI (pf)) (nI (pn)) (1000) (pr) (wi) (M.2.2.2) (hf) (nI M.2.2.1) (lim) (nt) (lt) (nI (M.1)) (192) (M.2.1) (k) (nb) (k) (su) (k) (wt) (n + 1) (fun i => if i < n + 1 then some (hh i) else none) (n + 1) (fun i => if i < n + 1 then some (ff i) else none) (k) (ch) (8) (le) (n + 1) (fl)) ++ va_pl L (rowE cI (va_up (as_f hh ff x f b rw) (hh (x)) (upd ((as_f hh ff x f b rw) (hh (x))) (f * 8 + b) ((as_f hh ff x f b rw) (ff (x)) (f * 8 + b)))))) H := hP
      have hD : va_D A ((vW cI cQ cZ qv qp qr qj qg qs qh qn qu qw qH qF qc ql qf (nI (k)) (nI (n)) (ep) (nI (pf)) (nI (pn)) (1000) (pr) (wi) (M.2.2.2) (hf) (nI M.2.2.1) (lim) (nt) (lt) (nI (M.1)) (192) (M.2.1) (k) (nb) (k) (su) (k) (wt) (n + 1) (fun i => if i < n + 1 then some (hh i) else none) (n + 1) (fun i => if i < n + 1 then some (ff i) else none) (k) (ch) (8) (le) (n + 1) (fl)) ++ va_pl L (rowE cI (va_up (as_f hh ff x f b rw) (hh (x)) (upd ((as_f hh ff x f b rw) (hh (x))) (f * 8 + b) ((as_f hh ff x f b rw) (ff (x)) (f * 8 + b)))))) := hD
      refine lv_iinc hx hb d_V_adoptShares_36 hl (k := 3) rfl (v := nI (b + 1)) (ii_1 _) (Nat.le_of_ble_eq_true rfl) (lv' := [(3, .int (nI (b + 1))), (0, .ref qv), (1, .int (nI x)), (2, .int (nI f))]) rfl (fun ls hl => ?_)
      refine lv_goto (tgt := 2) hx hb d_V_adoptShares_39 rfl ?_
      have hl := lv_sub hl (l' := [(0, .ref qv), (1, .int (nI x)), (2, .int (nI f)), (3, .int (nI (b + 1)))]) [1, 2, 3, 0] rfl
      exact ih2 _ (by omega) (b + 1) ls _ _ rfl (by omega) hl hP hD hS
  exact loop2 _ (0) ls _ _ rfl (Nat.zero_le _) hl hP hD hS
set_option maxHeartbeats 4000000 in
set_option maxRecDepth 100000 in
theorem c_V_adoptFile (l : Launch) (D : va_G) (cI cZ cQ : ClassId) (qv : Nat) (qp : Nat) (qr : Nat) (qj : Nat) (qg : Nat) (qs : Nat) (qh : Nat) (qn : Nat) (qu : Nat) (qw : Nat) (qH : Nat) (qF : Nat) (qc : Nat) (ql : Nat) (qf : Nat) (k : Nat) (n : Nat) (pf : Nat) (pn : Nat) (pr : Nat → Int32) (wi : Int32) (M : ms_T) (hf : Int32) (lim : Int32) (nt : Int32) (lt : Int32) (nb : Nat → Int32) (su : Nat → Int32) (wt : Nat → Int32) (ch : Nat → Int32) (le : Nat → Int32) (fl : Nat → Int32) (ep : Int32) (L : List Nat) (hh : Nat → Nat) (ff : Nat → Nat) (rw : Nat → Nat → Int32) (f : Nat) (lf : Nat) (hk : k < 2 ^ 20) (hn : n < 2 ^ 20) (hhL : ∀ i, i < n + 1 → hh i ∈ L) (ffL : ∀ i, i < n + 1 → ff i ∈ L) (hf8 : f < 8) (hlf : le f = nI lf) (hl8 : lf ≤ 8) : sd_V l D (tyL cI cZ cQ) y_V_adoptFile b_V_adoptFile 3 ({ frames := 2, cells := 0, slots := 0, locals := 44 }) [.ref qv, .int (nI f)] ((vW cI cQ cZ qv qp qr qj qg qs qh qn qu qw qH qF qc ql qf (nI (k)) (nI (n)) (ep) (nI (pf)) (nI (pn)) (1000) (pr) (wi) (M.2.2.2) (hf) (nI M.2.2.1) (lim) (nt) (lt) (nI (M.1)) (192) (M.2.1) (k) (nb) (k) (su) (k) (wt) (n + 1) (fun i => if i < n + 1 then some (hh i) else none) (n + 1) (fun i => if i < n + 1 then some (ff i) else none) (k) (ch) (8) (le) (n + 1) (fl)) ++ va_pl L (rowE cI rw)) ((vW cI cQ cZ qv qp qr qj qg qs qh qn qu qw qH qF qc ql qf (nI (k)) (nI (n)) (ep) (nI (pf)) (nI (pn)) (1000) (pr) (wi) (M.2.2.2) (hf) (nI M.2.2.1) (lim) (nt) (lt) (nI (M.1)) (192) (M.2.1) (k) (nb) (k) (su) (k) (wt) (n + 1) (fun i => if i < n + 1 then some (hh i) else none) (n + 1) (fun i => if i < n + 1 then some (ff i) else none) (k) (ch) (8) (le) (n + 1) (fl)) ++ va_pl L (rowE cI (af_f hh ff f lf n rw))) := by
  refine sd_ofV (by decide) (Nat.le_of_ble_eq_true rfl) ?_
  intro p e s m below meth c A ls hx hb hr hml hlk hown hts hK hP hD hA hS hl
  have hl : lv_has ls 3 [(0, .ref qv), (1, .int (nI f))] := hl
  refine lv_iconst (v := 1) hx hb d_V_adoptFile_0 (by decide) ?_
  refine sd_top (y := nI (0 + 1)) (rfl) ?_
  refine lv_istore_n hx hb d_V_adoptFile_1 rfl hl (Nat.le_of_ble_eq_true rfl) (lv' := [(2, .int (nI (0 + 1))), (0, .ref qv), (1, .int (nI f))]) rfl (fun ls hl => ?_)
  have hl := lv_sub hl (l' := [(0, .ref qv), (1, .int (nI f)), (2, .int (nI (0 + 1)))]) [1, 2, 0] rfl
  have loop2 : ∀ (d : Nat) (u : Nat) (ls : Array Slot) (H : Heap) (locs : List Loc), n - u = d → (u ≤ n) → lv_has ls 3 [(0, .ref qv), (1, .int (nI f)), (2, .int (nI (u + 1)))] → va_P D cls ((vW cI cQ cZ qv qp qr qj qg qs qh qn qu qw qH qF qc ql qf (nI (k)) (nI (n)) (ep) (nI (pf)) (nI (pn)) (1000) (pr) (wi) (M.2.2.2) (hf) (nI M.2.2.1) (lim) (nt) (lt) (nI (M.1)) (192) (M.2.1) (k) (nb) (k) (su) (k) (wt) (n + 1) (fun i => if i < n + 1 then some (hh i) else none) (n + 1) (fun i => if i < n + 1 then some (ff i) else none) (k) (ch) (8) (le) (n + 1) (fl)) ++ va_pl L (rowE cI (af_f hh ff f lf u rw))) H → va_D A ((vW cI cQ cZ qv qp qr qj qg qs qh qn qu qw qH qF qc ql qf (nI (k)) (nI (n)) (ep) (nI (pf)) (nI (pn)) (1000) (pr) (wi) (M.2.2.2) (hf) (nI M.2.2.1) (lim) (nt) (lt) (nI (M.1)) (192) (M.2.1) (k) (nb) (k) (su) (k) (wt) (n + 1) (fun i => if i < n + 1 then some (hh i) else none) (n + 1) (fun i => if i < n + 1 then some (ff i) else none) (k) (ch) (8) (le) (n + 1) (fl)) ++ va_pl L (rowE cI (af_f hh ff f lf u rw))) → va_S A s.heap H locs → W p l e ({ frames := 2, cells := 0, slots := 0, locals := 44 }) s m ([.ref qv, .int (nI f)] : List Value).toArray below meth c H locs 0 0 (MQ below (sd_qv D ((vW cI cQ cZ qv qp qr qj qg qs qh qn qu qw qH qF qc ql qf (nI (k)) (nI (n)) (ep) (nI (pf)) (nI (pn)) (1000) (pr) (wi) (M.2.2.2) (hf) (nI M.2.2.1) (lim) (nt) (lt) (nI (M.1)) (192) (M.2.1) (k) (nb) (k) (su) (k) (wt) (n + 1) (fun i => if i < n + 1 then some (hh i) else none) (n + 1) (fun i => if i < n + 1 then some (ff i) else none) (k) (ch) (8) (le) (n + 1) (fl)) ++ va_pl L (rowE cI (af_f hh ff f lf n rw))) A) ([.ref qv, .int (nI f)] : List Value).toArray s 0 0 A) (F0 m 2 ls []) := by
    intro d
    induction d using Nat.strongRecOn with
    | _ d ih2 =>
    intro u ls H locs hd hu hl hP hD hS
    subst hd
    refine lv_iload_n hx hb d_V_adoptFile_2 rfl (lv_at hl 2 rfl) ?_
    refine lv_aload_n hx hb d_V_adoptFile_3 rfl (lv_at hl 0 rfl) ?_
    refine va_get (D := D) (ci := 4) (v := .int (nI (n))) (C := R_V) (T := F_V) (N := 11) hx hb hts wl_V hown hK hP 0 rfl rfl 1 (by decide) (hts _ wf_V_40) (fun _ h9 => h9) rfl d_V_adoptFile_4 ?_
    refine lv_icmp_gt (tgt := 22) hx hb d_V_adoptFile_7 rfl (fun hc7 => ?_) (fun hc7 => ?_)
    · skip
      rw [nI_ltI (by omega) (by omega)] at hc7
      have hun : n = u := by omega
      subst hun
      exact sd_vret hx hb hr hlk hP hS (Nat.le_of_ble_eq_true rfl) (Nat.le_of_ble_eq_true rfl) d_V_adoptFile_22
    · skip
      rw [nI_ltI (by omega) (by omega)] at hc7
      refine lv_aload_n hx hb d_V_adoptFile_10 rfl (lv_at hl 0 rfl) ?_
      refine lv_iload_n hx hb d_V_adoptFile_11 rfl (lv_at hl 2 rfl) ?_
      refine lv_iload_n hx hb d_V_adoptFile_12 rfl (lv_at hl 1 rfl) ?_
      refine sd_allVV (As := [.int (nI (u + 1)), .int (nI f)]) (rest := []) (w1 := ((vW cI cQ cZ qv qp qr qj qg qs qh qn qu qw qH qF qc ql qf (nI (k)) (nI (n)) (ep) (nI (pf)) (nI (pn)) (1000) (pr) (wi) (M.2.2.2) (hf) (nI M.2.2.1) (lim) (nt) (lt) (nI (M.1)) (192) (M.2.1) (k) (nb) (k) (su) (k) (wt) (n + 1) (fun i => if i < n + 1 then some (hh i) else none) (n + 1) (fun i => if i < n + 1 then some (ff i) else none) (k) (ch) (8) (le) (n + 1) (fl)) ++ va_pl L (rowE cI (as_f hh ff (u + 1) f lf (af_f hh ff f lf u rw))))) (c_V_adoptShares l D cI cZ cQ (qv) (qp) (qr) (qj) (qg) (qs) (qh) (qn) (qu) (qw) (qH) (qF) (qc) (ql) (qf) (k) (n) (pf) (pn) (pr) (wi) (M) (hf) (lim) (nt) (lt) (nb) (su) (wt) (ch) (le) (fl) (ep) (L) (hh) (ff) (af_f hh ff f lf u rw) (u + 1) (f) (lf) (hk) (hn) (hhL) (ffL) (by omega) (hf8) (hlf) (hl8)) ⟨wc_V_adoptShares, wm_V_169, wi_V, by decide, by decide, show (parseMethodDescriptor y_V_adoptShares.desc).map (fun d => d.parameters.length) = some 2 by decide +kernel⟩ wo_V_adoptShares wz_V_adoptShares hx hb hml hown hts hl.1 ⟨Nat.le_of_ble_eq_true rfl, Nat.le_of_ble_eq_true rfl⟩ ⟨Nat.le_of_ble_eq_true rfl, Nat.le_of_ble_eq_true rfl⟩ hK hP hD hS hA (va_adr rfl) (q0 := 0) rfl rfl rfl (Nat.le_of_ble_eq_true rfl) d_V_adoptFile_13 (fun H locs hP hD hS => ?_)
      have hP : va_P D cls ((vW cI cQ cZ qv qp qr qj qg qs qh qn qu qw qH qF qc ql qf (nI (k)) (nI (n)) (ep) (nI (pf)) (nI (pn)) (1000) (pr) (wi) (M.2.2.2) (hf) (nI M.2.2.1) (lim) (nt) (lt) (nI (M.1)) (192) (M.2.1) (k) (nb) (k) (su) (k) (wt) (n + 1) (fun i => if i < n + 1 then some (hh i) else none) (n + 1) (fun i => if i < n + 1 then some (ff i) else none) (k) (ch) (8) (le) (n + 1) (fl)) ++ va_pl L (rowE cI (as_f hh ff (u + 1) f lf (af_f hh ff f lf u rw)))) H := hP
      have hD : va_D A ((vW cI cQ cZ qv qp qr qj qg qs qh qn qu qw qH qF qc ql qf (nI (k)) (nI (n)) (ep) (nI (pf)) (nI (pn)) (1000) (pr) (wi) (M.2.2.2) (hf) (nI M.2.2.1) (lim) (nt) (lt) (nI (M.1)) (192) (M.2.1) (k) (nb) (k) (su) (k) (wt) (n + 1) (fun i => if i < n + 1 then some (hh i) else none) (n + 1) (fun i => if i < n + 1 then some (ff i) else none) (k) (ch) (8) (le) (n + 1) (fl)) ++ va_pl L (rowE cI (as_f hh ff (u + 1) f lf (af_f hh ff f lf u rw)))) := hD
      refine lv_iinc hx hb d_V_adoptFile_16 hl (k := 2) rfl (v := nI (u + 1 + 1)) (ii_1 _) (Nat.le_of_ble_eq_true rfl) (lv' := [(2, .int (nI (u + 1 + 1))), (0, .ref qv), (1, .int (nI f))]) rfl (fun ls hl => ?_)
      refine lv_goto (tgt := 2) hx hb d_V_adoptFile_19 rfl ?_
      have hl := lv_sub hl (l' := [(0, .ref qv), (1, .int (nI f)), (2, .int (nI (u + 1 + 1)))]) [1, 2, 0] rfl
      exact ih2 _ (by omega) (u + 1) ls _ _ rfl (by omega) hl hP hD hS
  exact loop2 _ (0) ls _ _ rfl (Nat.zero_le _) hl hP hD hS
