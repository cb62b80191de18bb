def sv_f (x : Int64) (b g : Nat) : Int32 := if g = 0 then bI (lb x b) else 0
/-- the first g coefficients of byte b of file f are set anew -/
def sc_f (x : Int64) (f b : Nat) : Nat → (Nat → Int32) → Nat → Int32
  | 0, fr => fr
  | g + 1, fr => upd (sc_f x f b g fr) (9 * (8 * f + b) + g) (sv_f x b g)
def sb_f (x : Int64) (f : Nat) : Nat → (Nat → Int32) → Nat → Int32
  | 0, fr => fr
  | b + 1, fr => sc_f x f b 9 (sb_f x f b fr)
theorem okb_0 : okb 0 := by have h := okb_bI 0#8; rw [bI_0] at h; exact h
theorem sv_ok (x : Int64) (b g : Nat) : okb (sv_f x b g) := by
  unfold sv_f
  split
  · exact okb_bI _
  · exact okb_0
theorem sc_ok (x : Int64) (f b g : Nat) (fr : Nat → Int32) (h : ∀ i, okb (fr i)) : ∀ i, okb (sc_f x f b g fr i) := by
  induction g with
  | zero => exact h
  | succ g ih => exact okb_upd ih (sv_ok x b g)
theorem sb_ok (x : Int64) (f b : Nat) (fr : Nat → Int32) (h : ∀ i, okb (fr i)) : ∀ i, okb (sb_f x f b fr i) := by
  induction b with
  | zero => exact h
  | succ b ih => exact sc_ok x f b 9 _ ih
theorem cp_ok (co : Nat → Int32) (j : Nat) (fr : Nat → Int32) (hco : ∀ i, okb (co i)) (h : ∀ i, okb (fr i)) : ∀ i, okb (cp_f co j fr i) := by
  induction j with
  | zero => exact h
  | succ j ih => exact okb_upd ih (hco j)
theorem sm_lz0 (fx lx : Nat) : ∀ g, g ≤ fx → sm_b (lz1 fx lx) g = 0 := by
  intro g
  induction g with
  | zero => intro _; rfl
  | succ g ih =>
    intro hg
    show sm_b (lz1 fx lx) g + lz1 fx lx g = 0
    rw [ih (by omega)]
    unfold lz1
    rw [if_neg (by omega)]
theorem sm_lzx (fx lx : Nat) : ∀ g, fx < g → sm_b (lz1 fx lx) g = lx := by
  intro g
  induction g with
  | zero => intro h; omega
  | succ g ih =>
    intro hg
    show sm_b (lz1 fx lx) g + lz1 fx lx g = lx
    by_cases h : g = fx
    · rw [sm_lz0 fx lx g (by omega)]; unfold lz1; rw [if_pos h]; omega
    · rw [ih (by omega)]; unfold lz1; rw [if_neg h]; omega
theorem sm_lz1 {fx lx : Nat} (h : fx < 8) : sm_b (lz1 fx lx) 8 = lx := sm_lzx fx lx 8 h
theorem d_M_store_0 : decode b_M_store 0 = .ok (.aload_n 0, 1) := by decide +kernel
theorem d_M_store_1 : decode b_M_store 1 = .ok (.iload_n 1, 1) := by decide +kernel
theorem d_M_store_2 : decode b_M_store 2 = .ok (.invokestatic 129, 3) := by decide +kernel
theorem d_M_store_5 : decode b_M_store 5 = .ok (.ifCond .eq 16, 3) := by decide +kernel
theorem d_M_store_8 : decode b_M_store 8 = .ok (.iload 4, 2) := by decide +kernel
theorem d_M_store_10 : decode b_M_store 10 = .ok (.iconst 1, 1) := by decide +kernel
theorem d_M_store_11 : decode b_M_store 11 = .ok (.if_icmp .lt 10, 3) := by decide +kernel
theorem d_M_store_14 : decode b_M_store 14 = .ok (.iload 4, 2) := by decide +kernel
theorem d_M_store_16 : decode b_M_store 16 = .ok (.bipush 8, 2) := by decide +kernel
theorem d_M_store_18 : decode b_M_store 18 = .ok (.if_icmp .le 7, 3) := by decide +kernel
theorem d_M_store_21 : decode b_M_store 21 = .ok (.iconst 1, 1) := by decide +kernel
theorem d_M_store_22 : decode b_M_store 22 = .ok (.goto 55, 3) := by decide +kernel
theorem d_M_store_25 : decode b_M_store 25 = .ok (.aload_n 0, 1) := by decide +kernel
theorem d_M_store_26 : decode b_M_store 26 = .ok (.getfield 16, 3) := by decide +kernel
theorem d_M_store_29 : decode b_M_store 29 = .ok (.iload_n 1, 1) := by decide +kernel
theorem d_M_store_30 : decode b_M_store 30 = .ok (.iaload, 1) := by decide +kernel
theorem d_M_store_31 : decode b_M_store 31 = .ok (.ifCond .gt 21, 3) := by decide +kernel
theorem d_M_store_34 : decode b_M_store 34 = .ok (.aload_n 0, 1) := by decide +kernel
theorem d_M_store_35 : decode b_M_store 35 = .ok (.invokevirtual 133, 3) := by decide +kernel
theorem d_M_store_38 : decode b_M_store 38 = .ok (.aload_n 0, 1) := by decide +kernel
theorem d_M_store_39 : decode b_M_store 39 = .ok (.getfield 45, 3) := by decide +kernel
theorem d_M_store_42 : decode b_M_store 42 = .ok (.if_icmp .lt 10, 3) := by decide +kernel
theorem d_M_store_45 : decode b_M_store 45 = .ok (.aload_n 0, 1) := by decide +kernel
theorem d_M_store_46 : decode b_M_store 46 = .ok (.getfield 100, 3) := by decide +kernel
theorem d_M_store_49 : decode b_M_store 49 = .ok (.ifCond .le 7, 3) := by decide +kernel
theorem d_M_store_52 : decode b_M_store 52 = .ok (.iconst 2, 1) := by decide +kernel
theorem d_M_store_53 : decode b_M_store 53 = .ok (.goto 24, 3) := by decide +kernel
theorem d_M_store_56 : decode b_M_store 56 = .ok (.aload_n 0, 1) := by decide +kernel
theorem d_M_store_57 : decode b_M_store 57 = .ok (.getfield 58, 3) := by decide +kernel
theorem d_M_store_60 : decode b_M_store 60 = .ok (.iload 4, 2) := by decide +kernel
theorem d_M_store_62 : decode b_M_store 62 = .ok (.aload_n 0, 1) := by decide +kernel
theorem d_M_store_63 : decode b_M_store 63 = .ok (.getfield 48, 3) := by decide +kernel
theorem d_M_store_66 : decode b_M_store 66 = .ok (.iconst 1, 1) := by decide +kernel
theorem d_M_store_67 : decode b_M_store 67 = .ok (.isub, 1) := by decide +kernel
theorem d_M_store_68 : decode b_M_store 68 = .ok (.imul, 1) := by decide +kernel
theorem d_M_store_69 : decode b_M_store 69 = .ok (.if_icmp .ge 7, 3) := by decide +kernel
theorem d_M_store_72 : decode b_M_store 72 = .ok (.iconst 3, 1) := by decide +kernel
theorem d_M_store_73 : decode b_M_store 73 = .ok (.goto 4, 3) := by decide +kernel
theorem d_M_store_76 : decode b_M_store 76 = .ok (.iconst 0, 1) := by decide +kernel
theorem d_M_store_77 : decode b_M_store 77 = .ok (.putfield 51, 3) := by decide +kernel
theorem d_M_store_80 : decode b_M_store 80 = .ok (.aload_n 0, 1) := by decide +kernel
theorem d_M_store_81 : decode b_M_store 81 = .ok (.getfield 51, 3) := by decide +kernel
theorem d_M_store_84 : decode b_M_store 84 = .ok (.ifCond .le 5, 3) := by decide +kernel
theorem d_M_store_87 : decode b_M_store 87 = .ok (.iconst 0, 1) := by decide +kernel
theorem d_M_store_88 : decode b_M_store 88 = .ok (.ireturn, 1) := by decide +kernel
theorem d_M_store_89 : decode b_M_store 89 = .ok (.aload_n 0, 1) := by decide +kernel
theorem d_M_store_90 : decode b_M_store 90 = .ok (.invokevirtual 136, 3) := by decide +kernel
theorem d_M_store_93 : decode b_M_store 93 = .ok (.iconst 0, 1) := by decide +kernel
theorem d_M_store_94 : decode b_M_store 94 = .ok (.istore 5, 2) := by decide +kernel
theorem d_M_store_96 : decode b_M_store 96 = .ok (.iload 5, 2) := by decide +kernel
theorem d_M_store_98 : decode b_M_store 98 = .ok (.iload 4, 2) := by decide +kernel
theorem d_M_store_100 : decode b_M_store 100 = .ok (.if_icmp .ge 64, 3) := by decide +kernel
theorem d_M_store_103 : decode b_M_store 103 = .ok (.iconst 0, 1) := by decide +kernel
theorem d_M_store_104 : decode b_M_store 104 = .ok (.istore 6, 2) := by decide +kernel
theorem d_M_store_106 : decode b_M_store 106 = .ok (.iload 6, 2) := by decide +kernel
theorem d_M_store_108 : decode b_M_store 108 = .ok (.bipush 9, 2) := by decide +kernel
theorem d_M_store_110 : decode b_M_store 110 = .ok (.if_icmp .ge 48, 3) := by decide +kernel
theorem d_M_store_113 : decode b_M_store 113 = .ok (.aload_n 0, 1) := by decide +kernel
theorem d_M_store_114 : decode b_M_store 114 = .ok (.getfield 22, 3) := by decide +kernel
theorem d_M_store_117 : decode b_M_store 117 = .ok (.bipush 9, 2) := by decide +kernel
theorem d_M_store_119 : decode b_M_store 119 = .ok (.bipush 8, 2) := by decide +kernel
theorem d_M_store_121 : decode b_M_store 121 = .ok (.iload_n 1, 1) := by decide +kernel
theorem d_M_store_122 : decode b_M_store 122 = .ok (.imul, 1) := by decide +kernel
theorem d_M_store_123 : decode b_M_store 123 = .ok (.iload 5, 2) := by decide +kernel
theorem d_M_store_125 : decode b_M_store 125 = .ok (.iadd, 1) := by decide +kernel
theorem d_M_store_126 : decode b_M_store 126 = .ok (.imul, 1) := by decide +kernel
theorem d_M_store_127 : decode b_M_store 127 = .ok (.iload 6, 2) := by decide +kernel
theorem d_M_store_129 : decode b_M_store 129 = .ok (.iadd, 1) := by decide +kernel
theorem d_M_store_130 : decode b_M_store 130 = .ok (.iload 6, 2) := by decide +kernel
theorem d_M_store_132 : decode b_M_store 132 = .ok (.ifCond .ne 18, 3) := by decide +kernel
theorem d_M_store_135 : decode b_M_store 135 = .ok (.lload_n 2, 1) := by decide +kernel
theorem d_M_store_136 : decode b_M_store 136 = .ok (.bipush 8, 2) := by decide +kernel
theorem d_M_store_138 : decode b_M_store 138 = .ok (.iload 5, 2) := by decide +kernel
theorem d_M_store_140 : decode b_M_store 140 = .ok (.imul, 1) := by decide +kernel
theorem d_M_store_141 : decode b_M_store 141 = .ok (.lshr, 1) := by decide +kernel
theorem d_M_store_142 : decode b_M_store 142 = .ok (.ldc2_w 61, 3) := by decide +kernel
theorem d_M_store_145 : decode b_M_store 145 = .ok (.land, 1) := by decide +kernel
theorem d_M_store_146 : decode b_M_store 146 = .ok (.l2i, 1) := by decide +kernel
theorem d_M_store_147 : decode b_M_store 147 = .ok (.goto 4, 3) := by decide +kernel
theorem d_M_store_150 : decode b_M_store 150 = .ok (.iconst 0, 1) := by decide +kernel
theorem d_M_store_151 : decode b_M_store 151 = .ok (.iastore, 1) := by decide +kernel
theorem d_M_store_152 : decode b_M_store 152 = .ok (.iinc 6 1, 3) := by decide +kernel
theorem d_M_store_155 : decode b_M_store 155 = .ok (.goto (-49), 3) := by decide +kernel
theorem d_M_store_158 : decode b_M_store 158 = .ok (.iinc 5 1, 3) := by decide +kernel
theorem d_M_store_161 : decode b_M_store 161 = .ok (.goto (-65), 3) := by decide +kernel
theorem d_M_store_164 : decode b_M_store 164 = .ok (.aload_n 0, 1) := by decide +kernel
theorem d_M_store_165 : decode b_M_store 165 = .ok (.iload_n 1, 1) := by decide +kernel
theorem d_M_store_166 : decode b_M_store 166 = .ok (.putfield 103, 3) := by decide +kernel
theorem d_M_store_169 : decode b_M_store 169 = .ok (.aload_n 0, 1) := by decide +kernel
theorem d_M_store_170 : decode b_M_store 170 = .ok (.iload 4, 2) := by decide +kernel
theorem d_M_store_172 : decode b_M_store 172 = .ok (.putfield 106, 3) := by decide +kernel
theorem d_M_store_175 : decode b_M_store 175 = .ok (.aload_n 0, 1) := by decide +kernel
theorem d_M_store_176 : decode b_M_store 176 = .ok (.iconst 1, 1) := by decide +kernel
theorem d_M_store_177 : decode b_M_store 177 = .ok (.iload 4, 2) := by decide +kernel
theorem d_M_store_179 : decode b_M_store 179 = .ok (.aload_n 0, 1) := by decide +kernel
theorem d_M_store_180 : decode b_M_store 180 = .ok (.getfield 48, 3) := by decide +kernel
theorem d_M_store_183 : decode b_M_store 183 = .ok (.iconst 1, 1) := by decide +kernel
theorem d_M_store_184 : decode b_M_store 184 = .ok (.isub, 1) := by decide +kernel
theorem d_M_store_185 : decode b_M_store 185 = .ok (.imul, 1) := by decide +kernel
theorem d_M_store_186 : decode b_M_store 186 = .ok (.invokevirtual 139, 3) := by decide +kernel
theorem d_M_store_189 : decode b_M_store 189 = .ok (.ireturn, 1) := by decide +kernel
theorem d_M_refresh_0 : decode b_M_refresh 0 = .ok (.aload_n 0, 1) := by decide +kernel
theorem d_M_refresh_1 : decode b_M_refresh 1 = .ok (.aload_n 0, 1) := by decide +kernel
theorem d_M_refresh_2 : decode b_M_refresh 2 = .ok (.invokevirtual 133, 3) := by decide +kernel
theorem d_M_refresh_5 : decode b_M_refresh 5 = .ok (.aload_n 0, 1) := by decide +kernel
theorem d_M_refresh_6 : decode b_M_refresh 6 = .ok (.getfield 45, 3) := by decide +kernel
theorem d_M_refresh_9 : decode b_M_refresh 9 = .ok (.if_icmp .lt 10, 3) := by decide +kernel
theorem d_M_refresh_12 : decode b_M_refresh 12 = .ok (.aload_n 0, 1) := by decide +kernel
theorem d_M_refresh_13 : decode b_M_refresh 13 = .ok (.getfield 100, 3) := by decide +kernel
theorem d_M_refresh_16 : decode b_M_refresh 16 = .ok (.ifCond .le 7, 3) := by decide +kernel
theorem d_M_refresh_19 : decode b_M_refresh 19 = .ok (.iconst 1, 1) := by decide +kernel
theorem d_M_refresh_20 : decode b_M_refresh 20 = .ok (.goto 26, 3) := by decide +kernel
theorem d_M_refresh_23 : decode b_M_refresh 23 = .ok (.aload_n 0, 1) := by decide +kernel
theorem d_M_refresh_24 : decode b_M_refresh 24 = .ok (.getfield 58, 3) := by decide +kernel
theorem d_M_refresh_27 : decode b_M_refresh 27 = .ok (.aload_n 0, 1) := by decide +kernel
theorem d_M_refresh_28 : decode b_M_refresh 28 = .ok (.invokevirtual 142, 3) := by decide +kernel
theorem d_M_refresh_31 : decode b_M_refresh 31 = .ok (.aload_n 0, 1) := by decide +kernel
theorem d_M_refresh_32 : decode b_M_refresh 32 = .ok (.getfield 48, 3) := by decide +kernel
theorem d_M_refresh_35 : decode b_M_refresh 35 = .ok (.iconst 1, 1) := by decide +kernel
theorem d_M_refresh_36 : decode b_M_refresh 36 = .ok (.isub, 1) := by decide +kernel
theorem d_M_refresh_37 : decode b_M_refresh 37 = .ok (.imul, 1) := by decide +kernel
theorem d_M_refresh_38 : decode b_M_refresh 38 = .ok (.if_icmp .ge 7, 3) := by decide +kernel
theorem d_M_refresh_41 : decode b_M_refresh 41 = .ok (.iconst 2, 1) := by decide +kernel
theorem d_M_refresh_42 : decode b_M_refresh 42 = .ok (.goto 4, 3) := by decide +kernel
theorem d_M_refresh_45 : decode b_M_refresh 45 = .ok (.iconst 0, 1) := by decide +kernel
theorem d_M_refresh_46 : decode b_M_refresh 46 = .ok (.putfield 51, 3) := by decide +kernel
theorem d_M_refresh_49 : decode b_M_refresh 49 = .ok (.aload_n 0, 1) := by decide +kernel
theorem d_M_refresh_50 : decode b_M_refresh 50 = .ok (.getfield 51, 3) := by decide +kernel
theorem d_M_refresh_53 : decode b_M_refresh 53 = .ok (.ifCond .le 5, 3) := by decide +kernel
theorem d_M_refresh_56 : decode b_M_refresh 56 = .ok (.iconst 0, 1) := by decide +kernel
theorem d_M_refresh_57 : decode b_M_refresh 57 = .ok (.ireturn, 1) := by decide +kernel
theorem d_M_refresh_58 : decode b_M_refresh 58 = .ok (.aload_n 0, 1) := by decide +kernel
theorem d_M_refresh_59 : decode b_M_refresh 59 = .ok (.invokevirtual 136, 3) := by decide +kernel
theorem d_M_refresh_62 : decode b_M_refresh 62 = .ok (.aload_n 0, 1) := by decide +kernel
theorem d_M_refresh_63 : decode b_M_refresh 63 = .ok (.iconst 2, 1) := by decide +kernel
theorem d_M_refresh_64 : decode b_M_refresh 64 = .ok (.aload_n 0, 1) := by decide +kernel
theorem d_M_refresh_65 : decode b_M_refresh 65 = .ok (.invokevirtual 142, 3) := by decide +kernel
theorem d_M_refresh_68 : decode b_M_refresh 68 = .ok (.aload_n 0, 1) := by decide +kernel
theorem d_M_refresh_69 : decode b_M_refresh 69 = .ok (.getfield 48, 3) := by decide +kernel
theorem d_M_refresh_72 : decode b_M_refresh 72 = .ok (.iconst 1, 1) := by decide +kernel
theorem d_M_refresh_73 : decode b_M_refresh 73 = .ok (.isub, 1) := by decide +kernel
theorem d_M_refresh_74 : decode b_M_refresh 74 = .ok (.imul, 1) := by decide +kernel
theorem d_M_refresh_75 : decode b_M_refresh 75 = .ok (.invokevirtual 139, 3) := by decide +kernel
theorem d_M_refresh_78 : decode b_M_refresh 78 = .ok (.ireturn, 1) := by decide +kernel
set_option maxHeartbeats 4000000 in
set_option maxRecDepth 100000 in
theorem c_M_store_1a (l : Launch) (D : va_G) (cI cZ cQ : ClassId) (qm : Nat) (mp : Nat) (mt : Nat) (ml : Nat) (mc : Nat) (mf : Nat) (me : Nat) (mg : Nat) (mh : Nat) (mu : Nat) (k : Nat) (n : Nat) (pn : Nat) (nx : Nat) (cd : Int32) (ep : Int32) (M : mm_T) (wi : Int32) (jb : Int32) (fp : Int32) (tf : Int32) (tt : Int32) (fi : Int32) (ln : Int32) (bx : Int32) (pr : Nat → Int32) (tk : Nat → Int32) (le : Nat → Int32) (co : Nat → Int32) (fr : Nat → Int32) (em : Nat → Int32) (nb : Nat → Int32) (su : Nat → Int32) (f : Int32) (x : Int64) (z : Int32) (hk : k ≤ 9) (hn : n ≤ 9) (hfx : ¬ (0 ≤ f ∧ f ≤ 7)) : sd_I l D (tyL cI cZ cQ) y_M_store b_M_store 7 (.int) ({ frames := 1, cells := 0, slots := 0, locals := 20 }) [.ref qm, .int (f), .long (x), .int (z)] (mW cI cZ qm mp mt ml mc mf me mg mh mu (cd) (nI k) (nI n) (nI (pn)) (nI (nx)) (ep) (nI (M.1)) (M.2.2.1) (M.2.2.2) (wi) (jb) (fp) (tf) (tt) (fi) (ln) (bx) (1000) (pr) (1000) (tk) (8) (le) (576) (co) (576) (fr) (10) (em) (192) (M.2.1) (10) (nb) (10) (su)) (0) (mW cI cZ qm mp mt ml mc mf me mg mh mu (1) (nI k) (nI n) (nI (pn)) (nI (nx)) (ep) (nI (M.1)) (M.2.2.1) (M.2.2.2) (wi) (jb) (fp) (tf) (tt) (fi) (ln) (bx) (1000) (pr) (1000) (tk) (8) (le) (576) (co) (576) (fr) (10) (em) (192) (M.2.1) (10) (nb) (10) (su)) := by
  refine sd_ofI (by decide) (Nat.le_of_ble_eq_true rfl) ?_
  intro p e s m below meth c A ls hx hb hr hml hlk hown hts hK hP hD hA hS hl
  have hl : lv_has ls 7 [(0, .ref qm), (1, .int (f)), (2, .long (x)), (4, .int (z))] := hl
  refine lv_aload_n hx hb d_M_store_0 rfl (lv_at hl 0 rfl) ?_
  refine lv_iload_n hx hb d_M_store_1 rfl (lv_at hl 1 rfl) ?_
  refine sd_callSI (As := [.int (f)]) (rest := [.ref qm]) (cx := []) (w1 := []) (c_M_isFile_0 l D cI cZ cQ (f) (hfx)) ⟨wc_M_isFile, wm_M_129, wi_M, by decide, by decide, show (parseMethodDescriptor y_M_isFile.desc).map (fun d => d.parameters.length) = some 1 by decide +kernel⟩ ws_M_isFile hx hb hml hown hts hl.1 ⟨Nat.le_of_ble_eq_true rfl, Nat.le_of_ble_eq_true rfl⟩ ⟨Nat.le_of_ble_eq_true rfl, Nat.le_of_ble_eq_true rfl⟩ hK hP hD hS hA [] rfl (by decide) rfl rfl rfl (Nat.le_of_ble_eq_true rfl) d_M_store_2 (fun H locs hP hD hS => ?_)
  have hP : va_P D cls (mW cI cZ qm mp mt ml mc mf me mg mh mu (cd) (nI k) (nI n) (nI (pn)) (nI (nx)) (ep) (nI (M.1)) (M.2.2.1) (M.2.2.2) (wi) (jb) (fp) (tf) (tt) (fi) (ln) (bx) (1000) (pr) (1000) (tk) (8) (le) (576) (co) (576) (fr) (10) (em) (192) (M.2.1) (10) (nb) (10) (su)) H := hP
  have hD : va_D A (mW cI cZ qm mp mt ml mc mf me mg mh mu (cd) (nI k) (nI n) (nI (pn)) (nI (nx)) (ep) (nI (M.1)) (M.2.2.1) (M.2.2.2) (wi) (jb) (fp) (tf) (tt) (fi) (ln) (bx) (1000) (pr) (1000) (tk) (8) (le) (576) (co) (576) (fr) (10) (em) (192) (M.2.1) (10) (nb) (10) (su)) := hD
  refine lv_if_eq (tgt := 21) hx hb d_M_store_5 rfl (fun hc5 => ?_) (fun hc5 => ?_)
  · skip
    refine lv_iconst (v := 1) hx hb d_M_store_21 (by decide) ?_
    refine lv_goto (tgt := 77) hx hb d_M_store_22 rfl ?_
    refine va_put (D := D) (ci := 5) (v := .int (1)) (ty := .int) (C := R_M) (T := F_M) (N := 26) hx hb hts wl_M t_M t_M_ok n_M hown hK hP hD hS 0 rfl rfl 0 (by decide) (hts _ wf_M_51) (fun _ h9 => h9) rfl (by decide +kernel) rfl rfl (Nat.le_of_ble_eq_true rfl) d_M_store_77 (fun H locs hP hD hS => ?_)
    have hP : va_P D cls (mW cI cZ qm mp mt ml mc mf me mg mh mu (1) (nI k) (nI n) (nI (pn)) (nI (nx)) (ep) (nI (M.1)) (M.2.2.1) (M.2.2.2) (wi) (jb) (fp) (tf) (tt) (fi) (ln) (bx) (1000) (pr) (1000) (tk) (8) (le) (576) (co) (576) (fr) (10) (em) (192) (M.2.1) (10) (nb) (10) (su)) H := hP
    have hD : va_D A (mW cI cZ qm mp mt ml mc mf me mg mh mu (1) (nI k) (nI n) (nI (pn)) (nI (nx)) (ep) (nI (M.1)) (M.2.2.1) (M.2.2.2) (wi) (jb) (fp) (tf) (tt) (fi) (ln) (bx) (1000) (pr) (1000) (tk) (8) (le) (576) (co) (576) (fr) (10) (em) (192) (M.2.1) (10) (nb) (10) (su)) := hD
    refine lv_aload_n hx hb d_M_store_80 rfl (lv_at hl 0 rfl) ?_
    refine va_get (D := D) (ci := 5) (v := .int (1)) (C := R_M) (T := F_M) (N := 26) hx hb hts wl_M hown hK hP 0 rfl rfl 0 (by decide) (hts _ wf_M_51) (fun _ h9 => h9) rfl d_M_store_81 ?_
    refine lv_if_le (tgt := 89) hx hb d_M_store_84 rfl (fun hc84 => ?_) (fun hc84 => ?_)
    · skip
      exact False.elim (by revert hc84; decide)
    · skip
      refine lv_iconst (v := 0) hx hb d_M_store_87 (by decide) ?_
      exact sd_iret hx hb hr hlk hP hS (Nat.le_of_ble_eq_true rfl) (Nat.le_of_ble_eq_true rfl) (rfl) d_M_store_88
  · skip
    exact False.elim (by revert hc5; decide)
set_option maxHeartbeats 4000000 in
set_option maxRecDepth 100000 in
theorem c_M_store_1b (l : Launch) (D : va_G) (cI cZ cQ : ClassId) (qm : Nat) (mp : Nat) (mt : Nat) (ml : Nat) (mc : Nat) (mf : Nat) (me : Nat) (mg : Nat) (mh : Nat) (mu : Nat) (k : Nat) (n : Nat) (pn : Nat) (nx : Nat) (cd : Int32) (ep : Int32) (M : mm_T) (wi : Int32) (jb : Int32) (fp : Int32) (tf : Int32) (tt : Int32) (fi : Int32) (ln : Int32) (bx : Int32) (pr : Nat → Int32) (tk : Nat → Int32) (le : Nat → Int32) (co : Nat → Int32) (fr : Nat → Int32) (em : Nat → Int32) (nb : Nat → Int32) (su : Nat → Int32) (f : Nat) (x : Int64) (z : Int32) (hk : k ≤ 9) (hn : n ≤ 9) (hf8 : f < 8) (hz : ¬ (1 ≤ z ∧ z ≤ 8)) : sd_I l D (tyL cI cZ cQ) y_M_store b_M_store 7 (.int) ({ frames := 1, cells := 0, slots := 0, locals := 20 }) [.ref qm, .int (nI f), .long (x), .int (z)] (mW cI cZ qm mp mt ml mc mf me mg mh mu (cd) (nI k) (nI n) (nI (pn)) (nI (nx)) (ep) (nI (M.1)) (M.2.2.1) (M.2.2.2) (wi) (jb) (fp) (tf) (tt) (fi) (ln) (bx) (1000) (pr) (1000) (tk) (8) (le) (576) (co) (576) (fr) (10) (em) (192) (M.2.1) (10) (nb) (10) (su)) (0) (mW cI cZ qm mp mt ml mc mf me mg mh mu (1) (nI k) (nI n) (nI (pn)) (nI (nx)) (ep) (nI (M.1)) (M.2.2.1) (M.2.2.2) (wi) (jb) (fp) (tf) (tt) (fi) (ln) (bx) (1000) (pr) (1000) (tk) (8) (le) (576) (co) (576) (fr) (10) (em) (192) (M.2.1) (10) (nb) (10) (su)) := by
  refine sd_ofI (by decide) (Nat.le_of_ble_eq_true rfl) ?_
  intro p e s m below meth c A ls hx hb hr hml hlk hown hts hK hP hD hA hS hl
  have hl : lv_has ls 7 [(0, .ref qm), (1, .int (nI f)), (2, .long (x)), (4, .int (z))] := hl
  refine lv_aload_n hx hb d_M_store_0 rfl (lv_at hl 0 rfl) ?_
  refine lv_iload_n hx hb d_M_store_1 rfl (lv_at hl 1 rfl) ?_
  refine sd_callSI (As := [.int (nI f)]) (rest := [.ref qm]) (cx := []) (w1 := []) (c_M_isFile_1 l D cI cZ cQ (nI f) (fl_in hf8)) ⟨wc_M_isFile, wm_M_129, wi_M, by decide, by decide, show (parseMethodDescriptor y_M_isFile.desc).map (fun d => d.parameters.length) = some 1 by decide +kernel⟩ ws_M_isFile hx hb hml hown hts hl.1 ⟨Nat.le_of_ble_eq_true rfl, Nat.le_of_ble_eq_true rfl⟩ ⟨Nat.le_of_ble_eq_true rfl, Nat.le_of_ble_eq_true rfl⟩ hK hP hD hS hA [] rfl (by decide) rfl rfl rfl (Nat.le_of_ble_eq_true rfl) d_M_store_2 (fun H locs hP hD hS => ?_)
  have hP : va_P D cls (mW cI cZ qm mp mt ml mc mf me mg mh mu (cd) (nI k) (nI n) (nI (pn)) (nI (nx)) (ep) (nI (M.1)) (M.2.2.1) (M.2.2.2) (wi) (jb) (fp) (tf) (tt) (fi) (ln) (bx) (1000) (pr) (1000) (tk) (8) (le) (576) (co) (576) (fr) (10) (em) (192) (M.2.1) (10) (nb) (10) (su)) H := hP
  have hD : va_D A (mW cI cZ qm mp mt ml mc mf me mg mh mu (cd) (nI k) (nI n) (nI (pn)) (nI (nx)) (ep) (nI (M.1)) (M.2.2.1) (M.2.2.2) (wi) (jb) (fp) (tf) (tt) (fi) (ln) (bx) (1000) (pr) (1000) (tk) (8) (le) (576) (co) (576) (fr) (10) (em) (192) (M.2.1) (10) (nb) (10) (su)) := hD
  refine lv_if_eq (tgt := 21) hx hb d_M_store_5 rfl (fun hc5 => ?_) (fun hc5 => ?_)
  · skip
    exact False.elim (by revert hc5; decide)
  · skip
    refine lv_iload hx hb d_M_store_8 (lv_at hl 3 rfl) ?_
    refine lv_iconst (v := 1) hx hb d_M_store_10 (by decide) ?_
    refine lv_icmp_lt (tgt := 21) hx hb d_M_store_11 rfl (fun hc11 => ?_) (fun hc11 => ?_)
    · skip
      refine lv_iconst (v := 1) hx hb d_M_store_21 (by decide) ?_
      refine lv_goto (tgt := 77) hx hb d_M_store_22 rfl ?_
      refine va_put (D := D) (ci := 5) (v := .int (1)) (ty := .int) (C := R_M) (T := F_M) (N := 26) hx hb hts wl_M t_M t_M_ok n_M hown hK hP hD hS 0 rfl rfl 0 (by decide) (hts _ wf_M_51) (fun _ h9 => h9) rfl (by decide +kernel) rfl rfl (Nat.le_of_ble_eq_true rfl) d_M_store_77 (fun H locs hP hD hS => ?_)
      have hP : va_P D cls (mW cI cZ qm mp mt ml mc mf me mg mh mu (1) (nI k) (nI n) (nI (pn)) (nI (nx)) (ep) (nI (M.1)) (M.2.2.1) (M.2.2.2) (wi) (jb) (fp) (tf) (tt) (fi) (ln) (bx) (1000) (pr) (1000) (tk) (8) (le) (576) (co) (576) (fr) (10) (em) (192) (M.2.1) (10) (nb) (10) (su)) H := hP
      have hD : va_D A (mW cI cZ qm mp mt ml mc mf me mg mh mu (1) (nI k) (nI n) (nI (pn)) (nI (nx)) (ep) (nI (M.1)) (M.2.2.1) (M.2.2.2) (wi) (jb) (fp) (tf) (tt) (fi) (ln) (bx) (1000) (pr) (1000) (tk) (8) (le) (576) (co) (576) (fr) (10) (em) (192) (M.2.1) (10) (nb) (10) (su)) := hD
      refine lv_aload_n hx hb d_M_store_80 rfl (lv_at hl 0 rfl) ?_
      refine va_get (D := D) (ci := 5) (v := .int (1)) (C := R_M) (T := F_M) (N := 26) hx hb hts wl_M hown hK hP 0 rfl rfl 0 (by decide) (hts _ wf_M_51) (fun _ h9 => h9) rfl d_M_store_81 ?_
      refine lv_if_le (tgt := 89) hx hb d_M_store_84 rfl (fun hc84 => ?_) (fun hc84 => ?_)
      · skip
        exact False.elim (by revert hc84; decide)
      · skip
        refine lv_iconst (v := 0) hx hb d_M_store_87 (by decide) ?_
        exact sd_iret hx hb hr hlk hP hS (Nat.le_of_ble_eq_true rfl) (Nat.le_of_ble_eq_true rfl) (rfl) d_M_store_88
    · skip
      refine lv_iload hx hb d_M_store_14 (lv_at hl 3 rfl) ?_
      refine lv_bipush (v := 8) hx hb d_M_store_16 (by decide) ?_
      refine lv_icmp_le (tgt := 25) hx hb d_M_store_18 rfl (fun hc18 => ?_) (fun hc18 => ?_)
      · skip
        exact absurd ⟨Int32.not_lt.mp hc11, hc18⟩ hz
      · skip
        refine lv_iconst (v := 1) hx hb d_M_store_21 (by decide) ?_
        refine lv_goto (tgt := 77) hx hb d_M_store_22 rfl ?_
        refine va_put (D := D) (ci := 5) (v := .int (1)) (ty := .int) (C := R_M) (T := F_M) (N := 26) hx hb hts wl_M t_M t_M_ok n_M hown hK hP hD hS 0 rfl rfl 0 (by decide) (hts _ wf_M_51) (fun _ h9 => h9) rfl (by decide +kernel) rfl rfl (Nat.le_of_ble_eq_true rfl) d_M_store_77 (fun H locs hP hD hS => ?_)
        have hP : va_P D cls (mW cI cZ qm mp mt ml mc mf me mg mh mu (1) (nI k) (nI n) (nI (pn)) (nI (nx)) (ep) (nI (M.1)) (M.2.2.1) (M.2.2.2) (wi) (jb) (fp) (tf) (tt) (fi) (ln) (bx) (1000) (pr) (1000) (tk) (8) (le) (576) (co) (576) (fr) (10) (em) (192) (M.2.1) (10) (nb) (10) (su)) H := hP
        have hD : va_D A (mW cI cZ qm mp mt ml mc mf me mg mh mu (1) (nI k) (nI n) (nI (pn)) (nI (nx)) (ep) (nI (M.1)) (M.2.2.1) (M.2.2.2) (wi) (jb) (fp) (tf) (tt) (fi) (ln) (bx) (1000) (pr) (1000) (tk) (8) (le) (576) (co) (576) (fr) (10) (em) (192) (M.2.1) (10) (nb) (10) (su)) := hD
        refine lv_aload_n hx hb d_M_store_80 rfl (lv_at hl 0 rfl) ?_
        refine va_get (D := D) (ci := 5) (v := .int (1)) (C := R_M) (T := F_M) (N := 26) hx hb hts wl_M hown hK hP 0 rfl rfl 0 (by decide) (hts _ wf_M_51) (fun _ h9 => h9) rfl d_M_store_81 ?_
        refine lv_if_le (tgt := 89) hx hb d_M_store_84 rfl (fun hc84 => ?_) (fun hc84 => ?_)
        · skip
          exact False.elim (by revert hc84; decide)
        · skip
          refine lv_iconst (v := 0) hx hb d_M_store_87 (by decide) ?_
          exact sd_iret hx hb hr hlk hP hS (Nat.le_of_ble_eq_true rfl) (Nat.le_of_ble_eq_true rfl) (rfl) d_M_store_88
set_option maxHeartbeats 4000000 in
set_option maxRecDepth 100000 in
theorem c_M_store_2 (l : Launch) (D : va_G) (cI cZ cQ : ClassId) (qm : Nat) (mp : Nat) (mt : Nat) (ml : Nat) (mc : Nat) (mf : Nat) (me : Nat) (mg : Nat) (mh : Nat) (mu : Nat) (k : Nat) (n : Nat) (pn : Nat) (nx : Nat) (cd : Int32) (ep : Int32) (M : mm_T) (wi : Int32) (jb : Int32) (fp : Int32) (tf : Int32) (tt : Int32) (fi : Int32) (ln : Int32) (bx : Int32) (pr : Nat → Int32) (tk : Nat → Int32) (le : Nat → Int32) (co : Nat → Int32) (fr : Nat → Int32) (em : Nat → Int32) (nb : Nat → Int32) (su : Nat → Int32) (f : Nat) (x : Int64) (lx : Nat) (hk : k ≤ 9) (hn : n ≤ 9) (hf8 : f < 8) (hlx1 : 1 ≤ lx) (hlx : lx ≤ 8) (hE : 0 < le f ∨ sm_e em n < n ∨ ¬ jb ≤ 0) : sd_I l D (tyL cI cZ cQ) y_M_store b_M_store 7 (.int) ({ frames := 1, cells := 0, slots := 0, locals := 22 }) [.ref qm, .int (nI f), .long (x), .int (nI lx)] (mW cI cZ qm mp mt ml mc mf me mg mh mu (cd) (nI k) (nI n) (nI (pn)) (nI (nx)) (ep) (nI (M.1)) (M.2.2.1) (M.2.2.2) (wi) (jb) (fp) (tf) (tt) (fi) (ln) (bx) (1000) (pr) (1000) (tk) (8) (le) (576) (co) (576) (fr) (10) (em) (192) (M.2.1) (10) (nb) (10) (su)) (0) (mW cI cZ qm mp mt ml mc mf me mg mh mu (2) (nI k) (nI n) (nI (pn)) (nI (nx)) (ep) (nI (M.1)) (M.2.2.1) (M.2.2.2) (wi) (jb) (fp) (tf) (tt) (fi) (ln) (bx) (1000) (pr) (1000) (tk) (8) (le) (576) (co) (576) (fr) (10) (em) (192) (M.2.1) (10) (nb) (10) (su)) := by
  refine sd_ofI (by decide) (Nat.le_of_ble_eq_true rfl) ?_
  intro p e s m below meth c A ls hx hb hr hml hlk hown hts hK hP hD hA hS hl
  have hl : lv_has ls 7 [(0, .ref qm), (1, .int (nI f)), (2, .long (x)), (4, .int (nI lx))] := hl
  have hse := sm_e_le em n
  refine lv_aload_n hx hb d_M_store_0 rfl (lv_at hl 0 rfl) ?_
  refine lv_iload_n hx hb d_M_store_1 rfl (lv_at hl 1 rfl) ?_
  refine sd_callSI (As := [.int (nI f)]) (rest := [.ref qm]) (cx := []) (w1 := []) (c_M_isFile_1 l D cI cZ cQ (nI f) (fl_in hf8)) ⟨wc_M_isFile, wm_M_129, wi_M, by decide, by decide, show (parseMethodDescriptor y_M_isFile.desc).map (fun d => d.parameters.length) = some 1 by decide +kernel⟩ ws_M_isFile hx hb hml hown hts hl.1 ⟨Nat.le_of_ble_eq_true rfl, Nat.le_of_ble_eq_true rfl⟩ ⟨Nat.le_of_ble_eq_true rfl, Nat.le_of_ble_eq_true rfl⟩ hK hP hD hS hA [] rfl (by decide) rfl rfl rfl (Nat.le_of_ble_eq_true rfl) d_M_store_2 (fun H locs hP hD hS => ?_)
  have hP : va_P D cls (mW cI cZ qm mp mt ml mc mf me mg mh mu (cd) (nI k) (nI n) (nI (pn)) (nI (nx)) (ep) (nI (M.1)) (M.2.2.1) (M.2.2.2) (wi) (jb) (fp) (tf) (tt) (fi) (ln) (bx) (1000) (pr) (1000) (tk) (8) (le) (576) (co) (576) (fr) (10) (em) (192) (M.2.1) (10) (nb) (10) (su)) H := hP
  have hD : va_D A (mW cI cZ qm mp mt ml mc mf me mg mh mu (cd) (nI k) (nI n) (nI (pn)) (nI (nx)) (ep) (nI (M.1)) (M.2.2.1) (M.2.2.2) (wi) (jb) (fp) (tf) (tt) (fi) (ln) (bx) (1000) (pr) (1000) (tk) (8) (le) (576) (co) (576) (fr) (10) (em) (192) (M.2.1) (10) (nb) (10) (su)) := hD
  refine lv_if_eq (tgt := 21) hx hb d_M_store_5 rfl (fun hc5 => ?_) (fun hc5 => ?_)
  · skip
    exact False.elim (by revert hc5; decide)
  · skip
    refine lv_iload hx hb d_M_store_8 (lv_at hl 3 rfl) ?_
    refine lv_iconst (v := nI 1) hx hb d_M_store_10 (by decide) ?_
    refine lv_icmp_lt (tgt := 21) hx hb d_M_store_11 rfl (fun hc11 => ?_) (fun hc11 => ?_)
    · skip
      exact absurd hc11 (nI_nlt (by omega) (by omega))
    · skip
      refine lv_iload hx hb d_M_store_14 (lv_at hl 3 rfl) ?_
      refine lv_bipush (v := nI 8) hx hb d_M_store_16 (by decide) ?_
      refine lv_icmp_le (tgt := 25) hx hb d_M_store_18 rfl (fun hc18 => ?_) (fun hc18 => ?_)
      · skip
        refine lv_aload_n hx hb d_M_store_25 rfl (lv_at hl 0 rfl) ?_
        refine va_get (D := D) (ci := 5) (v := .ref ml) (C := R_M) (T := F_M) (N := 26) hx hb hts wl_M hown hK hP 0 rfl rfl 7 (by decide) (hts _ wf_M_16) (fun _ h9 => h9) rfl d_M_store_26 ?_
        refine lv_iload_n hx hb d_M_store_29 rfl (lv_at hl 1 rfl) ?_
        refine sd_iald (j := f) hx hb hK hP 3 0 rfl rfl (by omega) (by omega) d_M_store_30 ?_
        refine lv_if_gt (tgt := 52) hx hb d_M_store_31 rfl (fun hc31 => ?_) (fun hc31 => ?_)
        · skip
          refine lv_iconst (v := 2) hx hb d_M_store_52 (by decide) ?_
          refine lv_goto (tgt := 77) hx hb d_M_store_53 rfl ?_
          refine va_put (D := D) (ci := 5) (v := .int (2)) (ty := .int) (C := R_M) (T := F_M) (N := 26) hx hb hts wl_M t_M t_M_ok n_M hown hK hP hD hS 0 rfl rfl 0 (by decide) (hts _ wf_M_51) (fun _ h9 => h9) rfl (by decide +kernel) rfl rfl (Nat.le_of_ble_eq_true rfl) d_M_store_77 (fun H locs hP hD hS => ?_)
          have hP : va_P D cls (mW cI cZ qm mp mt ml mc mf me mg mh mu (2) (nI k) (nI n) (nI (pn)) (nI (nx)) (ep) (nI (M.1)) (M.2.2.1) (M.2.2.2) (wi) (jb) (fp) (tf) (tt) (fi) (ln) (bx) (1000) (pr) (1000) (tk) (8) (le) (576) (co) (576) (fr) (10) (em) (192) (M.2.1) (10) (nb) (10) (su)) H := hP
          have hD : va_D A (mW cI cZ qm mp mt ml mc mf me mg mh mu (2) (nI k) (nI n) (nI (pn)) (nI (nx)) (ep) (nI (M.1)) (M.2.2.1) (M.2.2.2) (wi) (jb) (fp) (tf) (tt) (fi) (ln) (bx) (1000) (pr) (1000) (tk) (8) (le) (576) (co) (576) (fr) (10) (em) (192) (M.2.1) (10) (nb) (10) (su)) := hD
          refine lv_aload_n hx hb d_M_store_80 rfl (lv_at hl 0 rfl) ?_
          refine va_get (D := D) (ci := 5) (v := .int (2)) (C := R_M) (T := F_M) (N := 26) hx hb hts wl_M hown hK hP 0 rfl rfl 0 (by decide) (hts _ wf_M_51) (fun _ h9 => h9) rfl d_M_store_81 ?_
          refine lv_if_le (tgt := 89) hx hb d_M_store_84 rfl (fun hc84 => ?_) (fun hc84 => ?_)
          · skip
            exact False.elim (by revert hc84; decide)
          · skip
            refine lv_iconst (v := 0) hx hb d_M_store_87 (by decide) ?_
            exact sd_iret hx hb hr hlk hP hS (Nat.le_of_ble_eq_true rfl) (Nat.le_of_ble_eq_true rfl) (rfl) d_M_store_88
        · skip
          refine lv_aload_n hx hb d_M_store_34 rfl (lv_at hl 0 rfl) ?_
          refine sd_allVI (As := []) (rest := [.ref qm]) (w1 := (mW cI cZ qm mp mt ml mc mf me mg mh mu (cd) (nI k) (nI n) (nI (pn)) (nI (nx)) (ep) (nI (M.1)) (M.2.2.1) (M.2.2.2) (wi) (jb) (fp) (tf) (tt) (fi) (ln) (bx) (1000) (pr) (1000) (tk) (8) (le) (576) (co) (576) (fr) (10) (em) (192) (M.2.1) (10) (nb) (10) (su))) (c_M_filled l D cI cZ cQ (qm) (mp) (mt) (ml) (mc) (mf) (me) (mg) (mh) (mu) (k) (n) (pn) (nx) (cd) (ep) (M) (wi) (jb) (fp) (tf) (tt) (fi) (ln) (bx) (pr) (tk) (le) (co) (fr) (em) (nb) (su) (hk) (hn)) ⟨wc_M_filled, wm_M_133, wi_M, by decide, by decide, show (parseMethodDescriptor y_M_filled.desc).map (fun d => d.parameters.length) = some 0 by decide +kernel⟩ wo_M_filled wz_M_filled hx hb hml hown hts hl.1 ⟨Nat.le_of_ble_eq_true rfl, Nat.le_of_ble_eq_true rfl⟩ ⟨Nat.le_of_ble_eq_true rfl, Nat.le_of_ble_eq_true rfl⟩ hK hP hD hS hA (rfl) (q0 := 0) rfl rfl rfl (Nat.le_of_ble_eq_true rfl) d_M_store_35 (fun H locs hP hD hS => ?_)
          have hP : va_P D cls (mW cI cZ qm mp mt ml mc mf me mg mh mu (cd) (nI k) (nI n) (nI (pn)) (nI (nx)) (ep) (nI (M.1)) (M.2.2.1) (M.2.2.2) (wi) (jb) (fp) (tf) (tt) (fi) (ln) (bx) (1000) (pr) (1000) (tk) (8) (le) (576) (co) (576) (fr) (10) (em) (192) (M.2.1) (10) (nb) (10) (su)) H := hP
          have hD : va_D A (mW cI cZ qm mp mt ml mc mf me mg mh mu (cd) (nI k) (nI n) (nI (pn)) (nI (nx)) (ep) (nI (M.1)) (M.2.2.1) (M.2.2.2) (wi) (jb) (fp) (tf) (tt) (fi) (ln) (bx) (1000) (pr) (1000) (tk) (8) (le) (576) (co) (576) (fr) (10) (em) (192) (M.2.1) (10) (nb) (10) (su)) := hD
          refine lv_aload_n hx hb d_M_store_38 rfl (lv_at hl 0 rfl) ?_
          refine va_get (D := D) (ci := 5) (v := .int (nI n)) (C := R_M) (T := F_M) (N := 26) hx hb hts wl_M hown hK hP 0 rfl rfl 2 (by decide) (hts _ wf_M_45) (fun _ h9 => h9) rfl d_M_store_39 ?_
          refine lv_icmp_lt (tgt := 52) hx hb d_M_store_42 rfl (fun hc42 => ?_) (fun hc42 => ?_)
          · skip
            refine lv_iconst (v := 2) hx hb d_M_store_52 (by decide) ?_
            refine lv_goto (tgt := 77) hx hb d_M_store_53 rfl ?_
            refine va_put (D := D) (ci := 5) (v := .int (2)) (ty := .int) (C := R_M) (T := F_M) (N := 26) hx hb hts wl_M t_M t_M_ok n_M hown hK hP hD hS 0 rfl rfl 0 (by decide) (hts _ wf_M_51) (fun _ h9 => h9) rfl (by decide +kernel) rfl rfl (Nat.le_of_ble_eq_true rfl) d_M_store_77 (fun H locs hP hD hS => ?_)
            have hP : va_P D cls (mW cI cZ qm mp mt ml mc mf me mg mh mu (2) (nI k) (nI n) (nI (pn)) (nI (nx)) (ep) (nI (M.1)) (M.2.2.1) (M.2.2.2) (wi) (jb) (fp) (tf) (tt) (fi) (ln) (bx) (1000) (pr) (1000) (tk) (8) (le) (576) (co) (576) (fr) (10) (em) (192) (M.2.1) (10) (nb) (10) (su)) H := hP
            have hD : va_D A (mW cI cZ qm mp mt ml mc mf me mg mh mu (2) (nI k) (nI n) (nI (pn)) (nI (nx)) (ep) (nI (M.1)) (M.2.2.1) (M.2.2.2) (wi) (jb) (fp) (tf) (tt) (fi) (ln) (bx) (1000) (pr) (1000) (tk) (8) (le) (576) (co) (576) (fr) (10) (em) (192) (M.2.1) (10) (nb) (10) (su)) := hD
            refine lv_aload_n hx hb d_M_store_80 rfl (lv_at hl 0 rfl) ?_
            refine va_get (D := D) (ci := 5) (v := .int (2)) (C := R_M) (T := F_M) (N := 26) hx hb hts wl_M hown hK hP 0 rfl rfl 0 (by decide) (hts _ wf_M_51) (fun _ h9 => h9) rfl d_M_store_81 ?_
            refine lv_if_le (tgt := 89) hx hb d_M_store_84 rfl (fun hc84 => ?_) (fun hc84 => ?_)
            · skip
              exact False.elim (by revert hc84; decide)
            · skip
              refine lv_iconst (v := 0) hx hb d_M_store_87 (by decide) ?_
              exact sd_iret hx hb hr hlk hP hS (Nat.le_of_ble_eq_true rfl) (Nat.le_of_ble_eq_true rfl) (rfl) d_M_store_88
          · skip
            rw [nI_ltI (by omega) (by omega)] at hc42
            refine lv_aload_n hx hb d_M_store_45 rfl (lv_at hl 0 rfl) ?_
            refine va_get (D := D) (ci := 5) (v := .int (jb)) (C := R_M) (T := F_M) (N := 26) hx hb hts wl_M hown hK hP 0 rfl rfl 17 (by decide) (hts _ wf_M_100) (fun _ h9 => h9) rfl d_M_store_46 ?_
            refine lv_if_le (tgt := 56) hx hb d_M_store_49 rfl (fun hc49 => ?_) (fun hc49 => ?_)
            · skip
              exact (hE.elim (fun h => absurd h hc31) (fun h => h.elim (fun h => absurd h hc42) (fun h => absurd hc49 h)))
            · skip
              refine lv_iconst (v := 2) hx hb d_M_store_52 (by decide) ?_
              refine lv_goto (tgt := 77) hx hb d_M_store_53 rfl ?_
              refine va_put (D := D) (ci := 5) (v := .int (2)) (ty := .int) (C := R_M) (T := F_M) (N := 26) hx hb hts wl_M t_M t_M_ok n_M hown hK hP hD hS 0 rfl rfl 0 (by decide) (hts _ wf_M_51) (fun _ h9 => h9) rfl (by decide +kernel) rfl rfl (Nat.le_of_ble_eq_true rfl) d_M_store_77 (fun H locs hP hD hS => ?_)
              have hP : va_P D cls (mW cI cZ qm mp mt ml mc mf me mg mh mu (2) (nI k) (nI n) (nI (pn)) (nI (nx)) (ep) (nI (M.1)) (M.2.2.1) (M.2.2.2) (wi) (jb) (fp) (tf) (tt) (fi) (ln) (bx) (1000) (pr) (1000) (tk) (8) (le) (576) (co) (576) (fr) (10) (em) (192) (M.2.1) (10) (nb) (10) (su)) H := hP
              have hD : va_D A (mW cI cZ qm mp mt ml mc mf me mg mh mu (2) (nI k) (nI n) (nI (pn)) (nI (nx)) (ep) (nI (M.1)) (M.2.2.1) (M.2.2.2) (wi) (jb) (fp) (tf) (tt) (fi) (ln) (bx) (1000) (pr) (1000) (tk) (8) (le) (576) (co) (576) (fr) (10) (em) (192) (M.2.1) (10) (nb) (10) (su)) := hD
              refine lv_aload_n hx hb d_M_store_80 rfl (lv_at hl 0 rfl) ?_
              refine va_get (D := D) (ci := 5) (v := .int (2)) (C := R_M) (T := F_M) (N := 26) hx hb hts wl_M hown hK hP 0 rfl rfl 0 (by decide) (hts _ wf_M_51) (fun _ h9 => h9) rfl d_M_store_81 ?_
              refine lv_if_le (tgt := 89) hx hb d_M_store_84 rfl (fun hc84 => ?_) (fun hc84 => ?_)
              · skip
                exact False.elim (by revert hc84; decide)
              · skip
                refine lv_iconst (v := 0) hx hb d_M_store_87 (by decide) ?_
                exact sd_iret hx hb hr hlk hP hS (Nat.le_of_ble_eq_true rfl) (Nat.le_of_ble_eq_true rfl) (rfl) d_M_store_88
      · skip
        exact absurd (nI_le (by omega) (by omega)) hc18
set_option maxHeartbeats 4000000 in
set_option maxRecDepth 100000 in
theorem c_M_store_3 (l : Launch) (D : va_G) (cI cZ cQ : ClassId) (qm : Nat) (mp : Nat) (mt : Nat) (ml : Nat) (mc : Nat) (mf : Nat) (me : Nat) (mg : Nat) (mh : Nat) (mu : Nat) (k : Nat) (n : Nat) (pn : Nat) (nx : Nat) (cd : Int32) (ep : Int32) (M : mm_T) (wi : Int32) (jb : Int32) (fp : Int32) (tf : Int32) (tt : Int32) (fi : Int32) (ln : Int32) (bx : Int32) (pr : Nat → Int32) (tk : Nat → Int32) (le : Nat → Int32) (co : Nat → Int32) (fr : Nat → Int32) (em : Nat → Int32) (nb : Nat → Int32) (su : Nat → Int32) (f : Nat) (x : Int64) (lx : Nat) (hk : k ≤ 9) (hn : n ≤ 9) (hf8 : f < 8) (hlx1 : 1 ≤ lx) (hlx : lx ≤ 8) (hE1 : ¬ 0 < le f) (hE2 : ¬ sm_e em n < n) (hE3 : jb ≤ 0) (hk1 : 1 ≤ k) (hpn : pn ≤ 1000) (hp : pn < lx * (k - 1)) : sd_I l D (tyL cI cZ cQ) y_M_store b_M_store 7 (.int) ({ frames := 1, cells := 0, slots := 0, locals := 22 }) [.ref qm, .int (nI f), .long (x), .int (nI lx)] (mW cI cZ qm mp mt ml mc mf me mg mh mu (cd) (nI k) (nI n) (nI (pn)) (nI (nx)) (ep) (nI (M.1)) (M.2.2.1) (M.2.2.2) (wi) (jb) (fp) (tf) (tt) (fi) (ln) (bx) (1000) (pr) (1000) (tk) (8) (le) (576) (co) (576) (fr) (10) (em) (192) (M.2.1) (10) (nb) (10) (su)) (0) (mW cI cZ qm mp mt ml mc mf me mg mh mu (3) (nI k) (nI n) (nI (pn)) (nI (nx)) (ep) (nI (M.1)) (M.2.2.1) (M.2.2.2) (wi) (jb) (fp) (tf) (tt) (fi) (ln) (bx) (1000) (pr) (1000) (tk) (8) (le) (576) (co) (576) (fr) (10) (em) (192) (M.2.1) (10) (nb) (10) (su)) := by
  refine sd_ofI (by decide) (Nat.le_of_ble_eq_true rfl) ?_
  intro p e s m below meth c A ls hx hb hr hml hlk hown hts hK hP hD hA hS hl
  have hl : lv_has ls 7 [(0, .ref qm), (1, .int (nI f)), (2, .long (x)), (4, .int (nI lx))] := hl
  have hse := sm_e_le em n
  have hpk : lx * (k - 1) ≤ 64 := Nat.le_trans (Nat.mul_le_mul hlx (show k - 1 ≤ 8 by omega)) (by omega)
  refine lv_aload_n hx hb d_M_store_0 rfl (lv_at hl 0 rfl) ?_
  refine lv_iload_n hx hb d_M_store_1 rfl (lv_at hl 1 rfl) ?_
  refine sd_callSI (As := [.int (nI f)]) (rest := [.ref qm]) (cx := []) (w1 := []) (c_M_isFile_1 l D cI cZ cQ (nI f) (fl_in hf8)) ⟨wc_M_isFile, wm_M_129, wi_M, by decide, by decide, show (parseMethodDescriptor y_M_isFile.desc).map (fun d => d.parameters.length) = some 1 by decide +kernel⟩ ws_M_isFile hx hb hml hown hts hl.1 ⟨Nat.le_of_ble_eq_true rfl, Nat.le_of_ble_eq_true rfl⟩ ⟨Nat.le_of_ble_eq_true rfl, Nat.le_of_ble_eq_true rfl⟩ hK hP hD hS hA [] rfl (by decide) rfl rfl rfl (Nat.le_of_ble_eq_true rfl) d_M_store_2 (fun H locs hP hD hS => ?_)
  have hP : va_P D cls (mW cI cZ qm mp mt ml mc mf me mg mh mu (cd) (nI k) (nI n) (nI (pn)) (nI (nx)) (ep) (nI (M.1)) (M.2.2.1) (M.2.2.2) (wi) (jb) (fp) (tf) (tt) (fi) (ln) (bx) (1000) (pr) (1000) (tk) (8) (le) (576) (co) (576) (fr) (10) (em) (192) (M.2.1) (10) (nb) (10) (su)) H := hP
  have hD : va_D A (mW cI cZ qm mp mt ml mc mf me mg mh mu (cd) (nI k) (nI n) (nI (pn)) (nI (nx)) (ep) (nI (M.1)) (M.2.2.1) (M.2.2.2) (wi) (jb) (fp) (tf) (tt) (fi) (ln) (bx) (1000) (pr) (1000) (tk) (8) (le) (576) (co) (576) (fr) (10) (em) (192) (M.2.1) (10) (nb) (10) (su)) := hD
  refine lv_if_eq (tgt := 21) hx hb d_M_store_5 rfl (fun hc5 => ?_) (fun hc5 => ?_)
  · skip
    exact False.elim (by revert hc5; decide)
  · skip
    refine lv_iload hx hb d_M_store_8 (lv_at hl 3 rfl) ?_
    refine lv_iconst (v := nI 1) hx hb d_M_store_10 (by decide) ?_
    refine lv_icmp_lt (tgt := 21) hx hb d_M_store_11 rfl (fun hc11 => ?_) (fun hc11 => ?_)
    · skip
      exact absurd hc11 (nI_nlt (by omega) (by omega))
    · skip
      refine lv_iload hx hb d_M_store_14 (lv_at hl 3 rfl) ?_
      refine lv_bipush (v := nI 8) hx hb d_M_store_16 (by decide) ?_
      refine lv_icmp_le (tgt := 25) hx hb d_M_store_18 rfl (fun hc18 => ?_) (fun hc18 => ?_)
      · skip
        refine lv_aload_n hx hb d_M_store_25 rfl (lv_at hl 0 rfl) ?_
        refine va_get (D := D) (ci := 5) (v := .ref ml) (C := R_M) (T := F_M) (N := 26) hx hb hts wl_M hown hK hP 0 rfl rfl 7 (by decide) (hts _ wf_M_16) (fun _ h9 => h9) rfl d_M_store_26 ?_
        refine lv_iload_n hx hb d_M_store_29 rfl (lv_at hl 1 rfl) ?_
        refine sd_iald (j := f) hx hb hK hP 3 0 rfl rfl (by omega) (by omega) d_M_store_30 ?_
        refine lv_if_gt (tgt := 52) hx hb d_M_store_31 rfl (fun hc31 => ?_) (fun hc31 => ?_)
        · skip
          exact absurd hc31 hE1
        · skip
          refine lv_aload_n hx hb d_M_store_34 rfl (lv_at hl 0 rfl) ?_
          refine sd_allVI (As := []) (rest := [.ref qm]) (w1 := (mW cI cZ qm mp mt ml mc mf me mg mh mu (cd) (nI k) (nI n) (nI (pn)) (nI (nx)) (ep) (nI (M.1)) (M.2.2.1) (M.2.2.2) (wi) (jb) (fp) (tf) (tt) (fi) (ln) (bx) (1000) (pr) (1000) (tk) (8) (le) (576) (co) (576) (fr) (10) (em) (192) (M.2.1) (10) (nb) (10) (su))) (c_M_filled l D cI cZ cQ (qm) (mp) (mt) (ml) (mc) (mf) (me) (mg) (mh) (mu) (k) (n) (pn) (nx) (cd) (ep) (M) (wi) (jb) (fp) (tf) (tt) (fi) (ln) (bx) (pr) (tk) (le) (co) (fr) (em) (nb) (su) (hk) (hn)) ⟨wc_M_filled, wm_M_133, wi_M, by decide, by decide, show (parseMethodDescriptor y_M_filled.desc).map (fun d => d.parameters.length) = some 0 by decide +kernel⟩ wo_M_filled wz_M_filled hx hb hml hown hts hl.1 ⟨Nat.le_of_ble_eq_true rfl, Nat.le_of_ble_eq_true rfl⟩ ⟨Nat.le_of_ble_eq_true rfl, Nat.le_of_ble_eq_true rfl⟩ hK hP hD hS hA (rfl) (q0 := 0) rfl rfl rfl (Nat.le_of_ble_eq_true rfl) d_M_store_35 (fun H locs hP hD hS => ?_)
          have hP : va_P D cls (mW cI cZ qm mp mt ml mc mf me mg mh mu (cd) (nI k) (nI n) (nI (pn)) (nI (nx)) (ep) (nI (M.1)) (M.2.2.1) (M.2.2.2) (wi) (jb) (fp) (tf) (tt) (fi) (ln) (bx) (1000) (pr) (1000) (tk) (8) (le) (576) (co) (576) (fr) (10) (em) (192) (M.2.1) (10) (nb) (10) (su)) H := hP
          have hD : va_D A (mW cI cZ qm mp mt ml mc mf me mg mh mu (cd) (nI k) (nI n) (nI (pn)) (nI (nx)) (ep) (nI (M.1)) (M.2.2.1) (M.2.2.2) (wi) (jb) (fp) (tf) (tt) (fi) (ln) (bx) (1000) (pr) (1000) (tk) (8) (le) (576) (co) (576) (fr) (10) (em) (192) (M.2.1) (10) (nb) (10) (su)) := hD
          refine lv_aload_n hx hb d_M_store_38 rfl (lv_at hl 0 rfl) ?_
          refine va_get (D := D) (ci := 5) (v := .int (nI n)) (C := R_M) (T := F_M) (N := 26) hx hb hts wl_M hown hK hP 0 rfl rfl 2 (by decide) (hts _ wf_M_45) (fun _ h9 => h9) rfl d_M_store_39 ?_
          refine lv_icmp_lt (tgt := 52) hx hb d_M_store_42 rfl (fun hc42 => ?_) (fun hc42 => ?_)
          · skip
            exact absurd ((nI_ltI (by omega) (by omega)).mp hc42) hE2
          · skip
            refine lv_aload_n hx hb d_M_store_45 rfl (lv_at hl 0 rfl) ?_
            refine va_get (D := D) (ci := 5) (v := .int (jb)) (C := R_M) (T := F_M) (N := 26) hx hb hts wl_M hown hK hP 0 rfl rfl 17 (by decide) (hts _ wf_M_100) (fun _ h9 => h9) rfl d_M_store_46 ?_
            refine lv_if_le (tgt := 56) hx hb d_M_store_49 rfl (fun hc49 => ?_) (fun hc49 => ?_)
            · skip
              refine lv_aload_n hx hb d_M_store_56 rfl (lv_at hl 0 rfl) ?_
              refine va_get (D := D) (ci := 5) (v := .int (nI (pn))) (C := R_M) (T := F_M) (N := 26) hx hb hts wl_M hown hK hP 0 rfl rfl 3 (by decide) (hts _ wf_M_58) (fun _ h9 => h9) rfl d_M_store_57 ?_
              refine lv_iload hx hb d_M_store_60 (lv_at hl 3 rfl) ?_
              refine lv_aload_n hx hb d_M_store_62 rfl (lv_at hl 0 rfl) ?_
              refine va_get (D := D) (ci := 5) (v := .int (nI k)) (C := R_M) (T := F_M) (N := 26) hx hb hts wl_M hown hK hP 0 rfl rfl 1 (by decide) (hts _ wf_M_48) (fun _ h9 => h9) rfl d_M_store_63 ?_
              refine lv_iconst (v := 1) hx hb d_M_store_66 (by decide) ?_
              refine lv_isub hx hb d_M_store_67 ?_
              refine sd_top (y := nI (k - 1)) (ni_pred (by omega)) ?_
              refine lv_imul hx hb d_M_store_68 ?_
              refine sd_top (y := nI (lx * (k - 1))) (pk_mul _ _) ?_
              refine lv_icmp_ge (tgt := 76) hx hb d_M_store_69 rfl (fun hc69 => ?_) (fun hc69 => ?_)
              · skip
                exact absurd hc69 (nI_ge hp (by omega))
              · skip
                refine lv_iconst (v := 3) hx hb d_M_store_72 (by decide) ?_
                refine lv_goto (tgt := 77) hx hb d_M_store_73 rfl ?_
                refine va_put (D := D) (ci := 5) (v := .int (3)) (ty := .int) (C := R_M) (T := F_M) (N := 26) hx hb hts wl_M t_M t_M_ok n_M hown hK hP hD hS 0 rfl rfl 0 (by decide) (hts _ wf_M_51) (fun _ h9 => h9) rfl (by decide +kernel) rfl rfl (Nat.le_of_ble_eq_true rfl) d_M_store_77 (fun H locs hP hD hS => ?_)
                have hP : va_P D cls (mW cI cZ qm mp mt ml mc mf me mg mh mu (3) (nI k) (nI n) (nI (pn)) (nI (nx)) (ep) (nI (M.1)) (M.2.2.1) (M.2.2.2) (wi) (jb) (fp) (tf) (tt) (fi) (ln) (bx) (1000) (pr) (1000) (tk) (8) (le) (576) (co) (576) (fr) (10) (em) (192) (M.2.1) (10) (nb) (10) (su)) H := hP
                have hD : va_D A (mW cI cZ qm mp mt ml mc mf me mg mh mu (3) (nI k) (nI n) (nI (pn)) (nI (nx)) (ep) (nI (M.1)) (M.2.2.1) (M.2.2.2) (wi) (jb) (fp) (tf) (tt) (fi) (ln) (bx) (1000) (pr) (1000) (tk) (8) (le) (576) (co) (576) (fr) (10) (em) (192) (M.2.1) (10) (nb) (10) (su)) := hD
                refine lv_aload_n hx hb d_M_store_80 rfl (lv_at hl 0 rfl) ?_
                refine va_get (D := D) (ci := 5) (v := .int (3)) (C := R_M) (T := F_M) (N := 26) hx hb hts wl_M hown hK hP 0 rfl rfl 0 (by decide) (hts _ wf_M_51) (fun _ h9 => h9) rfl d_M_store_81 ?_
                refine lv_if_le (tgt := 89) hx hb d_M_store_84 rfl (fun hc84 => ?_) (fun hc84 => ?_)
                · skip
                  exact False.elim (by revert hc84; decide)
                · skip
                  refine lv_iconst (v := 0) hx hb d_M_store_87 (by decide) ?_
                  exact sd_iret hx hb hr hlk hP hS (Nat.le_of_ble_eq_true rfl) (Nat.le_of_ble_eq_true rfl) (rfl) d_M_store_88
            · skip
              exact absurd hE3 hc49
      · skip
        exact absurd (nI_le (by omega) (by omega)) hc18
set_option maxHeartbeats 4000000 in
set_option maxRecDepth 100000 in
theorem c_M_store_0A (l : Launch) (D : va_G) (cI cZ cQ : ClassId) (qm : Nat) (mp : Nat) (mt : Nat) (ml : Nat) (mc : Nat) (mf : Nat) (me : Nat) (mg : Nat) (mh : Nat) (mu : Nat) (k : Nat) (n : Nat) (pn : Nat) (nx : Nat) (cd : Int32) (ep : Int32) (M : mm_T) (wi : Int32) (jb : Int32) (fp : Int32) (tf : Int32) (tt : Int32) (fi : Int32) (ln : Int32) (bx : Int32) (pr : Nat → Int32) (tk : Nat → Int32) (le : Nat → Int32) (co : Nat → Int32) (fr : Nat → Int32) (em : Nat → Int32) (nb : Nat → Int32) (su : Nat → Int32) (f : Nat) (x : Int64) (lx : Nat) (hk : k ≤ 9) (hn : n ≤ 9) (hf8 : f < 8) (hlx1 : 1 ≤ lx) (hlx : lx ≤ 8) (hE1 : ¬ 0 < le f) (hE2 : ¬ sm_e em n < n) (hE3 : jb ≤ 0) (hk1 : 1 ≤ k) (hpn : pn ≤ 1000) (htk : ∀ i, okb (tk i)) (hpr : ∀ i, okb (pr i)) (hT : M.1 + 6000 < 2 ^ 31) (hfr : ∀ i, okb (fr i)) (hco9 : ∀ i, okb (co i)) (hp : lx * (k - 1) ≤ pn) (hAB : ¬ (mm_s (ra_f (tq_f (lx * (k - 1)) pn (tk, pr)).1 k n (lz1 f lx) 8 ((sb_f x f lx (cp_f co 576 fr)), 0, (M.1, M.2.1, wi, 0))).2.2 0 0 256).2.2.2 = 0) : sd_I l D (tyL cI cZ cQ) y_M_store b_M_store 7 (.int) ({ frames := 4, cells := 0, slots := 0, locals := 98 }) [.ref qm, .int (nI f), .long (x), .int (nI lx)] (mW cI cZ qm mp mt ml mc mf me mg mh mu (cd) (nI k) (nI n) (nI (pn)) (nI (nx)) (ep) (nI (M.1)) (M.2.2.1) (M.2.2.2) (wi) (jb) (fp) (tf) (tt) (fi) (ln) (bx) (1000) (pr) (1000) (tk) (8) (le) (576) (co) (576) (fr) (10) (em) (192) (M.2.1) (10) (nb) (10) (su)) (nI ((mm_s (ra_f (tq_f (lx * (k - 1)) (pn) ((tk), (pr))).1 (k) (n) (lz1 (f) (lx)) 8 ((sb_f x f lx (cp_f co 576 fr)), 0, ((M).1, (M).2.1, (wi), 0))).2.2 0 0 256).1) - nI ((M).1)) (mW cI cZ qm mp mt ml mc mf me mg mh mu (0) (nI (k)) (nI (n)) (nI ((pn) - (lx * (k - 1)))) (nI ((ra_f (tq_f (lx * (k - 1)) (pn) ((tk), (pr))).1 (k) (n) (lz1 (f) (lx)) 8 ((sb_f x f lx (cp_f co 576 fr)), 0, ((M).1, (M).2.1, (wi), 0))).2.1)) (ep) (nI (((mm_s (ra_f (tq_f (lx * (k - 1)) (pn) ((tk), (pr))).1 (k) (n) (lz1 (f) (lx)) 8 ((sb_f x f lx (cp_f co 576 fr)), 0, ((M).1, (M).2.1, (wi), 0))).2.2 0 0 256).1, (mm_s (ra_f (tq_f (lx * (k - 1)) (pn) ((tk), (pr))).1 (k) (n) (lz1 (f) (lx)) 8 ((sb_f x f lx (cp_f co 576 fr)), 0, ((M).1, (M).2.1, (wi), 0))).2.2 0 0 256).2.1, (-1), (mm_s (ra_f (tq_f (lx * (k - 1)) (pn) ((tk), (pr))).1 (k) (n) (lz1 (f) (lx)) 8 ((sb_f x f lx (cp_f co 576 fr)), 0, ((M).1, (M).2.1, (wi), 0))).2.2 0 0 256).2.2.2).1)) (((mm_s (ra_f (tq_f (lx * (k - 1)) (pn) ((tk), (pr))).1 (k) (n) (lz1 (f) (lx)) 8 ((sb_f x f lx (cp_f co 576 fr)), 0, ((M).1, (M).2.1, (wi), 0))).2.2 0 0 256).1, (mm_s (ra_f (tq_f (lx * (k - 1)) (pn) ((tk), (pr))).1 (k) (n) (lz1 (f) (lx)) 8 ((sb_f x f lx (cp_f co 576 fr)), 0, ((M).1, (M).2.1, (wi), 0))).2.2 0 0 256).2.1, (-1), (mm_s (ra_f (tq_f (lx * (k - 1)) (pn) ((tk), (pr))).1 (k) (n) (lz1 (f) (lx)) 8 ((sb_f x f lx (cp_f co 576 fr)), 0, ((M).1, (M).2.1, (wi), 0))).2.2 0 0 256).2.2.2).2.2.1) (((mm_s (ra_f (tq_f (lx * (k - 1)) (pn) ((tk), (pr))).1 (k) (n) (lz1 (f) (lx)) 8 ((sb_f x f lx (cp_f co 576 fr)), 0, ((M).1, (M).2.1, (wi), 0))).2.2 0 0 256).1, (mm_s (ra_f (tq_f (lx * (k - 1)) (pn) ((tk), (pr))).1 (k) (n) (lz1 (f) (lx)) 8 ((sb_f x f lx (cp_f co 576 fr)), 0, ((M).1, (M).2.1, (wi), 0))).2.2 0 0 256).2.1, (-1), (mm_s (ra_f (tq_f (lx * (k - 1)) (pn) ((tk), (pr))).1 (k) (n) (lz1 (f) (lx)) 8 ((sb_f x f lx (cp_f co 576 fr)), 0, ((M).1, (M).2.1, (wi), 0))).2.2 0 0 256).2.2.2).2.2.2) ((-1)) (1) (0) (nI 1) (nI (n)) (nI (f)) (nI (lx)) (bx) (1000) ((tq_f (lx * (k - 1)) (pn) ((tk), (pr))).2) (1000) ((tq_f (lx * (k - 1)) (pn) ((tk), (pr))).1) (8) (le) (576) (co) (576) ((ra_f (tq_f (lx * (k - 1)) (pn) ((tk), (pr))).1 (k) (n) (lz1 (f) (lx)) 8 ((sb_f x f lx (cp_f co 576 fr)), 0, ((M).1, (M).2.1, (wi), 0))).1) (10) (em) (192) (((mm_s (ra_f (tq_f (lx * (k - 1)) (pn) ((tk), (pr))).1 (k) (n) (lz1 (f) (lx)) 8 ((sb_f x f lx (cp_f co 576 fr)), 0, ((M).1, (M).2.1, (wi), 0))).2.2 0 0 256).1, (mm_s (ra_f (tq_f (lx * (k - 1)) (pn) ((tk), (pr))).1 (k) (n) (lz1 (f) (lx)) 8 ((sb_f x f lx (cp_f co 576 fr)), 0, ((M).1, (M).2.1, (wi), 0))).2.2 0 0 256).2.1, (-1), (mm_s (ra_f (tq_f (lx * (k - 1)) (pn) ((tk), (pr))).1 (k) (n) (lz1 (f) (lx)) 8 ((sb_f x f lx (cp_f co 576 fr)), 0, ((M).1, (M).2.1, (wi), 0))).2.2 0 0 256).2.2.2).2.1) (10) (nb) (10) (su)) := by
  refine sd_ofI (by decide) (Nat.le_of_ble_eq_true rfl) ?_
  intro p e s m below meth c A ls hx hb hr hml hlk hown hts hK hP hD hA hS hl
  have hl : lv_has ls 7 [(0, .ref qm), (1, .int (nI f)), (2, .long (x)), (4, .int (nI lx))] := hl
  have hse := sm_e_le em n
  have hpk : lx * (k - 1) ≤ 64 := Nat.le_trans (Nat.mul_le_mul hlx (show k - 1 ≤ 8 by omega)) (by omega)
  refine lv_aload_n hx hb d_M_store_0 rfl (lv_at hl 0 rfl) ?_
  refine lv_iload_n hx hb d_M_store_1 rfl (lv_at hl 1 rfl) ?_
  refine sd_callSI (As := [.int (nI f)]) (rest := [.ref qm]) (cx := []) (w1 := []) (c_M_isFile_1 l D cI cZ cQ (nI f) (fl_in hf8)) ⟨wc_M_isFile, wm_M_129, wi_M, by decide, by decide, show (parseMethodDescriptor y_M_isFile.desc).map (fun d => d.parameters.length) = some 1 by decide +kernel⟩ ws_M_isFile hx hb hml hown hts hl.1 ⟨Nat.le_of_ble_eq_true rfl, Nat.le_of_ble_eq_true rfl⟩ ⟨Nat.le_of_ble_eq_true rfl, Nat.le_of_ble_eq_true rfl⟩ hK hP hD hS hA [] rfl (by decide) rfl rfl rfl (Nat.le_of_ble_eq_true rfl) d_M_store_2 (fun H locs hP hD hS => ?_)
  have hP : va_P D cls (mW cI cZ qm mp mt ml mc mf me mg mh mu (cd) (nI k) (nI n) (nI (pn)) (nI (nx)) (ep) (nI (M.1)) (M.2.2.1) (M.2.2.2) (wi) (jb) (fp) (tf) (tt) (fi) (ln) (bx) (1000) (pr) (1000) (tk) (8) (le) (576) (co) (576) (fr) (10) (em) (192) (M.2.1) (10) (nb) (10) (su)) H := hP
  have hD : va_D A (mW cI cZ qm mp mt ml mc mf me mg mh mu (cd) (nI k) (nI n) (nI (pn)) (nI (nx)) (ep) (nI (M.1)) (M.2.2.1) (M.2.2.2) (wi) (jb) (fp) (tf) (tt) (fi) (ln) (bx) (1000) (pr) (1000) (tk) (8) (le) (576) (co) (576) (fr) (10) (em) (192) (M.2.1) (10) (nb) (10) (su)) := hD
  refine lv_if_eq (tgt := 21) hx hb d_M_store_5 rfl (fun hc5 => ?_) (fun hc5 => ?_)
  · skip
    exact False.elim (by revert hc5; decide)
  · skip
    refine lv_iload hx hb d_M_store_8 (lv_at hl 3 rfl) ?_
    refine lv_iconst (v := nI 1) hx hb d_M_store_10 (by decide) ?_
    refine lv_icmp_lt (tgt := 21) hx hb d_M_store_11 rfl (fun hc11 => ?_) (fun hc11 => ?_)
    · skip
      exact absurd hc11 (nI_nlt (by omega) (by omega))
    · skip
      refine lv_iload hx hb d_M_store_14 (lv_at hl 3 rfl) ?_
      refine lv_bipush (v := nI 8) hx hb d_M_store_16 (by decide) ?_
      refine lv_icmp_le (tgt := 25) hx hb d_M_store_18 rfl (fun hc18 => ?_) (fun hc18 => ?_)
      · skip
        refine lv_aload_n hx hb d_M_store_25 rfl (lv_at hl 0 rfl) ?_
        refine va_get (D := D) (ci := 5) (v := .ref ml) (C := R_M) (T := F_M) (N := 26) hx hb hts wl_M hown hK hP 0 rfl rfl 7 (by decide) (hts _ wf_M_16) (fun _ h9 => h9) rfl d_M_store_26 ?_
        refine lv_iload_n hx hb d_M_store_29 rfl (lv_at hl 1 rfl) ?_
        refine sd_iald (j := f) hx hb hK hP 3 0 rfl rfl (by omega) (by omega) d_M_store_30 ?_
        refine lv_if_gt (tgt := 52) hx hb d_M_store_31 rfl (fun hc31 => ?_) (fun hc31 => ?_)
        · skip
          exact absurd hc31 hE1
        · skip
          refine lv_aload_n hx hb d_M_store_34 rfl (lv_at hl 0 rfl) ?_
          refine sd_allVI (As := []) (rest := [.ref qm]) (w1 := (mW cI cZ qm mp mt ml mc mf me mg mh mu (cd) (nI k) (nI n) (nI (pn)) (nI (nx)) (ep) (nI (M.1)) (M.2.2.1) (M.2.2.2) (wi) (jb) (fp) (tf) (tt) (fi) (ln) (bx) (1000) (pr) (1000) (tk) (8) (le) (576) (co) (576) (fr) (10) (em) (192) (M.2.1) (10) (nb) (10) (su))) (c_M_filled l D cI cZ cQ (qm) (mp) (mt) (ml) (mc) (mf) (me) (mg) (mh) (mu) (k) (n) (pn) (nx) (cd) (ep) (M) (wi) (jb) (fp) (tf) (tt) (fi) (ln) (bx) (pr) (tk) (le) (co) (fr) (em) (nb) (su) (hk) (hn)) ⟨wc_M_filled, wm_M_133, wi_M, by decide, by decide, show (parseMethodDescriptor y_M_filled.desc).map (fun d => d.parameters.length) = some 0 by decide +kernel⟩ wo_M_filled wz_M_filled hx hb hml hown hts hl.1 ⟨Nat.le_of_ble_eq_true rfl, Nat.le_of_ble_eq_true rfl⟩ ⟨Nat.le_of_ble_eq_true rfl, Nat.le_of_ble_eq_true rfl⟩ hK hP hD hS hA (rfl) (q0 := 0) rfl rfl rfl (Nat.le_of_ble_eq_true rfl) d_M_store_35 (fun H locs hP hD hS => ?_)
          have hP : va_P D cls (mW cI cZ qm mp mt ml mc mf me mg mh mu (cd) (nI k) (nI n) (nI (pn)) (nI (nx)) (ep) (nI (M.1)) (M.2.2.1) (M.2.2.2) (wi) (jb) (fp) (tf) (tt) (fi) (ln) (bx) (1000) (pr) (1000) (tk) (8) (le) (576) (co) (576) (fr) (10) (em) (192) (M.2.1) (10) (nb) (10) (su)) H := hP
          have hD : va_D A (mW cI cZ qm mp mt ml mc mf me mg mh mu (cd) (nI k) (nI n) (nI (pn)) (nI (nx)) (ep) (nI (M.1)) (M.2.2.1) (M.2.2.2) (wi) (jb) (fp) (tf) (tt) (fi) (ln) (bx) (1000) (pr) (1000) (tk) (8) (le) (576) (co) (576) (fr) (10) (em) (192) (M.2.1) (10) (nb) (10) (su)) := hD
          refine lv_aload_n hx hb d_M_store_38 rfl (lv_at hl 0 rfl) ?_
          refine va_get (D := D) (ci := 5) (v := .int (nI n)) (C := R_M) (T := F_M) (N := 26) hx hb hts wl_M hown hK hP 0 rfl rfl 2 (by decide) (hts _ wf_M_45) (fun _ h9 => h9) rfl d_M_store_39 ?_
          refine lv_icmp_lt (tgt := 52) hx hb d_M_store_42 rfl (fun hc42 => ?_) (fun hc42 => ?_)
          · skip
            exact absurd ((nI_ltI (by omega) (by omega)).mp hc42) hE2
          · skip
            refine lv_aload_n hx hb d_M_store_45 rfl (lv_at hl 0 rfl) ?_
            refine va_get (D := D) (ci := 5) (v := .int (jb)) (C := R_M) (T := F_M) (N := 26) hx hb hts wl_M hown hK hP 0 rfl rfl 17 (by decide) (hts _ wf_M_100) (fun _ h9 => h9) rfl d_M_store_46 ?_
            refine lv_if_le (tgt := 56) hx hb d_M_store_49 rfl (fun hc49 => ?_) (fun hc49 => ?_)
            · skip
              refine lv_aload_n hx hb d_M_store_56 rfl (lv_at hl 0 rfl) ?_
              refine va_get (D := D) (ci := 5) (v := .int (nI (pn))) (C := R_M) (T := F_M) (N := 26) hx hb hts wl_M hown hK hP 0 rfl rfl 3 (by decide) (hts _ wf_M_58) (fun _ h9 => h9) rfl d_M_store_57 ?_
              refine lv_iload hx hb d_M_store_60 (lv_at hl 3 rfl) ?_
              refine lv_aload_n hx hb d_M_store_62 rfl (lv_at hl 0 rfl) ?_
              refine va_get (D := D) (ci := 5) (v := .int (nI k)) (C := R_M) (T := F_M) (N := 26) hx hb hts wl_M hown hK hP 0 rfl rfl 1 (by decide) (hts _ wf_M_48) (fun _ h9 => h9) rfl d_M_store_63 ?_
              refine lv_iconst (v := 1) hx hb d_M_store_66 (by decide) ?_
              refine lv_isub hx hb d_M_store_67 ?_
              refine sd_top (y := nI (k - 1)) (ni_pred (by omega)) ?_
              refine lv_imul hx hb d_M_store_68 ?_
              refine sd_top (y := nI (lx * (k - 1))) (pk_mul _ _) ?_
              refine lv_icmp_ge (tgt := 76) hx hb d_M_store_69 rfl (fun hc69 => ?_) (fun hc69 => ?_)
              · skip
                refine lv_iconst (v := 0) hx hb d_M_store_76 (by decide) ?_
                refine va_put (D := D) (ci := 5) (v := .int (0)) (ty := .int) (C := R_M) (T := F_M) (N := 26) hx hb hts wl_M t_M t_M_ok n_M hown hK hP hD hS 0 rfl rfl 0 (by decide) (hts _ wf_M_51) (fun _ h9 => h9) rfl (by decide +kernel) rfl rfl (Nat.le_of_ble_eq_true rfl) d_M_store_77 (fun H locs hP hD hS => ?_)
                have hP : va_P D cls (mW cI cZ qm mp mt ml mc mf me mg mh mu (0) (nI k) (nI n) (nI (pn)) (nI (nx)) (ep) (nI (M.1)) (M.2.2.1) (M.2.2.2) (wi) (jb) (fp) (tf) (tt) (fi) (ln) (bx) (1000) (pr) (1000) (tk) (8) (le) (576) (co) (576) (fr) (10) (em) (192) (M.2.1) (10) (nb) (10) (su)) H := hP
                have hD : va_D A (mW cI cZ qm mp mt ml mc mf me mg mh mu (0) (nI k) (nI n) (nI (pn)) (nI (nx)) (ep) (nI (M.1)) (M.2.2.1) (M.2.2.2) (wi) (jb) (fp) (tf) (tt) (fi) (ln) (bx) (1000) (pr) (1000) (tk) (8) (le) (576) (co) (576) (fr) (10) (em) (192) (M.2.1) (10) (nb) (10) (su)) := hD
                refine lv_aload_n hx hb d_M_store_80 rfl (lv_at hl 0 rfl) ?_
                refine va_get (D := D) (ci := 5) (v := .int (0)) (C := R_M) (T := F_M) (N := 26) hx hb hts wl_M hown hK hP 0 rfl rfl 0 (by decide) (hts _ wf_M_51) (fun _ h9 => h9) rfl d_M_store_81 ?_
                refine lv_if_le (tgt := 89) hx hb d_M_store_84 rfl (fun hc84 => ?_) (fun hc84 => ?_)
                · skip
                  refine lv_aload_n hx hb d_M_store_89 rfl (lv_at hl 0 rfl) ?_
                  refine sd_allVV (As := []) (rest := []) (w1 := (mW cI cZ qm mp mt ml mc mf me mg mh mu (0) (nI k) (nI n) (nI (pn)) (nI (nx)) (ep) (nI (M.1)) (M.2.2.1) (M.2.2.2) (wi) (jb) (fp) (tf) (tt) (fi) (ln) (bx) (1000) (pr) (1000) (tk) (8) (le) (576) (co) (576) (cp_f co 576 fr) (10) (em) (192) (M.2.1) (10) (nb) (10) (su))) (c_M_copyFresh l D cI cZ cQ (qm) (mp) (mt) (ml) (mc) (mf) (me) (mg) (mh) (mu) (k) (n) (pn) (nx) (0) (ep) (M) (wi) (jb) (fp) (tf) (tt) (fi) (ln) (bx) (pr) (tk) (le) (co) (fr) (em) (nb) (su) (hk) (hn)) ⟨wc_M_copyFresh, wm_M_136, wi_M, by decide, by decide, show (parseMethodDescriptor y_M_copyFresh.desc).map (fun d => d.parameters.length) = some 0 by decide +kernel⟩ wo_M_copyFresh wz_M_copyFresh hx hb hml hown hts hl.1 ⟨Nat.le_of_ble_eq_true rfl, Nat.le_of_ble_eq_true rfl⟩ ⟨Nat.le_of_ble_eq_true rfl, Nat.le_of_ble_eq_true rfl⟩ hK hP hD hS hA (rfl) (q0 := 0) rfl rfl rfl (Nat.le_of_ble_eq_true rfl) d_M_store_90 (fun H locs hP hD hS => ?_)
                  have hP : va_P D cls (mW cI cZ qm mp mt ml mc mf me mg mh mu (0) (nI k) (nI n) (nI (pn)) (nI (nx)) (ep) (nI (M.1)) (M.2.2.1) (M.2.2.2) (wi) (jb) (fp) (tf) (tt) (fi) (ln) (bx) (1000) (pr) (1000) (tk) (8) (le) (576) (co) (576) (cp_f co 576 fr) (10) (em) (192) (M.2.1) (10) (nb) (10) (su)) H := hP
                  have hD : va_D A (mW cI cZ qm mp mt ml mc mf me mg mh mu (0) (nI k) (nI n) (nI (pn)) (nI (nx)) (ep) (nI (M.1)) (M.2.2.1) (M.2.2.2) (wi) (jb) (fp) (tf) (tt) (fi) (ln) (bx) (1000) (pr) (1000) (tk) (8) (le) (576) (co) (576) (cp_f co 576 fr) (10) (em) (192) (M.2.1) (10) (nb) (10) (su)) := hD
                  refine lv_iconst (v := 0) hx hb d_M_store_93 (by decide) ?_
                  refine sd_top (y := nI 0) (rfl) ?_
                  refine lv_istore hx hb d_M_store_94 hl (Nat.le_of_ble_eq_true rfl) (lv' := [(5, .int (nI 0)), (0, .ref qm), (1, .int (nI f)), (2, .long (x)), (4, .int (nI lx))]) rfl (fun ls hl => ?_)
                  have hl := lv_sub hl (l' := [(0, .ref qm), (1, .int (nI f)), (2, .long (x)), (4, .int (nI lx)), (5, .int (nI 0))]) [1, 2, 3, 4, 0] rfl
                  have loop96 : ∀ (d : Nat) (b : Nat) (ls : Array Slot) (H : Heap) (locs : List Loc), lx - b = d → (b ≤ lx) → lv_has ls 7 [(0, .ref qm), (1, .int (nI f)), (2, .long (x)), (4, .int (nI lx)), (5, .int (nI (b)))] → va_P D cls (mW cI cZ qm mp mt ml mc mf me mg mh mu (0) (nI k) (nI n) (nI (pn)) (nI (nx)) (ep) (nI (M.1)) (M.2.2.1) (M.2.2.2) (wi) (jb) (fp) (tf) (tt) (fi) (ln) (bx) (1000) (pr) (1000) (tk) (8) (le) (576) (co) (576) (sb_f x f b (cp_f co 576 fr)) (10) (em) (192) (M.2.1) (10) (nb) (10) (su)) H → va_D A (mW cI cZ qm mp mt ml mc mf me mg mh mu (0) (nI k) (nI n) (nI (pn)) (nI (nx)) (ep) (nI (M.1)) (M.2.2.1) (M.2.2.2) (wi) (jb) (fp) (tf) (tt) (fi) (ln) (bx) (1000) (pr) (1000) (tk) (8) (le) (576) (co) (576) (sb_f x f b (cp_f co 576 fr)) (10) (em) (192) (M.2.1) (10) (nb) (10) (su)) → va_S A s.heap H locs → W p l e ({ frames := 4, cells := 0, slots := 0, locals := 98 }) s m ([.ref qm, .int (nI f), .long (x), .int (nI lx)] : List Value).toArray below meth c H locs 0 0 (MQ below (sd_qi D (nI ((mm_s (ra_f (tq_f (lx * (k - 1)) (pn) ((tk), (pr))).1 (k) (n) (lz1 (f) (lx)) 8 ((sb_f x f lx (cp_f co 576 fr)), 0, ((M).1, (M).2.1, (wi), 0))).2.2 0 0 256).1) - nI ((M).1)) (mW cI cZ qm mp mt ml mc mf me mg mh mu (0) (nI (k)) (nI (n)) (nI ((pn) - (lx * (k - 1)))) (nI ((ra_f (tq_f (lx * (k - 1)) (pn) ((tk), (pr))).1 (k) (n) (lz1 (f) (lx)) 8 ((sb_f x f lx (cp_f co 576 fr)), 0, ((M).1, (M).2.1, (wi), 0))).2.1)) (ep) (nI (((mm_s (ra_f (tq_f (lx * (k - 1)) (pn) ((tk), (pr))).1 (k) (n) (lz1 (f) (lx)) 8 ((sb_f x f lx (cp_f co 576 fr)), 0, ((M).1, (M).2.1, (wi), 0))).2.2 0 0 256).1, (mm_s (ra_f (tq_f (lx * (k - 1)) (pn) ((tk), (pr))).1 (k) (n) (lz1 (f) (lx)) 8 ((sb_f x f lx (cp_f co 576 fr)), 0, ((M).1, (M).2.1, (wi), 0))).2.2 0 0 256).2.1, (-1), (mm_s (ra_f (tq_f (lx * (k - 1)) (pn) ((tk), (pr))).1 (k) (n) (lz1 (f) (lx)) 8 ((sb_f x f lx (cp_f co 576 fr)), 0, ((M).1, (M).2.1, (wi), 0))).2.2 0 0 256).2.2.2).1)) (((mm_s (ra_f (tq_f (lx * (k - 1)) (pn) ((tk), (pr))).1 (k) (n) (lz1 (f) (lx)) 8 ((sb_f x f lx (cp_f co 576 fr)), 0, ((M).1, (M).2.1, (wi), 0))).2.2 0 0 256).1, (mm_s (ra_f (tq_f (lx * (k - 1)) (pn) ((tk), (pr))).1 (k) (n) (lz1 (f) (lx)) 8 ((sb_f x f lx (cp_f co 576 fr)), 0, ((M).1, (M).2.1, (wi), 0))).2.2 0 0 256).2.1, (-1), (mm_s (ra_f (tq_f (lx * (k - 1)) (pn) ((tk), (pr))).1 (k) (n) (lz1 (f) (lx)) 8 ((sb_f x f lx (cp_f co 576 fr)), 0, ((M).1, (M).2.1, (wi), 0))).2.2 0 0 256).2.2.2).2.2.1) (((mm_s (ra_f (tq_f (lx * (k - 1)) (pn) ((tk), (pr))).1 (k) (n) (lz1 (f) (lx)) 8 ((sb_f x f lx (cp_f co 576 fr)), 0, ((M).1, (M).2.1, (wi), 0))).2.2 0 0 256).1, (mm_s (ra_f (tq_f (lx * (k - 1)) (pn) ((tk), (pr))).1 (k) (n) (lz1 (f) (lx)) 8 ((sb_f x f lx (cp_f co 576 fr)), 0, ((M).1, (M).2.1, (wi), 0))).2.2 0 0 256).2.1, (-1), (mm_s (ra_f (tq_f (lx * (k - 1)) (pn) ((tk), (pr))).1 (k) (n) (lz1 (f) (lx)) 8 ((sb_f x f lx (cp_f co 576 fr)), 0, ((M).1, (M).2.1, (wi), 0))).2.2 0 0 256).2.2.2).2.2.2) ((-1)) (1) (0) (nI 1) (nI (n)) (nI (f)) (nI (lx)) (bx) (1000) ((tq_f (lx * (k - 1)) (pn) ((tk), (pr))).2) (1000) ((tq_f (lx * (k - 1)) (pn) ((tk), (pr))).1) (8) (le) (576) (co) (576) ((ra_f (tq_f (lx * (k - 1)) (pn) ((tk), (pr))).1 (k) (n) (lz1 (f) (lx)) 8 ((sb_f x f lx (cp_f co 576 fr)), 0, ((M).1, (M).2.1, (wi), 0))).1) (10) (em) (192) (((mm_s (ra_f (tq_f (lx * (k - 1)) (pn) ((tk), (pr))).1 (k) (n) (lz1 (f) (lx)) 8 ((sb_f x f lx (cp_f co 576 fr)), 0, ((M).1, (M).2.1, (wi), 0))).2.2 0 0 256).1, (mm_s (ra_f (tq_f (lx * (k - 1)) (pn) ((tk), (pr))).1 (k) (n) (lz1 (f) (lx)) 8 ((sb_f x f lx (cp_f co 576 fr)), 0, ((M).1, (M).2.1, (wi), 0))).2.2 0 0 256).2.1, (-1), (mm_s (ra_f (tq_f (lx * (k - 1)) (pn) ((tk), (pr))).1 (k) (n) (lz1 (f) (lx)) 8 ((sb_f x f lx (cp_f co 576 fr)), 0, ((M).1, (M).2.1, (wi), 0))).2.2 0 0 256).2.2.2).2.1) (10) (nb) (10) (su)) A) ([.ref qm, .int (nI f), .long (x), .int (nI lx)] : List Value).toArray s 0 0 A) (F0 m 96 ls []) := by
                    intro d
                    induction d using Nat.strongRecOn with
                    | _ d ih96 =>
                    intro b ls H locs hd hb9 hl hP hD hS
                    subst hd
                    refine lv_iload hx hb d_M_store_96 (lv_at hl 4 rfl) ?_
                    refine lv_iload hx hb d_M_store_98 (lv_at hl 3 rfl) ?_
                    refine lv_icmp_ge (tgt := 164) hx hb d_M_store_100 rfl (fun hc100 => ?_) (fun hc100 => ?_)
                    · skip
                      rw [nI_leI (by omega) (by omega)] at hc100
                      have hbl : lx = b := by omega
                      subst hbl
                      refine lv_aload_n hx hb d_M_store_164 rfl (lv_at hl 0 rfl) ?_
                      refine lv_iload_n hx hb d_M_store_165 rfl (lv_at hl 1 rfl) ?_
                      refine va_put (D := D) (ci := 5) (v := .int (nI f)) (ty := .int) (C := R_M) (T := F_M) (N := 26) hx hb hts wl_M t_M t_M_ok n_M hown hK hP hD hS 0 rfl rfl 21 (by decide) (hts _ wf_M_103) (fun _ h9 => h9) rfl (by decide +kernel) rfl rfl (Nat.le_of_ble_eq_true rfl) d_M_store_166 (fun H locs hP hD hS => ?_)
                      have hP : va_P D cls (mW cI cZ qm mp mt ml mc mf me mg mh mu (0) (nI k) (nI n) (nI (pn)) (nI (nx)) (ep) (nI (M.1)) (M.2.2.1) (M.2.2.2) (wi) (jb) (fp) (tf) (tt) (nI f) (ln) (bx) (1000) (pr) (1000) (tk) (8) (le) (576) (co) (576) (sb_f x f lx (cp_f co 576 fr)) (10) (em) (192) (M.2.1) (10) (nb) (10) (su)) H := hP
                      have hD : va_D A (mW cI cZ qm mp mt ml mc mf me mg mh mu (0) (nI k) (nI n) (nI (pn)) (nI (nx)) (ep) (nI (M.1)) (M.2.2.1) (M.2.2.2) (wi) (jb) (fp) (tf) (tt) (nI f) (ln) (bx) (1000) (pr) (1000) (tk) (8) (le) (576) (co) (576) (sb_f x f lx (cp_f co 576 fr)) (10) (em) (192) (M.2.1) (10) (nb) (10) (su)) := hD
                      refine lv_aload_n hx hb d_M_store_169 rfl (lv_at hl 0 rfl) ?_
                      refine lv_iload hx hb d_M_store_170 (lv_at hl 3 rfl) ?_
                      refine va_put (D := D) (ci := 5) (v := .int (nI lx)) (ty := .int) (C := R_M) (T := F_M) (N := 26) hx hb hts wl_M t_M t_M_ok n_M hown hK hP hD hS 0 rfl rfl 22 (by decide) (hts _ wf_M_106) (fun _ h9 => h9) rfl (by decide +kernel) rfl rfl (Nat.le_of_ble_eq_true rfl) d_M_store_172 (fun H locs hP hD hS => ?_)
                      have hP : va_P D cls (mW cI cZ qm mp mt ml mc mf me mg mh mu (0) (nI k) (nI n) (nI (pn)) (nI (nx)) (ep) (nI (M.1)) (M.2.2.1) (M.2.2.2) (wi) (jb) (fp) (tf) (tt) (nI f) (nI lx) (bx) (1000) (pr) (1000) (tk) (8) (le) (576) (co) (576) (sb_f x f lx (cp_f co 576 fr)) (10) (em) (192) (M.2.1) (10) (nb) (10) (su)) H := hP
                      have hD : va_D A (mW cI cZ qm mp mt ml mc mf me mg mh mu (0) (nI k) (nI n) (nI (pn)) (nI (nx)) (ep) (nI (M.1)) (M.2.2.1) (M.2.2.2) (wi) (jb) (fp) (tf) (tt) (nI f) (nI lx) (bx) (1000) (pr) (1000) (tk) (8) (le) (576) (co) (576) (sb_f x f lx (cp_f co 576 fr)) (10) (em) (192) (M.2.1) (10) (nb) (10) (su)) := hD
                      refine lv_aload_n hx hb d_M_store_175 rfl (lv_at hl 0 rfl) ?_
                      refine lv_iconst (v := 1) hx hb d_M_store_176 (by decide) ?_
                      refine lv_iload hx hb d_M_store_177 (lv_at hl 3 rfl) ?_
                      refine lv_aload_n hx hb d_M_store_179 rfl (lv_at hl 0 rfl) ?_
                      refine va_get (D := D) (ci := 5) (v := .int (nI k)) (C := R_M) (T := F_M) (N := 26) hx hb hts wl_M hown hK hP 0 rfl rfl 1 (by decide) (hts _ wf_M_48) (fun _ h9 => h9) rfl d_M_store_180 ?_
                      refine lv_iconst (v := 1) hx hb d_M_store_183 (by decide) ?_
                      refine lv_isub hx hb d_M_store_184 ?_
                      refine sd_top (y := nI (k - 1)) (ni_pred (by omega)) ?_
                      refine lv_imul hx hb d_M_store_185 ?_
                      refine sd_top (y := nI (lx * (k - 1))) (pk_mul _ _) ?_
                      refine sd_allVI (As := [.int (1), .int (nI (lx * (k - 1)))]) (rest := []) (w1 := (mW cI cZ qm mp mt ml mc mf me mg mh mu (0) (nI k) (nI n) (nI (pn - (lx * (k - 1)))) (nI ((ra_f (tq_f (lx * (k - 1)) pn (tk, pr)).1 k n (lz1 f lx) 8 ((sb_f x f lx (cp_f co 576 fr)), 0, (M.1, M.2.1, wi, 0))).2.1)) (ep) (nI (((mm_s (ra_f (tq_f (lx * (k - 1)) pn (tk, pr)).1 k n (lz1 f lx) 8 ((sb_f x f lx (cp_f co 576 fr)), 0, (M.1, M.2.1, wi, 0))).2.2 0 0 256).1, (mm_s (ra_f (tq_f (lx * (k - 1)) pn (tk, pr)).1 k n (lz1 f lx) 8 ((sb_f x f lx (cp_f co 576 fr)), 0, (M.1, M.2.1, wi, 0))).2.2 0 0 256).2.1, (-1), (mm_s (ra_f (tq_f (lx * (k - 1)) pn (tk, pr)).1 k n (lz1 f lx) 8 ((sb_f x f lx (cp_f co 576 fr)), 0, (M.1, M.2.1, wi, 0))).2.2 0 0 256).2.2.2).1)) (((mm_s (ra_f (tq_f (lx * (k - 1)) pn (tk, pr)).1 k n (lz1 f lx) 8 ((sb_f x f lx (cp_f co 576 fr)), 0, (M.1, M.2.1, wi, 0))).2.2 0 0 256).1, (mm_s (ra_f (tq_f (lx * (k - 1)) pn (tk, pr)).1 k n (lz1 f lx) 8 ((sb_f x f lx (cp_f co 576 fr)), 0, (M.1, M.2.1, wi, 0))).2.2 0 0 256).2.1, (-1), (mm_s (ra_f (tq_f (lx * (k - 1)) pn (tk, pr)).1 k n (lz1 f lx) 8 ((sb_f x f lx (cp_f co 576 fr)), 0, (M.1, M.2.1, wi, 0))).2.2 0 0 256).2.2.2).2.2.1) (((mm_s (ra_f (tq_f (lx * (k - 1)) pn (tk, pr)).1 k n (lz1 f lx) 8 ((sb_f x f lx (cp_f co 576 fr)), 0, (M.1, M.2.1, wi, 0))).2.2 0 0 256).1, (mm_s (ra_f (tq_f (lx * (k - 1)) pn (tk, pr)).1 k n (lz1 f lx) 8 ((sb_f x f lx (cp_f co 576 fr)), 0, (M.1, M.2.1, wi, 0))).2.2 0 0 256).2.1, (-1), (mm_s (ra_f (tq_f (lx * (k - 1)) pn (tk, pr)).1 k n (lz1 f lx) 8 ((sb_f x f lx (cp_f co 576 fr)), 0, (M.1, M.2.1, wi, 0))).2.2 0 0 256).2.2.2).2.2.2) ((-1)) (1) (0) (nI 1) (nI n) (nI f) (nI lx) (bx) (1000) ((tq_f (lx * (k - 1)) pn (tk, pr)).2) (1000) ((tq_f (lx * (k - 1)) pn (tk, pr)).1) (8) (le) (576) (co) (576) ((ra_f (tq_f (lx * (k - 1)) pn (tk, pr)).1 k n (lz1 f lx) 8 ((sb_f x f lx (cp_f co 576 fr)), 0, (M.1, M.2.1, wi, 0))).1) (10) (em) (192) (((mm_s (ra_f (tq_f (lx * (k - 1)) pn (tk, pr)).1 k n (lz1 f lx) 8 ((sb_f x f lx (cp_f co 576 fr)), 0, (M.1, M.2.1, wi, 0))).2.2 0 0 256).1, (mm_s (ra_f (tq_f (lx * (k - 1)) pn (tk, pr)).1 k n (lz1 f lx) 8 ((sb_f x f lx (cp_f co 576 fr)), 0, (M.1, M.2.1, wi, 0))).2.2 0 0 256).2.1, (-1), (mm_s (ra_f (tq_f (lx * (k - 1)) pn (tk, pr)).1 k n (lz1 f lx) 8 ((sb_f x f lx (cp_f co 576 fr)), 0, (M.1, M.2.1, wi, 0))).2.2 0 0 256).2.2.2).2.1) (10) (nb) (10) (su))) (c_M_run_1A l D cI cZ cQ (qm) (mp) (mt) (ml) (mc) (mf) (me) (mg) (mh) (mu) (k) (n) (pn) (nx) (0) (ep) (M) (wi) (jb) (fp) (tf) (tt) (bx) (pr) (tk) (le) (co) (sb_f x f lx (cp_f co 576 fr)) (em) (nb) (su) (lx * (k - 1)) (f) (lx) (hk) (hn) (hk1) (hp) (hpn) (htk) (hpr) (hT) (by rw [sm_lz1 hf8]; exact Nat.le_refl _) (sb_ok x f lx _ (cp_ok co 576 fr hco9 hfr)) (hf8) (hlx) (hAB)) ⟨wc_M_run, wm_M_139, wi_M, by decide, by decide, show (parseMethodDescriptor y_M_run.desc).map (fun d => d.parameters.length) = some 2 by decide +kernel⟩ wo_M_run wz_M_run hx hb hml hown hts hl.1 ⟨Nat.le_of_ble_eq_true rfl, Nat.le_of_ble_eq_true rfl⟩ ⟨Nat.le_of_ble_eq_true rfl, Nat.le_of_ble_eq_true rfl⟩ hK hP hD hS hA (rfl) (q0 := 0) rfl rfl rfl (Nat.le_of_ble_eq_true rfl) d_M_store_186 (fun H locs hP hD hS => ?_)
                      have hP : va_P D cls (mW cI cZ qm mp mt ml mc mf me mg mh mu (0) (nI k) (nI n) (nI (pn - (lx * (k - 1)))) (nI ((ra_f (tq_f (lx * (k - 1)) pn (tk, pr)).1 k n (lz1 f lx) 8 ((sb_f x f lx (cp_f co 576 fr)), 0, (M.1, M.2.1, wi, 0))).2.1)) (ep) (nI (((mm_s (ra_f (tq_f (lx * (k - 1)) pn (tk, pr)).1 k n (lz1 f lx) 8 ((sb_f x f lx (cp_f co 576 fr)), 0, (M.1, M.2.1, wi, 0))).2.2 0 0 256).1, (mm_s (ra_f (tq_f (lx * (k - 1)) pn (tk, pr)).1 k n (lz1 f lx) 8 ((sb_f x f lx (cp_f co 576 fr)), 0, (M.1, M.2.1, wi, 0))).2.2 0 0 256).2.1, (-1), (mm_s (ra_f (tq_f (lx * (k - 1)) pn (tk, pr)).1 k n (lz1 f lx) 8 ((sb_f x f lx (cp_f co 576 fr)), 0, (M.1, M.2.1, wi, 0))).2.2 0 0 256).2.2.2).1)) (((mm_s (ra_f (tq_f (lx * (k - 1)) pn (tk, pr)).1 k n (lz1 f lx) 8 ((sb_f x f lx (cp_f co 576 fr)), 0, (M.1, M.2.1, wi, 0))).2.2 0 0 256).1, (mm_s (ra_f (tq_f (lx * (k - 1)) pn (tk, pr)).1 k n (lz1 f lx) 8 ((sb_f x f lx (cp_f co 576 fr)), 0, (M.1, M.2.1, wi, 0))).2.2 0 0 256).2.1, (-1), (mm_s (ra_f (tq_f (lx * (k - 1)) pn (tk, pr)).1 k n (lz1 f lx) 8 ((sb_f x f lx (cp_f co 576 fr)), 0, (M.1, M.2.1, wi, 0))).2.2 0 0 256).2.2.2).2.2.1) (((mm_s (ra_f (tq_f (lx * (k - 1)) pn (tk, pr)).1 k n (lz1 f lx) 8 ((sb_f x f lx (cp_f co 576 fr)), 0, (M.1, M.2.1, wi, 0))).2.2 0 0 256).1, (mm_s (ra_f (tq_f (lx * (k - 1)) pn (tk, pr)).1 k n (lz1 f lx) 8 ((sb_f x f lx (cp_f co 576 fr)), 0, (M.1, M.2.1, wi, 0))).2.2 0 0 256).2.1, (-1), (mm_s (ra_f (tq_f (lx * (k - 1)) pn (tk, pr)).1 k n (lz1 f lx) 8 ((sb_f x f lx (cp_f co 576 fr)), 0, (M.1, M.2.1, wi, 0))).2.2 0 0 256).2.2.2).2.2.2) ((-1)) (1) (0) (nI 1) (nI n) (nI f) (nI lx) (bx) (1000) ((tq_f (lx * (k - 1)) pn (tk, pr)).2) (1000) ((tq_f (lx * (k - 1)) pn (tk, pr)).1) (8) (le) (576) (co) (576) ((ra_f (tq_f (lx * (k - 1)) pn (tk, pr)).1 k n (lz1 f lx) 8 ((sb_f x f lx (cp_f co 576 fr)), 0, (M.1, M.2.1, wi, 0))).1) (10) (em) (192) (((mm_s (ra_f (tq_f (lx * (k - 1)) pn (tk, pr)).1 k n (lz1 f lx) 8 ((sb_f x f lx (cp_f co 576 fr)), 0, (M.1, M.2.1, wi, 0))).2.2 0 0 256).1, (mm_s (ra_f (tq_f (lx * (k - 1)) pn (tk, pr)).1 k n (lz1 f lx) 8 ((sb_f x f lx (cp_f co 576 fr)), 0, (M.1, M.2.1, wi, 0))).2.2 0 0 256).2.1, (-1), (mm_s (ra_f (tq_f (lx * (k - 1)) pn (tk, pr)).1 k n (lz1 f lx) 8 ((sb_f x f lx (cp_f co 576 fr)), 0, (M.1, M.2.1, wi, 0))).2.2 0 0 256).2.2.2).2.1) (10) (nb) (10) (su)) H := hP
                      have hD : va_D A (mW cI cZ qm mp mt ml mc mf me mg mh mu (0) (nI k) (nI n) (nI (pn - (lx * (k - 1)))) (nI ((ra_f (tq_f (lx * (k - 1)) pn (tk, pr)).1 k n (lz1 f lx) 8 ((sb_f x f lx (cp_f co 576 fr)), 0, (M.1, M.2.1, wi, 0))).2.1)) (ep) (nI (((mm_s (ra_f (tq_f (lx * (k - 1)) pn (tk, pr)).1 k n (lz1 f lx) 8 ((sb_f x f lx (cp_f co 576 fr)), 0, (M.1, M.2.1, wi, 0))).2.2 0 0 256).1, (mm_s (ra_f (tq_f (lx * (k - 1)) pn (tk, pr)).1 k n (lz1 f lx) 8 ((sb_f x f lx (cp_f co 576 fr)), 0, (M.1, M.2.1, wi, 0))).2.2 0 0 256).2.1, (-1), (mm_s (ra_f (tq_f (lx * (k - 1)) pn (tk, pr)).1 k n (lz1 f lx) 8 ((sb_f x f lx (cp_f co 576 fr)), 0, (M.1, M.2.1, wi, 0))).2.2 0 0 256).2.2.2).1)) (((mm_s (ra_f (tq_f (lx * (k - 1)) pn (tk, pr)).1 k n (lz1 f lx) 8 ((sb_f x f lx (cp_f co 576 fr)), 0, (M.1, M.2.1, wi, 0))).2.2 0 0 256).1, (mm_s (ra_f (tq_f (lx * (k - 1)) pn (tk, pr)).1 k n (lz1 f lx) 8 ((sb_f x f lx (cp_f co 576 fr)), 0, (M.1, M.2.1, wi, 0))).2.2 0 0 256).2.1, (-1), (mm_s (ra_f (tq_f (lx * (k - 1)) pn (tk, pr)).1 k n (lz1 f lx) 8 ((sb_f x f lx (cp_f co 576 fr)), 0, (M.1, M.2.1, wi, 0))).2.2 0 0 256).2.2.2).2.2.1) (((mm_s (ra_f (tq_f (lx * (k - 1)) pn (tk, pr)).1 k n (lz1 f lx) 8 ((sb_f x f lx (cp_f co 576 fr)), 0, (M.1, M.2.1, wi, 0))).2.2 0 0 256).1, (mm_s (ra_f (tq_f (lx * (k - 1)) pn (tk, pr)).1 k n (lz1 f lx) 8 ((sb_f x f lx (cp_f co 576 fr)), 0, (M.1, M.2.1, wi, 0))).2.2 0 0 256).2.1, (-1), (mm_s (ra_f (tq_f (lx * (k - 1)) pn (tk, pr)).1 k n (lz1 f lx) 8 ((sb_f x f lx (cp_f co 576 fr)), 0, (M.1, M.2.1, wi, 0))).2.2 0 0 256).2.2.2).2.2.2) ((-1)) (1) (0) (nI 1) (nI n) (nI f) (nI lx) (bx) (1000) ((tq_f (lx * (k - 1)) pn (tk, pr)).2) (1000) ((tq_f (lx * (k - 1)) pn (tk, pr)).1) (8) (le) (576) (co) (576) ((ra_f (tq_f (lx * (k - 1)) pn (tk, pr)).1 k n (lz1 f lx) 8 ((sb_f x f lx (cp_f co 576 fr)), 0, (M.1, M.2.1, wi, 0))).1) (10) (em) (192) (((mm_s (ra_f (tq_f (lx * (k - 1)) pn (tk, pr)).1 k n (lz1 f lx) 8 ((sb_f x f lx (cp_f co 576 fr)), 0, (M.1, M.2.1, wi, 0))).2.2 0 0 256).1, (mm_s (ra_f (tq_f (lx * (k - 1)) pn (tk, pr)).1 k n (lz1 f lx) 8 ((sb_f x f lx (cp_f co 576 fr)), 0, (M.1, M.2.1, wi, 0))).2.2 0 0 256).2.1, (-1), (mm_s (ra_f (tq_f (lx * (k - 1)) pn (tk, pr)).1 k n (lz1 f lx) 8 ((sb_f x f lx (cp_f co 576 fr)), 0, (M.1, M.2.1, wi, 0))).2.2 0 0 256).2.2.2).2.1) (10) (nb) (10) (su)) := hD
                      exact sd_iret hx hb hr hlk hP hS (Nat.le_of_ble_eq_true rfl) (Nat.le_of_ble_eq_true rfl) (rfl) d_M_store_189
                    · skip
                      rw [nI_leI (by omega) (by omega)] at hc100
                      refine lv_iconst (v := 0) hx hb d_M_store_103 (by decide) ?_
                      refine sd_top (y := nI 0) (rfl) ?_
                      refine lv_istore hx hb d_M_store_104 hl (Nat.le_of_ble_eq_true rfl) (lv' := [(6, .int (nI 0)), (0, .ref qm), (1, .int (nI f)), (2, .long (x)), (4, .int (nI lx)), (5, .int (nI (b)))]) rfl (fun ls hl => ?_)
                      have hl := lv_sub hl (l' := [(0, .ref qm), (1, .int (nI f)), (2, .long (x)), (4, .int (nI lx)), (5, .int (nI (b))), (6, .int (nI 0))]) [1, 2, 3, 4, 5, 0] rfl
                      have loop106 : ∀ (d : Nat) (g : Nat) (ls : Array Slot) (H : Heap) (locs : List Loc), 9 - g = d → (g ≤ 9) → lv_has ls 7 [(0, .ref qm), (1, .int (nI f)), (2, .long (x)), (4, .int (nI lx)), (5, .int (nI (b))), (6, .int (nI (g)))] → va_P D cls (mW cI cZ qm mp mt ml mc mf me mg mh mu (0) (nI k) (nI n) (nI (pn)) (nI (nx)) (ep) (nI (M.1)) (M.2.2.1) (M.2.2.2) (wi) (jb) (fp) (tf) (tt) (fi) (ln) (bx) (1000) (pr) (1000) (tk) (8) (le) (576) (co) (576) (sc_f x f b g (sb_f x f b (cp_f co 576 fr))) (10) (em) (192) (M.2.1) (10) (nb) (10) (su)) H → va_D A (mW cI cZ qm mp mt ml mc mf me mg mh mu (0) (nI k) (nI n) (nI (pn)) (nI (nx)) (ep) (nI (M.1)) (M.2.2.1) (M.2.2.2) (wi) (jb) (fp) (tf) (tt) (fi) (ln) (bx) (1000) (pr) (1000) (tk) (8) (le) (576) (co) (576) (sc_f x f b g (sb_f x f b (cp_f co 576 fr))) (10) (em) (192) (M.2.1) (10) (nb) (10) (su)) → va_S A s.heap H locs → W p l e ({ frames := 4, cells := 0, slots := 0, locals := 98 }) s m ([.ref qm, .int (nI f), .long (x), .int (nI lx)] : List Value).toArray below meth c H locs 0 0 (MQ below (sd_qi D (nI ((mm_s (ra_f (tq_f (lx * (k - 1)) (pn) ((tk), (pr))).1 (k) (n) (lz1 (f) (lx)) 8 ((sb_f x f lx (cp_f co 576 fr)), 0, ((M).1, (M).2.1, (wi), 0))).2.2 0 0 256).1) - nI ((M).1)) (mW cI cZ qm mp mt ml mc mf me mg mh mu (0) (nI (k)) (nI (n)) (nI ((pn) - (lx * (k - 1)))) (nI ((ra_f (tq_f (lx * (k - 1)) (pn) ((tk), (pr))).1 (k) (n) (lz1 (f) (lx)) 8 ((sb_f x f lx (cp_f co 576 fr)), 0, ((M).1, (M).2.1, (wi), 0))).2.1)) (ep) (nI (((mm_s (ra_f (tq_f (lx * (k - 1)) (pn) ((tk), (pr))).1 (k) (n) (lz1 (f) (lx)) 8 ((sb_f x f lx (cp_f co 576 fr)), 0, ((M).1, (M).2.1, (wi), 0))).2.2 0 0 256).1, (mm_s (ra_f (tq_f (lx * (k - 1)) (pn) ((tk), (pr))).1 (k) (n) (lz1 (f) (lx)) 8 ((sb_f x f lx (cp_f co 576 fr)), 0, ((M).1, (M).2.1, (wi), 0))).2.2 0 0 256).2.1, (-1), (mm_s (ra_f (tq_f (lx * (k - 1)) (pn) ((tk), (pr))).1 (k) (n) (lz1 (f) (lx)) 8 ((sb_f x f lx (cp_f co 576 fr)), 0, ((M).1, (M).2.1, (wi), 0))).2.2 0 0 256).2.2.2).1)) (((mm_s (ra_f (tq_f (lx * (k - 1)) (pn) ((tk), (pr))).1 (k) (n) (lz1 (f) (lx)) 8 ((sb_f x f lx (cp_f co 576 fr)), 0, ((M).1, (M).2.1, (wi), 0))).2.2 0 0 256).1, (mm_s (ra_f (tq_f (lx * (k - 1)) (pn) ((tk), (pr))).1 (k) (n) (lz1 (f) (lx)) 8 ((sb_f x f lx (cp_f co 576 fr)), 0, ((M).1, (M).2.1, (wi), 0))).2.2 0 0 256).2.1, (-1), (mm_s (ra_f (tq_f (lx * (k - 1)) (pn) ((tk), (pr))).1 (k) (n) (lz1 (f) (lx)) 8 ((sb_f x f lx (cp_f co 576 fr)), 0, ((M).1, (M).2.1, (wi), 0))).2.2 0 0 256).2.2.2).2.2.1) (((mm_s (ra_f (tq_f (lx * (k - 1)) (pn) ((tk), (pr))).1 (k) (n) (lz1 (f) (lx)) 8 ((sb_f x f lx (cp_f co 576 fr)), 0, ((M).1, (M).2.1, (wi), 0))).2.2 0 0 256).1, (mm_s (ra_f (tq_f (lx * (k - 1)) (pn) ((tk), (pr))).1 (k) (n) (lz1 (f) (lx)) 8 ((sb_f x f lx (cp_f co 576 fr)), 0, ((M).1, (M).2.1, (wi), 0))).2.2 0 0 256).2.1, (-1), (mm_s (ra_f (tq_f (lx * (k - 1)) (pn) ((tk), (pr))).1 (k) (n) (lz1 (f) (lx)) 8 ((sb_f x f lx (cp_f co 576 fr)), 0, ((M).1, (M).2.1, (wi), 0))).2.2 0 0 256).2.2.2).2.2.2) ((-1)) (1) (0) (nI 1) (nI (n)) (nI (f)) (nI (lx)) (bx) (1000) ((tq_f (lx * (k - 1)) (pn) ((tk), (pr))).2) (1000) ((tq_f (lx * (k - 1)) (pn) ((tk), (pr))).1) (8) (le) (576) (co) (576) ((ra_f (tq_f (lx * (k - 1)) (pn) ((tk), (pr))).1 (k) (n) (lz1 (f) (lx)) 8 ((sb_f x f lx (cp_f co 576 fr)), 0, ((M).1, (M).2.1, (wi), 0))).1) (10) (em) (192) (((mm_s (ra_f (tq_f (lx * (k - 1)) (pn) ((tk), (pr))).1 (k) (n) (lz1 (f) (lx)) 8 ((sb_f x f lx (cp_f co 576 fr)), 0, ((M).1, (M).2.1, (wi), 0))).2.2 0 0 256).1, (mm_s (ra_f (tq_f (lx * (k - 1)) (pn) ((tk), (pr))).1 (k) (n) (lz1 (f) (lx)) 8 ((sb_f x f lx (cp_f co 576 fr)), 0, ((M).1, (M).2.1, (wi), 0))).2.2 0 0 256).2.1, (-1), (mm_s (ra_f (tq_f (lx * (k - 1)) (pn) ((tk), (pr))).1 (k) (n) (lz1 (f) (lx)) 8 ((sb_f x f lx (cp_f co 576 fr)), 0, ((M).1, (M).2.1, (wi), 0))).2.2 0 0 256).2.2.2).2.1) (10) (nb) (10) (su)) A) ([.ref qm, .int (nI f), .long (x), .int (nI lx)] : List Value).toArray s 0 0 A) (F0 m 106 ls []) := by
                        intro d
                        induction d using Nat.strongRecOn with
                        | _ d ih106 =>
                        intro g ls H locs hd hg9 hl hP hD hS
                        subst hd
                        refine lv_iload hx hb d_M_store_106 (lv_at hl 5 rfl) ?_
                        refine lv_bipush (v := nI 9) hx hb d_M_store_108 (by decide) ?_
                        refine lv_icmp_ge (tgt := 158) hx hb d_M_store_110 rfl (fun hc110 => ?_) (fun hc110 => ?_)
                        · skip
                          rw [nI_leI (by omega) (by omega)] at hc110
                          have hg8 : 9 = g := by omega
                          subst hg8
                          refine lv_iinc hx hb d_M_store_158 hl (k := 4) rfl (v := nI (b + 1)) (ii_1 _) (Nat.le_of_ble_eq_true rfl) (lv' := [(5, .int (nI (b + 1))), (0, .ref qm), (1, .int (nI f)), (2, .long (x)), (4, .int (nI lx)), (6, .int (nI (9)))]) rfl (fun ls hl => ?_)
                          refine lv_goto (tgt := 96) hx hb d_M_store_161 rfl ?_
                          have hl := lv_sub hl (l' := [(0, .ref qm), (1, .int (nI f)), (2, .long (x)), (4, .int (nI lx)), (5, .int (nI (b + 1)))]) [1, 2, 3, 4, 0] rfl
                          exact ih96 _ (by omega) (b + 1) ls _ _ rfl (by omega) hl hP hD hS
                        · skip
                          rw [nI_leI (by omega) (by omega)] at hc110
                          refine lv_aload_n hx hb d_M_store_113 rfl (lv_at hl 0 rfl) ?_
                          refine va_get (D := D) (ci := 5) (v := .ref mf) (C := R_M) (T := F_M) (N := 26) hx hb hts wl_M hown hK hP 0 rfl rfl 9 (by decide) (hts _ wf_M_22) (fun _ h9 => h9) rfl d_M_store_114 ?_
                          refine lv_bipush (v := nI 9) hx hb d_M_store_117 (by decide) ?_
                          refine lv_bipush (v := nI 8) hx hb d_M_store_119 (by decide) ?_
                          refine lv_iload_n hx hb d_M_store_121 rfl (lv_at hl 1 rfl) ?_
                          refine lv_imul hx hb d_M_store_122 ?_
                          refine sd_top (y := nI (8 * f)) (pk_mul _ _) ?_
                          refine lv_iload hx hb d_M_store_123 (lv_at hl 4 rfl) ?_
                          refine lv_iadd hx hb d_M_store_125 ?_
                          refine sd_top (y := nI (8 * f + b)) (nI_add _ _) ?_
                          refine lv_imul hx hb d_M_store_126 ?_
                          refine sd_top (y := nI (9 * (8 * f + b))) (pk_mul _ _) ?_
                          refine lv_iload hx hb d_M_store_127 (lv_at hl 5 rfl) ?_
                          refine lv_iadd hx hb d_M_store_129 ?_
                          refine sd_top (y := nI (9 * (8 * f + b) + g)) (nI_add _ _) ?_
                          refine lv_iload hx hb d_M_store_130 (lv_at hl 5 rfl) ?_
                          refine lv_if_ne (tgt := 150) hx hb d_M_store_132 rfl (fun hc132 => ?_) (fun hc132 => ?_)
                          · skip
                            have hg0 : ¬ g = 0 := fun h => hc132 (by rw [h]; rfl)
                            refine lv_iconst (v := 0) hx hb d_M_store_150 (by decide) ?_
                            refine sd_top (y := sv_f x b g) (by unfold sv_f; rw [if_neg hg0]) ?_
                            refine sd_iast (j := 9 * (8 * f + b) + g) hx hb hK hP hD hS 5 0 rfl rfl (by omega) (by omega) d_M_store_151 (fun H locs hP hD hS => ?_)
                            have hP : va_P D cls (mW cI cZ qm mp mt ml mc mf me mg mh mu (0) (nI k) (nI n) (nI (pn)) (nI (nx)) (ep) (nI (M.1)) (M.2.2.1) (M.2.2.2) (wi) (jb) (fp) (tf) (tt) (fi) (ln) (bx) (1000) (pr) (1000) (tk) (8) (le) (576) (co) (576) (upd (sc_f x f b g (sb_f x f b (cp_f co 576 fr))) (9 * (8 * f + b) + g) (sv_f x b g)) (10) (em) (192) (M.2.1) (10) (nb) (10) (su)) H := hP
                            have hD : va_D A (mW cI cZ qm mp mt ml mc mf me mg mh mu (0) (nI k) (nI n) (nI (pn)) (nI (nx)) (ep) (nI (M.1)) (M.2.2.1) (M.2.2.2) (wi) (jb) (fp) (tf) (tt) (fi) (ln) (bx) (1000) (pr) (1000) (tk) (8) (le) (576) (co) (576) (upd (sc_f x f b g (sb_f x f b (cp_f co 576 fr))) (9 * (8 * f + b) + g) (sv_f x b g)) (10) (em) (192) (M.2.1) (10) (nb) (10) (su)) := hD
                            refine lv_iinc hx hb d_M_store_152 hl (k := 5) rfl (v := nI (g + 1)) (ii_1 _) (Nat.le_of_ble_eq_true rfl) (lv' := [(6, .int (nI (g + 1))), (0, .ref qm), (1, .int (nI f)), (2, .long (x)), (4, .int (nI lx)), (5, .int (nI (b)))]) rfl (fun ls hl => ?_)
                            refine lv_goto (tgt := 106) hx hb d_M_store_155 rfl ?_
                            have hl := lv_sub hl (l' := [(0, .ref qm), (1, .int (nI f)), (2, .long (x)), (4, .int (nI lx)), (5, .int (nI (b))), (6, .int (nI (g + 1)))]) [1, 2, 3, 4, 5, 0] rfl
                            exact ih106 _ (by omega) (g + 1) ls _ _ rfl (by omega) hl hP hD hS
                          · skip
                            have hg0 : g = 0 := (nI_eq (b := 0) (by omega) (by omega)).mp hc132
                            refine lv_lload_n hx hb d_M_store_135 rfl (lv_at hl 2 rfl) ?_
                            refine lv_bipush (v := nI 8) hx hb d_M_store_136 (by decide) ?_
                            refine lv_iload hx hb d_M_store_138 (lv_at hl 4 rfl) ?_
                            refine lv_imul hx hb d_M_store_140 ?_
                            refine lv_lshr hx hb d_M_store_141 rfl ?_
                            refine lv_ldc2 (v := 255) hx hb hown (hts _ wq_M_61) d_M_store_142 ?_
                            refine lv_land hx hb d_M_store_145 ?_
                            refine lv_l2i hx hb d_M_store_146 rfl ?_
                            refine sd_top (y := sv_f x b g) (by unfold sv_f; rw [if_pos hg0]; exact lb_B x (by omega)) ?_
                            refine lv_goto (tgt := 151) hx hb d_M_store_147 rfl ?_
                            refine sd_iast (j := 9 * (8 * f + b) + g) hx hb hK hP hD hS 5 0 rfl rfl (by omega) (by omega) d_M_store_151 (fun H locs hP hD hS => ?_)
                            have hP : va_P D cls (mW cI cZ qm mp mt ml mc mf me mg mh mu (0) (nI k) (nI n) (nI (pn)) (nI (nx)) (ep) (nI (M.1)) (M.2.2.1) (M.2.2.2) (wi) (jb) (fp) (tf) (tt) (fi) (ln) (bx) (1000) (pr) (1000) (tk) (8) (le) (576) (co) (576) (upd (sc_f x f b g (sb_f x f b (cp_f co 576 fr))) (9 * (8 * f + b) + g) (sv_f x b g)) (10) (em) (192) (M.2.1) (10) (nb) (10) (su)) H := hP
                            have hD : va_D A (mW cI cZ qm mp mt ml mc mf me mg mh mu (0) (nI k) (nI n) (nI (pn)) (nI (nx)) (ep) (nI (M.1)) (M.2.2.1) (M.2.2.2) (wi) (jb) (fp) (tf) (tt) (fi) (ln) (bx) (1000) (pr) (1000) (tk) (8) (le) (576) (co) (576) (upd (sc_f x f b g (sb_f x f b (cp_f co 576 fr))) (9 * (8 * f + b) + g) (sv_f x b g)) (10) (em) (192) (M.2.1) (10) (nb) (10) (su)) := hD
                            refine lv_iinc hx hb d_M_store_152 hl (k := 5) rfl (v := nI (g + 1)) (ii_1 _) (Nat.le_of_ble_eq_true rfl) (lv' := [(6, .int (nI (g + 1))), (0, .ref qm), (1, .int (nI f)), (2, .long (x)), (4, .int (nI lx)), (5, .int (nI (b)))]) rfl (fun ls hl => ?_)
                            refine lv_goto (tgt := 106) hx hb d_M_store_155 rfl ?_
                            have hl := lv_sub hl (l' := [(0, .ref qm), (1, .int (nI f)), (2, .long (x)), (4, .int (nI lx)), (5, .int (nI (b))), (6, .int (nI (g + 1)))]) [1, 2, 3, 4, 5, 0] rfl
                            exact ih106 _ (by omega) (g + 1) ls _ _ rfl (by omega) hl hP hD hS
                      exact loop106 _ (0) ls _ _ rfl (Nat.zero_le _) hl hP hD hS
                  exact loop96 _ (0) ls _ _ rfl (Nat.zero_le _) hl hP hD hS
                · skip
                  exact False.elim (by revert hc84; decide)
              · skip
                exact absurd (nI_le hp (by omega)) hc69
            · skip
              exact absurd hE3 hc49
      · skip
        exact absurd (nI_le (by omega) (by omega)) hc18
set_option maxHeartbeats 4000000 in
set_option maxRecDepth 100000 in
theorem c_M_store_0B (l : Launch) (D : va_G) (cI cZ cQ : ClassId) (qm : Nat) (mp : Nat) (mt : Nat) (ml : Nat) (mc : Nat) (mf : Nat) (me : Nat) (mg : Nat) (mh : Nat) (mu : Nat) (k : Nat) (n : Nat) (pn : Nat) (nx : Nat) (cd : Int32) (ep : Int32) (M : mm_T) (wi : Int32) (jb : Int32) (fp : Int32) (tf : Int32) (tt : Int32) (fi : Int32) (ln : Int32) (bx : Int32) (pr : Nat → Int32) (tk : Nat → Int32) (le : Nat → Int32) (co : Nat → Int32) (fr : Nat → Int32) (em : Nat → Int32) (nb : Nat → Int32) (su : Nat → Int32) (f : Nat) (x : Int64) (lx : Nat) (hk : k ≤ 9) (hn : n ≤ 9) (hf8 : f < 8) (hlx1 : 1 ≤ lx) (hlx : lx ≤ 8) (hE1 : ¬ 0 < le f) (hE2 : ¬ sm_e em n < n) (hE3 : jb ≤ 0) (hk1 : 1 ≤ k) (hpn : pn ≤ 1000) (htk : ∀ i, okb (tk i)) (hpr : ∀ i, okb (pr i)) (hT : M.1 + 6000 < 2 ^ 31) (hfr : ∀ i, okb (fr i)) (hco9 : ∀ i, okb (co i)) (hp : lx * (k - 1) ≤ pn) (hAB : (mm_s (ra_f (tq_f (lx * (k - 1)) pn (tk, pr)).1 k n (lz1 f lx) 8 ((sb_f x f lx (cp_f co 576 fr)), 0, (M.1, M.2.1, wi, 0))).2.2 0 0 256).2.2.2 = 0) : sd_I l D (tyL cI cZ cQ) y_M_store b_M_store 7 (.int) ({ frames := 4, cells := 0, slots := 0, locals := 98 }) [.ref qm, .int (nI f), .long (x), .int (nI lx)] (mW cI cZ qm mp mt ml mc mf me mg mh mu (cd) (nI k) (nI n) (nI (pn)) (nI (nx)) (ep) (nI (M.1)) (M.2.2.1) (M.2.2.2) (wi) (jb) (fp) (tf) (tt) (fi) (ln) (bx) (1000) (pr) (1000) (tk) (8) (le) (576) (co) (576) (fr) (10) (em) (192) (M.2.1) (10) (nb) (10) (su)) (nI ((mt_f ((n) + 1 - 1) 1 ((mm_s (ra_f (tq_f (lx * (k - 1)) (pn) ((tk), (pr))).1 (k) (n) (lz1 (f) (lx)) 8 ((sb_f x f lx (cp_f co 576 fr)), 0, ((M).1, (M).2.1, (wi), 0))).2.2 0 0 256), 1)).1.1) - nI ((M).1)) (mW cI cZ qm mp mt ml mc mf me mg mh mu (0) (nI (k)) (nI (n)) (nI ((pn) - (lx * (k - 1)))) (nI ((ra_f (tq_f (lx * (k - 1)) (pn) ((tk), (pr))).1 (k) (n) (lz1 (f) (lx)) 8 ((sb_f x f lx (cp_f co 576 fr)), 0, ((M).1, (M).2.1, (wi), 0))).2.1)) (ep) (nI (((mt_f ((n) + 1 - 1) 1 ((mm_s (ra_f (tq_f (lx * (k - 1)) (pn) ((tk), (pr))).1 (k) (n) (lz1 (f) (lx)) 8 ((sb_f x f lx (cp_f co 576 fr)), 0, ((M).1, (M).2.1, (wi), 0))).2.2 0 0 256), 1)).1.1, (mt_f ((n) + 1 - 1) 1 ((mm_s (ra_f (tq_f (lx * (k - 1)) (pn) ((tk), (pr))).1 (k) (n) (lz1 (f) (lx)) 8 ((sb_f x f lx (cp_f co 576 fr)), 0, ((M).1, (M).2.1, (wi), 0))).2.2 0 0 256), 1)).1.2.1, (-1), (mt_f ((n) + 1 - 1) 1 ((mm_s (ra_f (tq_f (lx * (k - 1)) (pn) ((tk), (pr))).1 (k) (n) (lz1 (f) (lx)) 8 ((sb_f x f lx (cp_f co 576 fr)), 0, ((M).1, (M).2.1, (wi), 0))).2.2 0 0 256), 1)).1.2.2.2).1)) (((mt_f ((n) + 1 - 1) 1 ((mm_s (ra_f (tq_f (lx * (k - 1)) (pn) ((tk), (pr))).1 (k) (n) (lz1 (f) (lx)) 8 ((sb_f x f lx (cp_f co 576 fr)), 0, ((M).1, (M).2.1, (wi), 0))).2.2 0 0 256), 1)).1.1, (mt_f ((n) + 1 - 1) 1 ((mm_s (ra_f (tq_f (lx * (k - 1)) (pn) ((tk), (pr))).1 (k) (n) (lz1 (f) (lx)) 8 ((sb_f x f lx (cp_f co 576 fr)), 0, ((M).1, (M).2.1, (wi), 0))).2.2 0 0 256), 1)).1.2.1, (-1), (mt_f ((n) + 1 - 1) 1 ((mm_s (ra_f (tq_f (lx * (k - 1)) (pn) ((tk), (pr))).1 (k) (n) (lz1 (f) (lx)) 8 ((sb_f x f lx (cp_f co 576 fr)), 0, ((M).1, (M).2.1, (wi), 0))).2.2 0 0 256), 1)).1.2.2.2).2.2.1) (((mt_f ((n) + 1 - 1) 1 ((mm_s (ra_f (tq_f (lx * (k - 1)) (pn) ((tk), (pr))).1 (k) (n) (lz1 (f) (lx)) 8 ((sb_f x f lx (cp_f co 576 fr)), 0, ((M).1, (M).2.1, (wi), 0))).2.2 0 0 256), 1)).1.1, (mt_f ((n) + 1 - 1) 1 ((mm_s (ra_f (tq_f (lx * (k - 1)) (pn) ((tk), (pr))).1 (k) (n) (lz1 (f) (lx)) 8 ((sb_f x f lx (cp_f co 576 fr)), 0, ((M).1, (M).2.1, (wi), 0))).2.2 0 0 256), 1)).1.2.1, (-1), (mt_f ((n) + 1 - 1) 1 ((mm_s (ra_f (tq_f (lx * (k - 1)) (pn) ((tk), (pr))).1 (k) (n) (lz1 (f) (lx)) 8 ((sb_f x f lx (cp_f co 576 fr)), 0, ((M).1, (M).2.1, (wi), 0))).2.2 0 0 256), 1)).1.2.2.2).2.2.2) ((-1)) (jb_f (mt_f ((n) + 1 - 1) 1 ((mm_s (ra_f (tq_f (lx * (k - 1)) (pn) ((tk), (pr))).1 (k) (n) (lz1 (f) (lx)) 8 ((sb_f x f lx (cp_f co 576 fr)), 0, ((M).1, (M).2.1, (wi), 0))).2.2 0 0 256), 1)).1 1) (1) (nI (mt_f ((n) + 1 - 1) 1 ((mm_s (ra_f (tq_f (lx * (k - 1)) (pn) ((tk), (pr))).1 (k) (n) (lz1 (f) (lx)) 8 ((sb_f x f lx (cp_f co 576 fr)), 0, ((M).1, (M).2.1, (wi), 0))).2.2 0 0 256), 1)).2) (nI (n)) (nI (f)) (nI (lx)) (bx) (1000) ((tq_f (lx * (k - 1)) (pn) ((tk), (pr))).2) (1000) ((tq_f (lx * (k - 1)) (pn) ((tk), (pr))).1) (8) (upd le (f) (nI (lx))) (576) (cp_f (ra_f (tq_f (lx * (k - 1)) (pn) ((tk), (pr))).1 (k) (n) (lz1 (f) (lx)) 8 ((sb_f x f lx (cp_f co 576 fr)), 0, ((M).1, (M).2.1, (wi), 0))).1 576 (co)) (576) ((ra_f (tq_f (lx * (k - 1)) (pn) ((tk), (pr))).1 (k) (n) (lz1 (f) (lx)) 8 ((sb_f x f lx (cp_f co 576 fr)), 0, ((M).1, (M).2.1, (wi), 0))).1) (10) (em) (192) (((mt_f ((n) + 1 - 1) 1 ((mm_s (ra_f (tq_f (lx * (k - 1)) (pn) ((tk), (pr))).1 (k) (n) (lz1 (f) (lx)) 8 ((sb_f x f lx (cp_f co 576 fr)), 0, ((M).1, (M).2.1, (wi), 0))).2.2 0 0 256), 1)).1.1, (mt_f ((n) + 1 - 1) 1 ((mm_s (ra_f (tq_f (lx * (k - 1)) (pn) ((tk), (pr))).1 (k) (n) (lz1 (f) (lx)) 8 ((sb_f x f lx (cp_f co 576 fr)), 0, ((M).1, (M).2.1, (wi), 0))).2.2 0 0 256), 1)).1.2.1, (-1), (mt_f ((n) + 1 - 1) 1 ((mm_s (ra_f (tq_f (lx * (k - 1)) (pn) ((tk), (pr))).1 (k) (n) (lz1 (f) (lx)) 8 ((sb_f x f lx (cp_f co 576 fr)), 0, ((M).1, (M).2.1, (wi), 0))).2.2 0 0 256), 1)).1.2.2.2).2.1) (10) (nb) (10) (su)) := by
  refine sd_ofI (by decide) (Nat.le_of_ble_eq_true rfl) ?_
  intro p e s m below meth c A ls hx hb hr hml hlk hown hts hK hP hD hA hS hl
  have hl : lv_has ls 7 [(0, .ref qm), (1, .int (nI f)), (2, .long (x)), (4, .int (nI lx))] := hl
  have hse := sm_e_le em n
  have hpk : lx * (k - 1) ≤ 64 := Nat.le_trans (Nat.mul_le_mul hlx (show k - 1 ≤ 8 by omega)) (by omega)
  refine lv_aload_n hx hb d_M_store_0 rfl (lv_at hl 0 rfl) ?_
  refine lv_iload_n hx hb d_M_store_1 rfl (lv_at hl 1 rfl) ?_
  refine sd_callSI (As := [.int (nI f)]) (rest := [.ref qm]) (cx := []) (w1 := []) (c_M_isFile_1 l D cI cZ cQ (nI f) (fl_in hf8)) ⟨wc_M_isFile, wm_M_129, wi_M, by decide, by decide, show (parseMethodDescriptor y_M_isFile.desc).map (fun d => d.parameters.length) = some 1 by decide +kernel⟩ ws_M_isFile hx hb hml hown hts hl.1 ⟨Nat.le_of_ble_eq_true rfl, Nat.le_of_ble_eq_true rfl⟩ ⟨Nat.le_of_ble_eq_true rfl, Nat.le_of_ble_eq_true rfl⟩ hK hP hD hS hA [] rfl (by decide) rfl rfl rfl (Nat.le_of_ble_eq_true rfl) d_M_store_2 (fun H locs hP hD hS => ?_)
  have hP : va_P D cls (mW cI cZ qm mp mt ml mc mf me mg mh mu (cd) (nI k) (nI n) (nI (pn)) (nI (nx)) (ep) (nI (M.1)) (M.2.2.1) (M.2.2.2) (wi) (jb) (fp) (tf) (tt) (fi) (ln) (bx) (1000) (pr) (1000) (tk) (8) (le) (576) (co) (576) (fr) (10) (em) (192) (M.2.1) (10) (nb) (10) (su)) H := hP
  have hD : va_D A (mW cI cZ qm mp mt ml mc mf me mg mh mu (cd) (nI k) (nI n) (nI (pn)) (nI (nx)) (ep) (nI (M.1)) (M.2.2.1) (M.2.2.2) (wi) (jb) (fp) (tf) (tt) (fi) (ln) (bx) (1000) (pr) (1000) (tk) (8) (le) (576) (co) (576) (fr) (10) (em) (192) (M.2.1) (10) (nb) (10) (su)) := hD
  refine lv_if_eq (tgt := 21) hx hb d_M_store_5 rfl (fun hc5 => ?_) (fun hc5 => ?_)
  · skip
    exact False.elim (by revert hc5; decide)
  · skip
    refine lv_iload hx hb d_M_store_8 (lv_at hl 3 rfl) ?_
    refine lv_iconst (v := nI 1) hx hb d_M_store_10 (by decide) ?_
    refine lv_icmp_lt (tgt := 21) hx hb d_M_store_11 rfl (fun hc11 => ?_) (fun hc11 => ?_)
    · skip
      exact absurd hc11 (nI_nlt (by omega) (by omega))
    · skip
      refine lv_iload hx hb d_M_store_14 (lv_at hl 3 rfl) ?_
      refine lv_bipush (v := nI 8) hx hb d_M_store_16 (by decide) ?_
      refine lv_icmp_le (tgt := 25) hx hb d_M_store_18 rfl (fun hc18 => ?_) (fun hc18 => ?_)
      · skip
        refine lv_aload_n hx hb d_M_store_25 rfl (lv_at hl 0 rfl) ?_
        refine va_get (D := D) (ci := 5) (v := .ref ml) (C := R_M) (T := F_M) (N := 26) hx hb hts wl_M hown hK hP 0 rfl rfl 7 (by decide) (hts _ wf_M_16) (fun _ h9 => h9) rfl d_M_store_26 ?_
        refine lv_iload_n hx hb d_M_store_29 rfl (lv_at hl 1 rfl) ?_
        refine sd_iald (j := f) hx hb hK hP 3 0 rfl rfl (by omega) (by omega) d_M_store_30 ?_
        refine lv_if_gt (tgt := 52) hx hb d_M_store_31 rfl (fun hc31 => ?_) (fun hc31 => ?_)
        · skip
          exact absurd hc31 hE1
        · skip
          refine lv_aload_n hx hb d_M_store_34 rfl (lv_at hl 0 rfl) ?_
          refine sd_allVI (As := []) (rest := [.ref qm]) (w1 := (mW cI cZ qm mp mt ml mc mf me mg mh mu (cd) (nI k) (nI n) (nI (pn)) (nI (nx)) (ep) (nI (M.1)) (M.2.2.1) (M.2.2.2) (wi) (jb) (fp) (tf) (tt) (fi) (ln) (bx) (1000) (pr) (1000) (tk) (8) (le) (576) (co) (576) (fr) (10) (em) (192) (M.2.1) (10) (nb) (10) (su))) (c_M_filled l D cI cZ cQ (qm) (mp) (mt) (ml) (mc) (mf) (me) (mg) (mh) (mu) (k) (n) (pn) (nx) (cd) (ep) (M) (wi) (jb) (fp) (tf) (tt) (fi) (ln) (bx) (pr) (tk) (le) (co) (fr) (em) (nb) (su) (hk) (hn)) ⟨wc_M_filled, wm_M_133, wi_M, by decide, by decide, show (parseMethodDescriptor y_M_filled.desc).map (fun d => d.parameters.length) = some 0 by decide +kernel⟩ wo_M_filled wz_M_filled hx hb hml hown hts hl.1 ⟨Nat.le_of_ble_eq_true rfl, Nat.le_of_ble_eq_true rfl⟩ ⟨Nat.le_of_ble_eq_true rfl, Nat.le_of_ble_eq_true rfl⟩ hK hP hD hS hA (rfl) (q0 := 0) rfl rfl rfl (Nat.le_of_ble_eq_true rfl) d_M_store_35 (fun H locs hP hD hS => ?_)
          have hP : va_P D cls (mW cI cZ qm mp mt ml mc mf me mg mh mu (cd) (nI k) (nI n) (nI (pn)) (nI (nx)) (ep) (nI (M.1)) (M.2.2.1) (M.2.2.2) (wi) (jb) (fp) (tf) (tt) (fi) (ln) (bx) (1000) (pr) (1000) (tk) (8) (le) (576) (co) (576) (fr) (10) (em) (192) (M.2.1) (10) (nb) (10) (su)) H := hP
          have hD : va_D A (mW cI cZ qm mp mt ml mc mf me mg mh mu (cd) (nI k) (nI n) (nI (pn)) (nI (nx)) (ep) (nI (M.1)) (M.2.2.1) (M.2.2.2) (wi) (jb) (fp) (tf) (tt) (fi) (ln) (bx) (1000) (pr) (1000) (tk) (8) (le) (576) (co) (576) (fr) (10) (em) (192) (M.2.1) (10) (nb) (10) (su)) := hD
          refine lv_aload_n hx hb d_M_store_38 rfl (lv_at hl 0 rfl) ?_
          refine va_get (D := D) (ci := 5) (v := .int (nI n)) (C := R_M) (T := F_M) (N := 26) hx hb hts wl_M hown hK hP 0 rfl rfl 2 (by decide) (hts _ wf_M_45) (fun _ h9 => h9) rfl d_M_store_39 ?_
          refine lv_icmp_lt (tgt := 52) hx hb d_M_store_42 rfl (fun hc42 => ?_) (fun hc42 => ?_)
          · skip
            exact absurd ((nI_ltI (by omega) (by omega)).mp hc42) hE2
          · skip
            refine lv_aload_n hx hb d_M_store_45 rfl (lv_at hl 0 rfl) ?_
            refine va_get (D := D) (ci := 5) (v := .int (jb)) (C := R_M) (T := F_M) (N := 26) hx hb hts wl_M hown hK hP 0 rfl rfl 17 (by decide) (hts _ wf_M_100) (fun _ h9 => h9) rfl d_M_store_46 ?_
            refine lv_if_le (tgt := 56) hx hb d_M_store_49 rfl (fun hc49 => ?_) (fun hc49 => ?_)
            · skip
              refine lv_aload_n hx hb d_M_store_56 rfl (lv_at hl 0 rfl) ?_
              refine va_get (D := D) (ci := 5) (v := .int (nI (pn))) (C := R_M) (T := F_M) (N := 26) hx hb hts wl_M hown hK hP 0 rfl rfl 3 (by decide) (hts _ wf_M_58) (fun _ h9 => h9) rfl d_M_store_57 ?_
              refine lv_iload hx hb d_M_store_60 (lv_at hl 3 rfl) ?_
              refine lv_aload_n hx hb d_M_store_62 rfl (lv_at hl 0 rfl) ?_
              refine va_get (D := D) (ci := 5) (v := .int (nI k)) (C := R_M) (T := F_M) (N := 26) hx hb hts wl_M hown hK hP 0 rfl rfl 1 (by decide) (hts _ wf_M_48) (fun _ h9 => h9) rfl d_M_store_63 ?_
              refine lv_iconst (v := 1) hx hb d_M_store_66 (by decide) ?_
              refine lv_isub hx hb d_M_store_67 ?_
              refine sd_top (y := nI (k - 1)) (ni_pred (by omega)) ?_
              refine lv_imul hx hb d_M_store_68 ?_
              refine sd_top (y := nI (lx * (k - 1))) (pk_mul _ _) ?_
              refine lv_icmp_ge (tgt := 76) hx hb d_M_store_69 rfl (fun hc69 => ?_) (fun hc69 => ?_)
              · skip
                refine lv_iconst (v := 0) hx hb d_M_store_76 (by decide) ?_
                refine va_put (D := D) (ci := 5) (v := .int (0)) (ty := .int) (C := R_M) (T := F_M) (N := 26) hx hb hts wl_M t_M t_M_ok n_M hown hK hP hD hS 0 rfl rfl 0 (by decide) (hts _ wf_M_51) (fun _ h9 => h9) rfl (by decide +kernel) rfl rfl (Nat.le_of_ble_eq_true rfl) d_M_store_77 (fun H locs hP hD hS => ?_)
                have hP : va_P D cls (mW cI cZ qm mp mt ml mc mf me mg mh mu (0) (nI k) (nI n) (nI (pn)) (nI (nx)) (ep) (nI (M.1)) (M.2.2.1) (M.2.2.2) (wi) (jb) (fp) (tf) (tt) (fi) (ln) (bx) (1000) (pr) (1000) (tk) (8) (le) (576) (co) (576) (fr) (10) (em) (192) (M.2.1) (10) (nb) (10) (su)) H := hP
                have hD : va_D A (mW cI cZ qm mp mt ml mc mf me mg mh mu (0) (nI k) (nI n) (nI (pn)) (nI (nx)) (ep) (nI (M.1)) (M.2.2.1) (M.2.2.2) (wi) (jb) (fp) (tf) (tt) (fi) (ln) (bx) (1000) (pr) (1000) (tk) (8) (le) (576) (co) (576) (fr) (10) (em) (192) (M.2.1) (10) (nb) (10) (su)) := hD
                refine lv_aload_n hx hb d_M_store_80 rfl (lv_at hl 0 rfl) ?_
                refine va_get (D := D) (ci := 5) (v := .int (0)) (C := R_M) (T := F_M) (N := 26) hx hb hts wl_M hown hK hP 0 rfl rfl 0 (by decide) (hts _ wf_M_51) (fun _ h9 => h9) rfl d_M_store_81 ?_
                refine lv_if_le (tgt := 89) hx hb d_M_store_84 rfl (fun hc84 => ?_) (fun hc84 => ?_)
                · skip
                  refine lv_aload_n hx hb d_M_store_89 rfl (lv_at hl 0 rfl) ?_
                  refine sd_allVV (As := []) (rest := []) (w1 := (mW cI cZ qm mp mt ml mc mf me mg mh mu (0) (nI k) (nI n) (nI (pn)) (nI (nx)) (ep) (nI (M.1)) (M.2.2.1) (M.2.2.2) (wi) (jb) (fp) (tf) (tt) (fi) (ln) (bx) (1000) (pr) (1000) (tk) (8) (le) (576) (co) (576) (cp_f co 576 fr) (10) (em) (192) (M.2.1) (10) (nb) (10) (su))) (c_M_copyFresh l D cI cZ cQ (qm) (mp) (mt) (ml) (mc) (mf) (me) (mg) (mh) (mu) (k) (n) (pn) (nx) (0) (ep) (M) (wi) (jb) (fp) (tf) (tt) (fi) (ln) (bx) (pr) (tk) (le) (co) (fr) (em) (nb) (su) (hk) (hn)) ⟨wc_M_copyFresh, wm_M_136, wi_M, by decide, by decide, show (parseMethodDescriptor y_M_copyFresh.desc).map (fun d => d.parameters.length) = some 0 by decide +kernel⟩ wo_M_copyFresh wz_M_copyFresh hx hb hml hown hts hl.1 ⟨Nat.le_of_ble_eq_true rfl, Nat.le_of_ble_eq_true rfl⟩ ⟨Nat.le_of_ble_eq_true rfl, Nat.le_of_ble_eq_true rfl⟩ hK hP hD hS hA (rfl) (q0 := 0) rfl rfl rfl (Nat.le_of_ble_eq_true rfl) d_M_store_90 (fun H locs hP hD hS => ?_)
                  have hP : va_P D cls (mW cI cZ qm mp mt ml mc mf me mg mh mu (0) (nI k) (nI n) (nI (pn)) (nI (nx)) (ep) (nI (M.1)) (M.2.2.1) (M.2.2.2) (wi) (jb) (fp) (tf) (tt) (fi) (ln) (bx) (1000) (pr) (1000) (tk) (8) (le) (576) (co) (576) (cp_f co 576 fr) (10) (em) (192) (M.2.1) (10) (nb) (10) (su)) H := hP
                  have hD : va_D A (mW cI cZ qm mp mt ml mc mf me mg mh mu (0) (nI k) (nI n) (nI (pn)) (nI (nx)) (ep) (nI (M.1)) (M.2.2.1) (M.2.2.2) (wi) (jb) (fp) (tf) (tt) (fi) (ln) (bx) (1000) (pr) (1000) (tk) (8) (le) (576) (co) (576) (cp_f co 576 fr) (10) (em) (192) (M.2.1) (10) (nb) (10) (su)) := hD
                  refine lv_iconst (v := 0) hx hb d_M_store_93 (by decide) ?_
                  refine sd_top (y := nI 0) (rfl) ?_
                  refine lv_istore hx hb d_M_store_94 hl (Nat.le_of_ble_eq_true rfl) (lv' := [(5, .int (nI 0)), (0, .ref qm), (1, .int (nI f)), (2, .long (x)), (4, .int (nI lx))]) rfl (fun ls hl => ?_)
                  have hl := lv_sub hl (l' := [(0, .ref qm), (1, .int (nI f)), (2, .long (x)), (4, .int (nI lx)), (5, .int (nI 0))]) [1, 2, 3, 4, 0] rfl
                  have loop96 : ∀ (d : Nat) (b : Nat) (ls : Array Slot) (H : Heap) (locs : List Loc), lx - b = d → (b ≤ lx) → lv_has ls 7 [(0, .ref qm), (1, .int (nI f)), (2, .long (x)), (4, .int (nI lx)), (5, .int (nI (b)))] → va_P D cls (mW cI cZ qm mp mt ml mc mf me mg mh mu (0) (nI k) (nI n) (nI (pn)) (nI (nx)) (ep) (nI (M.1)) (M.2.2.1) (M.2.2.2) (wi) (jb) (fp) (tf) (tt) (fi) (ln) (bx) (1000) (pr) (1000) (tk) (8) (le) (576) (co) (576) (sb_f x f b (cp_f co 576 fr)) (10) (em) (192) (M.2.1) (10) (nb) (10) (su)) H → va_D A (mW cI cZ qm mp mt ml mc mf me mg mh mu (0) (nI k) (nI n) (nI (pn)) (nI (nx)) (ep) (nI (M.1)) (M.2.2.1) (M.2.2.2) (wi) (jb) (fp) (tf) (tt) (fi) (ln) (bx) (1000) (pr) (1000) (tk) (8) (le) (576) (co) (576) (sb_f x f b (cp_f co 576 fr)) (10) (em) (192) (M.2.1) (10) (nb) (10) (su)) → va_S A s.heap H locs → W p l e ({ frames := 4, cells := 0, slots := 0, locals := 98 }) s m ([.ref qm, .int (nI f), .long (x), .int (nI lx)] : List Value).toArray below meth c H locs 0 0 (MQ below (sd_qi D (nI ((mt_f ((n) + 1 - 1) 1 ((mm_s (ra_f (tq_f (lx * (k - 1)) (pn) ((tk), (pr))).1 (k) (n) (lz1 (f) (lx)) 8 ((sb_f x f lx (cp_f co 576 fr)), 0, ((M).1, (M).2.1, (wi), 0))).2.2 0 0 256), 1)).1.1) - nI ((M).1)) (mW cI cZ qm mp mt ml mc mf me mg mh mu (0) (nI (k)) (nI (n)) (nI ((pn) - (lx * (k - 1)))) (nI ((ra_f (tq_f (lx * (k - 1)) (pn) ((tk), (pr))).1 (k) (n) (lz1 (f) (lx)) 8 ((sb_f x f lx (cp_f co 576 fr)), 0, ((M).1, (M).2.1, (wi), 0))).2.1)) (ep) (nI (((mt_f ((n) + 1 - 1) 1 ((mm_s (ra_f (tq_f (lx * (k - 1)) (pn) ((tk), (pr))).1 (k) (n) (lz1 (f) (lx)) 8 ((sb_f x f lx (cp_f co 576 fr)), 0, ((M).1, (M).2.1, (wi), 0))).2.2 0 0 256), 1)).1.1, (mt_f ((n) + 1 - 1) 1 ((mm_s (ra_f (tq_f (lx * (k - 1)) (pn) ((tk), (pr))).1 (k) (n) (lz1 (f) (lx)) 8 ((sb_f x f lx (cp_f co 576 fr)), 0, ((M).1, (M).2.1, (wi), 0))).2.2 0 0 256), 1)).1.2.1, (-1), (mt_f ((n) + 1 - 1) 1 ((mm_s (ra_f (tq_f (lx * (k - 1)) (pn) ((tk), (pr))).1 (k) (n) (lz1 (f) (lx)) 8 ((sb_f x f lx (cp_f co 576 fr)), 0, ((M).1, (M).2.1, (wi), 0))).2.2 0 0 256), 1)).1.2.2.2).1)) (((mt_f ((n) + 1 - 1) 1 ((mm_s (ra_f (tq_f (lx * (k - 1)) (pn) ((tk), (pr))).1 (k) (n) (lz1 (f) (lx)) 8 ((sb_f x f lx (cp_f co 576 fr)), 0, ((M).1, (M).2.1, (wi), 0))).2.2 0 0 256), 1)).1.1, (mt_f ((n) + 1 - 1) 1 ((mm_s (ra_f (tq_f (lx * (k - 1)) (pn) ((tk), (pr))).1 (k) (n) (lz1 (f) (lx)) 8 ((sb_f x f lx (cp_f co 576 fr)), 0, ((M).1, (M).2.1, (wi), 0))).2.2 0 0 256), 1)).1.2.1, (-1), (mt_f ((n) + 1 - 1) 1 ((mm_s (ra_f (tq_f (lx * (k - 1)) (pn) ((tk), (pr))).1 (k) (n) (lz1 (f) (lx)) 8 ((sb_f x f lx (cp_f co 576 fr)), 0, ((M).1, (M).2.1, (wi), 0))).2.2 0 0 256), 1)).1.2.2.2).2.2.1) (((mt_f ((n) + 1 - 1) 1 ((mm_s (ra_f (tq_f (lx * (k - 1)) (pn) ((tk), (pr))).1 (k) (n) (lz1 (f) (lx)) 8 ((sb_f x f lx (cp_f co 576 fr)), 0, ((M).1, (M).2.1, (wi), 0))).2.2 0 0 256), 1)).1.1, (mt_f ((n) + 1 - 1) 1 ((mm_s (ra_f (tq_f (lx * (k - 1)) (pn) ((tk), (pr))).1 (k) (n) (lz1 (f) (lx)) 8 ((sb_f x f lx (cp_f co 576 fr)), 0, ((M).1, (M).2.1, (wi), 0))).2.2 0 0 256), 1)).1.2.1, (-1), (mt_f ((n) + 1 - 1) 1 ((mm_s (ra_f (tq_f (lx * (k - 1)) (pn) ((tk), (pr))).1 (k) (n) (lz1 (f) (lx)) 8 ((sb_f x f lx (cp_f co 576 fr)), 0, ((M).1, (M).2.1, (wi), 0))).2.2 0 0 256), 1)).1.2.2.2).2.2.2) ((-1)) (jb_f (mt_f ((n) + 1 - 1) 1 ((mm_s (ra_f (tq_f (lx * (k - 1)) (pn) ((tk), (pr))).1 (k) (n) (lz1 (f) (lx)) 8 ((sb_f x f lx (cp_f co 576 fr)), 0, ((M).1, (M).2.1, (wi), 0))).2.2 0 0 256), 1)).1 1) (1) (nI (mt_f ((n) + 1 - 1) 1 ((mm_s (ra_f (tq_f (lx * (k - 1)) (pn) ((tk), (pr))).1 (k) (n) (lz1 (f) (lx)) 8 ((sb_f x f lx (cp_f co 576 fr)), 0, ((M).1, (M).2.1, (wi), 0))).2.2 0 0 256), 1)).2) (nI (n)) (nI (f)) (nI (lx)) (bx) (1000) ((tq_f (lx * (k - 1)) (pn) ((tk), (pr))).2) (1000) ((tq_f (lx * (k - 1)) (pn) ((tk), (pr))).1) (8) (upd le (f) (nI (lx))) (576) (cp_f (ra_f (tq_f (lx * (k - 1)) (pn) ((tk), (pr))).1 (k) (n) (lz1 (f) (lx)) 8 ((sb_f x f lx (cp_f co 576 fr)), 0, ((M).1, (M).2.1, (wi), 0))).1 576 (co)) (576) ((ra_f (tq_f (lx * (k - 1)) (pn) ((tk), (pr))).1 (k) (n) (lz1 (f) (lx)) 8 ((sb_f x f lx (cp_f co 576 fr)), 0, ((M).1, (M).2.1, (wi), 0))).1) (10) (em) (192) (((mt_f ((n) + 1 - 1) 1 ((mm_s (ra_f (tq_f (lx * (k - 1)) (pn) ((tk), (pr))).1 (k) (n) (lz1 (f) (lx)) 8 ((sb_f x f lx (cp_f co 576 fr)), 0, ((M).1, (M).2.1, (wi), 0))).2.2 0 0 256), 1)).1.1, (mt_f ((n) + 1 - 1) 1 ((mm_s (ra_f (tq_f (lx * (k - 1)) (pn) ((tk), (pr))).1 (k) (n) (lz1 (f) (lx)) 8 ((sb_f x f lx (cp_f co 576 fr)), 0, ((M).1, (M).2.1, (wi), 0))).2.2 0 0 256), 1)).1.2.1, (-1), (mt_f ((n) + 1 - 1) 1 ((mm_s (ra_f (tq_f (lx * (k - 1)) (pn) ((tk), (pr))).1 (k) (n) (lz1 (f) (lx)) 8 ((sb_f x f lx (cp_f co 576 fr)), 0, ((M).1, (M).2.1, (wi), 0))).2.2 0 0 256), 1)).1.2.2.2).2.1) (10) (nb) (10) (su)) A) ([.ref qm, .int (nI f), .long (x), .int (nI lx)] : List Value).toArray s 0 0 A) (F0 m 96 ls []) := by
                    intro d
                    induction d using Nat.strongRecOn with
                    | _ d ih96 =>
                    intro b ls H locs hd hb9 hl hP hD hS
                    subst hd
                    refine lv_iload hx hb d_M_store_96 (lv_at hl 4 rfl) ?_
                    refine lv_iload hx hb d_M_store_98 (lv_at hl 3 rfl) ?_
                    refine lv_icmp_ge (tgt := 164) hx hb d_M_store_100 rfl (fun hc100 => ?_) (fun hc100 => ?_)
                    · skip
                      rw [nI_leI (by omega) (by omega)] at hc100
                      have hbl : lx = b := by omega
                      subst hbl
                      refine lv_aload_n hx hb d_M_store_164 rfl (lv_at hl 0 rfl) ?_
                      refine lv_iload_n hx hb d_M_store_165 rfl (lv_at hl 1 rfl) ?_
                      refine va_put (D := D) (ci := 5) (v := .int (nI f)) (ty := .int) (C := R_M) (T := F_M) (N := 26) hx hb hts wl_M t_M t_M_ok n_M hown hK hP hD hS 0 rfl rfl 21 (by decide) (hts _ wf_M_103) (fun _ h9 => h9) rfl (by decide +kernel) rfl rfl (Nat.le_of_ble_eq_true rfl) d_M_store_166 (fun H locs hP hD hS => ?_)
                      have hP : va_P D cls (mW cI cZ qm mp mt ml mc mf me mg mh mu (0) (nI k) (nI n) (nI (pn)) (nI (nx)) (ep) (nI (M.1)) (M.2.2.1) (M.2.2.2) (wi) (jb) (fp) (tf) (tt) (nI f) (ln) (bx) (1000) (pr) (1000) (tk) (8) (le) (576) (co) (576) (sb_f x f lx (cp_f co 576 fr)) (10) (em) (192) (M.2.1) (10) (nb) (10) (su)) H := hP
                      have hD : va_D A (mW cI cZ qm mp mt ml mc mf me mg mh mu (0) (nI k) (nI n) (nI (pn)) (nI (nx)) (ep) (nI (M.1)) (M.2.2.1) (M.2.2.2) (wi) (jb) (fp) (tf) (tt) (nI f) (ln) (bx) (1000) (pr) (1000) (tk) (8) (le) (576) (co) (576) (sb_f x f lx (cp_f co 576 fr)) (10) (em) (192) (M.2.1) (10) (nb) (10) (su)) := hD
                      refine lv_aload_n hx hb d_M_store_169 rfl (lv_at hl 0 rfl) ?_
                      refine lv_iload hx hb d_M_store_170 (lv_at hl 3 rfl) ?_
                      refine va_put (D := D) (ci := 5) (v := .int (nI lx)) (ty := .int) (C := R_M) (T := F_M) (N := 26) hx hb hts wl_M t_M t_M_ok n_M hown hK hP hD hS 0 rfl rfl 22 (by decide) (hts _ wf_M_106) (fun _ h9 => h9) rfl (by decide +kernel) rfl rfl (Nat.le_of_ble_eq_true rfl) d_M_store_172 (fun H locs hP hD hS => ?_)
                      have hP : va_P D cls (mW cI cZ qm mp mt ml mc mf me mg mh mu (0) (nI k) (nI n) (nI (pn)) (nI (nx)) (ep) (nI (M.1)) (M.2.2.1) (M.2.2.2) (wi) (jb) (fp) (tf) (tt) (nI f) (nI lx) (bx) (1000) (pr) (1000) (tk) (8) (le) (576) (co) (576) (sb_f x f lx (cp_f co 576 fr)) (10) (em) (192) (M.2.1) (10) (nb) (10) (su)) H := hP
                      have hD : va_D A (mW cI cZ qm mp mt ml mc mf me mg mh mu (0) (nI k) (nI n) (nI (pn)) (nI (nx)) (ep) (nI (M.1)) (M.2.2.1) (M.2.2.2) (wi) (jb) (fp) (tf) (tt) (nI f) (nI lx) (bx) (1000) (pr) (1000) (tk) (8) (le) (576) (co) (576) (sb_f x f lx (cp_f co 576 fr)) (10) (em) (192) (M.2.1) (10) (nb) (10) (su)) := hD
                      refine lv_aload_n hx hb d_M_store_175 rfl (lv_at hl 0 rfl) ?_
                      refine lv_iconst (v := 1) hx hb d_M_store_176 (by decide) ?_
                      refine lv_iload hx hb d_M_store_177 (lv_at hl 3 rfl) ?_
                      refine lv_aload_n hx hb d_M_store_179 rfl (lv_at hl 0 rfl) ?_
                      refine va_get (D := D) (ci := 5) (v := .int (nI k)) (C := R_M) (T := F_M) (N := 26) hx hb hts wl_M hown hK hP 0 rfl rfl 1 (by decide) (hts _ wf_M_48) (fun _ h9 => h9) rfl d_M_store_180 ?_
                      refine lv_iconst (v := 1) hx hb d_M_store_183 (by decide) ?_
                      refine lv_isub hx hb d_M_store_184 ?_
                      refine sd_top (y := nI (k - 1)) (ni_pred (by omega)) ?_
                      refine lv_imul hx hb d_M_store_185 ?_
                      refine sd_top (y := nI (lx * (k - 1))) (pk_mul _ _) ?_
                      refine sd_allVI (As := [.int (1), .int (nI (lx * (k - 1)))]) (rest := []) (w1 := (mW cI cZ qm mp mt ml mc mf me mg mh mu (0) (nI k) (nI n) (nI (pn - (lx * (k - 1)))) (nI ((ra_f (tq_f (lx * (k - 1)) pn (tk, pr)).1 k n (lz1 f lx) 8 ((sb_f x f lx (cp_f co 576 fr)), 0, (M.1, M.2.1, wi, 0))).2.1)) (ep) (nI (((mt_f (n + 1 - 1) 1 ((mm_s (ra_f (tq_f (lx * (k - 1)) pn (tk, pr)).1 k n (lz1 f lx) 8 ((sb_f x f lx (cp_f co 576 fr)), 0, (M.1, M.2.1, wi, 0))).2.2 0 0 256), 1)).1.1, (mt_f (n + 1 - 1) 1 ((mm_s (ra_f (tq_f (lx * (k - 1)) pn (tk, pr)).1 k n (lz1 f lx) 8 ((sb_f x f lx (cp_f co 576 fr)), 0, (M.1, M.2.1, wi, 0))).2.2 0 0 256), 1)).1.2.1, (-1), (mt_f (n + 1 - 1) 1 ((mm_s (ra_f (tq_f (lx * (k - 1)) pn (tk, pr)).1 k n (lz1 f lx) 8 ((sb_f x f lx (cp_f co 576 fr)), 0, (M.1, M.2.1, wi, 0))).2.2 0 0 256), 1)).1.2.2.2).1)) (((mt_f (n + 1 - 1) 1 ((mm_s (ra_f (tq_f (lx * (k - 1)) pn (tk, pr)).1 k n (lz1 f lx) 8 ((sb_f x f lx (cp_f co 576 fr)), 0, (M.1, M.2.1, wi, 0))).2.2 0 0 256), 1)).1.1, (mt_f (n + 1 - 1) 1 ((mm_s (ra_f (tq_f (lx * (k - 1)) pn (tk, pr)).1 k n (lz1 f lx) 8 ((sb_f x f lx (cp_f co 576 fr)), 0, (M.1, M.2.1, wi, 0))).2.2 0 0 256), 1)).1.2.1, (-1), (mt_f (n + 1 - 1) 1 ((mm_s (ra_f (tq_f (lx * (k - 1)) pn (tk, pr)).1 k n (lz1 f lx) 8 ((sb_f x f lx (cp_f co 576 fr)), 0, (M.1, M.2.1, wi, 0))).2.2 0 0 256), 1)).1.2.2.2).2.2.1) (((mt_f (n + 1 - 1) 1 ((mm_s (ra_f (tq_f (lx * (k - 1)) pn (tk, pr)).1 k n (lz1 f lx) 8 ((sb_f x f lx (cp_f co 576 fr)), 0, (M.1, M.2.1, wi, 0))).2.2 0 0 256), 1)).1.1, (mt_f (n + 1 - 1) 1 ((mm_s (ra_f (tq_f (lx * (k - 1)) pn (tk, pr)).1 k n (lz1 f lx) 8 ((sb_f x f lx (cp_f co 576 fr)), 0, (M.1, M.2.1, wi, 0))).2.2 0 0 256), 1)).1.2.1, (-1), (mt_f (n + 1 - 1) 1 ((mm_s (ra_f (tq_f (lx * (k - 1)) pn (tk, pr)).1 k n (lz1 f lx) 8 ((sb_f x f lx (cp_f co 576 fr)), 0, (M.1, M.2.1, wi, 0))).2.2 0 0 256), 1)).1.2.2.2).2.2.2) ((-1)) (jb_f (mt_f (n + 1 - 1) 1 ((mm_s (ra_f (tq_f (lx * (k - 1)) pn (tk, pr)).1 k n (lz1 f lx) 8 ((sb_f x f lx (cp_f co 576 fr)), 0, (M.1, M.2.1, wi, 0))).2.2 0 0 256), 1)).1 1) (1) (nI (mt_f (n + 1 - 1) 1 ((mm_s (ra_f (tq_f (lx * (k - 1)) pn (tk, pr)).1 k n (lz1 f lx) 8 ((sb_f x f lx (cp_f co 576 fr)), 0, (M.1, M.2.1, wi, 0))).2.2 0 0 256), 1)).2) (nI n) (nI f) (nI lx) (bx) (1000) ((tq_f (lx * (k - 1)) pn (tk, pr)).2) (1000) ((tq_f (lx * (k - 1)) pn (tk, pr)).1) (8) (upd le f (nI lx)) (576) (cp_f (ra_f (tq_f (lx * (k - 1)) pn (tk, pr)).1 k n (lz1 f lx) 8 ((sb_f x f lx (cp_f co 576 fr)), 0, (M.1, M.2.1, wi, 0))).1 576 co) (576) ((ra_f (tq_f (lx * (k - 1)) pn (tk, pr)).1 k n (lz1 f lx) 8 ((sb_f x f lx (cp_f co 576 fr)), 0, (M.1, M.2.1, wi, 0))).1) (10) (em) (192) (((mt_f (n + 1 - 1) 1 ((mm_s (ra_f (tq_f (lx * (k - 1)) pn (tk, pr)).1 k n (lz1 f lx) 8 ((sb_f x f lx (cp_f co 576 fr)), 0, (M.1, M.2.1, wi, 0))).2.2 0 0 256), 1)).1.1, (mt_f (n + 1 - 1) 1 ((mm_s (ra_f (tq_f (lx * (k - 1)) pn (tk, pr)).1 k n (lz1 f lx) 8 ((sb_f x f lx (cp_f co 576 fr)), 0, (M.1, M.2.1, wi, 0))).2.2 0 0 256), 1)).1.2.1, (-1), (mt_f (n + 1 - 1) 1 ((mm_s (ra_f (tq_f (lx * (k - 1)) pn (tk, pr)).1 k n (lz1 f lx) 8 ((sb_f x f lx (cp_f co 576 fr)), 0, (M.1, M.2.1, wi, 0))).2.2 0 0 256), 1)).1.2.2.2).2.1) (10) (nb) (10) (su))) (c_M_run_1B l D cI cZ cQ (qm) (mp) (mt) (ml) (mc) (mf) (me) (mg) (mh) (mu) (k) (n) (pn) (nx) (0) (ep) (M) (wi) (jb) (fp) (tf) (tt) (bx) (pr) (tk) (le) (co) (sb_f x f lx (cp_f co 576 fr)) (em) (nb) (su) (lx * (k - 1)) (f) (lx) (hk) (hn) (hk1) (hp) (hpn) (htk) (hpr) (hT) (by rw [sm_lz1 hf8]; exact Nat.le_refl _) (sb_ok x f lx _ (cp_ok co 576 fr hco9 hfr)) (hf8) (hlx) (hAB)) ⟨wc_M_run, wm_M_139, wi_M, by decide, by decide, show (parseMethodDescriptor y_M_run.desc).map (fun d => d.parameters.length) = some 2 by decide +kernel⟩ wo_M_run wz_M_run hx hb hml hown hts hl.1 ⟨Nat.le_of_ble_eq_true rfl, Nat.le_of_ble_eq_true rfl⟩ ⟨Nat.le_of_ble_eq_true rfl, Nat.le_of_ble_eq_true rfl⟩ hK hP hD hS hA (rfl) (q0 := 0) rfl rfl rfl (Nat.le_of_ble_eq_true rfl) d_M_store_186 (fun H locs hP hD hS => ?_)
                      have hP : va_P D cls (mW cI cZ qm mp mt ml mc mf me mg mh mu (0) (nI k) (nI n) (nI (pn - (lx * (k - 1)))) (nI ((ra_f (tq_f (lx * (k - 1)) pn (tk, pr)).1 k n (lz1 f lx) 8 ((sb_f x f lx (cp_f co 576 fr)), 0, (M.1, M.2.1, wi, 0))).2.1)) (ep) (nI (((mt_f (n + 1 - 1) 1 ((mm_s (ra_f (tq_f (lx * (k - 1)) pn (tk, pr)).1 k n (lz1 f lx) 8 ((sb_f x f lx (cp_f co 576 fr)), 0, (M.1, M.2.1, wi, 0))).2.2 0 0 256), 1)).1.1, (mt_f (n + 1 - 1) 1 ((mm_s (ra_f (tq_f (lx * (k - 1)) pn (tk, pr)).1 k n (lz1 f lx) 8 ((sb_f x f lx (cp_f co 576 fr)), 0, (M.1, M.2.1, wi, 0))).2.2 0 0 256), 1)).1.2.1, (-1), (mt_f (n + 1 - 1) 1 ((mm_s (ra_f (tq_f (lx * (k - 1)) pn (tk, pr)).1 k n (lz1 f lx) 8 ((sb_f x f lx (cp_f co 576 fr)), 0, (M.1, M.2.1, wi, 0))).2.2 0 0 256), 1)).1.2.2.2).1)) (((mt_f (n + 1 - 1) 1 ((mm_s (ra_f (tq_f (lx * (k - 1)) pn (tk, pr)).1 k n (lz1 f lx) 8 ((sb_f x f lx (cp_f co 576 fr)), 0, (M.1, M.2.1, wi, 0))).2.2 0 0 256), 1)).1.1, (mt_f (n + 1 - 1) 1 ((mm_s (ra_f (tq_f (lx * (k - 1)) pn (tk, pr)).1 k n (lz1 f lx) 8 ((sb_f x f lx (cp_f co 576 fr)), 0, (M.1, M.2.1, wi, 0))).2.2 0 0 256), 1)).1.2.1, (-1), (mt_f (n + 1 - 1) 1 ((mm_s (ra_f (tq_f (lx * (k - 1)) pn (tk, pr)).1 k n (lz1 f lx) 8 ((sb_f x f lx (cp_f co 576 fr)), 0, (M.1, M.2.1, wi, 0))).2.2 0 0 256), 1)).1.2.2.2).2.2.1) (((mt_f (n + 1 - 1) 1 ((mm_s (ra_f (tq_f (lx * (k - 1)) pn (tk, pr)).1 k n (lz1 f lx) 8 ((sb_f x f lx (cp_f co 576 fr)), 0, (M.1, M.2.1, wi, 0))).2.2 0 0 256), 1)).1.1, (mt_f (n + 1 - 1) 1 ((mm_s (ra_f (tq_f (lx * (k - 1)) pn (tk, pr)).1 k n (lz1 f lx) 8 ((sb_f x f lx (cp_f co 576 fr)), 0, (M.1, M.2.1, wi, 0))).2.2 0 0 256), 1)).1.2.1, (-1), (mt_f (n + 1 - 1) 1 ((mm_s (ra_f (tq_f (lx * (k - 1)) pn (tk, pr)).1 k n (lz1 f lx) 8 ((sb_f x f lx (cp_f co 576 fr)), 0, (M.1, M.2.1, wi, 0))).2.2 0 0 256), 1)).1.2.2.2).2.2.2) ((-1)) (jb_f (mt_f (n + 1 - 1) 1 ((mm_s (ra_f (tq_f (lx * (k - 1)) pn (tk, pr)).1 k n (lz1 f lx) 8 ((sb_f x f lx (cp_f co 576 fr)), 0, (M.1, M.2.1, wi, 0))).2.2 0 0 256), 1)).1 1) (1) (nI (mt_f (n + 1 - 1) 1 ((mm_s (ra_f (tq_f (lx * (k - 1)) pn (tk, pr)).1 k n (lz1 f lx) 8 ((sb_f x f lx (cp_f co 576 fr)), 0, (M.1, M.2.1, wi, 0))).2.2 0 0 256), 1)).2) (nI n) (nI f) (nI lx) (bx) (1000) ((tq_f (lx * (k - 1)) pn (tk, pr)).2) (1000) ((tq_f (lx * (k - 1)) pn (tk, pr)).1) (8) (upd le f (nI lx)) (576) (cp_f (ra_f (tq_f (lx * (k - 1)) pn (tk, pr)).1 k n (lz1 f lx) 8 ((sb_f x f lx (cp_f co 576 fr)), 0, (M.1, M.2.1, wi, 0))).1 576 co) (576) ((ra_f (tq_f (lx * (k - 1)) pn (tk, pr)).1 k n (lz1 f lx) 8 ((sb_f x f lx (cp_f co 576 fr)), 0, (M.1, M.2.1, wi, 0))).1) (10) (em) (192) (((mt_f (n + 1 - 1) 1 ((mm_s (ra_f (tq_f (lx * (k - 1)) pn (tk, pr)).1 k n (lz1 f lx) 8 ((sb_f x f lx (cp_f co 576 fr)), 0, (M.1, M.2.1, wi, 0))).2.2 0 0 256), 1)).1.1, (mt_f (n + 1 - 1) 1 ((mm_s (ra_f (tq_f (lx * (k - 1)) pn (tk, pr)).1 k n (lz1 f lx) 8 ((sb_f x f lx (cp_f co 576 fr)), 0, (M.1, M.2.1, wi, 0))).2.2 0 0 256), 1)).1.2.1, (-1), (mt_f (n + 1 - 1) 1 ((mm_s (ra_f (tq_f (lx * (k - 1)) pn (tk, pr)).1 k n (lz1 f lx) 8 ((sb_f x f lx (cp_f co 576 fr)), 0, (M.1, M.2.1, wi, 0))).2.2 0 0 256), 1)).1.2.2.2).2.1) (10) (nb) (10) (su)) H := hP
                      have hD : va_D A (mW cI cZ qm mp mt ml mc mf me mg mh mu (0) (nI k) (nI n) (nI (pn - (lx * (k - 1)))) (nI ((ra_f (tq_f (lx * (k - 1)) pn (tk, pr)).1 k n (lz1 f lx) 8 ((sb_f x f lx (cp_f co 576 fr)), 0, (M.1, M.2.1, wi, 0))).2.1)) (ep) (nI (((mt_f (n + 1 - 1) 1 ((mm_s (ra_f (tq_f (lx * (k - 1)) pn (tk, pr)).1 k n (lz1 f lx) 8 ((sb_f x f lx (cp_f co 576 fr)), 0, (M.1, M.2.1, wi, 0))).2.2 0 0 256), 1)).1.1, (mt_f (n + 1 - 1) 1 ((mm_s (ra_f (tq_f (lx * (k - 1)) pn (tk, pr)).1 k n (lz1 f lx) 8 ((sb_f x f lx (cp_f co 576 fr)), 0, (M.1, M.2.1, wi, 0))).2.2 0 0 256), 1)).1.2.1, (-1), (mt_f (n + 1 - 1) 1 ((mm_s (ra_f (tq_f (lx * (k - 1)) pn (tk, pr)).1 k n (lz1 f lx) 8 ((sb_f x f lx (cp_f co 576 fr)), 0, (M.1, M.2.1, wi, 0))).2.2 0 0 256), 1)).1.2.2.2).1)) (((mt_f (n + 1 - 1) 1 ((mm_s (ra_f (tq_f (lx * (k - 1)) pn (tk, pr)).1 k n (lz1 f lx) 8 ((sb_f x f lx (cp_f co 576 fr)), 0, (M.1, M.2.1, wi, 0))).2.2 0 0 256), 1)).1.1, (mt_f (n + 1 - 1) 1 ((mm_s (ra_f (tq_f (lx * (k - 1)) pn (tk, pr)).1 k n (lz1 f lx) 8 ((sb_f x f lx (cp_f co 576 fr)), 0, (M.1, M.2.1, wi, 0))).2.2 0 0 256), 1)).1.2.1, (-1), (mt_f (n + 1 - 1) 1 ((mm_s (ra_f (tq_f (lx * (k - 1)) pn (tk, pr)).1 k n (lz1 f lx) 8 ((sb_f x f lx (cp_f co 576 fr)), 0, (M.1, M.2.1, wi, 0))).2.2 0 0 256), 1)).1.2.2.2).2.2.1) (((mt_f (n + 1 - 1) 1 ((mm_s (ra_f (tq_f (lx * (k - 1)) pn (tk, pr)).1 k n (lz1 f lx) 8 ((sb_f x f lx (cp_f co 576 fr)), 0, (M.1, M.2.1, wi, 0))).2.2 0 0 256), 1)).1.1, (mt_f (n + 1 - 1) 1 ((mm_s (ra_f (tq_f (lx * (k - 1)) pn (tk, pr)).1 k n (lz1 f lx) 8 ((sb_f x f lx (cp_f co 576 fr)), 0, (M.1, M.2.1, wi, 0))).2.2 0 0 256), 1)).1.2.1, (-1), (mt_f (n + 1 - 1) 1 ((mm_s (ra_f (tq_f (lx * (k - 1)) pn (tk, pr)).1 k n (lz1 f lx) 8 ((sb_f x f lx (cp_f co 576 fr)), 0, (M.1, M.2.1, wi, 0))).2.2 0 0 256), 1)).1.2.2.2).2.2.2) ((-1)) (jb_f (mt_f (n + 1 - 1) 1 ((mm_s (ra_f (tq_f (lx * (k - 1)) pn (tk, pr)).1 k n (lz1 f lx) 8 ((sb_f x f lx (cp_f co 576 fr)), 0, (M.1, M.2.1, wi, 0))).2.2 0 0 256), 1)).1 1) (1) (nI (mt_f (n + 1 - 1) 1 ((mm_s (ra_f (tq_f (lx * (k - 1)) pn (tk, pr)).1 k n (lz1 f lx) 8 ((sb_f x f lx (cp_f co 576 fr)), 0, (M.1, M.2.1, wi, 0))).2.2 0 0 256), 1)).2) (nI n) (nI f) (nI lx) (bx) (1000) ((tq_f (lx * (k - 1)) pn (tk, pr)).2) (1000) ((tq_f (lx * (k - 1)) pn (tk, pr)).1) (8) (upd le f (nI lx)) (576) (cp_f (ra_f (tq_f (lx * (k - 1)) pn (tk, pr)).1 k n (lz1 f lx) 8 ((sb_f x f lx (cp_f co 576 fr)), 0, (M.1, M.2.1, wi, 0))).1 576 co) (576) ((ra_f (tq_f (lx * (k - 1)) pn (tk, pr)).1 k n (lz1 f lx) 8 ((sb_f x f lx (cp_f co 576 fr)), 0, (M.1, M.2.1, wi, 0))).1) (10) (em) (192) (((mt_f (n + 1 - 1) 1 ((mm_s (ra_f (tq_f (lx * (k - 1)) pn (tk, pr)).1 k n (lz1 f lx) 8 ((sb_f x f lx (cp_f co 576 fr)), 0, (M.1, M.2.1, wi, 0))).2.2 0 0 256), 1)).1.1, (mt_f (n + 1 - 1) 1 ((mm_s (ra_f (tq_f (lx * (k - 1)) pn (tk, pr)).1 k n (lz1 f lx) 8 ((sb_f x f lx (cp_f co 576 fr)), 0, (M.1, M.2.1, wi, 0))).2.2 0 0 256), 1)).1.2.1, (-1), (mt_f (n + 1 - 1) 1 ((mm_s (ra_f (tq_f (lx * (k - 1)) pn (tk, pr)).1 k n (lz1 f lx) 8 ((sb_f x f lx (cp_f co 576 fr)), 0, (M.1, M.2.1, wi, 0))).2.2 0 0 256), 1)).1.2.2.2).2.1) (10) (nb) (10) (su)) := hD
                      exact sd_iret hx hb hr hlk hP hS (Nat.le_of_ble_eq_true rfl) (Nat.le_of_ble_eq_true rfl) (rfl) d_M_store_189
                    · skip
                      rw [nI_leI (by omega) (by omega)] at hc100
                      refine lv_iconst (v := 0) hx hb d_M_store_103 (by decide) ?_
                      refine sd_top (y := nI 0) (rfl) ?_
                      refine lv_istore hx hb d_M_store_104 hl (Nat.le_of_ble_eq_true rfl) (lv' := [(6, .int (nI 0)), (0, .ref qm), (1, .int (nI f)), (2, .long (x)), (4, .int (nI lx)), (5, .int (nI (b)))]) rfl (fun ls hl => ?_)
                      have hl := lv_sub hl (l' := [(0, .ref qm), (1, .int (nI f)), (2, .long (x)), (4, .int (nI lx)), (5, .int (nI (b))), (6, .int (nI 0))]) [1, 2, 3, 4, 5, 0] rfl
                      have loop106 : ∀ (d : Nat) (g : Nat) (ls : Array Slot) (H : Heap) (locs : List Loc), 9 - g = d → (g ≤ 9) → lv_has ls 7 [(0, .ref qm), (1, .int (nI f)), (2, .long (x)), (4, .int (nI lx)), (5, .int (nI (b))), (6, .int (nI (g)))] → va_P D cls (mW cI cZ qm mp mt ml mc mf me mg mh mu (0) (nI k) (nI n) (nI (pn)) (nI (nx)) (ep) (nI (M.1)) (M.2.2.1) (M.2.2.2) (wi) (jb) (fp) (tf) (tt) (fi) (ln) (bx) (1000) (pr) (1000) (tk) (8) (le) (576) (co) (576) (sc_f x f b g (sb_f x f b (cp_f co 576 fr))) (10) (em) (192) (M.2.1) (10) (nb) (10) (su)) H → va_D A (mW cI cZ qm mp mt ml mc mf me mg mh mu (0) (nI k) (nI n) (nI (pn)) (nI (nx)) (ep) (nI (M.1)) (M.2.2.1) (M.2.2.2) (wi) (jb) (fp) (tf) (tt) (fi) (ln) (bx) (1000) (pr) (1000) (tk) (8) (le) (576) (co) (576) (sc_f x f b g (sb_f x f b (cp_f co 576 fr))) (10) (em) (192) (M.2.1) (10) (nb) (10) (su)) → va_S A s.heap H locs → W p l e ({ frames := 4, cells := 0, slots := 0, locals := 98 }) s m ([.ref qm, .int (nI f), .long (x), .int (nI lx)] : List Value).toArray below meth c H locs 0 0 (MQ below (sd_qi D (nI ((mt_f ((n) + 1 - 1) 1 ((mm_s (ra_f (tq_f (lx * (k - 1)) (pn) ((tk), (pr))).1 (k) (n) (lz1 (f) (lx)) 8 ((sb_f x f lx (cp_f co 576 fr)), 0, ((M).1, (M).2.1, (wi), 0))).2.2 0 0 256), 1)).1.1) - nI ((M).1)) (mW cI cZ qm mp mt ml mc mf me mg mh mu (0) (nI (k)) (nI (n)) (nI ((pn) - (lx * (k - 1)))) (nI ((ra_f (tq_f (lx * (k - 1)) (pn) ((tk), (pr))).1 (k) (n) (lz1 (f) (lx)) 8 ((sb_f x f lx (cp_f co 576 fr)), 0, ((M).1, (M).2.1, (wi), 0))).2.1)) (ep) (nI (((mt_f ((n) + 1 - 1) 1 ((mm_s (ra_f (tq_f (lx * (k - 1)) (pn) ((tk), (pr))).1 (k) (n) (lz1 (f) (lx)) 8 ((sb_f x f lx (cp_f co 576 fr)), 0, ((M).1, (M).2.1, (wi), 0))).2.2 0 0 256), 1)).1.1, (mt_f ((n) + 1 - 1) 1 ((mm_s (ra_f (tq_f (lx * (k - 1)) (pn) ((tk), (pr))).1 (k) (n) (lz1 (f) (lx)) 8 ((sb_f x f lx (cp_f co 576 fr)), 0, ((M).1, (M).2.1, (wi), 0))).2.2 0 0 256), 1)).1.2.1, (-1), (mt_f ((n) + 1 - 1) 1 ((mm_s (ra_f (tq_f (lx * (k - 1)) (pn) ((tk), (pr))).1 (k) (n) (lz1 (f) (lx)) 8 ((sb_f x f lx (cp_f co 576 fr)), 0, ((M).1, (M).2.1, (wi), 0))).2.2 0 0 256), 1)).1.2.2.2).1)) (((mt_f ((n) + 1 - 1) 1 ((mm_s (ra_f (tq_f (lx * (k - 1)) (pn) ((tk), (pr))).1 (k) (n) (lz1 (f) (lx)) 8 ((sb_f x f lx (cp_f co 576 fr)), 0, ((M).1, (M).2.1, (wi), 0))).2.2 0 0 256), 1)).1.1, (mt_f ((n) + 1 - 1) 1 ((mm_s (ra_f (tq_f (lx * (k - 1)) (pn) ((tk), (pr))).1 (k) (n) (lz1 (f) (lx)) 8 ((sb_f x f lx (cp_f co 576 fr)), 0, ((M).1, (M).2.1, (wi), 0))).2.2 0 0 256), 1)).1.2.1, (-1), (mt_f ((n) + 1 - 1) 1 ((mm_s (ra_f (tq_f (lx * (k - 1)) (pn) ((tk), (pr))).1 (k) (n) (lz1 (f) (lx)) 8 ((sb_f x f lx (cp_f co 576 fr)), 0, ((M).1, (M).2.1, (wi), 0))).2.2 0 0 256), 1)).1.2.2.2).2.2.1) (((mt_f ((n) + 1 - 1) 1 ((mm_s (ra_f (tq_f (lx * (k - 1)) (pn) ((tk), (pr))).1 (k) (n) (lz1 (f) (lx)) 8 ((sb_f x f lx (cp_f co 576 fr)), 0, ((M).1, (M).2.1, (wi), 0))).2.2 0 0 256), 1)).1.1, (mt_f ((n) + 1 - 1) 1 ((mm_s (ra_f (tq_f (lx * (k - 1)) (pn) ((tk), (pr))).1 (k) (n) (lz1 (f) (lx)) 8 ((sb_f x f lx (cp_f co 576 fr)), 0, ((M).1, (M).2.1, (wi), 0))).2.2 0 0 256), 1)).1.2.1, (-1), (mt_f ((n) + 1 - 1) 1 ((mm_s (ra_f (tq_f (lx * (k - 1)) (pn) ((tk), (pr))).1 (k) (n) (lz1 (f) (lx)) 8 ((sb_f x f lx (cp_f co 576 fr)), 0, ((M).1, (M).2.1, (wi), 0))).2.2 0 0 256), 1)).1.2.2.2).2.2.2) ((-1)) (jb_f (mt_f ((n) + 1 - 1) 1 ((mm_s (ra_f (tq_f (lx * (k - 1)) (pn) ((tk), (pr))).1 (k) (n) (lz1 (f) (lx)) 8 ((sb_f x f lx (cp_f co 576 fr)), 0, ((M).1, (M).2.1, (wi), 0))).2.2 0 0 256), 1)).1 1) (1) (nI (mt_f ((n) + 1 - 1) 1 ((mm_s (ra_f (tq_f (lx * (k - 1)) (pn) ((tk), (pr))).1 (k) (n) (lz1 (f) (lx)) 8 ((sb_f x f lx (cp_f co 576 fr)), 0, ((M).1, (M).2.1, (wi), 0))).2.2 0 0 256), 1)).2) (nI (n)) (nI (f)) (nI (lx)) (bx) (1000) ((tq_f (lx * (k - 1)) (pn) ((tk), (pr))).2) (1000) ((tq_f (lx * (k - 1)) (pn) ((tk), (pr))).1) (8) (upd le (f) (nI (lx))) (576) (cp_f (ra_f (tq_f (lx * (k - 1)) (pn) ((tk), (pr))).1 (k) (n) (lz1 (f) (lx)) 8 ((sb_f x f lx (cp_f co 576 fr)), 0, ((M).1, (M).2.1, (wi), 0))).1 576 (co)) (576) ((ra_f (tq_f (lx * (k - 1)) (pn) ((tk), (pr))).1 (k) (n) (lz1 (f) (lx)) 8 ((sb_f x f lx (cp_f co 576 fr)), 0, ((M).1, (M).2.1, (wi), 0))).1) (10) (em) (192) (((mt_f ((n) + 1 - 1) 1 ((mm_s (ra_f (tq_f (lx * (k - 1)) (pn) ((tk), (pr))).1 (k) (n) (lz1 (f) (lx)) 8 ((sb_f x f lx (cp_f co 576 fr)), 0, ((M).1, (M).2.1, (wi), 0))).2.2 0 0 256), 1)).1.1, (mt_f ((n) + 1 - 1) 1 ((mm_s (ra_f (tq_f (lx * (k - 1)) (pn) ((tk), (pr))).1 (k) (n) (lz1 (f) (lx)) 8 ((sb_f x f lx (cp_f co 576 fr)), 0, ((M).1, (M).2.1, (wi), 0))).2.2 0 0 256), 1)).1.2.1, (-1), (mt_f ((n) + 1 - 1) 1 ((mm_s (ra_f (tq_f (lx * (k - 1)) (pn) ((tk), (pr))).1 (k) (n) (lz1 (f) (lx)) 8 ((sb_f x f lx (cp_f co 576 fr)), 0, ((M).1, (M).2.1, (wi), 0))).2.2 0 0 256), 1)).1.2.2.2).2.1) (10) (nb) (10) (su)) A) ([.ref qm, .int (nI f), .long (x), .int (nI lx)] : List Value).toArray s 0 0 A) (F0 m 106 ls []) := by
                        intro d
                        induction d using Nat.strongRecOn with
                        | _ d ih106 =>
                        intro g ls H locs hd hg9 hl hP hD hS
                        subst hd
                        refine lv_iload hx hb d_M_store_106 (lv_at hl 5 rfl) ?_
                        refine lv_bipush (v := nI 9) hx hb d_M_store_108 (by decide) ?_
                        refine lv_icmp_ge (tgt := 158) hx hb d_M_store_110 rfl (fun hc110 => ?_) (fun hc110 => ?_)
                        · skip
                          rw [nI_leI (by omega) (by omega)] at hc110
                          have hg8 : 9 = g := by omega
                          subst hg8
                          refine lv_iinc hx hb d_M_store_158 hl (k := 4) rfl (v := nI (b + 1)) (ii_1 _) (Nat.le_of_ble_eq_true rfl) (lv' := [(5, .int (nI (b + 1))), (0, .ref qm), (1, .int (nI f)), (2, .long (x)), (4, .int (nI lx)), (6, .int (nI (9)))]) rfl (fun ls hl => ?_)
                          refine lv_goto (tgt := 96) hx hb d_M_store_161 rfl ?_
                          have hl := lv_sub hl (l' := [(0, .ref qm), (1, .int (nI f)), (2, .long (x)), (4, .int (nI lx)), (5, .int (nI (b + 1)))]) [1, 2, 3, 4, 0] rfl
                          exact ih96 _ (by omega) (b + 1) ls _ _ rfl (by omega) hl hP hD hS
                        · skip
                          rw [nI_leI (by omega) (by omega)] at hc110
                          refine lv_aload_n hx hb d_M_store_113 rfl (lv_at hl 0 rfl) ?_
                          refine va_get (D := D) (ci := 5) (v := .ref mf) (C := R_M) (T := F_M) (N := 26) hx hb hts wl_M hown hK hP 0 rfl rfl 9 (by decide) (hts _ wf_M_22) (fun _ h9 => h9) rfl d_M_store_114 ?_
                          refine lv_bipush (v := nI 9) hx hb d_M_store_117 (by decide) ?_
                          refine lv_bipush (v := nI 8) hx hb d_M_store_119 (by decide) ?_
                          refine lv_iload_n hx hb d_M_store_121 rfl (lv_at hl 1 rfl) ?_
                          refine lv_imul hx hb d_M_store_122 ?_
                          refine sd_top (y := nI (8 * f)) (pk_mul _ _) ?_
                          refine lv_iload hx hb d_M_store_123 (lv_at hl 4 rfl) ?_
                          refine lv_iadd hx hb d_M_store_125 ?_
                          refine sd_top (y := nI (8 * f + b)) (nI_add _ _) ?_
                          refine lv_imul hx hb d_M_store_126 ?_
                          refine sd_top (y := nI (9 * (8 * f + b))) (pk_mul _ _) ?_
                          refine lv_iload hx hb d_M_store_127 (lv_at hl 5 rfl) ?_
                          refine lv_iadd hx hb d_M_store_129 ?_
                          refine sd_top (y := nI (9 * (8 * f + b) + g)) (nI_add _ _) ?_
                          refine lv_iload hx hb d_M_store_130 (lv_at hl 5 rfl) ?_
                          refine lv_if_ne (tgt := 150) hx hb d_M_store_132 rfl (fun hc132 => ?_) (fun hc132 => ?_)
                          · skip
                            have hg0 : ¬ g = 0 := fun h => hc132 (by rw [h]; rfl)
                            refine lv_iconst (v := 0) hx hb d_M_store_150 (by decide) ?_
                            refine sd_top (y := sv_f x b g) (by unfold sv_f; rw [if_neg hg0]) ?_
                            refine sd_iast (j := 9 * (8 * f + b) + g) hx hb hK hP hD hS 5 0 rfl rfl (by omega) (by omega) d_M_store_151 (fun H locs hP hD hS => ?_)
                            have hP : va_P D cls (mW cI cZ qm mp mt ml mc mf me mg mh mu (0) (nI k) (nI n) (nI (pn)) (nI (nx)) (ep) (nI (M.1)) (M.2.2.1) (M.2.2.2) (wi) (jb) (fp) (tf) (tt) (fi) (ln) (bx) (1000) (pr) (1000) (tk) (8) (le) (576) (co) (576) (upd (sc_f x f b g (sb_f x f b (cp_f co 576 fr))) (9 * (8 * f + b) + g) (sv_f x b g)) (10) (em) (192) (M.2.1) (10) (nb) (10) (su)) H := hP
                            have hD : va_D A (mW cI cZ qm mp mt ml mc mf me mg mh mu (0) (nI k) (nI n) (nI (pn)) (nI (nx)) (ep) (nI (M.1)) (M.2.2.1) (M.2.2.2) (wi) (jb) (fp) (tf) (tt) (fi) (ln) (bx) (1000) (pr) (1000) (tk) (8) (le) (576) (co) (576) (upd (sc_f x f b g (sb_f x f b (cp_f co 576 fr))) (9 * (8 * f + b) + g) (sv_f x b g)) (10) (em) (192) (M.2.1) (10) (nb) (10) (su)) := hD
                            refine lv_iinc hx hb d_M_store_152 hl (k := 5) rfl (v := nI (g + 1)) (ii_1 _) (Nat.le_of_ble_eq_true rfl) (lv' := [(6, .int (nI (g + 1))), (0, .ref qm), (1, .int (nI f)), (2, .long (x)), (4, .int (nI lx)), (5, .int (nI (b)))]) rfl (fun ls hl => ?_)
                            refine lv_goto (tgt := 106) hx hb d_M_store_155 rfl ?_
                            have hl := lv_sub hl (l' := [(0, .ref qm), (1, .int (nI f)), (2, .long (x)), (4, .int (nI lx)), (5, .int (nI (b))), (6, .int (nI (g + 1)))]) [1, 2, 3, 4, 5, 0] rfl
                            exact ih106 _ (by omega) (g + 1) ls _ _ rfl (by omega) hl hP hD hS
                          · skip
                            have hg0 : g = 0 := (nI_eq (b := 0) (by omega) (by omega)).mp hc132
                            refine lv_lload_n hx hb d_M_store_135 rfl (lv_at hl 2 rfl) ?_
                            refine lv_bipush (v := nI 8) hx hb d_M_store_136 (by decide) ?_
                            refine lv_iload hx hb d_M_store_138 (lv_at hl 4 rfl) ?_
                            refine lv_imul hx hb d_M_store_140 ?_
                            refine lv_lshr hx hb d_M_store_141 rfl ?_
                            refine lv_ldc2 (v := 255) hx hb hown (hts _ wq_M_61) d_M_store_142 ?_
                            refine lv_land hx hb d_M_store_145 ?_
                            refine lv_l2i hx hb d_M_store_146 rfl ?_
                            refine sd_top (y := sv_f x b g) (by unfold sv_f; rw [if_pos hg0]; exact lb_B x (by omega)) ?_
                            refine lv_goto (tgt := 151) hx hb d_M_store_147 rfl ?_
                            refine sd_iast (j := 9 * (8 * f + b) + g) hx hb hK hP hD hS 5 0 rfl rfl (by omega) (by omega) d_M_store_151 (fun H locs hP hD hS => ?_)
                            have hP : va_P D cls (mW cI cZ qm mp mt ml mc mf me mg mh mu (0) (nI k) (nI n) (nI (pn)) (nI (nx)) (ep) (nI (M.1)) (M.2.2.1) (M.2.2.2) (wi) (jb) (fp) (tf) (tt) (fi) (ln) (bx) (1000) (pr) (1000) (tk) (8) (le) (576) (co) (576) (upd (sc_f x f b g (sb_f x f b (cp_f co 576 fr))) (9 * (8 * f + b) + g) (sv_f x b g)) (10) (em) (192) (M.2.1) (10) (nb) (10) (su)) H := hP
                            have hD : va_D A (mW cI cZ qm mp mt ml mc mf me mg mh mu (0) (nI k) (nI n) (nI (pn)) (nI (nx)) (ep) (nI (M.1)) (M.2.2.1) (M.2.2.2) (wi) (jb) (fp) (tf) (tt) (fi) (ln) (bx) (1000) (pr) (1000) (tk) (8) (le) (576) (co) (576) (upd (sc_f x f b g (sb_f x f b (cp_f co 576 fr))) (9 * (8 * f + b) + g) (sv_f x b g)) (10) (em) (192) (M.2.1) (10) (nb) (10) (su)) := hD
                            refine lv_iinc hx hb d_M_store_152 hl (k := 5) rfl (v := nI (g + 1)) (ii_1 _) (Nat.le_of_ble_eq_true rfl) (lv' := [(6, .int (nI (g + 1))), (0, .ref qm), (1, .int (nI f)), (2, .long (x)), (4, .int (nI lx)), (5, .int (nI (b)))]) rfl (fun ls hl => ?_)
                            refine lv_goto (tgt := 106) hx hb d_M_store_155 rfl ?_
                            have hl := lv_sub hl (l' := [(0, .ref qm), (1, .int (nI f)), (2, .long (x)), (4, .int (nI lx)), (5, .int (nI (b))), (6, .int (nI (g + 1)))]) [1, 2, 3, 4, 5, 0] rfl
                            exact ih106 _ (by omega) (g + 1) ls _ _ rfl (by omega) hl hP hD hS
                      exact loop106 _ (0) ls _ _ rfl (Nat.zero_le _) hl hP hD hS
                  exact loop96 _ (0) ls _ _ rfl (Nat.zero_le _) hl hP hD hS
                · skip
                  exact False.elim (by revert hc84; decide)
              · skip
                exact absurd (nI_le hp (by omega)) hc69
            · skip
              exact absurd hE3 hc49
      · skip
        exact absurd (nI_le (by omega) (by omega)) hc18
set_option maxHeartbeats 4000000 in
set_option maxRecDepth 100000 in
theorem c_M_refresh_1 (l : Launch) (D : va_G) (cI cZ cQ : ClassId) (qm : Nat) (mp : Nat) (mt : Nat) (ml : Nat) (mc : Nat) (mf : Nat) (me : Nat) (mg : Nat) (mh : Nat) (mu : Nat) (k : Nat) (n : Nat) (pn : Nat) (nx : Nat) (cd : Int32) (ep : Int32) (M : mm_T) (wi : Int32) (jb : Int32) (fp : Int32) (tf : Int32) (tt : Int32) (fi : Int32) (ln : Int32) (bx : Int32) (pr : Nat → Int32) (tk : Nat → Int32) (le : Nat → Int32) (co : Nat → Int32) (fr : Nat → Int32) (em : Nat → Int32) (nb : Nat → Int32) (su : Nat → Int32) (hk : k ≤ 9) (hn : n ≤ 9) (hE : sm_e em n < n ∨ ¬ jb ≤ 0) : sd_I l D (tyL cI cZ cQ) y_M_refresh b_M_refresh 1 (.int) ({ frames := 1, cells := 0, slots := 0, locals := 22 }) [.ref qm] (mW cI cZ qm mp mt ml mc mf me mg mh mu (cd) (nI k) (nI n) (nI (pn)) (nI (nx)) (ep) (nI (M.1)) (M.2.2.1) (M.2.2.2) (wi) (jb) (fp) (tf) (tt) (fi) (ln) (bx) (1000) (pr) (1000) (tk) (8) (le) (576) (co) (576) (fr) (10) (em) (192) (M.2.1) (10) (nb) (10) (su)) (0) (mW cI cZ qm mp mt ml mc mf me mg mh mu (1) (nI k) (nI n) (nI (pn)) (nI (nx)) (ep) (nI (M.1)) (M.2.2.1) (M.2.2.2) (wi) (jb) (fp) (tf) (tt) (fi) (ln) (bx) (1000) (pr) (1000) (tk) (8) (le) (576) (co) (576) (fr) (10) (em) (192) (M.2.1) (10) (nb) (10) (su)) := by
  refine sd_ofI (by decide) (Nat.le_of_ble_eq_true rfl) ?_
  intro p e s m below meth c A ls hx hb hr hml hlk hown hts hK hP hD hA hS hl
  have hl : lv_has ls 1 [(0, .ref qm)] := hl
  have hse := sm_e_le em n
  refine lv_aload_n hx hb d_M_refresh_0 rfl (lv_at hl 0 rfl) ?_
  refine lv_aload_n hx hb d_M_refresh_1 rfl (lv_at hl 0 rfl) ?_
  refine sd_allVI (As := []) (rest := [.ref qm]) (w1 := (mW cI cZ qm mp mt ml mc mf me mg mh mu (cd) (nI k) (nI n) (nI (pn)) (nI (nx)) (ep) (nI (M.1)) (M.2.2.1) (M.2.2.2) (wi) (jb) (fp) (tf) (tt) (fi) (ln) (bx) (1000) (pr) (1000) (tk) (8) (le) (576) (co) (576) (fr) (10) (em) (192) (M.2.1) (10) (nb) (10) (su))) (c_M_filled l D cI cZ cQ (qm) (mp) (mt) (ml) (mc) (mf) (me) (mg) (mh) (mu) (k) (n) (pn) (nx) (cd) (ep) (M) (wi) (jb) (fp) (tf) (tt) (fi) (ln) (bx) (pr) (tk) (le) (co) (fr) (em) (nb) (su) (hk) (hn)) ⟨wc_M_filled, wm_M_133, wi_M, by decide, by decide, show (parseMethodDescriptor y_M_filled.desc).map (fun d => d.parameters.length) = some 0 by decide +kernel⟩ wo_M_filled wz_M_filled hx hb hml hown hts hl.1 ⟨Nat.le_of_ble_eq_true rfl, Nat.le_of_ble_eq_true rfl⟩ ⟨Nat.le_of_ble_eq_true rfl, Nat.le_of_ble_eq_true rfl⟩ hK hP hD hS hA (rfl) (q0 := 0) rfl rfl rfl (Nat.le_of_ble_eq_true rfl) d_M_refresh_2 (fun H locs hP hD hS => ?_)
  have hP : va_P D cls (mW cI cZ qm mp mt ml mc mf me mg mh mu (cd) (nI k) (nI n) (nI (pn)) (nI (nx)) (ep) (nI (M.1)) (M.2.2.1) (M.2.2.2) (wi) (jb) (fp) (tf) (tt) (fi) (ln) (bx) (1000) (pr) (1000) (tk) (8) (le) (576) (co) (576) (fr) (10) (em) (192) (M.2.1) (10) (nb) (10) (su)) H := hP
  have hD : va_D A (mW cI cZ qm mp mt ml mc mf me mg mh mu (cd) (nI k) (nI n) (nI (pn)) (nI (nx)) (ep) (nI (M.1)) (M.2.2.1) (M.2.2.2) (wi) (jb) (fp) (tf) (tt) (fi) (ln) (bx) (1000) (pr) (1000) (tk) (8) (le) (576) (co) (576) (fr) (10) (em) (192) (M.2.1) (10) (nb) (10) (su)) := hD
  refine lv_aload_n hx hb d_M_refresh_5 rfl (lv_at hl 0 rfl) ?_
  refine va_get (D := D) (ci := 5) (v := .int (nI n)) (C := R_M) (T := F_M) (N := 26) hx hb hts wl_M hown hK hP 0 rfl rfl 2 (by decide) (hts _ wf_M_45) (fun _ h9 => h9) rfl d_M_refresh_6 ?_
  refine lv_icmp_lt (tgt := 19) hx hb d_M_refresh_9 rfl (fun hc9 => ?_) (fun hc9 => ?_)
  · skip
    refine lv_iconst (v := 1) hx hb d_M_refresh_19 (by decide) ?_
    refine lv_goto (tgt := 46) hx hb d_M_refresh_20 rfl ?_
    refine va_put (D := D) (ci := 5) (v := .int (1)) (ty := .int) (C := R_M) (T := F_M) (N := 26) hx hb hts wl_M t_M t_M_ok n_M hown hK hP hD hS 0 rfl rfl 0 (by decide) (hts _ wf_M_51) (fun _ h9 => h9) rfl (by decide +kernel) rfl rfl (Nat.le_of_ble_eq_true rfl) d_M_refresh_46 (fun H locs hP hD hS => ?_)
    have hP : va_P D cls (mW cI cZ qm mp mt ml mc mf me mg mh mu (1) (nI k) (nI n) (nI (pn)) (nI (nx)) (ep) (nI (M.1)) (M.2.2.1) (M.2.2.2) (wi) (jb) (fp) (tf) (tt) (fi) (ln) (bx) (1000) (pr) (1000) (tk) (8) (le) (576) (co) (576) (fr) (10) (em) (192) (M.2.1) (10) (nb) (10) (su)) H := hP
    have hD : va_D A (mW cI cZ qm mp mt ml mc mf me mg mh mu (1) (nI k) (nI n) (nI (pn)) (nI (nx)) (ep) (nI (M.1)) (M.2.2.1) (M.2.2.2) (wi) (jb) (fp) (tf) (tt) (fi) (ln) (bx) (1000) (pr) (1000) (tk) (8) (le) (576) (co) (576) (fr) (10) (em) (192) (M.2.1) (10) (nb) (10) (su)) := hD
    refine lv_aload_n hx hb d_M_refresh_49 rfl (lv_at hl 0 rfl) ?_
    refine va_get (D := D) (ci := 5) (v := .int (1)) (C := R_M) (T := F_M) (N := 26) hx hb hts wl_M hown hK hP 0 rfl rfl 0 (by decide) (hts _ wf_M_51) (fun _ h9 => h9) rfl d_M_refresh_50 ?_
    refine lv_if_le (tgt := 58) hx hb d_M_refresh_53 rfl (fun hc53 => ?_) (fun hc53 => ?_)
    · skip
      exact False.elim (by revert hc53; decide)
    · skip
      refine lv_iconst (v := 0) hx hb d_M_refresh_56 (by decide) ?_
      exact sd_iret hx hb hr hlk hP hS (Nat.le_of_ble_eq_true rfl) (Nat.le_of_ble_eq_true rfl) (rfl) d_M_refresh_57
  · skip
    rw [nI_ltI (by omega) (by omega)] at hc9
    refine lv_aload_n hx hb d_M_refresh_12 rfl (lv_at hl 0 rfl) ?_
    refine va_get (D := D) (ci := 5) (v := .int (jb)) (C := R_M) (T := F_M) (N := 26) hx hb hts wl_M hown hK hP 0 rfl rfl 17 (by decide) (hts _ wf_M_100) (fun _ h9 => h9) rfl d_M_refresh_13 ?_
    refine lv_if_le (tgt := 23) hx hb d_M_refresh_16 rfl (fun hc16 => ?_) (fun hc16 => ?_)
    · skip
      exact (hE.elim (fun h => absurd h hc9) (fun h => absurd hc16 h))
    · skip
      refine lv_iconst (v := 1) hx hb d_M_refresh_19 (by decide) ?_
      refine lv_goto (tgt := 46) hx hb d_M_refresh_20 rfl ?_
      refine va_put (D := D) (ci := 5) (v := .int (1)) (ty := .int) (C := R_M) (T := F_M) (N := 26) hx hb hts wl_M t_M t_M_ok n_M hown hK hP hD hS 0 rfl rfl 0 (by decide) (hts _ wf_M_51) (fun _ h9 => h9) rfl (by decide +kernel) rfl rfl (Nat.le_of_ble_eq_true rfl) d_M_refresh_46 (fun H locs hP hD hS => ?_)
      have hP : va_P D cls (mW cI cZ qm mp mt ml mc mf me mg mh mu (1) (nI k) (nI n) (nI (pn)) (nI (nx)) (ep) (nI (M.1)) (M.2.2.1) (M.2.2.2) (wi) (jb) (fp) (tf) (tt) (fi) (ln) (bx) (1000) (pr) (1000) (tk) (8) (le) (576) (co) (576) (fr) (10) (em) (192) (M.2.1) (10) (nb) (10) (su)) H := hP
      have hD : va_D A (mW cI cZ qm mp mt ml mc mf me mg mh mu (1) (nI k) (nI n) (nI (pn)) (nI (nx)) (ep) (nI (M.1)) (M.2.2.1) (M.2.2.2) (wi) (jb) (fp) (tf) (tt) (fi) (ln) (bx) (1000) (pr) (1000) (tk) (8) (le) (576) (co) (576) (fr) (10) (em) (192) (M.2.1) (10) (nb) (10) (su)) := hD
      refine lv_aload_n hx hb d_M_refresh_49 rfl (lv_at hl 0 rfl) ?_
      refine va_get (D := D) (ci := 5) (v := .int (1)) (C := R_M) (T := F_M) (N := 26) hx hb hts wl_M hown hK hP 0 rfl rfl 0 (by decide) (hts _ wf_M_51) (fun _ h9 => h9) rfl d_M_refresh_50 ?_
      refine lv_if_le (tgt := 58) hx hb d_M_refresh_53 rfl (fun hc53 => ?_) (fun hc53 => ?_)
      · skip
        exact False.elim (by revert hc53; decide)
      · skip
        refine lv_iconst (v := 0) hx hb d_M_refresh_56 (by decide) ?_
        exact sd_iret hx hb hr hlk hP hS (Nat.le_of_ble_eq_true rfl) (Nat.le_of_ble_eq_true rfl) (rfl) d_M_refresh_57
set_option maxHeartbeats 4000000 in
set_option maxRecDepth 100000 in
theorem c_M_refresh_2 (l : Launch) (D : va_G) (cI cZ cQ : ClassId) (qm : Nat) (mp : Nat) (mt : Nat) (ml : Nat) (mc : Nat) (mf : Nat) (me : Nat) (mg : Nat) (mh : Nat) (mu : Nat) (k : Nat) (n : Nat) (pn : Nat) (nx : Nat) (cd : Int32) (ep : Int32) (M : mm_T) (wi : Int32) (jb : Int32) (fp : Int32) (tf : Int32) (tt : Int32) (fi : Int32) (ln : Int32) (bx : Int32) (pr : Nat → Int32) (tk : Nat → Int32) (le : Nat → Int32) (co : Nat → Int32) (fr : Nat → Int32) (em : Nat → Int32) (nb : Nat → Int32) (su : Nat → Int32) (lz : Nat → Nat) (hk : k ≤ 9) (hn : n ≤ 9) (hE2 : ¬ sm_e em n < n) (hE3 : jb ≤ 0) (hk1 : 1 ≤ k) (hpn : pn ≤ 1000) (hle : ∀ i, i < 8 → le i = nI (lz i)) (hlz : ∀ i, i < 8 → lz i ≤ 8) (hp : pn < sm_b lz 8 * (k - 1)) : sd_I l D (tyL cI cZ cQ) y_M_refresh b_M_refresh 1 (.int) ({ frames := 1, cells := 0, slots := 0, locals := 22 }) [.ref qm] (mW cI cZ qm mp mt ml mc mf me mg mh mu (cd) (nI k) (nI n) (nI (pn)) (nI (nx)) (ep) (nI (M.1)) (M.2.2.1) (M.2.2.2) (wi) (jb) (fp) (tf) (tt) (fi) (ln) (bx) (1000) (pr) (1000) (tk) (8) (le) (576) (co) (576) (fr) (10) (em) (192) (M.2.1) (10) (nb) (10) (su)) (0) (mW cI cZ qm mp mt ml mc mf me mg mh mu (2) (nI k) (nI n) (nI (pn)) (nI (nx)) (ep) (nI (M.1)) (M.2.2.1) (M.2.2.2) (wi) (jb) (fp) (tf) (tt) (fi) (ln) (bx) (1000) (pr) (1000) (tk) (8) (le) (576) (co) (576) (fr) (10) (em) (192) (M.2.1) (10) (nb) (10) (su)) := by
  refine sd_ofI (by decide) (Nat.le_of_ble_eq_true rfl) ?_
  intro p e s m below meth c A ls hx hb hr hml hlk hown hts hK hP hD hA hS hl
  have hl : lv_has ls 1 [(0, .ref qm)] := hl
  have hse := sm_e_le em n
  have hs64 := sm_le hlz 8 (Nat.le_refl 8)
  have hpk : sm_b lz 8 * (k - 1) ≤ 512 := Nat.le_trans (Nat.mul_le_mul hs64 (show k - 1 ≤ 8 by omega)) (by omega)
  refine lv_aload_n hx hb d_M_refresh_0 rfl (lv_at hl 0 rfl) ?_
  refine lv_aload_n hx hb d_M_refresh_1 rfl (lv_at hl 0 rfl) ?_
  refine sd_allVI (As := []) (rest := [.ref qm]) (w1 := (mW cI cZ qm mp mt ml mc mf me mg mh mu (cd) (nI k) (nI n) (nI (pn)) (nI (nx)) (ep) (nI (M.1)) (M.2.2.1) (M.2.2.2) (wi) (jb) (fp) (tf) (tt) (fi) (ln) (bx) (1000) (pr) (1000) (tk) (8) (le) (576) (co) (576) (fr) (10) (em) (192) (M.2.1) (10) (nb) (10) (su))) (c_M_filled l D cI cZ cQ (qm) (mp) (mt) (ml) (mc) (mf) (me) (mg) (mh) (mu) (k) (n) (pn) (nx) (cd) (ep) (M) (wi) (jb) (fp) (tf) (tt) (fi) (ln) (bx) (pr) (tk) (le) (co) (fr) (em) (nb) (su) (hk) (hn)) ⟨wc_M_filled, wm_M_133, wi_M, by decide, by decide, show (parseMethodDescriptor y_M_filled.desc).map (fun d => d.parameters.length) = some 0 by decide +kernel⟩ wo_M_filled wz_M_filled hx hb hml hown hts hl.1 ⟨Nat.le_of_ble_eq_true rfl, Nat.le_of_ble_eq_true rfl⟩ ⟨Nat.le_of_ble_eq_true rfl, Nat.le_of_ble_eq_true rfl⟩ hK hP hD hS hA (rfl) (q0 := 0) rfl rfl rfl (Nat.le_of_ble_eq_true rfl) d_M_refresh_2 (fun H locs hP hD hS => ?_)
  have hP : va_P D cls (mW cI cZ qm mp mt ml mc mf me mg mh mu (cd) (nI k) (nI n) (nI (pn)) (nI (nx)) (ep) (nI (M.1)) (M.2.2.1) (M.2.2.2) (wi) (jb) (fp) (tf) (tt) (fi) (ln) (bx) (1000) (pr) (1000) (tk) (8) (le) (576) (co) (576) (fr) (10) (em) (192) (M.2.1) (10) (nb) (10) (su)) H := hP
  have hD : va_D A (mW cI cZ qm mp mt ml mc mf me mg mh mu (cd) (nI k) (nI n) (nI (pn)) (nI (nx)) (ep) (nI (M.1)) (M.2.2.1) (M.2.2.2) (wi) (jb) (fp) (tf) (tt) (fi) (ln) (bx) (1000) (pr) (1000) (tk) (8) (le) (576) (co) (576) (fr) (10) (em) (192) (M.2.1) (10) (nb) (10) (su)) := hD
  refine lv_aload_n hx hb d_M_refresh_5 rfl (lv_at hl 0 rfl) ?_
  refine va_get (D := D) (ci := 5) (v := .int (nI n)) (C := R_M) (T := F_M) (N := 26) hx hb hts wl_M hown hK hP 0 rfl rfl 2 (by decide) (hts _ wf_M_45) (fun _ h9 => h9) rfl d_M_refresh_6 ?_
  refine lv_icmp_lt (tgt := 19) hx hb d_M_refresh_9 rfl (fun hc9 => ?_) (fun hc9 => ?_)
  · skip
    exact absurd ((nI_ltI (by omega) (by omega)).mp hc9) hE2
  · skip
    refine lv_aload_n hx hb d_M_refresh_12 rfl (lv_at hl 0 rfl) ?_
    refine va_get (D := D) (ci := 5) (v := .int (jb)) (C := R_M) (T := F_M) (N := 26) hx hb hts wl_M hown hK hP 0 rfl rfl 17 (by decide) (hts _ wf_M_100) (fun _ h9 => h9) rfl d_M_refresh_13 ?_
    refine lv_if_le (tgt := 23) hx hb d_M_refresh_16 rfl (fun hc16 => ?_) (fun hc16 => ?_)
    · skip
      refine lv_aload_n hx hb d_M_refresh_23 rfl (lv_at hl 0 rfl) ?_
      refine va_get (D := D) (ci := 5) (v := .int (nI (pn))) (C := R_M) (T := F_M) (N := 26) hx hb hts wl_M hown hK hP 0 rfl rfl 3 (by decide) (hts _ wf_M_58) (fun _ h9 => h9) rfl d_M_refresh_24 ?_
      refine lv_aload_n hx hb d_M_refresh_27 rfl (lv_at hl 0 rfl) ?_
      refine sd_allVI (As := []) (rest := [.int (nI (pn)), .ref qm]) (w1 := (mW cI cZ qm mp mt ml mc mf me mg mh mu (cd) (nI k) (nI n) (nI (pn)) (nI (nx)) (ep) (nI (M.1)) (M.2.2.1) (M.2.2.2) (wi) (jb) (fp) (tf) (tt) (fi) (ln) (bx) (1000) (pr) (1000) (tk) (8) (le) (576) (co) (576) (fr) (10) (em) (192) (M.2.1) (10) (nb) (10) (su))) (c_M_total l D cI cZ cQ (qm) (mp) (mt) (ml) (mc) (mf) (me) (mg) (mh) (mu) (k) (n) (pn) (nx) (cd) (ep) (M) (wi) (jb) (fp) (tf) (tt) (fi) (ln) (bx) (pr) (tk) (le) (co) (fr) (em) (nb) (su) (lz) (hk) (hn) (hle)) ⟨wc_M_total, wm_M_142, wi_M, by decide, by decide, show (parseMethodDescriptor y_M_total.desc).map (fun d => d.parameters.length) = some 0 by decide +kernel⟩ wo_M_total wz_M_total hx hb hml hown hts hl.1 ⟨Nat.le_of_ble_eq_true rfl, Nat.le_of_ble_eq_true rfl⟩ ⟨Nat.le_of_ble_eq_true rfl, Nat.le_of_ble_eq_true rfl⟩ hK hP hD hS hA (rfl) (q0 := 0) rfl rfl rfl (Nat.le_of_ble_eq_true rfl) d_M_refresh_28 (fun H locs hP hD hS => ?_)
      have hP : va_P D cls (mW cI cZ qm mp mt ml mc mf me mg mh mu (cd) (nI k) (nI n) (nI (pn)) (nI (nx)) (ep) (nI (M.1)) (M.2.2.1) (M.2.2.2) (wi) (jb) (fp) (tf) (tt) (fi) (ln) (bx) (1000) (pr) (1000) (tk) (8) (le) (576) (co) (576) (fr) (10) (em) (192) (M.2.1) (10) (nb) (10) (su)) H := hP
      have hD : va_D A (mW cI cZ qm mp mt ml mc mf me mg mh mu (cd) (nI k) (nI n) (nI (pn)) (nI (nx)) (ep) (nI (M.1)) (M.2.2.1) (M.2.2.2) (wi) (jb) (fp) (tf) (tt) (fi) (ln) (bx) (1000) (pr) (1000) (tk) (8) (le) (576) (co) (576) (fr) (10) (em) (192) (M.2.1) (10) (nb) (10) (su)) := hD
      refine lv_aload_n hx hb d_M_refresh_31 rfl (lv_at hl 0 rfl) ?_
      refine va_get (D := D) (ci := 5) (v := .int (nI k)) (C := R_M) (T := F_M) (N := 26) hx hb hts wl_M hown hK hP 0 rfl rfl 1 (by decide) (hts _ wf_M_48) (fun _ h9 => h9) rfl d_M_refresh_32 ?_
      refine lv_iconst (v := 1) hx hb d_M_refresh_35 (by decide) ?_
      refine lv_isub hx hb d_M_refresh_36 ?_
      refine sd_top (y := nI (k - 1)) (ni_pred (by omega)) ?_
      refine lv_imul hx hb d_M_refresh_37 ?_
      refine sd_top (y := nI (sm_b lz 8 * (k - 1))) (pk_mul _ _) ?_
      refine lv_icmp_ge (tgt := 45) hx hb d_M_refresh_38 rfl (fun hc38 => ?_) (fun hc38 => ?_)
      · skip
        exact absurd hc38 (nI_ge hp (by omega))
      · skip
        refine lv_iconst (v := 2) hx hb d_M_refresh_41 (by decide) ?_
        refine lv_goto (tgt := 46) hx hb d_M_refresh_42 rfl ?_
        refine va_put (D := D) (ci := 5) (v := .int (2)) (ty := .int) (C := R_M) (T := F_M) (N := 26) hx hb hts wl_M t_M t_M_ok n_M hown hK hP hD hS 0 rfl rfl 0 (by decide) (hts _ wf_M_51) (fun _ h9 => h9) rfl (by decide +kernel) rfl rfl (Nat.le_of_ble_eq_true rfl) d_M_refresh_46 (fun H locs hP hD hS => ?_)
        have hP : va_P D cls (mW cI cZ qm mp mt ml mc mf me mg mh mu (2) (nI k) (nI n) (nI (pn)) (nI (nx)) (ep) (nI (M.1)) (M.2.2.1) (M.2.2.2) (wi) (jb) (fp) (tf) (tt) (fi) (ln) (bx) (1000) (pr) (1000) (tk) (8) (le) (576) (co) (576) (fr) (10) (em) (192) (M.2.1) (10) (nb) (10) (su)) H := hP
        have hD : va_D A (mW cI cZ qm mp mt ml mc mf me mg mh mu (2) (nI k) (nI n) (nI (pn)) (nI (nx)) (ep) (nI (M.1)) (M.2.2.1) (M.2.2.2) (wi) (jb) (fp) (tf) (tt) (fi) (ln) (bx) (1000) (pr) (1000) (tk) (8) (le) (576) (co) (576) (fr) (10) (em) (192) (M.2.1) (10) (nb) (10) (su)) := hD
        refine lv_aload_n hx hb d_M_refresh_49 rfl (lv_at hl 0 rfl) ?_
        refine va_get (D := D) (ci := 5) (v := .int (2)) (C := R_M) (T := F_M) (N := 26) hx hb hts wl_M hown hK hP 0 rfl rfl 0 (by decide) (hts _ wf_M_51) (fun _ h9 => h9) rfl d_M_refresh_50 ?_
        refine lv_if_le (tgt := 58) hx hb d_M_refresh_53 rfl (fun hc53 => ?_) (fun hc53 => ?_)
        · skip
          exact False.elim (by revert hc53; decide)
        · skip
          refine lv_iconst (v := 0) hx hb d_M_refresh_56 (by decide) ?_
          exact sd_iret hx hb hr hlk hP hS (Nat.le_of_ble_eq_true rfl) (Nat.le_of_ble_eq_true rfl) (rfl) d_M_refresh_57
    · skip
      exact absurd hE3 hc16
set_option maxHeartbeats 4000000 in
set_option maxRecDepth 100000 in
theorem c_M_refresh_0A (l : Launch) (D : va_G) (cI cZ cQ : ClassId) (qm : Nat) (mp : Nat) (mt : Nat) (ml : Nat) (mc : Nat) (mf : Nat) (me : Nat) (mg : Nat) (mh : Nat) (mu : Nat) (k : Nat) (n : Nat) (pn : Nat) (nx : Nat) (cd : Int32) (ep : Int32) (M : mm_T) (wi : Int32) (jb : Int32) (fp : Int32) (tf : Int32) (tt : Int32) (fi : Int32) (ln : Int32) (bx : Int32) (pr : Nat → Int32) (tk : Nat → Int32) (le : Nat → Int32) (co : Nat → Int32) (fr : Nat → Int32) (em : Nat → Int32) (nb : Nat → Int32) (su : Nat → Int32) (lz : Nat → Nat) (hk : k ≤ 9) (hn : n ≤ 9) (hE2 : ¬ sm_e em n < n) (hE3 : jb ≤ 0) (hk1 : 1 ≤ k) (hpn : pn ≤ 1000) (hle : ∀ i, i < 8 → le i = nI (lz i)) (hlz : ∀ i, i < 8 → lz i ≤ 8) (htk : ∀ i, okb (tk i)) (hpr : ∀ i, okb (pr i)) (hT : M.1 + 6000 < 2 ^ 31) (hfr : ∀ i, okb (fr i)) (hco9 : ∀ i, okb (co i)) (hp : sm_b lz 8 * (k - 1) ≤ pn) (hAB : ¬ (mm_s (ra_f (tq_f (sm_b lz 8 * (k - 1)) pn (tk, pr)).1 k n lz 8 ((cp_f co 576 fr), 0, (M.1, M.2.1, wi, 0))).2.2 0 0 256).2.2.2 = 0) : sd_I l D (tyL cI cZ cQ) y_M_refresh b_M_refresh 1 (.int) ({ frames := 4, cells := 0, slots := 0, locals := 98 }) [.ref qm] (mW cI cZ qm mp mt ml mc mf me mg mh mu (cd) (nI k) (nI n) (nI (pn)) (nI (nx)) (ep) (nI (M.1)) (M.2.2.1) (M.2.2.2) (wi) (jb) (fp) (tf) (tt) (fi) (ln) (bx) (1000) (pr) (1000) (tk) (8) (le) (576) (co) (576) (fr) (10) (em) (192) (M.2.1) (10) (nb) (10) (su)) (nI ((mm_s (ra_f (tq_f (sm_b lz 8 * (k - 1)) (pn) ((tk), (pr))).1 (k) (n) (lz) 8 ((cp_f co 576 fr), 0, ((M).1, (M).2.1, (wi), 0))).2.2 0 0 256).1) - nI ((M).1)) (mW cI cZ qm mp mt ml mc mf me mg mh mu (0) (nI (k)) (nI (n)) (nI ((pn) - (sm_b lz 8 * (k - 1)))) (nI ((ra_f (tq_f (sm_b lz 8 * (k - 1)) (pn) ((tk), (pr))).1 (k) (n) (lz) 8 ((cp_f co 576 fr), 0, ((M).1, (M).2.1, (wi), 0))).2.1)) (ep) (nI (((mm_s (ra_f (tq_f (sm_b lz 8 * (k - 1)) (pn) ((tk), (pr))).1 (k) (n) (lz) 8 ((cp_f co 576 fr), 0, ((M).1, (M).2.1, (wi), 0))).2.2 0 0 256).1, (mm_s (ra_f (tq_f (sm_b lz 8 * (k - 1)) (pn) ((tk), (pr))).1 (k) (n) (lz) 8 ((cp_f co 576 fr), 0, ((M).1, (M).2.1, (wi), 0))).2.2 0 0 256).2.1, (-1), (mm_s (ra_f (tq_f (sm_b lz 8 * (k - 1)) (pn) ((tk), (pr))).1 (k) (n) (lz) 8 ((cp_f co 576 fr), 0, ((M).1, (M).2.1, (wi), 0))).2.2 0 0 256).2.2.2).1)) (((mm_s (ra_f (tq_f (sm_b lz 8 * (k - 1)) (pn) ((tk), (pr))).1 (k) (n) (lz) 8 ((cp_f co 576 fr), 0, ((M).1, (M).2.1, (wi), 0))).2.2 0 0 256).1, (mm_s (ra_f (tq_f (sm_b lz 8 * (k - 1)) (pn) ((tk), (pr))).1 (k) (n) (lz) 8 ((cp_f co 576 fr), 0, ((M).1, (M).2.1, (wi), 0))).2.2 0 0 256).2.1, (-1), (mm_s (ra_f (tq_f (sm_b lz 8 * (k - 1)) (pn) ((tk), (pr))).1 (k) (n) (lz) 8 ((cp_f co 576 fr), 0, ((M).1, (M).2.1, (wi), 0))).2.2 0 0 256).2.2.2).2.2.1) (((mm_s (ra_f (tq_f (sm_b lz 8 * (k - 1)) (pn) ((tk), (pr))).1 (k) (n) (lz) 8 ((cp_f co 576 fr), 0, ((M).1, (M).2.1, (wi), 0))).2.2 0 0 256).1, (mm_s (ra_f (tq_f (sm_b lz 8 * (k - 1)) (pn) ((tk), (pr))).1 (k) (n) (lz) 8 ((cp_f co 576 fr), 0, ((M).1, (M).2.1, (wi), 0))).2.2 0 0 256).2.1, (-1), (mm_s (ra_f (tq_f (sm_b lz 8 * (k - 1)) (pn) ((tk), (pr))).1 (k) (n) (lz) 8 ((cp_f co 576 fr), 0, ((M).1, (M).2.1, (wi), 0))).2.2 0 0 256).2.2.2).2.2.2) ((-1)) (2) (0) (nI 1) (nI (n)) (fi) (ln) (bx) (1000) ((tq_f (sm_b lz 8 * (k - 1)) (pn) ((tk), (pr))).2) (1000) ((tq_f (sm_b lz 8 * (k - 1)) (pn) ((tk), (pr))).1) (8) (le) (576) (co) (576) ((ra_f (tq_f (sm_b lz 8 * (k - 1)) (pn) ((tk), (pr))).1 (k) (n) (lz) 8 ((cp_f co 576 fr), 0, ((M).1, (M).2.1, (wi), 0))).1) (10) (em) (192) (((mm_s (ra_f (tq_f (sm_b lz 8 * (k - 1)) (pn) ((tk), (pr))).1 (k) (n) (lz) 8 ((cp_f co 576 fr), 0, ((M).1, (M).2.1, (wi), 0))).2.2 0 0 256).1, (mm_s (ra_f (tq_f (sm_b lz 8 * (k - 1)) (pn) ((tk), (pr))).1 (k) (n) (lz) 8 ((cp_f co 576 fr), 0, ((M).1, (M).2.1, (wi), 0))).2.2 0 0 256).2.1, (-1), (mm_s (ra_f (tq_f (sm_b lz 8 * (k - 1)) (pn) ((tk), (pr))).1 (k) (n) (lz) 8 ((cp_f co 576 fr), 0, ((M).1, (M).2.1, (wi), 0))).2.2 0 0 256).2.2.2).2.1) (10) (nb) (10) (su)) := by
  refine sd_ofI (by decide) (Nat.le_of_ble_eq_true rfl) ?_
  intro p e s m below meth c A ls hx hb hr hml hlk hown hts hK hP hD hA hS hl
  have hl : lv_has ls 1 [(0, .ref qm)] := hl
  have hse := sm_e_le em n
  have hs64 := sm_le hlz 8 (Nat.le_refl 8)
  have hpk : sm_b lz 8 * (k - 1) ≤ 512 := Nat.le_trans (Nat.mul_le_mul hs64 (show k - 1 ≤ 8 by omega)) (by omega)
  refine lv_aload_n hx hb d_M_refresh_0 rfl (lv_at hl 0 rfl) ?_
  refine lv_aload_n hx hb d_M_refresh_1 rfl (lv_at hl 0 rfl) ?_
  refine sd_allVI (As := []) (rest := [.ref qm]) (w1 := (mW cI cZ qm mp mt ml mc mf me mg mh mu (cd) (nI k) (nI n) (nI (pn)) (nI (nx)) (ep) (nI (M.1)) (M.2.2.1) (M.2.2.2) (wi) (jb) (fp) (tf) (tt) (fi) (ln) (bx) (1000) (pr) (1000) (tk) (8) (le) (576) (co) (576) (fr) (10) (em) (192) (M.2.1) (10) (nb) (10) (su))) (c_M_filled l D cI cZ cQ (qm) (mp) (mt) (ml) (mc) (mf) (me) (mg) (mh) (mu) (k) (n) (pn) (nx) (cd) (ep) (M) (wi) (jb) (fp) (tf) (tt) (fi) (ln) (bx) (pr) (tk) (le) (co) (fr) (em) (nb) (su) (hk) (hn)) ⟨wc_M_filled, wm_M_133, wi_M, by decide, by decide, show (parseMethodDescriptor y_M_filled.desc).map (fun d => d.parameters.length) = some 0 by decide +kernel⟩ wo_M_filled wz_M_filled hx hb hml hown hts hl.1 ⟨Nat.le_of_ble_eq_true rfl, Nat.le_of_ble_eq_true rfl⟩ ⟨Nat.le_of_ble_eq_true rfl, Nat.le_of_ble_eq_true rfl⟩ hK hP hD hS hA (rfl) (q0 := 0) rfl rfl rfl (Nat.le_of_ble_eq_true rfl) d_M_refresh_2 (fun H locs hP hD hS => ?_)
  have hP : va_P D cls (mW cI cZ qm mp mt ml mc mf me mg mh mu (cd) (nI k) (nI n) (nI (pn)) (nI (nx)) (ep) (nI (M.1)) (M.2.2.1) (M.2.2.2) (wi) (jb) (fp) (tf) (tt) (fi) (ln) (bx) (1000) (pr) (1000) (tk) (8) (le) (576) (co) (576) (fr) (10) (em) (192) (M.2.1) (10) (nb) (10) (su)) H := hP
  have hD : va_D A (mW cI cZ qm mp mt ml mc mf me mg mh mu (cd) (nI k) (nI n) (nI (pn)) (nI (nx)) (ep) (nI (M.1)) (M.2.2.1) (M.2.2.2) (wi) (jb) (fp) (tf) (tt) (fi) (ln) (bx) (1000) (pr) (1000) (tk) (8) (le) (576) (co) (576) (fr) (10) (em) (192) (M.2.1) (10) (nb) (10) (su)) := hD
  refine lv_aload_n hx hb d_M_refresh_5 rfl (lv_at hl 0 rfl) ?_
  refine va_get (D := D) (ci := 5) (v := .int (nI n)) (C := R_M) (T := F_M) (N := 26) hx hb hts wl_M hown hK hP 0 rfl rfl 2 (by decide) (hts _ wf_M_45) (fun _ h9 => h9) rfl d_M_refresh_6 ?_
  refine lv_icmp_lt (tgt := 19) hx hb d_M_refresh_9 rfl (fun hc9 => ?_) (fun hc9 => ?_)
  · skip
    exact absurd ((nI_ltI (by omega) (by omega)).mp hc9) hE2
  · skip
    refine lv_aload_n hx hb d_M_refresh_12 rfl (lv_at hl 0 rfl) ?_
    refine va_get (D := D) (ci := 5) (v := .int (jb)) (C := R_M) (T := F_M) (N := 26) hx hb hts wl_M hown hK hP 0 rfl rfl 17 (by decide) (hts _ wf_M_100) (fun _ h9 => h9) rfl d_M_refresh_13 ?_
    refine lv_if_le (tgt := 23) hx hb d_M_refresh_16 rfl (fun hc16 => ?_) (fun hc16 => ?_)
    · skip
      refine lv_aload_n hx hb d_M_refresh_23 rfl (lv_at hl 0 rfl) ?_
      refine va_get (D := D) (ci := 5) (v := .int (nI (pn))) (C := R_M) (T := F_M) (N := 26) hx hb hts wl_M hown hK hP 0 rfl rfl 3 (by decide) (hts _ wf_M_58) (fun _ h9 => h9) rfl d_M_refresh_24 ?_
      refine lv_aload_n hx hb d_M_refresh_27 rfl (lv_at hl 0 rfl) ?_
      refine sd_allVI (As := []) (rest := [.int (nI (pn)), .ref qm]) (w1 := (mW cI cZ qm mp mt ml mc mf me mg mh mu (cd) (nI k) (nI n) (nI (pn)) (nI (nx)) (ep) (nI (M.1)) (M.2.2.1) (M.2.2.2) (wi) (jb) (fp) (tf) (tt) (fi) (ln) (bx) (1000) (pr) (1000) (tk) (8) (le) (576) (co) (576) (fr) (10) (em) (192) (M.2.1) (10) (nb) (10) (su))) (c_M_total l D cI cZ cQ (qm) (mp) (mt) (ml) (mc) (mf) (me) (mg) (mh) (mu) (k) (n) (pn) (nx) (cd) (ep) (M) (wi) (jb) (fp) (tf) (tt) (fi) (ln) (bx) (pr) (tk) (le) (co) (fr) (em) (nb) (su) (lz) (hk) (hn) (hle)) ⟨wc_M_total, wm_M_142, wi_M, by decide, by decide, show (parseMethodDescriptor y_M_total.desc).map (fun d => d.parameters.length) = some 0 by decide +kernel⟩ wo_M_total wz_M_total hx hb hml hown hts hl.1 ⟨Nat.le_of_ble_eq_true rfl, Nat.le_of_ble_eq_true rfl⟩ ⟨Nat.le_of_ble_eq_true rfl, Nat.le_of_ble_eq_true rfl⟩ hK hP hD hS hA (rfl) (q0 := 0) rfl rfl rfl (Nat.le_of_ble_eq_true rfl) d_M_refresh_28 (fun H locs hP hD hS => ?_)
      have hP : va_P D cls (mW cI cZ qm mp mt ml mc mf me mg mh mu (cd) (nI k) (nI n) (nI (pn)) (nI (nx)) (ep) (nI (M.1)) (M.2.2.1) (M.2.2.2) (wi) (jb) (fp) (tf) (tt) (fi) (ln) (bx) (1000) (pr) (1000) (tk) (8) (le) (576) (co) (576) (fr) (10) (em) (192) (M.2.1) (10) (nb) (10) (su)) H := hP
      have hD : va_D A (mW cI cZ qm mp mt ml mc mf me mg mh mu (cd) (nI k) (nI n) (nI (pn)) (nI (nx)) (ep) (nI (M.1)) (M.2.2.1) (M.2.2.2) (wi) (jb) (fp) (tf) (tt) (fi) (ln) (bx) (1000) (pr) (1000) (tk) (8) (le) (576) (co) (576) (fr) (10) (em) (192) (M.2.1) (10) (nb) (10) (su)) := hD
      refine lv_aload_n hx hb d_M_refresh_31 rfl (lv_at hl 0 rfl) ?_
      refine va_get (D := D) (ci := 5) (v := .int (nI k)) (C := R_M) (T := F_M) (N := 26) hx hb hts wl_M hown hK hP 0 rfl rfl 1 (by decide) (hts _ wf_M_48) (fun _ h9 => h9) rfl d_M_refresh_32 ?_
      refine lv_iconst (v := 1) hx hb d_M_refresh_35 (by decide) ?_
      refine lv_isub hx hb d_M_refresh_36 ?_
      refine sd_top (y := nI (k - 1)) (ni_pred (by omega)) ?_
      refine lv_imul hx hb d_M_refresh_37 ?_
      refine sd_top (y := nI (sm_b lz 8 * (k - 1))) (pk_mul _ _) ?_
      refine lv_icmp_ge (tgt := 45) hx hb d_M_refresh_38 rfl (fun hc38 => ?_) (fun hc38 => ?_)
      · skip
        refine lv_iconst (v := 0) hx hb d_M_refresh_45 (by decide) ?_
        refine va_put (D := D) (ci := 5) (v := .int (0)) (ty := .int) (C := R_M) (T := F_M) (N := 26) hx hb hts wl_M t_M t_M_ok n_M hown hK hP hD hS 0 rfl rfl 0 (by decide) (hts _ wf_M_51) (fun _ h9 => h9) rfl (by decide +kernel) rfl rfl (Nat.le_of_ble_eq_true rfl) d_M_refresh_46 (fun H locs hP hD hS => ?_)
        have hP : va_P D cls (mW cI cZ qm mp mt ml mc mf me mg mh mu (0) (nI k) (nI n) (nI (pn)) (nI (nx)) (ep) (nI (M.1)) (M.2.2.1) (M.2.2.2) (wi) (jb) (fp) (tf) (tt) (fi) (ln) (bx) (1000) (pr) (1000) (tk) (8) (le) (576) (co) (576) (fr) (10) (em) (192) (M.2.1) (10) (nb) (10) (su)) H := hP
        have hD : va_D A (mW cI cZ qm mp mt ml mc mf me mg mh mu (0) (nI k) (nI n) (nI (pn)) (nI (nx)) (ep) (nI (M.1)) (M.2.2.1) (M.2.2.2) (wi) (jb) (fp) (tf) (tt) (fi) (ln) (bx) (1000) (pr) (1000) (tk) (8) (le) (576) (co) (576) (fr) (10) (em) (192) (M.2.1) (10) (nb) (10) (su)) := hD
        refine lv_aload_n hx hb d_M_refresh_49 rfl (lv_at hl 0 rfl) ?_
        refine va_get (D := D) (ci := 5) (v := .int (0)) (C := R_M) (T := F_M) (N := 26) hx hb hts wl_M hown hK hP 0 rfl rfl 0 (by decide) (hts _ wf_M_51) (fun _ h9 => h9) rfl d_M_refresh_50 ?_
        refine lv_if_le (tgt := 58) hx hb d_M_refresh_53 rfl (fun hc53 => ?_) (fun hc53 => ?_)
        · skip
          refine lv_aload_n hx hb d_M_refresh_58 rfl (lv_at hl 0 rfl) ?_
          refine sd_allVV (As := []) (rest := []) (w1 := (mW cI cZ qm mp mt ml mc mf me mg mh mu (0) (nI k) (nI n) (nI (pn)) (nI (nx)) (ep) (nI (M.1)) (M.2.2.1) (M.2.2.2) (wi) (jb) (fp) (tf) (tt) (fi) (ln) (bx) (1000) (pr) (1000) (tk) (8) (le) (576) (co) (576) (cp_f co 576 fr) (10) (em) (192) (M.2.1) (10) (nb) (10) (su))) (c_M_copyFresh l D cI cZ cQ (qm) (mp) (mt) (ml) (mc) (mf) (me) (mg) (mh) (mu) (k) (n) (pn) (nx) (0) (ep) (M) (wi) (jb) (fp) (tf) (tt) (fi) (ln) (bx) (pr) (tk) (le) (co) (fr) (em) (nb) (su) (hk) (hn)) ⟨wc_M_copyFresh, wm_M_136, wi_M, by decide, by decide, show (parseMethodDescriptor y_M_copyFresh.desc).map (fun d => d.parameters.length) = some 0 by decide +kernel⟩ wo_M_copyFresh wz_M_copyFresh hx hb hml hown hts hl.1 ⟨Nat.le_of_ble_eq_true rfl, Nat.le_of_ble_eq_true rfl⟩ ⟨Nat.le_of_ble_eq_true rfl, Nat.le_of_ble_eq_true rfl⟩ hK hP hD hS hA (rfl) (q0 := 0) rfl rfl rfl (Nat.le_of_ble_eq_true rfl) d_M_refresh_59 (fun H locs hP hD hS => ?_)
          have hP : va_P D cls (mW cI cZ qm mp mt ml mc mf me mg mh mu (0) (nI k) (nI n) (nI (pn)) (nI (nx)) (ep) (nI (M.1)) (M.2.2.1) (M.2.2.2) (wi) (jb) (fp) (tf) (tt) (fi) (ln) (bx) (1000) (pr) (1000) (tk) (8) (le) (576) (co) (576) (cp_f co 576 fr) (10) (em) (192) (M.2.1) (10) (nb) (10) (su)) H := hP
          have hD : va_D A (mW cI cZ qm mp mt ml mc mf me mg mh mu (0) (nI k) (nI n) (nI (pn)) (nI (nx)) (ep) (nI (M.1)) (M.2.2.1) (M.2.2.2) (wi) (jb) (fp) (tf) (tt) (fi) (ln) (bx) (1000) (pr) (1000) (tk) (8) (le) (576) (co) (576) (cp_f co 576 fr) (10) (em) (192) (M.2.1) (10) (nb) (10) (su)) := hD
          refine lv_aload_n hx hb d_M_refresh_62 rfl (lv_at hl 0 rfl) ?_
          refine lv_iconst (v := 2) hx hb d_M_refresh_63 (by decide) ?_
          refine lv_aload_n hx hb d_M_refresh_64 rfl (lv_at hl 0 rfl) ?_
          refine sd_allVI (As := []) (rest := [.int (2), .ref qm]) (w1 := (mW cI cZ qm mp mt ml mc mf me mg mh mu (0) (nI k) (nI n) (nI (pn)) (nI (nx)) (ep) (nI (M.1)) (M.2.2.1) (M.2.2.2) (wi) (jb) (fp) (tf) (tt) (fi) (ln) (bx) (1000) (pr) (1000) (tk) (8) (le) (576) (co) (576) (cp_f co 576 fr) (10) (em) (192) (M.2.1) (10) (nb) (10) (su))) (c_M_total l D cI cZ cQ (qm) (mp) (mt) (ml) (mc) (mf) (me) (mg) (mh) (mu) (k) (n) (pn) (nx) (0) (ep) (M) (wi) (jb) (fp) (tf) (tt) (fi) (ln) (bx) (pr) (tk) (le) (co) (cp_f co 576 fr) (em) (nb) (su) (lz) (hk) (hn) (hle)) ⟨wc_M_total, wm_M_142, wi_M, by decide, by decide, show (parseMethodDescriptor y_M_total.desc).map (fun d => d.parameters.length) = some 0 by decide +kernel⟩ wo_M_total wz_M_total hx hb hml hown hts hl.1 ⟨Nat.le_of_ble_eq_true rfl, Nat.le_of_ble_eq_true rfl⟩ ⟨Nat.le_of_ble_eq_true rfl, Nat.le_of_ble_eq_true rfl⟩ hK hP hD hS hA (rfl) (q0 := 0) rfl rfl rfl (Nat.le_of_ble_eq_true rfl) d_M_refresh_65 (fun H locs hP hD hS => ?_)
          have hP : va_P D cls (mW cI cZ qm mp mt ml mc mf me mg mh mu (0) (nI k) (nI n) (nI (pn)) (nI (nx)) (ep) (nI (M.1)) (M.2.2.1) (M.2.2.2) (wi) (jb) (fp) (tf) (tt) (fi) (ln) (bx) (1000) (pr) (1000) (tk) (8) (le) (576) (co) (576) (cp_f co 576 fr) (10) (em) (192) (M.2.1) (10) (nb) (10) (su)) H := hP
          have hD : va_D A (mW cI cZ qm mp mt ml mc mf me mg mh mu (0) (nI k) (nI n) (nI (pn)) (nI (nx)) (ep) (nI (M.1)) (M.2.2.1) (M.2.2.2) (wi) (jb) (fp) (tf) (tt) (fi) (ln) (bx) (1000) (pr) (1000) (tk) (8) (le) (576) (co) (576) (cp_f co 576 fr) (10) (em) (192) (M.2.1) (10) (nb) (10) (su)) := hD
          refine lv_aload_n hx hb d_M_refresh_68 rfl (lv_at hl 0 rfl) ?_
          refine va_get (D := D) (ci := 5) (v := .int (nI k)) (C := R_M) (T := F_M) (N := 26) hx hb hts wl_M hown hK hP 0 rfl rfl 1 (by decide) (hts _ wf_M_48) (fun _ h9 => h9) rfl d_M_refresh_69 ?_
          refine lv_iconst (v := 1) hx hb d_M_refresh_72 (by decide) ?_
          refine lv_isub hx hb d_M_refresh_73 ?_
          refine sd_top (y := nI (k - 1)) (ni_pred (by omega)) ?_
          refine lv_imul hx hb d_M_refresh_74 ?_
          refine sd_top (y := nI (sm_b lz 8 * (k - 1))) (pk_mul _ _) ?_
          refine sd_allVI (As := [.int (2), .int (nI (sm_b lz 8 * (k - 1)))]) (rest := []) (w1 := (mW cI cZ qm mp mt ml mc mf me mg mh mu (0) (nI k) (nI n) (nI (pn - (sm_b lz 8 * (k - 1)))) (nI ((ra_f (tq_f (sm_b lz 8 * (k - 1)) pn (tk, pr)).1 k n lz 8 ((cp_f co 576 fr), 0, (M.1, M.2.1, wi, 0))).2.1)) (ep) (nI (((mm_s (ra_f (tq_f (sm_b lz 8 * (k - 1)) pn (tk, pr)).1 k n lz 8 ((cp_f co 576 fr), 0, (M.1, M.2.1, wi, 0))).2.2 0 0 256).1, (mm_s (ra_f (tq_f (sm_b lz 8 * (k - 1)) pn (tk, pr)).1 k n lz 8 ((cp_f co 576 fr), 0, (M.1, M.2.1, wi, 0))).2.2 0 0 256).2.1, (-1), (mm_s (ra_f (tq_f (sm_b lz 8 * (k - 1)) pn (tk, pr)).1 k n lz 8 ((cp_f co 576 fr), 0, (M.1, M.2.1, wi, 0))).2.2 0 0 256).2.2.2).1)) (((mm_s (ra_f (tq_f (sm_b lz 8 * (k - 1)) pn (tk, pr)).1 k n lz 8 ((cp_f co 576 fr), 0, (M.1, M.2.1, wi, 0))).2.2 0 0 256).1, (mm_s (ra_f (tq_f (sm_b lz 8 * (k - 1)) pn (tk, pr)).1 k n lz 8 ((cp_f co 576 fr), 0, (M.1, M.2.1, wi, 0))).2.2 0 0 256).2.1, (-1), (mm_s (ra_f (tq_f (sm_b lz 8 * (k - 1)) pn (tk, pr)).1 k n lz 8 ((cp_f co 576 fr), 0, (M.1, M.2.1, wi, 0))).2.2 0 0 256).2.2.2).2.2.1) (((mm_s (ra_f (tq_f (sm_b lz 8 * (k - 1)) pn (tk, pr)).1 k n lz 8 ((cp_f co 576 fr), 0, (M.1, M.2.1, wi, 0))).2.2 0 0 256).1, (mm_s (ra_f (tq_f (sm_b lz 8 * (k - 1)) pn (tk, pr)).1 k n lz 8 ((cp_f co 576 fr), 0, (M.1, M.2.1, wi, 0))).2.2 0 0 256).2.1, (-1), (mm_s (ra_f (tq_f (sm_b lz 8 * (k - 1)) pn (tk, pr)).1 k n lz 8 ((cp_f co 576 fr), 0, (M.1, M.2.1, wi, 0))).2.2 0 0 256).2.2.2).2.2.2) ((-1)) (2) (0) (nI 1) (nI n) (fi) (ln) (bx) (1000) ((tq_f (sm_b lz 8 * (k - 1)) pn (tk, pr)).2) (1000) ((tq_f (sm_b lz 8 * (k - 1)) pn (tk, pr)).1) (8) (le) (576) (co) (576) ((ra_f (tq_f (sm_b lz 8 * (k - 1)) pn (tk, pr)).1 k n lz 8 ((cp_f co 576 fr), 0, (M.1, M.2.1, wi, 0))).1) (10) (em) (192) (((mm_s (ra_f (tq_f (sm_b lz 8 * (k - 1)) pn (tk, pr)).1 k n lz 8 ((cp_f co 576 fr), 0, (M.1, M.2.1, wi, 0))).2.2 0 0 256).1, (mm_s (ra_f (tq_f (sm_b lz 8 * (k - 1)) pn (tk, pr)).1 k n lz 8 ((cp_f co 576 fr), 0, (M.1, M.2.1, wi, 0))).2.2 0 0 256).2.1, (-1), (mm_s (ra_f (tq_f (sm_b lz 8 * (k - 1)) pn (tk, pr)).1 k n lz 8 ((cp_f co 576 fr), 0, (M.1, M.2.1, wi, 0))).2.2 0 0 256).2.2.2).2.1) (10) (nb) (10) (su))) (c_M_run_2A l D cI cZ cQ (qm) (mp) (mt) (ml) (mc) (mf) (me) (mg) (mh) (mu) (k) (n) (pn) (nx) (0) (ep) (M) (wi) (jb) (fp) (tf) (tt) (fi) (ln) (bx) (pr) (tk) (le) (co) (cp_f co 576 fr) (em) (nb) (su) (sm_b lz 8 * (k - 1)) (lz) (hk) (hn) (hk1) (hp) (hpn) (htk) (hpr) (hT) (Nat.le_refl _) (cp_ok co 576 fr hco9 hfr) (hle) (hlz) (hAB)) ⟨wc_M_run, wm_M_139, wi_M, by decide, by decide, show (parseMethodDescriptor y_M_run.desc).map (fun d => d.parameters.length) = some 2 by decide +kernel⟩ wo_M_run wz_M_run hx hb hml hown hts hl.1 ⟨Nat.le_of_ble_eq_true rfl, Nat.le_of_ble_eq_true rfl⟩ ⟨Nat.le_of_ble_eq_true rfl, Nat.le_of_ble_eq_true rfl⟩ hK hP hD hS hA (rfl) (q0 := 0) rfl rfl rfl (Nat.le_of_ble_eq_true rfl) d_M_refresh_75 (fun H locs hP hD hS => ?_)
          have hP : va_P D cls (mW cI cZ qm mp mt ml mc mf me mg mh mu (0) (nI k) (nI n) (nI (pn - (sm_b lz 8 * (k - 1)))) (nI ((ra_f (tq_f (sm_b lz 8 * (k - 1)) pn (tk, pr)).1 k n lz 8 ((cp_f co 576 fr), 0, (M.1, M.2.1, wi, 0))).2.1)) (ep) (nI (((mm_s (ra_f (tq_f (sm_b lz 8 * (k - 1)) pn (tk, pr)).1 k n lz 8 ((cp_f co 576 fr), 0, (M.1, M.2.1, wi, 0))).2.2 0 0 256).1, (mm_s (ra_f (tq_f (sm_b lz 8 * (k - 1)) pn (tk, pr)).1 k n lz 8 ((cp_f co 576 fr), 0, (M.1, M.2.1, wi, 0))).2.2 0 0 256).2.1, (-1), (mm_s (ra_f (tq_f (sm_b lz 8 * (k - 1)) pn (tk, pr)).1 k n lz 8 ((cp_f co 576 fr), 0, (M.1, M.2.1, wi, 0))).2.2 0 0 256).2.2.2).1)) (((mm_s (ra_f (tq_f (sm_b lz 8 * (k - 1)) pn (tk, pr)).1 k n lz 8 ((cp_f co 576 fr), 0, (M.1, M.2.1, wi, 0))).2.2 0 0 256).1, (mm_s (ra_f (tq_f (sm_b lz 8 * (k - 1)) pn (tk, pr)).1 k n lz 8 ((cp_f co 576 fr), 0, (M.1, M.2.1, wi, 0))).2.2 0 0 256).2.1, (-1), (mm_s (ra_f (tq_f (sm_b lz 8 * (k - 1)) pn (tk, pr)).1 k n lz 8 ((cp_f co 576 fr), 0, (M.1, M.2.1, wi, 0))).2.2 0 0 256).2.2.2).2.2.1) (((mm_s (ra_f (tq_f (sm_b lz 8 * (k - 1)) pn (tk, pr)).1 k n lz 8 ((cp_f co 576 fr), 0, (M.1, M.2.1, wi, 0))).2.2 0 0 256).1, (mm_s (ra_f (tq_f (sm_b lz 8 * (k - 1)) pn (tk, pr)).1 k n lz 8 ((cp_f co 576 fr), 0, (M.1, M.2.1, wi, 0))).2.2 0 0 256).2.1, (-1), (mm_s (ra_f (tq_f (sm_b lz 8 * (k - 1)) pn (tk, pr)).1 k n lz 8 ((cp_f co 576 fr), 0, (M.1, M.2.1, wi, 0))).2.2 0 0 256).2.2.2).2.2.2) ((-1)) (2) (0) (nI 1) (nI n) (fi) (ln) (bx) (1000) ((tq_f (sm_b lz 8 * (k - 1)) pn (tk, pr)).2) (1000) ((tq_f (sm_b lz 8 * (k - 1)) pn (tk, pr)).1) (8) (le) (576) (co) (576) ((ra_f (tq_f (sm_b lz 8 * (k - 1)) pn (tk, pr)).1 k n lz 8 ((cp_f co 576 fr), 0, (M.1, M.2.1, wi, 0))).1) (10) (em) (192) (((mm_s (ra_f (tq_f (sm_b lz 8 * (k - 1)) pn (tk, pr)).1 k n lz 8 ((cp_f co 576 fr), 0, (M.1, M.2.1, wi, 0))).2.2 0 0 256).1, (mm_s (ra_f (tq_f (sm_b lz 8 * (k - 1)) pn (tk, pr)).1 k n lz 8 ((cp_f co 576 fr), 0, (M.1, M.2.1, wi, 0))).2.2 0 0 256).2.1, (-1), (mm_s (ra_f (tq_f (sm_b lz 8 * (k - 1)) pn (tk, pr)).1 k n lz 8 ((cp_f co 576 fr), 0, (M.1, M.2.1, wi, 0))).2.2 0 0 256).2.2.2).2.1) (10) (nb) (10) (su)) H := hP
          have hD : va_D A (mW cI cZ qm mp mt ml mc mf me mg mh mu (0) (nI k) (nI n) (nI (pn - (sm_b lz 8 * (k - 1)))) (nI ((ra_f (tq_f (sm_b lz 8 * (k - 1)) pn (tk, pr)).1 k n lz 8 ((cp_f co 576 fr), 0, (M.1, M.2.1, wi, 0))).2.1)) (ep) (nI (((mm_s (ra_f (tq_f (sm_b lz 8 * (k - 1)) pn (tk, pr)).1 k n lz 8 ((cp_f co 576 fr), 0, (M.1, M.2.1, wi, 0))).2.2 0 0 256).1, (mm_s (ra_f (tq_f (sm_b lz 8 * (k - 1)) pn (tk, pr)).1 k n lz 8 ((cp_f co 576 fr), 0, (M.1, M.2.1, wi, 0))).2.2 0 0 256).2.1, (-1), (mm_s (ra_f (tq_f (sm_b lz 8 * (k - 1)) pn (tk, pr)).1 k n lz 8 ((cp_f co 576 fr), 0, (M.1, M.2.1, wi, 0))).2.2 0 0 256).2.2.2).1)) (((mm_s (ra_f (tq_f (sm_b lz 8 * (k - 1)) pn (tk, pr)).1 k n lz 8 ((cp_f co 576 fr), 0, (M.1, M.2.1, wi, 0))).2.2 0 0 256).1, (mm_s (ra_f (tq_f (sm_b lz 8 * (k - 1)) pn (tk, pr)).1 k n lz 8 ((cp_f co 576 fr), 0, (M.1, M.2.1, wi, 0))).2.2 0 0 256).2.1, (-1), (mm_s (ra_f (tq_f (sm_b lz 8 * (k - 1)) pn (tk, pr)).1 k n lz 8 ((cp_f co 576 fr), 0, (M.1, M.2.1, wi, 0))).2.2 0 0 256).2.2.2).2.2.1) (((mm_s (ra_f (tq_f (sm_b lz 8 * (k - 1)) pn (tk, pr)).1 k n lz 8 ((cp_f co 576 fr), 0, (M.1, M.2.1, wi, 0))).2.2 0 0 256).1, (mm_s (ra_f (tq_f (sm_b lz 8 * (k - 1)) pn (tk, pr)).1 k n lz 8 ((cp_f co 576 fr), 0, (M.1, M.2.1, wi, 0))).2.2 0 0 256).2.1, (-1), (mm_s (ra_f (tq_f (sm_b lz 8 * (k - 1)) pn (tk, pr)).1 k n lz 8 ((cp_f co 576 fr), 0, (M.1, M.2.1, wi, 0))).2.2 0 0 256).2.2.2).2.2.2) ((-1)) (2) (0) (nI 1) (nI n) (fi) (ln) (bx) (1000) ((tq_f (sm_b lz 8 * (k - 1)) pn (tk, pr)).2) (1000) ((tq_f (sm_b lz 8 * (k - 1)) pn (tk, pr)).1) (8) (le) (576) (co) (576) ((ra_f (tq_f (sm_b lz 8 * (k - 1)) pn (tk, pr)).1 k n lz 8 ((cp_f co 576 fr), 0, (M.1, M.2.1, wi, 0))).1) (10) (em) (192) (((mm_s (ra_f (tq_f (sm_b lz 8 * (k - 1)) pn (tk, pr)).1 k n lz 8 ((cp_f co 576 fr), 0, (M.1, M.2.1, wi, 0))).2.2 0 0 256).1, (mm_s (ra_f (tq_f (sm_b lz 8 * (k - 1)) pn (tk, pr)).1 k n lz 8 ((cp_f co 576 fr), 0, (M.1, M.2.1, wi, 0))).2.2 0 0 256).2.1, (-1), (mm_s (ra_f (tq_f (sm_b lz 8 * (k - 1)) pn (tk, pr)).1 k n lz 8 ((cp_f co 576 fr), 0, (M.1, M.2.1, wi, 0))).2.2 0 0 256).2.2.2).2.1) (10) (nb) (10) (su)) := hD
          exact sd_iret hx hb hr hlk hP hS (Nat.le_of_ble_eq_true rfl) (Nat.le_of_ble_eq_true rfl) (rfl) d_M_refresh_78
        · skip
          exact False.elim (by revert hc53; decide)
      · skip
        exact absurd (nI_le hp (by omega)) hc38
    · skip
      exact absurd hE3 hc16
set_option maxHeartbeats 4000000 in
set_option maxRecDepth 100000 in
theorem c_M_refresh_0B (l : Launch) (D : va_G) (cI cZ cQ : ClassId) (qm : Nat) (mp : Nat) (mt : Nat) (ml : Nat) (mc : Nat) (mf : Nat) (me : Nat) (mg : Nat) (mh : Nat) (mu : Nat) (k : Nat) (n : Nat) (pn : Nat) (nx : Nat) (cd : Int32) (ep : Int32) (M : mm_T) (wi : Int32) (jb : Int32) (fp : Int32) (tf : Int32) (tt : Int32) (fi : Int32) (ln : Int32) (bx : Int32) (pr : Nat → Int32) (tk : Nat → Int32) (le : Nat → Int32) (co : Nat → Int32) (fr : Nat → Int32) (em : Nat → Int32) (nb : Nat → Int32) (su : Nat → Int32) (lz : Nat → Nat) (hk : k ≤ 9) (hn : n ≤ 9) (hE2 : ¬ sm_e em n < n) (hE3 : jb ≤ 0) (hk1 : 1 ≤ k) (hpn : pn ≤ 1000) (hle : ∀ i, i < 8 → le i = nI (lz i)) (hlz : ∀ i, i < 8 → lz i ≤ 8) (htk : ∀ i, okb (tk i)) (hpr : ∀ i, okb (pr i)) (hT : M.1 + 6000 < 2 ^ 31) (hfr : ∀ i, okb (fr i)) (hco9 : ∀ i, okb (co i)) (hp : sm_b lz 8 * (k - 1) ≤ pn) (hAB : (mm_s (ra_f (tq_f (sm_b lz 8 * (k - 1)) pn (tk, pr)).1 k n lz 8 ((cp_f co 576 fr), 0, (M.1, M.2.1, wi, 0))).2.2 0 0 256).2.2.2 = 0) : sd_I l D (tyL cI cZ cQ) y_M_refresh b_M_refresh 1 (.int) ({ frames := 4, cells := 0, slots := 0, locals := 98 }) [.ref qm] (mW cI cZ qm mp mt ml mc mf me mg mh mu (cd) (nI k) (nI n) (nI (pn)) (nI (nx)) (ep) (nI (M.1)) (M.2.2.1) (M.2.2.2) (wi) (jb) (fp) (tf) (tt) (fi) (ln) (bx) (1000) (pr) (1000) (tk) (8) (le) (576) (co) (576) (fr) (10) (em) (192) (M.2.1) (10) (nb) (10) (su)) (nI ((mt_f ((n) + 1 - 1) 1 ((mm_s (ra_f (tq_f (sm_b lz 8 * (k - 1)) (pn) ((tk), (pr))).1 (k) (n) (lz) 8 ((cp_f co 576 fr), 0, ((M).1, (M).2.1, (wi), 0))).2.2 0 0 256), 1)).1.1) - nI ((M).1)) (mW cI cZ qm mp mt ml mc mf me mg mh mu (0) (nI (k)) (nI (n)) (nI ((pn) - (sm_b lz 8 * (k - 1)))) (nI ((ra_f (tq_f (sm_b lz 8 * (k - 1)) (pn) ((tk), (pr))).1 (k) (n) (lz) 8 ((cp_f co 576 fr), 0, ((M).1, (M).2.1, (wi), 0))).2.1)) (ep + 1) (nI (((mt_f ((n) + 1 - 1) 1 ((mm_s (ra_f (tq_f (sm_b lz 8 * (k - 1)) (pn) ((tk), (pr))).1 (k) (n) (lz) 8 ((cp_f co 576 fr), 0, ((M).1, (M).2.1, (wi), 0))).2.2 0 0 256), 1)).1.1, (mt_f ((n) + 1 - 1) 1 ((mm_s (ra_f (tq_f (sm_b lz 8 * (k - 1)) (pn) ((tk), (pr))).1 (k) (n) (lz) 8 ((cp_f co 576 fr), 0, ((M).1, (M).2.1, (wi), 0))).2.2 0 0 256), 1)).1.2.1, (-1), (mt_f ((n) + 1 - 1) 1 ((mm_s (ra_f (tq_f (sm_b lz 8 * (k - 1)) (pn) ((tk), (pr))).1 (k) (n) (lz) 8 ((cp_f co 576 fr), 0, ((M).1, (M).2.1, (wi), 0))).2.2 0 0 256), 1)).1.2.2.2).1)) (((mt_f ((n) + 1 - 1) 1 ((mm_s (ra_f (tq_f (sm_b lz 8 * (k - 1)) (pn) ((tk), (pr))).1 (k) (n) (lz) 8 ((cp_f co 576 fr), 0, ((M).1, (M).2.1, (wi), 0))).2.2 0 0 256), 1)).1.1, (mt_f ((n) + 1 - 1) 1 ((mm_s (ra_f (tq_f (sm_b lz 8 * (k - 1)) (pn) ((tk), (pr))).1 (k) (n) (lz) 8 ((cp_f co 576 fr), 0, ((M).1, (M).2.1, (wi), 0))).2.2 0 0 256), 1)).1.2.1, (-1), (mt_f ((n) + 1 - 1) 1 ((mm_s (ra_f (tq_f (sm_b lz 8 * (k - 1)) (pn) ((tk), (pr))).1 (k) (n) (lz) 8 ((cp_f co 576 fr), 0, ((M).1, (M).2.1, (wi), 0))).2.2 0 0 256), 1)).1.2.2.2).2.2.1) (((mt_f ((n) + 1 - 1) 1 ((mm_s (ra_f (tq_f (sm_b lz 8 * (k - 1)) (pn) ((tk), (pr))).1 (k) (n) (lz) 8 ((cp_f co 576 fr), 0, ((M).1, (M).2.1, (wi), 0))).2.2 0 0 256), 1)).1.1, (mt_f ((n) + 1 - 1) 1 ((mm_s (ra_f (tq_f (sm_b lz 8 * (k - 1)) (pn) ((tk), (pr))).1 (k) (n) (lz) 8 ((cp_f co 576 fr), 0, ((M).1, (M).2.1, (wi), 0))).2.2 0 0 256), 1)).1.2.1, (-1), (mt_f ((n) + 1 - 1) 1 ((mm_s (ra_f (tq_f (sm_b lz 8 * (k - 1)) (pn) ((tk), (pr))).1 (k) (n) (lz) 8 ((cp_f co 576 fr), 0, ((M).1, (M).2.1, (wi), 0))).2.2 0 0 256), 1)).1.2.2.2).2.2.2) ((-1)) (jb_f (mt_f ((n) + 1 - 1) 1 ((mm_s (ra_f (tq_f (sm_b lz 8 * (k - 1)) (pn) ((tk), (pr))).1 (k) (n) (lz) 8 ((cp_f co 576 fr), 0, ((M).1, (M).2.1, (wi), 0))).2.2 0 0 256), 1)).1 2) (1) (nI (mt_f ((n) + 1 - 1) 1 ((mm_s (ra_f (tq_f (sm_b lz 8 * (k - 1)) (pn) ((tk), (pr))).1 (k) (n) (lz) 8 ((cp_f co 576 fr), 0, ((M).1, (M).2.1, (wi), 0))).2.2 0 0 256), 1)).2) (nI (n)) (fi) (ln) (bx) (1000) ((tq_f (sm_b lz 8 * (k - 1)) (pn) ((tk), (pr))).2) (1000) ((tq_f (sm_b lz 8 * (k - 1)) (pn) ((tk), (pr))).1) (8) (le) (576) (cp_f (ra_f (tq_f (sm_b lz 8 * (k - 1)) (pn) ((tk), (pr))).1 (k) (n) (lz) 8 ((cp_f co 576 fr), 0, ((M).1, (M).2.1, (wi), 0))).1 576 (co)) (576) ((ra_f (tq_f (sm_b lz 8 * (k - 1)) (pn) ((tk), (pr))).1 (k) (n) (lz) 8 ((cp_f co 576 fr), 0, ((M).1, (M).2.1, (wi), 0))).1) (10) (em) (192) (((mt_f ((n) + 1 - 1) 1 ((mm_s (ra_f (tq_f (sm_b lz 8 * (k - 1)) (pn) ((tk), (pr))).1 (k) (n) (lz) 8 ((cp_f co 576 fr), 0, ((M).1, (M).2.1, (wi), 0))).2.2 0 0 256), 1)).1.1, (mt_f ((n) + 1 - 1) 1 ((mm_s (ra_f (tq_f (sm_b lz 8 * (k - 1)) (pn) ((tk), (pr))).1 (k) (n) (lz) 8 ((cp_f co 576 fr), 0, ((M).1, (M).2.1, (wi), 0))).2.2 0 0 256), 1)).1.2.1, (-1), (mt_f ((n) + 1 - 1) 1 ((mm_s (ra_f (tq_f (sm_b lz 8 * (k - 1)) (pn) ((tk), (pr))).1 (k) (n) (lz) 8 ((cp_f co 576 fr), 0, ((M).1, (M).2.1, (wi), 0))).2.2 0 0 256), 1)).1.2.2.2).2.1) (10) (nb) (10) (su)) := by
  refine sd_ofI (by decide) (Nat.le_of_ble_eq_true rfl) ?_
  intro p e s m below meth c A ls hx hb hr hml hlk hown hts hK hP hD hA hS hl
  have hl : lv_has ls 1 [(0, .ref qm)] := hl
  have hse := sm_e_le em n
  have hs64 := sm_le hlz 8 (Nat.le_refl 8)
  have hpk : sm_b lz 8 * (k - 1) ≤ 512 := Nat.le_trans (Nat.mul_le_mul hs64 (show k - 1 ≤ 8 by omega)) (by omega)
  refine lv_aload_n hx hb d_M_refresh_0 rfl (lv_at hl 0 rfl) ?_
  refine lv_aload_n hx hb d_M_refresh_1 rfl (lv_at hl 0 rfl) ?_
  refine sd_allVI (As := []) (rest := [.ref qm]) (w1 := (mW cI cZ qm mp mt ml mc mf me mg mh mu (cd) (nI k) (nI n) (nI (pn)) (nI (nx)) (ep) (nI (M.1)) (M.2.2.1) (M.2.2.2) (wi) (jb) (fp) (tf) (tt) (fi) (ln) (bx) (1000) (pr) (1000) (tk) (8) (le) (576) (co) (576) (fr) (10) (em) (192) (M.2.1) (10) (nb) (10) (su))) (c_M_filled l D cI cZ cQ (qm) (mp) (mt) (ml) (mc) (mf) (me) (mg) (mh) (mu) (k) (n) (pn) (nx) (cd) (ep) (M) (wi) (jb) (fp) (tf) (tt) (fi) (ln) (bx) (pr) (tk) (le) (co) (fr) (em) (nb) (su) (hk) (hn)) ⟨wc_M_filled, wm_M_133, wi_M, by decide, by decide, show (parseMethodDescriptor y_M_filled.desc).map (fun d => d.parameters.length) = some 0 by decide +kernel⟩ wo_M_filled wz_M_filled hx hb hml hown hts hl.1 ⟨Nat.le_of_ble_eq_true rfl, Nat.le_of_ble_eq_true rfl⟩ ⟨Nat.le_of_ble_eq_true rfl, Nat.le_of_ble_eq_true rfl⟩ hK hP hD hS hA (rfl) (q0 := 0) rfl rfl rfl (Nat.le_of_ble_eq_true rfl) d_M_refresh_2 (fun H locs hP hD hS => ?_)
  have hP : va_P D cls (mW cI cZ qm mp mt ml mc mf me mg mh mu (cd) (nI k) (nI n) (nI (pn)) (nI (nx)) (ep) (nI (M.1)) (M.2.2.1) (M.2.2.2) (wi) (jb) (fp) (tf) (tt) (fi) (ln) (bx) (1000) (pr) (1000) (tk) (8) (le) (576) (co) (576) (fr) (10) (em) (192) (M.2.1) (10) (nb) (10) (su)) H := hP
  have hD : va_D A (mW cI cZ qm mp mt ml mc mf me mg mh mu (cd) (nI k) (nI n) (nI (pn)) (nI (nx)) (ep) (nI (M.1)) (M.2.2.1) (M.2.2.2) (wi) (jb) (fp) (tf) (tt) (fi) (ln) (bx) (1000) (pr) (1000) (tk) (8) (le) (576) (co) (576) (fr) (10) (em) (192) (M.2.1) (10) (nb) (10) (su)) := hD
  refine lv_aload_n hx hb d_M_refresh_5 rfl (lv_at hl 0 rfl) ?_
  refine va_get (D := D) (ci := 5) (v := .int (nI n)) (C := R_M) (T := F_M) (N := 26) hx hb hts wl_M hown hK hP 0 rfl rfl 2 (by decide) (hts _ wf_M_45) (fun _ h9 => h9) rfl d_M_refresh_6 ?_
  refine lv_icmp_lt (tgt := 19) hx hb d_M_refresh_9 rfl (fun hc9 => ?_) (fun hc9 => ?_)
  · skip
    exact absurd ((nI_ltI (by omega) (by omega)).mp hc9) hE2
  · skip
    refine lv_aload_n hx hb d_M_refresh_12 rfl (lv_at hl 0 rfl) ?_
    refine va_get (D := D) (ci := 5) (v := .int (jb)) (C := R_M) (T := F_M) (N := 26) hx hb hts wl_M hown hK hP 0 rfl rfl 17 (by decide) (hts _ wf_M_100) (fun _ h9 => h9) rfl d_M_refresh_13 ?_
    refine lv_if_le (tgt := 23) hx hb d_M_refresh_16 rfl (fun hc16 => ?_) (fun hc16 => ?_)
    · skip
      refine lv_aload_n hx hb d_M_refresh_23 rfl (lv_at hl 0 rfl) ?_
      refine va_get (D := D) (ci := 5) (v := .int (nI (pn))) (C := R_M) (T := F_M) (N := 26) hx hb hts wl_M hown hK hP 0 rfl rfl 3 (by decide) (hts _ wf_M_58) (fun _ h9 => h9) rfl d_M_refresh_24 ?_
      refine lv_aload_n hx hb d_M_refresh_27 rfl (lv_at hl 0 rfl) ?_
      refine sd_allVI (As := []) (rest := [.int (nI (pn)), .ref qm]) (w1 := (mW cI cZ qm mp mt ml mc mf me mg mh mu (cd) (nI k) (nI n) (nI (pn)) (nI (nx)) (ep) (nI (M.1)) (M.2.2.1) (M.2.2.2) (wi) (jb) (fp) (tf) (tt) (fi) (ln) (bx) (1000) (pr) (1000) (tk) (8) (le) (576) (co) (576) (fr) (10) (em) (192) (M.2.1) (10) (nb) (10) (su))) (c_M_total l D cI cZ cQ (qm) (mp) (mt) (ml) (mc) (mf) (me) (mg) (mh) (mu) (k) (n) (pn) (nx) (cd) (ep) (M) (wi) (jb) (fp) (tf) (tt) (fi) (ln) (bx) (pr) (tk) (le) (co) (fr) (em) (nb) (su) (lz) (hk) (hn) (hle)) ⟨wc_M_total, wm_M_142, wi_M, by decide, by decide, show (parseMethodDescriptor y_M_total.desc).map (fun d => d.parameters.length) = some 0 by decide +kernel⟩ wo_M_total wz_M_total hx hb hml hown hts hl.1 ⟨Nat.le_of_ble_eq_true rfl, Nat.le_of_ble_eq_true rfl⟩ ⟨Nat.le_of_ble_eq_true rfl, Nat.le_of_ble_eq_true rfl⟩ hK hP hD hS hA (rfl) (q0 := 0) rfl rfl rfl (Nat.le_of_ble_eq_true rfl) d_M_refresh_28 (fun H locs hP hD hS => ?_)
      have hP : va_P D cls (mW cI cZ qm mp mt ml mc mf me mg mh mu (cd) (nI k) (nI n) (nI (pn)) (nI (nx)) (ep) (nI (M.1)) (M.2.2.1) (M.2.2.2) (wi) (jb) (fp) (tf) (tt) (fi) (ln) (bx) (1000) (pr) (1000) (tk) (8) (le) (576) (co) (576) (fr) (10) (em) (192) (M.2.1) (10) (nb) (10) (su)) H := hP
      have hD : va_D A (mW cI cZ qm mp mt ml mc mf me mg mh mu (cd) (nI k) (nI n) (nI (pn)) (nI (nx)) (ep) (nI (M.1)) (M.2.2.1) (M.2.2.2) (wi) (jb) (fp) (tf) (tt) (fi) (ln) (bx) (1000) (pr) (1000) (tk) (8) (le) (576) (co) (576) (fr) (10) (em) (192) (M.2.1) (10) (nb) (10) (su)) := hD
      refine lv_aload_n hx hb d_M_refresh_31 rfl (lv_at hl 0 rfl) ?_
      refine va_get (D := D) (ci := 5) (v := .int (nI k)) (C := R_M) (T := F_M) (N := 26) hx hb hts wl_M hown hK hP 0 rfl rfl 1 (by decide) (hts _ wf_M_48) (fun _ h9 => h9) rfl d_M_refresh_32 ?_
      refine lv_iconst (v := 1) hx hb d_M_refresh_35 (by decide) ?_
      refine lv_isub hx hb d_M_refresh_36 ?_
      refine sd_top (y := nI (k - 1)) (ni_pred (by omega)) ?_
      refine lv_imul hx hb d_M_refresh_37 ?_
      refine sd_top (y := nI (sm_b lz 8 * (k - 1))) (pk_mul _ _) ?_
      refine lv_icmp_ge (tgt := 45) hx hb d_M_refresh_38 rfl (fun hc38 => ?_) (fun hc38 => ?_)
      · skip
        refine lv_iconst (v := 0) hx hb d_M_refresh_45 (by decide) ?_
        refine va_put (D := D) (ci := 5) (v := .int (0)) (ty := .int) (C := R_M) (T := F_M) (N := 26) hx hb hts wl_M t_M t_M_ok n_M hown hK hP hD hS 0 rfl rfl 0 (by decide) (hts _ wf_M_51) (fun _ h9 => h9) rfl (by decide +kernel) rfl rfl (Nat.le_of_ble_eq_true rfl) d_M_refresh_46 (fun H locs hP hD hS => ?_)
        have hP : va_P D cls (mW cI cZ qm mp mt ml mc mf me mg mh mu (0) (nI k) (nI n) (nI (pn)) (nI (nx)) (ep) (nI (M.1)) (M.2.2.1) (M.2.2.2) (wi) (jb) (fp) (tf) (tt) (fi) (ln) (bx) (1000) (pr) (1000) (tk) (8) (le) (576) (co) (576) (fr) (10) (em) (192) (M.2.1) (10) (nb) (10) (su)) H := hP
        have hD : va_D A (mW cI cZ qm mp mt ml mc mf me mg mh mu (0) (nI k) (nI n) (nI (pn)) (nI (nx)) (ep) (nI (M.1)) (M.2.2.1) (M.2.2.2) (wi) (jb) (fp) (tf) (tt) (fi) (ln) (bx) (1000) (pr) (1000) (tk) (8) (le) (576) (co) (576) (fr) (10) (em) (192) (M.2.1) (10) (nb) (10) (su)) := hD
        refine lv_aload_n hx hb d_M_refresh_49 rfl (lv_at hl 0 rfl) ?_
        refine va_get (D := D) (ci := 5) (v := .int (0)) (C := R_M) (T := F_M) (N := 26) hx hb hts wl_M hown hK hP 0 rfl rfl 0 (by decide) (hts _ wf_M_51) (fun _ h9 => h9) rfl d_M_refresh_50 ?_
        refine lv_if_le (tgt := 58) hx hb d_M_refresh_53 rfl (fun hc53 => ?_) (fun hc53 => ?_)
        · skip
          refine lv_aload_n hx hb d_M_refresh_58 rfl (lv_at hl 0 rfl) ?_
          refine sd_allVV (As := []) (rest := []) (w1 := (mW cI cZ qm mp mt ml mc mf me mg mh mu (0) (nI k) (nI n) (nI (pn)) (nI (nx)) (ep) (nI (M.1)) (M.2.2.1) (M.2.2.2) (wi) (jb) (fp) (tf) (tt) (fi) (ln) (bx) (1000) (pr) (1000) (tk) (8) (le) (576) (co) (576) (cp_f co 576 fr) (10) (em) (192) (M.2.1) (10) (nb) (10) (su))) (c_M_copyFresh l D cI cZ cQ (qm) (mp) (mt) (ml) (mc) (mf) (me) (mg) (mh) (mu) (k) (n) (pn) (nx) (0) (ep) (M) (wi) (jb) (fp) (tf) (tt) (fi) (ln) (bx) (pr) (tk) (le) (co) (fr) (em) (nb) (su) (hk) (hn)) ⟨wc_M_copyFresh, wm_M_136, wi_M, by decide, by decide, show (parseMethodDescriptor y_M_copyFresh.desc).map (fun d => d.parameters.length) = some 0 by decide +kernel⟩ wo_M_copyFresh wz_M_copyFresh hx hb hml hown hts hl.1 ⟨Nat.le_of_ble_eq_true rfl, Nat.le_of_ble_eq_true rfl⟩ ⟨Nat.le_of_ble_eq_true rfl, Nat.le_of_ble_eq_true rfl⟩ hK hP hD hS hA (rfl) (q0 := 0) rfl rfl rfl (Nat.le_of_ble_eq_true rfl) d_M_refresh_59 (fun H locs hP hD hS => ?_)
          have hP : va_P D cls (mW cI cZ qm mp mt ml mc mf me mg mh mu (0) (nI k) (nI n) (nI (pn)) (nI (nx)) (ep) (nI (M.1)) (M.2.2.1) (M.2.2.2) (wi) (jb) (fp) (tf) (tt) (fi) (ln) (bx) (1000) (pr) (1000) (tk) (8) (le) (576) (co) (576) (cp_f co 576 fr) (10) (em) (192) (M.2.1) (10) (nb) (10) (su)) H := hP
          have hD : va_D A (mW cI cZ qm mp mt ml mc mf me mg mh mu (0) (nI k) (nI n) (nI (pn)) (nI (nx)) (ep) (nI (M.1)) (M.2.2.1) (M.2.2.2) (wi) (jb) (fp) (tf) (tt) (fi) (ln) (bx) (1000) (pr) (1000) (tk) (8) (le) (576) (co) (576) (cp_f co 576 fr) (10) (em) (192) (M.2.1) (10) (nb) (10) (su)) := hD
          refine lv_aload_n hx hb d_M_refresh_62 rfl (lv_at hl 0 rfl) ?_
          refine lv_iconst (v := 2) hx hb d_M_refresh_63 (by decide) ?_
          refine lv_aload_n hx hb d_M_refresh_64 rfl (lv_at hl 0 rfl) ?_
          refine sd_allVI (As := []) (rest := [.int (2), .ref qm]) (w1 := (mW cI cZ qm mp mt ml mc mf me mg mh mu (0) (nI k) (nI n) (nI (pn)) (nI (nx)) (ep) (nI (M.1)) (M.2.2.1) (M.2.2.2) (wi) (jb) (fp) (tf) (tt) (fi) (ln) (bx) (1000) (pr) (1000) (tk) (8) (le) (576) (co) (576) (cp_f co 576 fr) (10) (em) (192) (M.2.1) (10) (nb) (10) (su))) (c_M_total l D cI cZ cQ (qm) (mp) (mt) (ml) (mc) (mf) (me) (mg) (mh) (mu) (k) (n) (pn) (nx) (0) (ep) (M) (wi) (jb) (fp) (tf) (tt) (fi) (ln) (bx) (pr) (tk) (le) (co) (cp_f co 576 fr) (em) (nb) (su) (lz) (hk) (hn) (hle)) ⟨wc_M_total, wm_M_142, wi_M, by decide, by decide, show (parseMethodDescriptor y_M_total.desc).map (fun d => d.parameters.length) = some 0 by decide +kernel⟩ wo_M_total wz_M_total hx hb hml hown hts hl.1 ⟨Nat.le_of_ble_eq_true rfl, Nat.le_of_ble_eq_true rfl⟩ ⟨Nat.le_of_ble_eq_true rfl, Nat.le_of_ble_eq_true rfl⟩ hK hP hD hS hA (rfl) (q0 := 0) rfl rfl rfl (Nat.le_of_ble_eq_true rfl) d_M_refresh_65 (fun H locs hP hD hS => ?_)
          have hP : va_P D cls (mW cI cZ qm mp mt ml mc mf me mg mh mu (0) (nI k) (nI n) (nI (pn)) (nI (nx)) (ep) (nI (M.1)) (M.2.2.1) (M.2.2.2) (wi) (jb) (fp) (tf) (tt) (fi) (ln) (bx) (1000) (pr) (1000) (tk) (8) (le) (576) (co) (576) (cp_f co 576 fr) (10) (em) (192) (M.2.1) (10) (nb) (10) (su)) H := hP
          have hD : va_D A (mW cI cZ qm mp mt ml mc mf me mg mh mu (0) (nI k) (nI n) (nI (pn)) (nI (nx)) (ep) (nI (M.1)) (M.2.2.1) (M.2.2.2) (wi) (jb) (fp) (tf) (tt) (fi) (ln) (bx) (1000) (pr) (1000) (tk) (8) (le) (576) (co) (576) (cp_f co 576 fr) (10) (em) (192) (M.2.1) (10) (nb) (10) (su)) := hD
          refine lv_aload_n hx hb d_M_refresh_68 rfl (lv_at hl 0 rfl) ?_
          refine va_get (D := D) (ci := 5) (v := .int (nI k)) (C := R_M) (T := F_M) (N := 26) hx hb hts wl_M hown hK hP 0 rfl rfl 1 (by decide) (hts _ wf_M_48) (fun _ h9 => h9) rfl d_M_refresh_69 ?_
          refine lv_iconst (v := 1) hx hb d_M_refresh_72 (by decide) ?_
          refine lv_isub hx hb d_M_refresh_73 ?_
          refine sd_top (y := nI (k - 1)) (ni_pred (by omega)) ?_
          refine lv_imul hx hb d_M_refresh_74 ?_
          refine sd_top (y := nI (sm_b lz 8 * (k - 1))) (pk_mul _ _) ?_
          refine sd_allVI (As := [.int (2), .int (nI (sm_b lz 8 * (k - 1)))]) (rest := []) (w1 := (mW cI cZ qm mp mt ml mc mf me mg mh mu (0) (nI k) (nI n) (nI (pn - (sm_b lz 8 * (k - 1)))) (nI ((ra_f (tq_f (sm_b lz 8 * (k - 1)) pn (tk, pr)).1 k n lz 8 ((cp_f co 576 fr), 0, (M.1, M.2.1, wi, 0))).2.1)) (ep + 1) (nI (((mt_f (n + 1 - 1) 1 ((mm_s (ra_f (tq_f (sm_b lz 8 * (k - 1)) pn (tk, pr)).1 k n lz 8 ((cp_f co 576 fr), 0, (M.1, M.2.1, wi, 0))).2.2 0 0 256), 1)).1.1, (mt_f (n + 1 - 1) 1 ((mm_s (ra_f (tq_f (sm_b lz 8 * (k - 1)) pn (tk, pr)).1 k n lz 8 ((cp_f co 576 fr), 0, (M.1, M.2.1, wi, 0))).2.2 0 0 256), 1)).1.2.1, (-1), (mt_f (n + 1 - 1) 1 ((mm_s (ra_f (tq_f (sm_b lz 8 * (k - 1)) pn (tk, pr)).1 k n lz 8 ((cp_f co 576 fr), 0, (M.1, M.2.1, wi, 0))).2.2 0 0 256), 1)).1.2.2.2).1)) (((mt_f (n + 1 - 1) 1 ((mm_s (ra_f (tq_f (sm_b lz 8 * (k - 1)) pn (tk, pr)).1 k n lz 8 ((cp_f co 576 fr), 0, (M.1, M.2.1, wi, 0))).2.2 0 0 256), 1)).1.1, (mt_f (n + 1 - 1) 1 ((mm_s (ra_f (tq_f (sm_b lz 8 * (k - 1)) pn (tk, pr)).1 k n lz 8 ((cp_f co 576 fr), 0, (M.1, M.2.1, wi, 0))).2.2 0 0 256), 1)).1.2.1, (-1), (mt_f (n + 1 - 1) 1 ((mm_s (ra_f (tq_f (sm_b lz 8 * (k - 1)) pn (tk, pr)).1 k n lz 8 ((cp_f co 576 fr), 0, (M.1, M.2.1, wi, 0))).2.2 0 0 256), 1)).1.2.2.2).2.2.1) (((mt_f (n + 1 - 1) 1 ((mm_s (ra_f (tq_f (sm_b lz 8 * (k - 1)) pn (tk, pr)).1 k n lz 8 ((cp_f co 576 fr), 0, (M.1, M.2.1, wi, 0))).2.2 0 0 256), 1)).1.1, (mt_f (n + 1 - 1) 1 ((mm_s (ra_f (tq_f (sm_b lz 8 * (k - 1)) pn (tk, pr)).1 k n lz 8 ((cp_f co 576 fr), 0, (M.1, M.2.1, wi, 0))).2.2 0 0 256), 1)).1.2.1, (-1), (mt_f (n + 1 - 1) 1 ((mm_s (ra_f (tq_f (sm_b lz 8 * (k - 1)) pn (tk, pr)).1 k n lz 8 ((cp_f co 576 fr), 0, (M.1, M.2.1, wi, 0))).2.2 0 0 256), 1)).1.2.2.2).2.2.2) ((-1)) (jb_f (mt_f (n + 1 - 1) 1 ((mm_s (ra_f (tq_f (sm_b lz 8 * (k - 1)) pn (tk, pr)).1 k n lz 8 ((cp_f co 576 fr), 0, (M.1, M.2.1, wi, 0))).2.2 0 0 256), 1)).1 2) (1) (nI (mt_f (n + 1 - 1) 1 ((mm_s (ra_f (tq_f (sm_b lz 8 * (k - 1)) pn (tk, pr)).1 k n lz 8 ((cp_f co 576 fr), 0, (M.1, M.2.1, wi, 0))).2.2 0 0 256), 1)).2) (nI n) (fi) (ln) (bx) (1000) ((tq_f (sm_b lz 8 * (k - 1)) pn (tk, pr)).2) (1000) ((tq_f (sm_b lz 8 * (k - 1)) pn (tk, pr)).1) (8) (le) (576) (cp_f (ra_f (tq_f (sm_b lz 8 * (k - 1)) pn (tk, pr)).1 k n lz 8 ((cp_f co 576 fr), 0, (M.1, M.2.1, wi, 0))).1 576 co) (576) ((ra_f (tq_f (sm_b lz 8 * (k - 1)) pn (tk, pr)).1 k n lz 8 ((cp_f co 576 fr), 0, (M.1, M.2.1, wi, 0))).1) (10) (em) (192) (((mt_f (n + 1 - 1) 1 ((mm_s (ra_f (tq_f (sm_b lz 8 * (k - 1)) pn (tk, pr)).1 k n lz 8 ((cp_f co 576 fr), 0, (M.1, M.2.1, wi, 0))).2.2 0 0 256), 1)).1.1, (mt_f (n + 1 - 1) 1 ((mm_s (ra_f (tq_f (sm_b lz 8 * (k - 1)) pn (tk, pr)).1 k n lz 8 ((cp_f co 576 fr), 0, (M.1, M.2.1, wi, 0))).2.2 0 0 256), 1)).1.2.1, (-1), (mt_f (n + 1 - 1) 1 ((mm_s (ra_f (tq_f (sm_b lz 8 * (k - 1)) pn (tk, pr)).1 k n lz 8 ((cp_f co 576 fr), 0, (M.1, M.2.1, wi, 0))).2.2 0 0 256), 1)).1.2.2.2).2.1) (10) (nb) (10) (su))) (c_M_run_2B l D cI cZ cQ (qm) (mp) (mt) (ml) (mc) (mf) (me) (mg) (mh) (mu) (k) (n) (pn) (nx) (0) (ep) (M) (wi) (jb) (fp) (tf) (tt) (fi) (ln) (bx) (pr) (tk) (le) (co) (cp_f co 576 fr) (em) (nb) (su) (sm_b lz 8 * (k - 1)) (lz) (hk) (hn) (hk1) (hp) (hpn) (htk) (hpr) (hT) (Nat.le_refl _) (cp_ok co 576 fr hco9 hfr) (hle) (hlz) (hAB)) ⟨wc_M_run, wm_M_139, wi_M, by decide, by decide, show (parseMethodDescriptor y_M_run.desc).map (fun d => d.parameters.length) = some 2 by decide +kernel⟩ wo_M_run wz_M_run hx hb hml hown hts hl.1 ⟨Nat.le_of_ble_eq_true rfl, Nat.le_of_ble_eq_true rfl⟩ ⟨Nat.le_of_ble_eq_true rfl, Nat.le_of_ble_eq_true rfl⟩ hK hP hD hS hA (rfl) (q0 := 0) rfl rfl rfl (Nat.le_of_ble_eq_true rfl) d_M_refresh_75 (fun H locs hP hD hS => ?_)
          have hP : va_P D cls (mW cI cZ qm mp mt ml mc mf me mg mh mu (0) (nI k) (nI n) (nI (pn - (sm_b lz 8 * (k - 1)))) (nI ((ra_f (tq_f (sm_b lz 8 * (k - 1)) pn (tk, pr)).1 k n lz 8 ((cp_f co 576 fr), 0, (M.1, M.2.1, wi, 0))).2.1)) (ep + 1) (nI (((mt_f (n + 1 - 1) 1 ((mm_s (ra_f (tq_f (sm_b lz 8 * (k - 1)) pn (tk, pr)).1 k n lz 8 ((cp_f co 576 fr), 0, (M.1, M.2.1, wi, 0))).2.2 0 0 256), 1)).1.1, (mt_f (n + 1 - 1) 1 ((mm_s (ra_f (tq_f (sm_b lz 8 * (k - 1)) pn (tk, pr)).1 k n lz 8 ((cp_f co 576 fr), 0, (M.1, M.2.1, wi, 0))).2.2 0 0 256), 1)).1.2.1, (-1), (mt_f (n + 1 - 1) 1 ((mm_s (ra_f (tq_f (sm_b lz 8 * (k - 1)) pn (tk, pr)).1 k n lz 8 ((cp_f co 576 fr), 0, (M.1, M.2.1, wi, 0))).2.2 0 0 256), 1)).1.2.2.2).1)) (((mt_f (n + 1 - 1) 1 ((mm_s (ra_f (tq_f (sm_b lz 8 * (k - 1)) pn (tk, pr)).1 k n lz 8 ((cp_f co 576 fr), 0, (M.1, M.2.1, wi, 0))).2.2 0 0 256), 1)).1.1, (mt_f (n + 1 - 1) 1 ((mm_s (ra_f (tq_f (sm_b lz 8 * (k - 1)) pn (tk, pr)).1 k n lz 8 ((cp_f co 576 fr), 0, (M.1, M.2.1, wi, 0))).2.2 0 0 256), 1)).1.2.1, (-1), (mt_f (n + 1 - 1) 1 ((mm_s (ra_f (tq_f (sm_b lz 8 * (k - 1)) pn (tk, pr)).1 k n lz 8 ((cp_f co 576 fr), 0, (M.1, M.2.1, wi, 0))).2.2 0 0 256), 1)).1.2.2.2).2.2.1) (((mt_f (n + 1 - 1) 1 ((mm_s (ra_f (tq_f (sm_b lz 8 * (k - 1)) pn (tk, pr)).1 k n lz 8 ((cp_f co 576 fr), 0, (M.1, M.2.1, wi, 0))).2.2 0 0 256), 1)).1.1, (mt_f (n + 1 - 1) 1 ((mm_s (ra_f (tq_f (sm_b lz 8 * (k - 1)) pn (tk, pr)).1 k n lz 8 ((cp_f co 576 fr), 0, (M.1, M.2.1, wi, 0))).2.2 0 0 256), 1)).1.2.1, (-1), (mt_f (n + 1 - 1) 1 ((mm_s (ra_f (tq_f (sm_b lz 8 * (k - 1)) pn (tk, pr)).1 k n lz 8 ((cp_f co 576 fr), 0, (M.1, M.2.1, wi, 0))).2.2 0 0 256), 1)).1.2.2.2).2.2.2) ((-1)) (jb_f (mt_f (n + 1 - 1) 1 ((mm_s (ra_f (tq_f (sm_b lz 8 * (k - 1)) pn (tk, pr)).1 k n lz 8 ((cp_f co 576 fr), 0, (M.1, M.2.1, wi, 0))).2.2 0 0 256), 1)).1 2) (1) (nI (mt_f (n + 1 - 1) 1 ((mm_s (ra_f (tq_f (sm_b lz 8 * (k - 1)) pn (tk, pr)).1 k n lz 8 ((cp_f co 576 fr), 0, (M.1, M.2.1, wi, 0))).2.2 0 0 256), 1)).2) (nI n) (fi) (ln) (bx) (1000) ((tq_f (sm_b lz 8 * (k - 1)) pn (tk, pr)).2) (1000) ((tq_f (sm_b lz 8 * (k - 1)) pn (tk, pr)).1) (8) (le) (576) (cp_f (ra_f (tq_f (sm_b lz 8 * (k - 1)) pn (tk, pr)).1 k n lz 8 ((cp_f co 576 fr), 0, (M.1, M.2.1, wi, 0))).1 576 co) (576) ((ra_f (tq_f (sm_b lz 8 * (k - 1)) pn (tk, pr)).1 k n lz 8 ((cp_f co 576 fr), 0, (M.1, M.2.1, wi, 0))).1) (10) (em) (192) (((mt_f (n + 1 - 1) 1 ((mm_s (ra_f (tq_f (sm_b lz 8 * (k - 1)) pn (tk, pr)).1 k n lz 8 ((cp_f co 576 fr), 0, (M.1, M.2.1, wi, 0))).2.2 0 0 256), 1)).1.1, (mt_f (n + 1 - 1) 1 ((mm_s (ra_f (tq_f (sm_b lz 8 * (k - 1)) pn (tk, pr)).1 k n lz 8 ((cp_f co 576 fr), 0, (M.1, M.2.1, wi, 0))).2.2 0 0 256), 1)).1.2.1, (-1), (mt_f (n + 1 - 1) 1 ((mm_s (ra_f (tq_f (sm_b lz 8 * (k - 1)) pn (tk, pr)).1 k n lz 8 ((cp_f co 576 fr), 0, (M.1, M.2.1, wi, 0))).2.2 0 0 256), 1)).1.2.2.2).2.1) (10) (nb) (10) (su)) H := hP
          have hD : va_D A (mW cI cZ qm mp mt ml mc mf me mg mh mu (0) (nI k) (nI n) (nI (pn - (sm_b lz 8 * (k - 1)))) (nI ((ra_f (tq_f (sm_b lz 8 * (k - 1)) pn (tk, pr)).1 k n lz 8 ((cp_f co 576 fr), 0, (M.1, M.2.1, wi, 0))).2.1)) (ep + 1) (nI (((mt_f (n + 1 - 1) 1 ((mm_s (ra_f (tq_f (sm_b lz 8 * (k - 1)) pn (tk, pr)).1 k n lz 8 ((cp_f co 576 fr), 0, (M.1, M.2.1, wi, 0))).2.2 0 0 256), 1)).1.1, (mt_f (n + 1 - 1) 1 ((mm_s (ra_f (tq_f (sm_b lz 8 * (k - 1)) pn (tk, pr)).1 k n lz 8 ((cp_f co 576 fr), 0, (M.1, M.2.1, wi, 0))).2.2 0 0 256), 1)).1.2.1, (-1), (mt_f (n + 1 - 1) 1 ((mm_s (ra_f (tq_f (sm_b lz 8 * (k - 1)) pn (tk, pr)).1 k n lz 8 ((cp_f co 576 fr), 0, (M.1, M.2.1, wi, 0))).2.2 0 0 256), 1)).1.2.2.2).1)) (((mt_f (n + 1 - 1) 1 ((mm_s (ra_f (tq_f (sm_b lz 8 * (k - 1)) pn (tk, pr)).1 k n lz 8 ((cp_f co 576 fr), 0, (M.1, M.2.1, wi, 0))).2.2 0 0 256), 1)).1.1, (mt_f (n + 1 - 1) 1 ((mm_s (ra_f (tq_f (sm_b lz 8 * (k - 1)) pn (tk, pr)).1 k n lz 8 ((cp_f co 576 fr), 0, (M.1, M.2.1, wi, 0))).2.2 0 0 256), 1)).1.2.1, (-1), (mt_f (n + 1 - 1) 1 ((mm_s (ra_f (tq_f (sm_b lz 8 * (k - 1)) pn (tk, pr)).1 k n lz 8 ((cp_f co 576 fr), 0, (M.1, M.2.1, wi, 0))).2.2 0 0 256), 1)).1.2.2.2).2.2.1) (((mt_f (n + 1 - 1) 1 ((mm_s (ra_f (tq_f (sm_b lz 8 * (k - 1)) pn (tk, pr)).1 k n lz 8 ((cp_f co 576 fr), 0, (M.1, M.2.1, wi, 0))).2.2 0 0 256), 1)).1.1, (mt_f (n + 1 - 1) 1 ((mm_s (ra_f (tq_f (sm_b lz 8 * (k - 1)) pn (tk, pr)).1 k n lz 8 ((cp_f co 576 fr), 0, (M.1, M.2.1, wi, 0))).2.2 0 0 256), 1)).1.2.1, (-1), (mt_f (n + 1 - 1) 1 ((mm_s (ra_f (tq_f (sm_b lz 8 * (k - 1)) pn (tk, pr)).1 k n lz 8 ((cp_f co 576 fr), 0, (M.1, M.2.1, wi, 0))).2.2 0 0 256), 1)).1.2.2.2).2.2.2) ((-1)) (jb_f (mt_f (n + 1 - 1) 1 ((mm_s (ra_f (tq_f (sm_b lz 8 * (k - 1)) pn (tk, pr)).1 k n lz 8 ((cp_f co 576 fr), 0, (M.1, M.2.1, wi, 0))).2.2 0 0 256), 1)).1 2) (1) (nI (mt_f (n + 1 - 1) 1 ((mm_s (ra_f (tq_f (sm_b lz 8 * (k - 1)) pn (tk, pr)).1 k n lz 8 ((cp_f co 576 fr), 0, (M.1, M.2.1, wi, 0))).2.2 0 0 256), 1)).2) (nI n) (fi) (ln) (bx) (1000) ((tq_f (sm_b lz 8 * (k - 1)) pn (tk, pr)).2) (1000) ((tq_f (sm_b lz 8 * (k - 1)) pn (tk, pr)).1) (8) (le) (576) (cp_f (ra_f (tq_f (sm_b lz 8 * (k - 1)) pn (tk, pr)).1 k n lz 8 ((cp_f co 576 fr), 0, (M.1, M.2.1, wi, 0))).1 576 co) (576) ((ra_f (tq_f (sm_b lz 8 * (k - 1)) pn (tk, pr)).1 k n lz 8 ((cp_f co 576 fr), 0, (M.1, M.2.1, wi, 0))).1) (10) (em) (192) (((mt_f (n + 1 - 1) 1 ((mm_s (ra_f (tq_f (sm_b lz 8 * (k - 1)) pn (tk, pr)).1 k n lz 8 ((cp_f co 576 fr), 0, (M.1, M.2.1, wi, 0))).2.2 0 0 256), 1)).1.1, (mt_f (n + 1 - 1) 1 ((mm_s (ra_f (tq_f (sm_b lz 8 * (k - 1)) pn (tk, pr)).1 k n lz 8 ((cp_f co 576 fr), 0, (M.1, M.2.1, wi, 0))).2.2 0 0 256), 1)).1.2.1, (-1), (mt_f (n + 1 - 1) 1 ((mm_s (ra_f (tq_f (sm_b lz 8 * (k - 1)) pn (tk, pr)).1 k n lz 8 ((cp_f co 576 fr), 0, (M.1, M.2.1, wi, 0))).2.2 0 0 256), 1)).1.2.2.2).2.1) (10) (nb) (10) (su)) := hD
          exact sd_iret hx hb hr hlk hP hS (Nat.le_of_ble_eq_true rfl) (Nat.le_of_ble_eq_true rfl) (rfl) d_M_refresh_78
        · skip
          exact False.elim (by revert hc53; decide)
      · skip
        exact absurd (nI_le hp (by omega)) hc38
    · skip
      exact absurd hE3 hc16
