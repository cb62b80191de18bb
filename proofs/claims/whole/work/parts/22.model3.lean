def zs_f : Nat → (Nat → Int32) → Nat → Int32
  | 0, su => su
  | h + 1, su => upd (zs_f h su) h 0
theorem gf_Re {x : Nat → BitVec 8} {y : BitVec 8} {g h : Nat} {v : BitVec 8} (hg : h = g) : gf_R x y g v (h + 1) = gf_R x y g v h := if_pos hg
theorem gf_Rn {x : Nat → BitVec 8} {y : BitVec 8} {g h : Nat} {v : BitVec 8} (hg : ¬ h = g) : gf_R x y g v (h + 1) = gf_m (gf_R x y g v h) (gf_m (y ^^^ x h) (gf_i (x g ^^^ x h))) := if_neg hg
/-- helper g's term -/
def mv_f (cb xb : Nat → BitVec 8) (y : BitVec 8) (k g : Nat) : Int32 := bI (gf_R xb y g (gf_h cb (xb g) k 0#8) k)
/-- what the pieces of one term do: (bytes taken, the rest, the sums, the messages) -/
abbrev mb_T : Type := Nat × Int32 × (Nat → Int32) × mm_T
def mb_s (tk : Nat → Int32) (nx k : Nat) (nb : Nat → Int32) (g h : Nat) (S : mb_T) : mb_T :=
  (if h = k - 1 then S.1 else S.1 + 1, S.2.1 ^^^ (if h = k - 1 then S.2.1 else tk (nx + S.1)), upd S.2.2.1 h (S.2.2.1 h ^^^ (if h = k - 1 then S.2.1 else tk (nx + S.1))), mm_s S.2.2.2 (nb g) (nb h) (if h = k - 1 then S.2.1 else tk (nx + S.1)))
def mb_i (tk : Nat → Int32) (nx k : Nat) (nb : Nat → Int32) (g : Nat) : Nat → mb_T → mb_T
  | 0, S => S
  | h + 1, S => mb_s tk nx k nb g h (mb_i tk nx k nb g h S)
def mb_o (tk : Nat → Int32) (nx k : Nat) (nb : Nat → Int32) (tm : Nat → Int32) : Nat → Nat × (Nat → Int32) × mm_T → Nat × (Nat → Int32) × mm_T
  | 0, S => S
  | g + 1, S => ((mb_i tk nx k nb g k ((mb_o tk nx k nb tm g S).1, tm g, (mb_o tk nx k nb tm g S).2.1, (mb_o tk nx k nb tm g S).2.2)).1, (mb_i tk nx k nb g k ((mb_o tk nx k nb tm g S).1, tm g, (mb_o tk nx k nb tm g S).2.1, (mb_o tk nx k nb tm g S).2.2)).2.2.1, (mb_i tk nx k nb g k ((mb_o tk nx k nb tm g S).1, tm g, (mb_o tk nx k nb tm g S).2.1, (mb_o tk nx k nb tm g S).2.2)).2.2.2)
def mb_e (su nb : Nat → Int32) (x : Int32) : Nat → mm_T → mm_T
  | 0, M => M
  | h + 1, M => mm_s (mb_e su nb x h M) (nb h) x (su h)
theorem mb_i1 (tk : Nat → Int32) (nx k : Nat) (nb : Nat → Int32) (g h : Nat) (S : mb_T) (hk : h ≤ k) : (mb_i tk nx k nb g h S).1 = S.1 + min h (k - 1) := by
  induction h with
  | zero => show S.1 = S.1 + min 0 (k - 1); omega
  | succ h ih =>
    show (if h = k - 1 then (mb_i tk nx k nb g h S).1 else (mb_i tk nx k nb g h S).1 + 1) = S.1 + min (h + 1) (k - 1)
    by_cases h1 : h = k - 1
    · rw [if_pos h1, ih (by omega)]; omega
    · rw [if_neg h1, ih (by omega)]; omega
theorem mb_i2 (tk : Nat → Int32) (nx k : Nat) (nb : Nat → Int32) (g h : Nat) (S : mb_T) : (mb_i tk nx k nb g h S).2.2.2.1 ≤ S.2.2.2.1 + h := by
  induction h with
  | zero => exact Nat.le_refl _
  | succ h ih =>
    have := mm_b (mb_i tk nx k nb g h S).2.2.2 (nb g) (nb h) (if h = k - 1 then (mb_i tk nx k nb g h S).2.1 else tk (nx + (mb_i tk nx k nb g h S).1))
    show (mm_s (mb_i tk nx k nb g h S).2.2.2 (nb g) (nb h) (if h = k - 1 then (mb_i tk nx k nb g h S).2.1 else tk (nx + (mb_i tk nx k nb g h S).1))).1 ≤ _
    omega
theorem mb_o1 (tk : Nat → Int32) (nx k : Nat) (nb : Nat → Int32) (tm : Nat → Int32) (g : Nat) (su : Nat → Int32) (M : mm_T) : (mb_o tk nx k nb tm g (0, su, M)).1 = g * (k - 1) := by
  induction g with
  | zero => show 0 = 0 * (k - 1); omega
  | succ g ih =>
    have h := mb_i1 tk nx k nb g k ((mb_o tk nx k nb tm g (0, su, M)).1, tm g, (mb_o tk nx k nb tm g (0, su, M)).2.1, (mb_o tk nx k nb tm g (0, su, M)).2.2) (Nat.le_refl k)
    show (mb_i tk nx k nb g k ((mb_o tk nx k nb tm g (0, su, M)).1, tm g, (mb_o tk nx k nb tm g (0, su, M)).2.1, (mb_o tk nx k nb tm g (0, su, M)).2.2)).1 = _
    rw [h, Nat.add_mul, Nat.one_mul]
    show (mb_o tk nx k nb tm g (0, su, M)).1 + min k (k - 1) = _
    rw [ih]; omega
theorem mb_o2 (tk : Nat → Int32) (nx k : Nat) (nb : Nat → Int32) (tm : Nat → Int32) (g : Nat) (S : Nat × (Nat → Int32) × mm_T) : (mb_o tk nx k nb tm g S).2.2.1 ≤ S.2.2.1 + g * k := by
  induction g with
  | zero => show S.2.2.1 ≤ S.2.2.1 + 0 * k; omega
  | succ g ih =>
    have h := mb_i2 tk nx k nb g k ((mb_o tk nx k nb tm g S).1, tm g, (mb_o tk nx k nb tm g S).2.1, (mb_o tk nx k nb tm g S).2.2)
    show (mb_i tk nx k nb g k ((mb_o tk nx k nb tm g S).1, tm g, (mb_o tk nx k nb tm g S).2.1, (mb_o tk nx k nb tm g S).2.2)).2.2.2.1 ≤ _
    rw [Nat.add_mul, Nat.one_mul]
    dsimp only at h
    omega
theorem mb_e2 (su nb : Nat → Int32) (x : Int32) (h : Nat) (M : mm_T) : (mb_e su nb x h M).1 ≤ M.1 + h := by
  induction h with
  | zero => exact Nat.le_refl _
  | succ h ih =>
    have := mm_b (mb_e su nb x h M) (nb h) x (su h)
    show (mm_s (mb_e su nb x h M) (nb h) x (su h)).1 ≤ _
    omega
theorem d_M_build_0 : decode b_M_build 0 = .ok (.bipush 9, 2) := by decide +kernel
theorem d_M_build_2 : decode b_M_build 2 = .ok (.bipush 8, 2) := by decide +kernel
theorem d_M_build_4 : decode b_M_build 4 = .ok (.iload_n 1, 1) := by decide +kernel
theorem d_M_build_5 : decode b_M_build 5 = .ok (.imul, 1) := by decide +kernel
theorem d_M_build_6 : decode b_M_build 6 = .ok (.iload_n 2, 1) := by decide +kernel
theorem d_M_build_7 : decode b_M_build 7 = .ok (.iadd, 1) := by decide +kernel
theorem d_M_build_8 : decode b_M_build 8 = .ok (.imul, 1) := by decide +kernel
theorem d_M_build_9 : decode b_M_build 9 = .ok (.istore_n 3, 1) := by decide +kernel
theorem d_M_build_10 : decode b_M_build 10 = .ok (.iconst 0, 1) := by decide +kernel
theorem d_M_build_11 : decode b_M_build 11 = .ok (.istore 4, 2) := by decide +kernel
theorem d_M_build_13 : decode b_M_build 13 = .ok (.iload 4, 2) := by decide +kernel
theorem d_M_build_15 : decode b_M_build 15 = .ok (.aload_n 0, 1) := by decide +kernel
theorem d_M_build_16 : decode b_M_build 16 = .ok (.getfield 48, 3) := by decide +kernel
theorem d_M_build_19 : decode b_M_build 19 = .ok (.if_icmp .ge 17, 3) := by decide +kernel
theorem d_M_build_22 : decode b_M_build 22 = .ok (.aload_n 0, 1) := by decide +kernel
theorem d_M_build_23 : decode b_M_build 23 = .ok (.getfield 42, 3) := by decide +kernel
theorem d_M_build_26 : decode b_M_build 26 = .ok (.iload 4, 2) := by decide +kernel
theorem d_M_build_28 : decode b_M_build 28 = .ok (.iconst 0, 1) := by decide +kernel
theorem d_M_build_29 : decode b_M_build 29 = .ok (.iastore, 1) := by decide +kernel
theorem d_M_build_30 : decode b_M_build 30 = .ok (.iinc 4 1, 3) := by decide +kernel
theorem d_M_build_33 : decode b_M_build 33 = .ok (.goto (-20), 3) := by decide +kernel
theorem d_M_build_36 : decode b_M_build 36 = .ok (.iconst 0, 1) := by decide +kernel
theorem d_M_build_37 : decode b_M_build 37 = .ok (.istore 4, 2) := by decide +kernel
theorem d_M_build_39 : decode b_M_build 39 = .ok (.iload 4, 2) := by decide +kernel
theorem d_M_build_41 : decode b_M_build 41 = .ok (.aload_n 0, 1) := by decide +kernel
theorem d_M_build_42 : decode b_M_build 42 = .ok (.getfield 48, 3) := by decide +kernel
theorem d_M_build_45 : decode b_M_build 45 = .ok (.if_icmp .ge 178, 3) := by decide +kernel
theorem d_M_build_48 : decode b_M_build 48 = .ok (.aload_n 0, 1) := by decide +kernel
theorem d_M_build_49 : decode b_M_build 49 = .ok (.aload_n 0, 1) := by decide +kernel
theorem d_M_build_50 : decode b_M_build 50 = .ok (.getfield 19, 3) := by decide +kernel
theorem d_M_build_53 : decode b_M_build 53 = .ok (.iload_n 3, 1) := by decide +kernel
theorem d_M_build_54 : decode b_M_build 54 = .ok (.aload_n 0, 1) := by decide +kernel
theorem d_M_build_55 : decode b_M_build 55 = .ok (.getfield 39, 3) := by decide +kernel
theorem d_M_build_58 : decode b_M_build 58 = .ok (.iload 4, 2) := by decide +kernel
theorem d_M_build_60 : decode b_M_build 60 = .ok (.iaload, 1) := by decide +kernel
theorem d_M_build_61 : decode b_M_build 61 = .ok (.invokevirtual 77, 3) := by decide +kernel
theorem d_M_build_64 : decode b_M_build 64 = .ok (.istore 5, 2) := by decide +kernel
theorem d_M_build_66 : decode b_M_build 66 = .ok (.iconst 0, 1) := by decide +kernel
theorem d_M_build_67 : decode b_M_build 67 = .ok (.istore 6, 2) := by decide +kernel
theorem d_M_build_69 : decode b_M_build 69 = .ok (.iload 6, 2) := by decide +kernel
theorem d_M_build_71 : decode b_M_build 71 = .ok (.aload_n 0, 1) := by decide +kernel
theorem d_M_build_72 : decode b_M_build 72 = .ok (.getfield 48, 3) := by decide +kernel
theorem d_M_build_75 : decode b_M_build 75 = .ok (.if_icmp .ge 58, 3) := by decide +kernel
theorem d_M_build_78 : decode b_M_build 78 = .ok (.iload 6, 2) := by decide +kernel
theorem d_M_build_80 : decode b_M_build 80 = .ok (.iload 4, 2) := by decide +kernel
theorem d_M_build_82 : decode b_M_build 82 = .ok (.if_icmp .ne 8, 3) := by decide +kernel
theorem d_M_build_85 : decode b_M_build 85 = .ok (.iload 5, 2) := by decide +kernel
theorem d_M_build_87 : decode b_M_build 87 = .ok (.goto 38, 3) := by decide +kernel
theorem d_M_build_90 : decode b_M_build 90 = .ok (.iload 5, 2) := by decide +kernel
theorem d_M_build_92 : decode b_M_build 92 = .ok (.aload_n 0, 1) := by decide +kernel
theorem d_M_build_93 : decode b_M_build 93 = .ok (.getfield 85, 3) := by decide +kernel
theorem d_M_build_96 : decode b_M_build 96 = .ok (.aload_n 0, 1) := by decide +kernel
theorem d_M_build_97 : decode b_M_build 97 = .ok (.getfield 39, 3) := by decide +kernel
theorem d_M_build_100 : decode b_M_build 100 = .ok (.iload 6, 2) := by decide +kernel
theorem d_M_build_102 : decode b_M_build 102 = .ok (.iaload, 1) := by decide +kernel
theorem d_M_build_103 : decode b_M_build 103 = .ok (.ixor, 1) := by decide +kernel
theorem d_M_build_104 : decode b_M_build 104 = .ok (.aload_n 0, 1) := by decide +kernel
theorem d_M_build_105 : decode b_M_build 105 = .ok (.getfield 39, 3) := by decide +kernel
theorem d_M_build_108 : decode b_M_build 108 = .ok (.iload 4, 2) := by decide +kernel
theorem d_M_build_110 : decode b_M_build 110 = .ok (.iaload, 1) := by decide +kernel
theorem d_M_build_111 : decode b_M_build 111 = .ok (.aload_n 0, 1) := by decide +kernel
theorem d_M_build_112 : decode b_M_build 112 = .ok (.getfield 39, 3) := by decide +kernel
theorem d_M_build_115 : decode b_M_build 115 = .ok (.iload 6, 2) := by decide +kernel
theorem d_M_build_117 : decode b_M_build 117 = .ok (.iaload, 1) := by decide +kernel
theorem d_M_build_118 : decode b_M_build 118 = .ok (.ixor, 1) := by decide +kernel
theorem d_M_build_119 : decode b_M_build 119 = .ok (.invokestatic 88, 3) := by decide +kernel
theorem d_M_build_122 : decode b_M_build 122 = .ok (.invokestatic 54, 3) := by decide +kernel
theorem d_M_build_125 : decode b_M_build 125 = .ok (.istore 5, 2) := by decide +kernel
theorem d_M_build_127 : decode b_M_build 127 = .ok (.iinc 6 1, 3) := by decide +kernel
theorem d_M_build_130 : decode b_M_build 130 = .ok (.goto (-61), 3) := by decide +kernel
theorem d_M_build_133 : decode b_M_build 133 = .ok (.iconst 0, 1) := by decide +kernel
theorem d_M_build_134 : decode b_M_build 134 = .ok (.istore 6, 2) := by decide +kernel
theorem d_M_build_136 : decode b_M_build 136 = .ok (.iload 6, 2) := by decide +kernel
theorem d_M_build_138 : decode b_M_build 138 = .ok (.aload_n 0, 1) := by decide +kernel
theorem d_M_build_139 : decode b_M_build 139 = .ok (.getfield 48, 3) := by decide +kernel
theorem d_M_build_142 : decode b_M_build 142 = .ok (.if_icmp .ge 75, 3) := by decide +kernel
theorem d_M_build_145 : decode b_M_build 145 = .ok (.iload 6, 2) := by decide +kernel
theorem d_M_build_147 : decode b_M_build 147 = .ok (.aload_n 0, 1) := by decide +kernel
theorem d_M_build_148 : decode b_M_build 148 = .ok (.getfield 48, 3) := by decide +kernel
theorem d_M_build_151 : decode b_M_build 151 = .ok (.iconst 1, 1) := by decide +kernel
theorem d_M_build_152 : decode b_M_build 152 = .ok (.isub, 1) := by decide +kernel
theorem d_M_build_153 : decode b_M_build 153 = .ok (.if_icmp .ne 8, 3) := by decide +kernel
theorem d_M_build_156 : decode b_M_build 156 = .ok (.iload 5, 2) := by decide +kernel
theorem d_M_build_158 : decode b_M_build 158 = .ok (.goto 7, 3) := by decide +kernel
theorem d_M_build_161 : decode b_M_build 161 = .ok (.aload_n 0, 1) := by decide +kernel
theorem d_M_build_162 : decode b_M_build 162 = .ok (.invokevirtual 73, 3) := by decide +kernel
theorem d_M_build_165 : decode b_M_build 165 = .ok (.istore 7, 2) := by decide +kernel
theorem d_M_build_167 : decode b_M_build 167 = .ok (.iload 5, 2) := by decide +kernel
theorem d_M_build_169 : decode b_M_build 169 = .ok (.iload 7, 2) := by decide +kernel
theorem d_M_build_171 : decode b_M_build 171 = .ok (.ixor, 1) := by decide +kernel
theorem d_M_build_172 : decode b_M_build 172 = .ok (.istore 5, 2) := by decide +kernel
theorem d_M_build_174 : decode b_M_build 174 = .ok (.aload_n 0, 1) := by decide +kernel
theorem d_M_build_175 : decode b_M_build 175 = .ok (.getfield 42, 3) := by decide +kernel
theorem d_M_build_178 : decode b_M_build 178 = .ok (.iload 6, 2) := by decide +kernel
theorem d_M_build_180 : decode b_M_build 180 = .ok (.aload_n 0, 1) := by decide +kernel
theorem d_M_build_181 : decode b_M_build 181 = .ok (.getfield 42, 3) := by decide +kernel
theorem d_M_build_184 : decode b_M_build 184 = .ok (.iload 6, 2) := by decide +kernel
theorem d_M_build_186 : decode b_M_build 186 = .ok (.iaload, 1) := by decide +kernel
theorem d_M_build_187 : decode b_M_build 187 = .ok (.iload 7, 2) := by decide +kernel
theorem d_M_build_189 : decode b_M_build 189 = .ok (.ixor, 1) := by decide +kernel
theorem d_M_build_190 : decode b_M_build 190 = .ok (.iastore, 1) := by decide +kernel
theorem d_M_build_191 : decode b_M_build 191 = .ok (.aload_n 0, 1) := by decide +kernel
theorem d_M_build_192 : decode b_M_build 192 = .ok (.aload_n 0, 1) := by decide +kernel
theorem d_M_build_193 : decode b_M_build 193 = .ok (.getfield 39, 3) := by decide +kernel
theorem d_M_build_196 : decode b_M_build 196 = .ok (.iload 4, 2) := by decide +kernel
theorem d_M_build_198 : decode b_M_build 198 = .ok (.iaload, 1) := by decide +kernel
theorem d_M_build_199 : decode b_M_build 199 = .ok (.aload_n 0, 1) := by decide +kernel
theorem d_M_build_200 : decode b_M_build 200 = .ok (.getfield 39, 3) := by decide +kernel
theorem d_M_build_203 : decode b_M_build 203 = .ok (.iload 6, 2) := by decide +kernel
theorem d_M_build_205 : decode b_M_build 205 = .ok (.iaload, 1) := by decide +kernel
theorem d_M_build_206 : decode b_M_build 206 = .ok (.iload 7, 2) := by decide +kernel
theorem d_M_build_208 : decode b_M_build 208 = .ok (.invokevirtual 81, 3) := by decide +kernel
theorem d_M_build_211 : decode b_M_build 211 = .ok (.iinc 6 1, 3) := by decide +kernel
theorem d_M_build_214 : decode b_M_build 214 = .ok (.goto (-78), 3) := by decide +kernel
theorem d_M_build_217 : decode b_M_build 217 = .ok (.iinc 4 1, 3) := by decide +kernel
theorem d_M_build_220 : decode b_M_build 220 = .ok (.goto (-181), 3) := by decide +kernel
theorem d_M_build_223 : decode b_M_build 223 = .ok (.iconst 0, 1) := by decide +kernel
theorem d_M_build_224 : decode b_M_build 224 = .ok (.istore 4, 2) := by decide +kernel
theorem d_M_build_226 : decode b_M_build 226 = .ok (.iload 4, 2) := by decide +kernel
theorem d_M_build_228 : decode b_M_build 228 = .ok (.aload_n 0, 1) := by decide +kernel
theorem d_M_build_229 : decode b_M_build 229 = .ok (.getfield 48, 3) := by decide +kernel
theorem d_M_build_232 : decode b_M_build 232 = .ok (.if_icmp .ge 31, 3) := by decide +kernel
theorem d_M_build_235 : decode b_M_build 235 = .ok (.aload_n 0, 1) := by decide +kernel
theorem d_M_build_236 : decode b_M_build 236 = .ok (.aload_n 0, 1) := by decide +kernel
theorem d_M_build_237 : decode b_M_build 237 = .ok (.getfield 39, 3) := by decide +kernel
theorem d_M_build_240 : decode b_M_build 240 = .ok (.iload 4, 2) := by decide +kernel
theorem d_M_build_242 : decode b_M_build 242 = .ok (.iaload, 1) := by decide +kernel
theorem d_M_build_243 : decode b_M_build 243 = .ok (.aload_n 0, 1) := by decide +kernel
theorem d_M_build_244 : decode b_M_build 244 = .ok (.getfield 85, 3) := by decide +kernel
theorem d_M_build_247 : decode b_M_build 247 = .ok (.aload_n 0, 1) := by decide +kernel
theorem d_M_build_248 : decode b_M_build 248 = .ok (.getfield 42, 3) := by decide +kernel
theorem d_M_build_251 : decode b_M_build 251 = .ok (.iload 4, 2) := by decide +kernel
theorem d_M_build_253 : decode b_M_build 253 = .ok (.iaload, 1) := by decide +kernel
theorem d_M_build_254 : decode b_M_build 254 = .ok (.invokevirtual 81, 3) := by decide +kernel
theorem d_M_build_257 : decode b_M_build 257 = .ok (.iinc 4 1, 3) := by decide +kernel
theorem d_M_build_260 : decode b_M_build 260 = .ok (.goto (-34), 3) := by decide +kernel
theorem d_M_build_263 : decode b_M_build 263 = .ok (.return_, 1) := by decide +kernel
set_option maxHeartbeats 4000000 in
set_option maxRecDepth 100000 in
theorem c_M_build (l : Launch) (D : va_G) (cI cZ cQ : ClassId) (qm : Nat) (mp : Nat) (mt : Nat) (ml : Nat) (mc : Nat) (mf : Nat) (me : Nat) (mg : Nat) (mh : Nat) (mu : Nat) (k : Nat) (n : Nat) (pn : Nat) (nx : Nat) (cd : Int32) (ep : Int32) (M : mm_T) (wi : Int32) (jb : Int32) (fp : Int32) (tf : Int32) (tt : Int32) (fi : Int32) (ln : Int32) (pr : Nat → Int32) (tk : Nat → Int32) (le : Nat → Int32) (co : Nat → Int32) (fr : Nat → Int32) (em : Nat → Int32) (nb : Nat → Int32) (su : Nat → Int32) (f : Nat) (b : Nat) (cb : Nat → BitVec 8) (xb : Nat → BitVec 8) (y : BitVec 8) (hk : k ≤ 9) (hn : n ≤ 9) (hf8 : f < 8) (hb8 : b < 8) (hk1 : 1 ≤ k) (hnx : nx + k * (k - 1) ≤ 1000) (hco : ∀ j, j < k → co (9 * (8 * f + b) + j) = bI (cb j)) (hxb : ∀ j, j < k → nb j = bI (xb j)) (hxd : ∀ i j, i < k → j < k → xb i = xb j → i = j) (hT : M.1 + (k * k + k) < 2 ^ 31) : sd_V l D (tyL cI cZ cQ) y_M_build b_M_build 8 ({ frames := 2, cells := 0, slots := 0, locals := 48 }) [.ref qm, .int (nI f), .int (nI b)] (mW cI cZ qm mp mt ml mc mf me mg mh mu (cd) (nI k) (nI n) (nI (pn)) (nI (nx)) (ep) (nI (M.1)) (M.2.2.1) (M.2.2.2) (wi) (jb) (fp) (tf) (tt) (fi) (ln) (bI y) (1000) (pr) (1000) (tk) (8) (le) (576) (co) (576) (fr) (10) (em) (192) (M.2.1) (10) (nb) (10) (su)) (mW cI cZ qm mp mt ml mc mf me mg mh mu (cd) (nI k) (nI n) (nI (pn)) (nI (nx + (mb_o tk nx k nb (mv_f cb xb y k) k (0, zs_f k su, M)).1)) (ep) (nI ((mb_e (mb_o tk nx k nb (mv_f cb xb y k) k (0, zs_f k su, M)).2.1 nb (bI y) k (mb_o tk nx k nb (mv_f cb xb y k) k (0, zs_f k su, M)).2.2).1)) ((mb_e (mb_o tk nx k nb (mv_f cb xb y k) k (0, zs_f k su, M)).2.1 nb (bI y) k (mb_o tk nx k nb (mv_f cb xb y k) k (0, zs_f k su, M)).2.2).2.2.1) ((mb_e (mb_o tk nx k nb (mv_f cb xb y k) k (0, zs_f k su, M)).2.1 nb (bI y) k (mb_o tk nx k nb (mv_f cb xb y k) k (0, zs_f k su, M)).2.2).2.2.2) (wi) (jb) (fp) (tf) (tt) (fi) (ln) (bI y) (1000) (pr) (1000) (tk) (8) (le) (576) (co) (576) (fr) (10) (em) (192) ((mb_e (mb_o tk nx k nb (mv_f cb xb y k) k (0, zs_f k su, M)).2.1 nb (bI y) k (mb_o tk nx k nb (mv_f cb xb y k) k (0, zs_f k su, M)).2.2).2.1) (10) (nb) (10) ((mb_o tk nx k nb (mv_f cb xb y k) k (0, zs_f k su, M)).2.1)) := by
  refine sd_ofV (by decide) (Nat.le_of_ble_eq_true rfl) ?_
  intro p e s m below meth c A ls hx hb hr hml hlk hown hts hK hP hD hA hS hl
  have hl : lv_has ls 8 [(0, .ref qm), (1, .int (nI f)), (2, .int (nI b))] := hl
  refine lv_bipush (v := nI 9) hx hb d_M_build_0 (by decide) ?_
  refine lv_bipush (v := nI 8) hx hb d_M_build_2 (by decide) ?_
  refine lv_iload_n hx hb d_M_build_4 rfl (lv_at hl 1 rfl) ?_
  refine lv_imul hx hb d_M_build_5 ?_
  refine sd_top (y := nI (8 * f)) (pk_mul _ _) ?_
  refine lv_iload_n hx hb d_M_build_6 rfl (lv_at hl 2 rfl) ?_
  refine lv_iadd hx hb d_M_build_7 ?_
  refine sd_top (y := nI (8 * f + b)) (nI_add _ _) ?_
  refine lv_imul hx hb d_M_build_8 ?_
  refine sd_top (y := nI (9 * (8 * f + b))) (pk_mul _ _) ?_
  refine lv_istore_n hx hb d_M_build_9 rfl hl (Nat.le_of_ble_eq_true rfl) (lv' := [(3, .int (nI (9 * (8 * f + b)))), (0, .ref qm), (1, .int (nI f)), (2, .int (nI b))]) rfl (fun ls hl => ?_)
  refine lv_iconst (v := 0) hx hb d_M_build_10 (by decide) ?_
  refine sd_top (y := nI 0) (rfl) ?_
  refine lv_istore hx hb d_M_build_11 hl (Nat.le_of_ble_eq_true rfl) (lv' := [(4, .int (nI 0)), (3, .int (nI (9 * (8 * f + b)))), (0, .ref qm), (1, .int (nI f)), (2, .int (nI b))]) rfl (fun ls hl => ?_)
  have hl := lv_sub hl (l' := [(0, .ref qm), (1, .int (nI f)), (2, .int (nI b)), (3, .int (nI (9 * (8 * f + b)))), (4, .int (nI 0))]) [2, 3, 4, 1, 0] rfl
  have loop13 : ∀ (d : Nat) (h : Nat) (ls : Array Slot) (H : Heap) (locs : List Loc), k - h = d → (h ≤ k) → lv_has ls 8 [(0, .ref qm), (1, .int (nI f)), (2, .int (nI b)), (3, .int (nI (9 * (8 * f + b)))), (4, .int (nI (h)))] → va_P D cls (mW cI cZ qm mp mt ml mc mf me mg mh mu (cd) (nI k) (nI n) (nI (pn)) (nI (nx)) (ep) (nI (M.1)) (M.2.2.1) (M.2.2.2) (wi) (jb) (fp) (tf) (tt) (fi) (ln) (bI y) (1000) (pr) (1000) (tk) (8) (le) (576) (co) (576) (fr) (10) (em) (192) (M.2.1) (10) (nb) (10) (zs_f h su)) H → va_D A (mW cI cZ qm mp mt ml mc mf me mg mh mu (cd) (nI k) (nI n) (nI (pn)) (nI (nx)) (ep) (nI (M.1)) (M.2.2.1) (M.2.2.2) (wi) (jb) (fp) (tf) (tt) (fi) (ln) (bI y) (1000) (pr) (1000) (tk) (8) (le) (576) (co) (576) (fr) (10) (em) (192) (M.2.1) (10) (nb) (10) (zs_f h su)) → va_S A s.heap H locs → W p l e ({ frames := 2, cells := 0, slots := 0, locals := 48 }) s m ([.ref qm, .int (nI f), .int (nI b)] : List Value).toArray below meth c H locs 0 0 (MQ below (sd_qv D (mW cI cZ qm mp mt ml mc mf me mg mh mu (cd) (nI k) (nI n) (nI (pn)) (nI (nx + (mb_o tk nx k nb (mv_f cb xb y k) k (0, zs_f k su, M)).1)) (ep) (nI ((mb_e (mb_o tk nx k nb (mv_f cb xb y k) k (0, zs_f k su, M)).2.1 nb (bI y) k (mb_o tk nx k nb (mv_f cb xb y k) k (0, zs_f k su, M)).2.2).1)) ((mb_e (mb_o tk nx k nb (mv_f cb xb y k) k (0, zs_f k su, M)).2.1 nb (bI y) k (mb_o tk nx k nb (mv_f cb xb y k) k (0, zs_f k su, M)).2.2).2.2.1) ((mb_e (mb_o tk nx k nb (mv_f cb xb y k) k (0, zs_f k su, M)).2.1 nb (bI y) k (mb_o tk nx k nb (mv_f cb xb y k) k (0, zs_f k su, M)).2.2).2.2.2) (wi) (jb) (fp) (tf) (tt) (fi) (ln) (bI y) (1000) (pr) (1000) (tk) (8) (le) (576) (co) (576) (fr) (10) (em) (192) ((mb_e (mb_o tk nx k nb (mv_f cb xb y k) k (0, zs_f k su, M)).2.1 nb (bI y) k (mb_o tk nx k nb (mv_f cb xb y k) k (0, zs_f k su, M)).2.2).2.1) (10) (nb) (10) ((mb_o tk nx k nb (mv_f cb xb y k) k (0, zs_f k su, M)).2.1)) A) ([.ref qm, .int (nI f), .int (nI b)] : List Value).toArray s 0 0 A) (F0 m 13 ls []) := by
    intro d
    induction d using Nat.strongRecOn with
    | _ d ih13 =>
    intro h ls H locs hd hh9 hl hP hD hS
    subst hd
    refine lv_iload hx hb d_M_build_13 (lv_at hl 4 rfl) ?_
    refine lv_aload_n hx hb d_M_build_15 rfl (lv_at hl 0 rfl) ?_
    refine va_get (D := D) (ci := 5) (v := .int (nI k)) (C := R_M) (T := F_M) (N := 26) hx hb hts wl_M hown hK hP 0 rfl rfl 1 (by decide) (hts _ wf_M_48) (fun _ h9 => h9) rfl d_M_build_16 ?_
    refine lv_icmp_ge (tgt := 36) hx hb d_M_build_19 rfl (fun hc19 => ?_) (fun hc19 => ?_)
    · skip
      rw [nI_leI (by omega) (by omega)] at hc19
      have hhk : k = h := by omega
      subst hhk
      refine lv_iconst (v := 0) hx hb d_M_build_36 (by decide) ?_
      refine sd_top (y := nI 0) (rfl) ?_
      refine lv_istore hx hb d_M_build_37 hl (Nat.le_of_ble_eq_true rfl) (lv' := [(4, .int (nI 0)), (0, .ref qm), (1, .int (nI f)), (2, .int (nI b)), (3, .int (nI (9 * (8 * f + b))))]) rfl (fun ls hl => ?_)
      have hl := lv_sub hl (l' := [(0, .ref qm), (1, .int (nI f)), (2, .int (nI b)), (3, .int (nI (9 * (8 * f + b)))), (4, .int (nI 0))]) [1, 2, 3, 4, 0] rfl
      have loop39 : ∀ (d : Nat) (g : Nat) (ls : Array Slot) (H : Heap) (locs : List Loc), k - g = d → (g ≤ k) → lv_has ls 8 [(0, .ref qm), (1, .int (nI f)), (2, .int (nI b)), (3, .int (nI (9 * (8 * f + b)))), (4, .int (nI (g)))] → va_P D cls (mW cI cZ qm mp mt ml mc mf me mg mh mu (cd) (nI k) (nI n) (nI (pn)) (nI (nx + (mb_o tk nx k nb (mv_f cb xb y k) g (0, zs_f k su, M)).1)) (ep) (nI ((mb_o tk nx k nb (mv_f cb xb y k) g (0, zs_f k su, M)).2.2.1)) ((mb_o tk nx k nb (mv_f cb xb y k) g (0, zs_f k su, M)).2.2.2.2.1) ((mb_o tk nx k nb (mv_f cb xb y k) g (0, zs_f k su, M)).2.2.2.2.2) (wi) (jb) (fp) (tf) (tt) (fi) (ln) (bI y) (1000) (pr) (1000) (tk) (8) (le) (576) (co) (576) (fr) (10) (em) (192) ((mb_o tk nx k nb (mv_f cb xb y k) g (0, zs_f k su, M)).2.2.2.1) (10) (nb) (10) ((mb_o tk nx k nb (mv_f cb xb y k) g (0, zs_f k su, M)).2.1)) H → va_D A (mW cI cZ qm mp mt ml mc mf me mg mh mu (cd) (nI k) (nI n) (nI (pn)) (nI (nx + (mb_o tk nx k nb (mv_f cb xb y k) g (0, zs_f k su, M)).1)) (ep) (nI ((mb_o tk nx k nb (mv_f cb xb y k) g (0, zs_f k su, M)).2.2.1)) ((mb_o tk nx k nb (mv_f cb xb y k) g (0, zs_f k su, M)).2.2.2.2.1) ((mb_o tk nx k nb (mv_f cb xb y k) g (0, zs_f k su, M)).2.2.2.2.2) (wi) (jb) (fp) (tf) (tt) (fi) (ln) (bI y) (1000) (pr) (1000) (tk) (8) (le) (576) (co) (576) (fr) (10) (em) (192) ((mb_o tk nx k nb (mv_f cb xb y k) g (0, zs_f k su, M)).2.2.2.1) (10) (nb) (10) ((mb_o tk nx k nb (mv_f cb xb y k) g (0, zs_f k su, M)).2.1)) → va_S A s.heap H locs → W p l e ({ frames := 2, cells := 0, slots := 0, locals := 48 }) s m ([.ref qm, .int (nI f), .int (nI b)] : List Value).toArray below meth c H locs 0 0 (MQ below (sd_qv D (mW cI cZ qm mp mt ml mc mf me mg mh mu (cd) (nI k) (nI n) (nI (pn)) (nI (nx + (mb_o tk nx k nb (mv_f cb xb y k) k (0, zs_f k su, M)).1)) (ep) (nI ((mb_e (mb_o tk nx k nb (mv_f cb xb y k) k (0, zs_f k su, M)).2.1 nb (bI y) k (mb_o tk nx k nb (mv_f cb xb y k) k (0, zs_f k su, M)).2.2).1)) ((mb_e (mb_o tk nx k nb (mv_f cb xb y k) k (0, zs_f k su, M)).2.1 nb (bI y) k (mb_o tk nx k nb (mv_f cb xb y k) k (0, zs_f k su, M)).2.2).2.2.1) ((mb_e (mb_o tk nx k nb (mv_f cb xb y k) k (0, zs_f k su, M)).2.1 nb (bI y) k (mb_o tk nx k nb (mv_f cb xb y k) k (0, zs_f k su, M)).2.2).2.2.2) (wi) (jb) (fp) (tf) (tt) (fi) (ln) (bI y) (1000) (pr) (1000) (tk) (8) (le) (576) (co) (576) (fr) (10) (em) (192) ((mb_e (mb_o tk nx k nb (mv_f cb xb y k) k (0, zs_f k su, M)).2.1 nb (bI y) k (mb_o tk nx k nb (mv_f cb xb y k) k (0, zs_f k su, M)).2.2).2.1) (10) (nb) (10) ((mb_o tk nx k nb (mv_f cb xb y k) k (0, zs_f k su, M)).2.1)) A) ([.ref qm, .int (nI f), .int (nI b)] : List Value).toArray s 0 0 A) (F0 m 39 ls []) := by
        intro d
        induction d using Nat.strongRecOn with
        | _ d ih39 =>
        intro g ls H locs hd hg hl hP hD hS
        subst hd
        refine lv_iload hx hb d_M_build_39 (lv_at hl 4 rfl) ?_
        refine lv_aload_n hx hb d_M_build_41 rfl (lv_at hl 0 rfl) ?_
        refine va_get (D := D) (ci := 5) (v := .int (nI k)) (C := R_M) (T := F_M) (N := 26) hx hb hts wl_M hown hK hP 0 rfl rfl 1 (by decide) (hts _ wf_M_48) (fun _ h9 => h9) rfl d_M_build_42 ?_
        refine lv_icmp_ge (tgt := 223) hx hb d_M_build_45 rfl (fun hc45 => ?_) (fun hc45 => ?_)
        · skip
          rw [nI_leI (by omega) (by omega)] at hc45
          have hgk : k = g := by omega
          subst hgk
          refine lv_iconst (v := 0) hx hb d_M_build_223 (by decide) ?_
          refine sd_top (y := nI 0) (rfl) ?_
          refine lv_istore hx hb d_M_build_224 hl (Nat.le_of_ble_eq_true rfl) (lv' := [(4, .int (nI 0)), (0, .ref qm), (1, .int (nI f)), (2, .int (nI b)), (3, .int (nI (9 * (8 * f + b))))]) rfl (fun ls hl => ?_)
          have hl := lv_sub hl (l' := [(0, .ref qm), (1, .int (nI f)), (2, .int (nI b)), (3, .int (nI (9 * (8 * f + b)))), (4, .int (nI 0))]) [1, 2, 3, 4, 0] rfl
          have loop226 : ∀ (d : Nat) (h : Nat) (ls : Array Slot) (H : Heap) (locs : List Loc), k - h = d → (h ≤ k) → lv_has ls 8 [(0, .ref qm), (1, .int (nI f)), (2, .int (nI b)), (3, .int (nI (9 * (8 * f + b)))), (4, .int (nI (h)))] → va_P D cls (mW cI cZ qm mp mt ml mc mf me mg mh mu (cd) (nI k) (nI n) (nI (pn)) (nI (nx + (mb_o tk nx k nb (mv_f cb xb y k) k (0, zs_f k su, M)).1)) (ep) (nI ((mb_e (mb_o tk nx k nb (mv_f cb xb y k) k (0, zs_f k su, M)).2.1 nb (bI y) h (mb_o tk nx k nb (mv_f cb xb y k) k (0, zs_f k su, M)).2.2).1)) ((mb_e (mb_o tk nx k nb (mv_f cb xb y k) k (0, zs_f k su, M)).2.1 nb (bI y) h (mb_o tk nx k nb (mv_f cb xb y k) k (0, zs_f k su, M)).2.2).2.2.1) ((mb_e (mb_o tk nx k nb (mv_f cb xb y k) k (0, zs_f k su, M)).2.1 nb (bI y) h (mb_o tk nx k nb (mv_f cb xb y k) k (0, zs_f k su, M)).2.2).2.2.2) (wi) (jb) (fp) (tf) (tt) (fi) (ln) (bI y) (1000) (pr) (1000) (tk) (8) (le) (576) (co) (576) (fr) (10) (em) (192) ((mb_e (mb_o tk nx k nb (mv_f cb xb y k) k (0, zs_f k su, M)).2.1 nb (bI y) h (mb_o tk nx k nb (mv_f cb xb y k) k (0, zs_f k su, M)).2.2).2.1) (10) (nb) (10) ((mb_o tk nx k nb (mv_f cb xb y k) k (0, zs_f k su, M)).2.1)) H → va_D A (mW cI cZ qm mp mt ml mc mf me mg mh mu (cd) (nI k) (nI n) (nI (pn)) (nI (nx + (mb_o tk nx k nb (mv_f cb xb y k) k (0, zs_f k su, M)).1)) (ep) (nI ((mb_e (mb_o tk nx k nb (mv_f cb xb y k) k (0, zs_f k su, M)).2.1 nb (bI y) h (mb_o tk nx k nb (mv_f cb xb y k) k (0, zs_f k su, M)).2.2).1)) ((mb_e (mb_o tk nx k nb (mv_f cb xb y k) k (0, zs_f k su, M)).2.1 nb (bI y) h (mb_o tk nx k nb (mv_f cb xb y k) k (0, zs_f k su, M)).2.2).2.2.1) ((mb_e (mb_o tk nx k nb (mv_f cb xb y k) k (0, zs_f k su, M)).2.1 nb (bI y) h (mb_o tk nx k nb (mv_f cb xb y k) k (0, zs_f k su, M)).2.2).2.2.2) (wi) (jb) (fp) (tf) (tt) (fi) (ln) (bI y) (1000) (pr) (1000) (tk) (8) (le) (576) (co) (576) (fr) (10) (em) (192) ((mb_e (mb_o tk nx k nb (mv_f cb xb y k) k (0, zs_f k su, M)).2.1 nb (bI y) h (mb_o tk nx k nb (mv_f cb xb y k) k (0, zs_f k su, M)).2.2).2.1) (10) (nb) (10) ((mb_o tk nx k nb (mv_f cb xb y k) k (0, zs_f k su, M)).2.1)) → va_S A s.heap H locs → W p l e ({ frames := 2, cells := 0, slots := 0, locals := 48 }) s m ([.ref qm, .int (nI f), .int (nI b)] : List Value).toArray below meth c H locs 0 0 (MQ below (sd_qv D (mW cI cZ qm mp mt ml mc mf me mg mh mu (cd) (nI k) (nI n) (nI (pn)) (nI (nx + (mb_o tk nx k nb (mv_f cb xb y k) k (0, zs_f k su, M)).1)) (ep) (nI ((mb_e (mb_o tk nx k nb (mv_f cb xb y k) k (0, zs_f k su, M)).2.1 nb (bI y) k (mb_o tk nx k nb (mv_f cb xb y k) k (0, zs_f k su, M)).2.2).1)) ((mb_e (mb_o tk nx k nb (mv_f cb xb y k) k (0, zs_f k su, M)).2.1 nb (bI y) k (mb_o tk nx k nb (mv_f cb xb y k) k (0, zs_f k su, M)).2.2).2.2.1) ((mb_e (mb_o tk nx k nb (mv_f cb xb y k) k (0, zs_f k su, M)).2.1 nb (bI y) k (mb_o tk nx k nb (mv_f cb xb y k) k (0, zs_f k su, M)).2.2).2.2.2) (wi) (jb) (fp) (tf) (tt) (fi) (ln) (bI y) (1000) (pr) (1000) (tk) (8) (le) (576) (co) (576) (fr) (10) (em) (192) ((mb_e (mb_o tk nx k nb (mv_f cb xb y k) k (0, zs_f k su, M)).2.1 nb (bI y) k (mb_o tk nx k nb (mv_f cb xb y k) k (0, zs_f k su, M)).2.2).2.1) (10) (nb) (10) ((mb_o tk nx k nb (mv_f cb xb y k) k (0, zs_f k su, M)).2.1)) A) ([.ref qm, .int (nI f), .int (nI b)] : List Value).toArray s 0 0 A) (F0 m 226 ls []) := by
            intro d
            induction d using Nat.strongRecOn with
            | _ d ih226 =>
            intro h ls H locs hd hh9 hl hP hD hS
            subst hd
            refine lv_iload hx hb d_M_build_226 (lv_at hl 4 rfl) ?_
            refine lv_aload_n hx hb d_M_build_228 rfl (lv_at hl 0 rfl) ?_
            refine va_get (D := D) (ci := 5) (v := .int (nI k)) (C := R_M) (T := F_M) (N := 26) hx hb hts wl_M hown hK hP 0 rfl rfl 1 (by decide) (hts _ wf_M_48) (fun _ h9 => h9) rfl d_M_build_229 ?_
            refine lv_icmp_ge (tgt := 263) hx hb d_M_build_232 rfl (fun hc232 => ?_) (fun hc232 => ?_)
            · skip
              rw [nI_leI (by omega) (by omega)] at hc232
              have hhk : k = h := by omega
              subst hhk
              exact sd_vret hx hb hr hlk hP hS (Nat.le_of_ble_eq_true rfl) (Nat.le_of_ble_eq_true rfl) d_M_build_263
            · skip
              rw [nI_leI (by omega) (by omega)] at hc232
              have hO2 : (mb_o tk nx k nb (mv_f cb xb y k) k (0, zs_f k su, M)).2.2.1 ≤ M.1 + k * k := mb_o2 tk nx k nb (mv_f cb xb y k) k (0, zs_f k su, M)
              have hE := mb_e2 (mb_o tk nx k nb (mv_f cb xb y k) k (0, zs_f k su, M)).2.1 nb (bI y) h (mb_o tk nx k nb (mv_f cb xb y k) k (0, zs_f k su, M)).2.2
              have hTe : (mb_e (mb_o tk nx k nb (mv_f cb xb y k) k (0, zs_f k su, M)).2.1 nb (bI y) h (mb_o tk nx k nb (mv_f cb xb y k) k (0, zs_f k su, M)).2.2).1 < 2 ^ 31 := by omega
              refine lv_aload_n hx hb d_M_build_235 rfl (lv_at hl 0 rfl) ?_
              refine lv_aload_n hx hb d_M_build_236 rfl (lv_at hl 0 rfl) ?_
              refine va_get (D := D) (ci := 5) (v := .ref mh) (C := R_M) (T := F_M) (N := 26) hx hb hts wl_M hown hK hP 0 rfl rfl 24 (by decide) (hts _ wf_M_39) (fun _ h9 => h9) rfl d_M_build_237 ?_
              refine lv_iload hx hb d_M_build_240 (lv_at hl 4 rfl) ?_
              refine sd_iald (j := h) hx hb hK hP 8 0 rfl rfl (by omega) (by omega) d_M_build_242 ?_
              refine lv_aload_n hx hb d_M_build_243 rfl (lv_at hl 0 rfl) ?_
              refine va_get (D := D) (ci := 5) (v := .int (bI y)) (C := R_M) (T := F_M) (N := 26) hx hb hts wl_M hown hK hP 0 rfl rfl 23 (by decide) (hts _ wf_M_85) (fun _ h9 => h9) rfl d_M_build_244 ?_
              refine lv_aload_n hx hb d_M_build_247 rfl (lv_at hl 0 rfl) ?_
              refine va_get (D := D) (ci := 5) (v := .ref mu) (C := R_M) (T := F_M) (N := 26) hx hb hts wl_M hown hK hP 0 rfl rfl 25 (by decide) (hts _ wf_M_42) (fun _ h9 => h9) rfl d_M_build_248 ?_
              refine lv_iload hx hb d_M_build_251 (lv_at hl 4 rfl) ?_
              refine sd_iald (j := h) hx hb hK hP 9 0 rfl rfl (by omega) (by omega) d_M_build_253 ?_
              refine sd_allVV (As := [.int (nb (h)), .int (bI y), .int ((mb_o tk nx k nb (mv_f cb xb y k) k (0, zs_f k su, M)).2.1 (h))]) (rest := []) (w1 := (mW cI cZ qm mp mt ml mc mf me mg mh mu (cd) (nI k) (nI n) (nI (pn)) (nI ((nx + (mb_o tk nx k nb (mv_f cb xb y k) k (0, zs_f k su, M)).1))) (ep) (nI ((mm_s (mb_e (mb_o tk nx k nb (mv_f cb xb y k) k (0, zs_f k su, M)).2.1 nb (bI y) h (mb_o tk nx k nb (mv_f cb xb y k) k (0, zs_f k su, M)).2.2) (nb (h)) (bI y) ((mb_o tk nx k nb (mv_f cb xb y k) k (0, zs_f k su, M)).2.1 (h))).1)) ((mm_s (mb_e (mb_o tk nx k nb (mv_f cb xb y k) k (0, zs_f k su, M)).2.1 nb (bI y) h (mb_o tk nx k nb (mv_f cb xb y k) k (0, zs_f k su, M)).2.2) (nb (h)) (bI y) ((mb_o tk nx k nb (mv_f cb xb y k) k (0, zs_f k su, M)).2.1 (h))).2.2.1) ((mm_s (mb_e (mb_o tk nx k nb (mv_f cb xb y k) k (0, zs_f k su, M)).2.1 nb (bI y) h (mb_o tk nx k nb (mv_f cb xb y k) k (0, zs_f k su, M)).2.2) (nb (h)) (bI y) ((mb_o tk nx k nb (mv_f cb xb y k) k (0, zs_f k su, M)).2.1 (h))).2.2.2) (wi) (jb) (fp) (tf) (tt) (fi) (ln) (bI y) (1000) (pr) (1000) (tk) (8) (le) (576) (co) (576) (fr) (10) (em) (192) ((mm_s (mb_e (mb_o tk nx k nb (mv_f cb xb y k) k (0, zs_f k su, M)).2.1 nb (bI y) h (mb_o tk nx k nb (mv_f cb xb y k) k (0, zs_f k su, M)).2.2) (nb (h)) (bI y) ((mb_o tk nx k nb (mv_f cb xb y k) k (0, zs_f k su, M)).2.1 (h))).2.1) (10) (nb) (10) ((mb_o tk nx k nb (mv_f cb xb y k) k (0, zs_f k su, M)).2.1))) (c_M_send l D cI cZ cQ (qm) (mp) (mt) (ml) (mc) (mf) (me) (mg) (mh) (mu) (k) (n) (pn) (nx + (mb_o tk nx k nb (mv_f cb xb y k) k (0, zs_f k su, M)).1) (cd) (ep) ((mb_e (mb_o tk nx k nb (mv_f cb xb y k) k (0, zs_f k su, M)).2.1 nb (bI y) h (mb_o tk nx k nb (mv_f cb xb y k) k (0, zs_f k su, M)).2.2)) (wi) (jb) (fp) (tf) (tt) (fi) (ln) (bI y) (pr) (tk) (le) (co) (fr) (em) (nb) ((mb_o tk nx k nb (mv_f cb xb y k) k (0, zs_f k su, M)).2.1) (nb (h)) (bI y) ((mb_o tk nx k nb (mv_f cb xb y k) k (0, zs_f k su, M)).2.1 (h)) (hk) (hn) (hTe)) ⟨wc_M_send, wm_M_81, wi_M, by decide, by decide, show (parseMethodDescriptor y_M_send.desc).map (fun d => d.parameters.length) = some 3 by decide +kernel⟩ wo_M_send wz_M_send hx hb hml hown hts hl.1 ⟨Nat.le_of_ble_eq_true rfl, Nat.le_of_ble_eq_true rfl⟩ ⟨Nat.le_of_ble_eq_true rfl, Nat.le_of_ble_eq_true rfl⟩ hK hP hD hS hA (rfl) (q0 := 0) rfl rfl rfl (Nat.le_of_ble_eq_true rfl) d_M_build_254 (fun H locs hP hD hS => ?_)
              have hP : va_P D cls (mW cI cZ qm mp mt ml mc mf me mg mh mu (cd) (nI k) (nI n) (nI (pn)) (nI ((nx + (mb_o tk nx k nb (mv_f cb xb y k) k (0, zs_f k su, M)).1))) (ep) (nI ((mm_s (mb_e (mb_o tk nx k nb (mv_f cb xb y k) k (0, zs_f k su, M)).2.1 nb (bI y) h (mb_o tk nx k nb (mv_f cb xb y k) k (0, zs_f k su, M)).2.2) (nb (h)) (bI y) ((mb_o tk nx k nb (mv_f cb xb y k) k (0, zs_f k su, M)).2.1 (h))).1)) ((mm_s (mb_e (mb_o tk nx k nb (mv_f cb xb y k) k (0, zs_f k su, M)).2.1 nb (bI y) h (mb_o tk nx k nb (mv_f cb xb y k) k (0, zs_f k su, M)).2.2) (nb (h)) (bI y) ((mb_o tk nx k nb (mv_f cb xb y k) k (0, zs_f k su, M)).2.1 (h))).2.2.1) ((mm_s (mb_e (mb_o tk nx k nb (mv_f cb xb y k) k (0, zs_f k su, M)).2.1 nb (bI y) h (mb_o tk nx k nb (mv_f cb xb y k) k (0, zs_f k su, M)).2.2) (nb (h)) (bI y) ((mb_o tk nx k nb (mv_f cb xb y k) k (0, zs_f k su, M)).2.1 (h))).2.2.2) (wi) (jb) (fp) (tf) (tt) (fi) (ln) (bI y) (1000) (pr) (1000) (tk) (8) (le) (576) (co) (576) (fr) (10) (em) (192) ((mm_s (mb_e (mb_o tk nx k nb (mv_f cb xb y k) k (0, zs_f k su, M)).2.1 nb (bI y) h (mb_o tk nx k nb (mv_f cb xb y k) k (0, zs_f k su, M)).2.2) (nb (h)) (bI y) ((mb_o tk nx k nb (mv_f cb xb y k) k (0, zs_f k su, M)).2.1 (h))).2.1) (10) (nb) (10) ((mb_o tk nx k nb (mv_f cb xb y k) k (0, zs_f k su, M)).2.1)) H := hP
              have hD : va_D A (mW cI cZ qm mp mt ml mc mf me mg mh mu (cd) (nI k) (nI n) (nI (pn)) (nI ((nx + (mb_o tk nx k nb (mv_f cb xb y k) k (0, zs_f k su, M)).1))) (ep) (nI ((mm_s (mb_e (mb_o tk nx k nb (mv_f cb xb y k) k (0, zs_f k su, M)).2.1 nb (bI y) h (mb_o tk nx k nb (mv_f cb xb y k) k (0, zs_f k su, M)).2.2) (nb (h)) (bI y) ((mb_o tk nx k nb (mv_f cb xb y k) k (0, zs_f k su, M)).2.1 (h))).1)) ((mm_s (mb_e (mb_o tk nx k nb (mv_f cb xb y k) k (0, zs_f k su, M)).2.1 nb (bI y) h (mb_o tk nx k nb (mv_f cb xb y k) k (0, zs_f k su, M)).2.2) (nb (h)) (bI y) ((mb_o tk nx k nb (mv_f cb xb y k) k (0, zs_f k su, M)).2.1 (h))).2.2.1) ((mm_s (mb_e (mb_o tk nx k nb (mv_f cb xb y k) k (0, zs_f k su, M)).2.1 nb (bI y) h (mb_o tk nx k nb (mv_f cb xb y k) k (0, zs_f k su, M)).2.2) (nb (h)) (bI y) ((mb_o tk nx k nb (mv_f cb xb y k) k (0, zs_f k su, M)).2.1 (h))).2.2.2) (wi) (jb) (fp) (tf) (tt) (fi) (ln) (bI y) (1000) (pr) (1000) (tk) (8) (le) (576) (co) (576) (fr) (10) (em) (192) ((mm_s (mb_e (mb_o tk nx k nb (mv_f cb xb y k) k (0, zs_f k su, M)).2.1 nb (bI y) h (mb_o tk nx k nb (mv_f cb xb y k) k (0, zs_f k su, M)).2.2) (nb (h)) (bI y) ((mb_o tk nx k nb (mv_f cb xb y k) k (0, zs_f k su, M)).2.1 (h))).2.1) (10) (nb) (10) ((mb_o tk nx k nb (mv_f cb xb y k) k (0, zs_f k su, M)).2.1)) := hD
              refine lv_iinc hx hb d_M_build_257 hl (k := 4) rfl (v := nI (h + 1)) (ii_1 _) (Nat.le_of_ble_eq_true rfl) (lv' := [(4, .int (nI (h + 1))), (0, .ref qm), (1, .int (nI f)), (2, .int (nI b)), (3, .int (nI (9 * (8 * f + b))))]) rfl (fun ls hl => ?_)
              refine lv_goto (tgt := 226) hx hb d_M_build_260 rfl ?_
              have hl := lv_sub hl (l' := [(0, .ref qm), (1, .int (nI f)), (2, .int (nI b)), (3, .int (nI (9 * (8 * f + b)))), (4, .int (nI (h + 1)))]) [1, 2, 3, 4, 0] rfl
              exact ih226 _ (by omega) (h + 1) ls _ _ rfl (by omega) hl hP hD hS
          exact loop226 _ (0) ls _ _ rfl (Nat.zero_le _) hl hP hD hS
        · skip
          rw [nI_leI (by omega) (by omega)] at hc45
          have hgk : g < k := by omega
          have hO1 : (mb_o tk nx k nb (mv_f cb xb y k) g (0, zs_f k su, M)).1 = g * (k - 1) := mb_o1 tk nx k nb (mv_f cb xb y k) g (zs_f k su) M
          have hO2 : (mb_o tk nx k nb (mv_f cb xb y k) g (0, zs_f k su, M)).2.2.1 ≤ M.1 + g * k := mb_o2 tk nx k nb (mv_f cb xb y k) g (0, zs_f k su, M)
          have hm1 : (g + 1) * (k - 1) ≤ k * (k - 1) := Nat.mul_le_mul_right _ hgk
          have hm2 : (g + 1) * k ≤ k * k := Nat.mul_le_mul_right _ hgk
          rw [Nat.add_mul, Nat.one_mul] at hm1 hm2
          refine lv_aload_n hx hb d_M_build_48 rfl (lv_at hl 0 rfl) ?_
          refine lv_aload_n hx hb d_M_build_49 rfl (lv_at hl 0 rfl) ?_
          refine va_get (D := D) (ci := 5) (v := .ref mc) (C := R_M) (T := F_M) (N := 26) hx hb hts wl_M hown hK hP 0 rfl rfl 8 (by decide) (hts _ wf_M_19) (fun _ h9 => h9) rfl d_M_build_50 ?_
          refine lv_iload_n hx hb d_M_build_53 rfl (lv_at hl 3 rfl) ?_
          refine lv_aload_n hx hb d_M_build_54 rfl (lv_at hl 0 rfl) ?_
          refine va_get (D := D) (ci := 5) (v := .ref mh) (C := R_M) (T := F_M) (N := 26) hx hb hts wl_M hown hK hP 0 rfl rfl 24 (by decide) (hts _ wf_M_39) (fun _ h9 => h9) rfl d_M_build_55 ?_
          refine lv_iload hx hb d_M_build_58 (lv_at hl 4 rfl) ?_
          refine sd_iald (j := g) hx hb hK hP 8 0 rfl rfl (by omega) (by omega) d_M_build_60 ?_
          refine sd_top (y := bI (xb g)) (hxb g (by omega)) ?_
          refine sd_allVI (As := [.ref mc, .int (nI (9 * (8 * f + b))), .int (bI (xb g))]) (rest := []) (w1 := (mW cI cZ qm mp mt ml mc mf me mg mh mu (cd) (nI k) (nI n) (nI (pn)) (nI ((nx + (mb_o tk nx k nb (mv_f cb xb y k) g (0, zs_f k su, M)).1))) (ep) (nI (((mb_o tk nx k nb (mv_f cb xb y k) g (0, zs_f k su, M)).2.2).1)) (((mb_o tk nx k nb (mv_f cb xb y k) g (0, zs_f k su, M)).2.2).2.2.1) (((mb_o tk nx k nb (mv_f cb xb y k) g (0, zs_f k su, M)).2.2).2.2.2) (wi) (jb) (fp) (tf) (tt) (fi) (ln) (bI y) (1000) (pr) (1000) (tk) (8) (le) (576) (co) (576) (fr) (10) (em) (192) (((mb_o tk nx k nb (mv_f cb xb y k) g (0, zs_f k su, M)).2.2).2.1) (10) (nb) (10) ((mb_o tk nx k nb (mv_f cb xb y k) g (0, zs_f k su, M)).2.1))) (c_M_valueAt_c l D cI cZ cQ (qm) (mp) (mt) (ml) (mc) (mf) (me) (mg) (mh) (mu) (k) (n) (pn) (nx + (mb_o tk nx k nb (mv_f cb xb y k) g (0, zs_f k su, M)).1) (cd) (ep) ((mb_o tk nx k nb (mv_f cb xb y k) g (0, zs_f k su, M)).2.2) (wi) (jb) (fp) (tf) (tt) (fi) (ln) (bI y) (pr) (tk) (le) (co) (fr) (em) (nb) ((mb_o tk nx k nb (mv_f cb xb y k) g (0, zs_f k su, M)).2.1) (9 * (8 * f + b)) (cb) (xb g) (hk) (hn) (by omega) (hco)) ⟨wc_M_valueAt, wm_M_77, wi_M, by decide, by decide, show (parseMethodDescriptor y_M_valueAt.desc).map (fun d => d.parameters.length) = some 3 by decide +kernel⟩ wo_M_valueAt wz_M_valueAt hx hb hml hown hts hl.1 ⟨Nat.le_of_ble_eq_true rfl, Nat.le_of_ble_eq_true rfl⟩ ⟨Nat.le_of_ble_eq_true rfl, Nat.le_of_ble_eq_true rfl⟩ hK hP hD hS hA (rfl) (q0 := 0) rfl rfl rfl (Nat.le_of_ble_eq_true rfl) d_M_build_61 (fun H locs hP hD hS => ?_)
          have hP : va_P D cls (mW cI cZ qm mp mt ml mc mf me mg mh mu (cd) (nI k) (nI n) (nI (pn)) (nI ((nx + (mb_o tk nx k nb (mv_f cb xb y k) g (0, zs_f k su, M)).1))) (ep) (nI (((mb_o tk nx k nb (mv_f cb xb y k) g (0, zs_f k su, M)).2.2).1)) (((mb_o tk nx k nb (mv_f cb xb y k) g (0, zs_f k su, M)).2.2).2.2.1) (((mb_o tk nx k nb (mv_f cb xb y k) g (0, zs_f k su, M)).2.2).2.2.2) (wi) (jb) (fp) (tf) (tt) (fi) (ln) (bI y) (1000) (pr) (1000) (tk) (8) (le) (576) (co) (576) (fr) (10) (em) (192) (((mb_o tk nx k nb (mv_f cb xb y k) g (0, zs_f k su, M)).2.2).2.1) (10) (nb) (10) ((mb_o tk nx k nb (mv_f cb xb y k) g (0, zs_f k su, M)).2.1)) H := hP
          have hD : va_D A (mW cI cZ qm mp mt ml mc mf me mg mh mu (cd) (nI k) (nI n) (nI (pn)) (nI ((nx + (mb_o tk nx k nb (mv_f cb xb y k) g (0, zs_f k su, M)).1))) (ep) (nI (((mb_o tk nx k nb (mv_f cb xb y k) g (0, zs_f k su, M)).2.2).1)) (((mb_o tk nx k nb (mv_f cb xb y k) g (0, zs_f k su, M)).2.2).2.2.1) (((mb_o tk nx k nb (mv_f cb xb y k) g (0, zs_f k su, M)).2.2).2.2.2) (wi) (jb) (fp) (tf) (tt) (fi) (ln) (bI y) (1000) (pr) (1000) (tk) (8) (le) (576) (co) (576) (fr) (10) (em) (192) (((mb_o tk nx k nb (mv_f cb xb y k) g (0, zs_f k su, M)).2.2).2.1) (10) (nb) (10) ((mb_o tk nx k nb (mv_f cb xb y k) g (0, zs_f k su, M)).2.1)) := hD
          refine lv_istore hx hb d_M_build_64 hl (Nat.le_of_ble_eq_true rfl) (lv' := [(5, .int (bI (gf_h cb (xb g) k 0#8))), (0, .ref qm), (1, .int (nI f)), (2, .int (nI b)), (3, .int (nI (9 * (8 * f + b)))), (4, .int (nI (g)))]) rfl (fun ls hl => ?_)
          refine lv_iconst (v := 0) hx hb d_M_build_66 (by decide) ?_
          refine sd_top (y := nI 0) (rfl) ?_
          refine lv_istore hx hb d_M_build_67 hl (Nat.le_of_ble_eq_true rfl) (lv' := [(6, .int (nI 0)), (5, .int (bI (gf_h cb (xb g) k 0#8))), (0, .ref qm), (1, .int (nI f)), (2, .int (nI b)), (3, .int (nI (9 * (8 * f + b)))), (4, .int (nI (g)))]) rfl (fun ls hl => ?_)
          have hl := lv_sub hl (l' := [(0, .ref qm), (1, .int (nI f)), (2, .int (nI b)), (3, .int (nI (9 * (8 * f + b)))), (4, .int (nI (g))), (5, .int (bI (gf_h cb (xb g) k 0#8))), (6, .int (nI 0))]) [2, 3, 4, 5, 6, 1, 0] rfl
          have loop69 : ∀ (d : Nat) (h : Nat) (ls : Array Slot) (H : Heap) (locs : List Loc), k - h = d → (h ≤ k) → lv_has ls 8 [(0, .ref qm), (1, .int (nI f)), (2, .int (nI b)), (3, .int (nI (9 * (8 * f + b)))), (4, .int (nI (g))), (5, .int (bI (gf_R xb y g (gf_h cb (xb g) k 0#8) h))), (6, .int (nI (h)))] → va_P D cls (mW cI cZ qm mp mt ml mc mf me mg mh mu (cd) (nI k) (nI n) (nI (pn)) (nI ((nx + (mb_o tk nx k nb (mv_f cb xb y k) g (0, zs_f k su, M)).1))) (ep) (nI (((mb_o tk nx k nb (mv_f cb xb y k) g (0, zs_f k su, M)).2.2).1)) (((mb_o tk nx k nb (mv_f cb xb y k) g (0, zs_f k su, M)).2.2).2.2.1) (((mb_o tk nx k nb (mv_f cb xb y k) g (0, zs_f k su, M)).2.2).2.2.2) (wi) (jb) (fp) (tf) (tt) (fi) (ln) (bI y) (1000) (pr) (1000) (tk) (8) (le) (576) (co) (576) (fr) (10) (em) (192) (((mb_o tk nx k nb (mv_f cb xb y k) g (0, zs_f k su, M)).2.2).2.1) (10) (nb) (10) ((mb_o tk nx k nb (mv_f cb xb y k) g (0, zs_f k su, M)).2.1)) H → va_D A (mW cI cZ qm mp mt ml mc mf me mg mh mu (cd) (nI k) (nI n) (nI (pn)) (nI ((nx + (mb_o tk nx k nb (mv_f cb xb y k) g (0, zs_f k su, M)).1))) (ep) (nI (((mb_o tk nx k nb (mv_f cb xb y k) g (0, zs_f k su, M)).2.2).1)) (((mb_o tk nx k nb (mv_f cb xb y k) g (0, zs_f k su, M)).2.2).2.2.1) (((mb_o tk nx k nb (mv_f cb xb y k) g (0, zs_f k su, M)).2.2).2.2.2) (wi) (jb) (fp) (tf) (tt) (fi) (ln) (bI y) (1000) (pr) (1000) (tk) (8) (le) (576) (co) (576) (fr) (10) (em) (192) (((mb_o tk nx k nb (mv_f cb xb y k) g (0, zs_f k su, M)).2.2).2.1) (10) (nb) (10) ((mb_o tk nx k nb (mv_f cb xb y k) g (0, zs_f k su, M)).2.1)) → va_S A s.heap H locs → W p l e ({ frames := 2, cells := 0, slots := 0, locals := 48 }) s m ([.ref qm, .int (nI f), .int (nI b)] : List Value).toArray below meth c H locs 0 0 (MQ below (sd_qv D (mW cI cZ qm mp mt ml mc mf me mg mh mu (cd) (nI k) (nI n) (nI (pn)) (nI (nx + (mb_o tk nx k nb (mv_f cb xb y k) k (0, zs_f k su, M)).1)) (ep) (nI ((mb_e (mb_o tk nx k nb (mv_f cb xb y k) k (0, zs_f k su, M)).2.1 nb (bI y) k (mb_o tk nx k nb (mv_f cb xb y k) k (0, zs_f k su, M)).2.2).1)) ((mb_e (mb_o tk nx k nb (mv_f cb xb y k) k (0, zs_f k su, M)).2.1 nb (bI y) k (mb_o tk nx k nb (mv_f cb xb y k) k (0, zs_f k su, M)).2.2).2.2.1) ((mb_e (mb_o tk nx k nb (mv_f cb xb y k) k (0, zs_f k su, M)).2.1 nb (bI y) k (mb_o tk nx k nb (mv_f cb xb y k) k (0, zs_f k su, M)).2.2).2.2.2) (wi) (jb) (fp) (tf) (tt) (fi) (ln) (bI y) (1000) (pr) (1000) (tk) (8) (le) (576) (co) (576) (fr) (10) (em) (192) ((mb_e (mb_o tk nx k nb (mv_f cb xb y k) k (0, zs_f k su, M)).2.1 nb (bI y) k (mb_o tk nx k nb (mv_f cb xb y k) k (0, zs_f k su, M)).2.2).2.1) (10) (nb) (10) ((mb_o tk nx k nb (mv_f cb xb y k) k (0, zs_f k su, M)).2.1)) A) ([.ref qm, .int (nI f), .int (nI b)] : List Value).toArray s 0 0 A) (F0 m 69 ls []) := by
            intro d
            induction d using Nat.strongRecOn with
            | _ d ih69 =>
            intro h ls H locs hd hh9 hl hP hD hS
            subst hd
            refine lv_iload hx hb d_M_build_69 (lv_at hl 6 rfl) ?_
            refine lv_aload_n hx hb d_M_build_71 rfl (lv_at hl 0 rfl) ?_
            refine va_get (D := D) (ci := 5) (v := .int (nI k)) (C := R_M) (T := F_M) (N := 26) hx hb hts wl_M hown hK hP 0 rfl rfl 1 (by decide) (hts _ wf_M_48) (fun _ h9 => h9) rfl d_M_build_72 ?_
            refine lv_icmp_ge (tgt := 133) hx hb d_M_build_75 rfl (fun hc75 => ?_) (fun hc75 => ?_)
            · skip
              rw [nI_leI (by omega) (by omega)] at hc75
              have hhk : k = h := by omega
              subst hhk
              refine lv_iconst (v := 0) hx hb d_M_build_133 (by decide) ?_
              refine sd_top (y := nI 0) (rfl) ?_
              refine lv_istore hx hb d_M_build_134 hl (Nat.le_of_ble_eq_true rfl) (lv' := [(6, .int (nI 0)), (0, .ref qm), (1, .int (nI f)), (2, .int (nI b)), (3, .int (nI (9 * (8 * f + b)))), (4, .int (nI (g))), (5, .int (bI (gf_R xb y g (gf_h cb (xb g) k 0#8) k)))]) rfl (fun ls hl => ?_)
              have hl := lv_sub hl (l' := [(0, .ref qm), (1, .int (nI f)), (2, .int (nI b)), (3, .int (nI (9 * (8 * f + b)))), (4, .int (nI (g))), (5, .int (bI (gf_R xb y g (gf_h cb (xb g) k 0#8) k))), (6, .int (nI 0))]) [1, 2, 3, 4, 5, 6, 0] rfl
              have loop136 : ∀ (d : Nat) (h : Nat) (ls : Array Slot) (H : Heap) (locs : List Loc), k - h = d → (h ≤ k) → lv_has ls 8 [(0, .ref qm), (1, .int (nI f)), (2, .int (nI b)), (3, .int (nI (9 * (8 * f + b)))), (4, .int (nI (g))), (5, .int ((mb_i tk nx k nb g h ((mb_o tk nx k nb (mv_f cb xb y k) g (0, zs_f k su, M)).1, mv_f cb xb y k g, (mb_o tk nx k nb (mv_f cb xb y k) g (0, zs_f k su, M)).2.1, (mb_o tk nx k nb (mv_f cb xb y k) g (0, zs_f k su, M)).2.2)).2.1)), (6, .int (nI (h)))] → va_P D cls (mW cI cZ qm mp mt ml mc mf me mg mh mu (cd) (nI k) (nI n) (nI (pn)) (nI (nx + (mb_i tk nx k nb g h ((mb_o tk nx k nb (mv_f cb xb y k) g (0, zs_f k su, M)).1, mv_f cb xb y k g, (mb_o tk nx k nb (mv_f cb xb y k) g (0, zs_f k su, M)).2.1, (mb_o tk nx k nb (mv_f cb xb y k) g (0, zs_f k su, M)).2.2)).1)) (ep) (nI ((mb_i tk nx k nb g h ((mb_o tk nx k nb (mv_f cb xb y k) g (0, zs_f k su, M)).1, mv_f cb xb y k g, (mb_o tk nx k nb (mv_f cb xb y k) g (0, zs_f k su, M)).2.1, (mb_o tk nx k nb (mv_f cb xb y k) g (0, zs_f k su, M)).2.2)).2.2.2.1)) ((mb_i tk nx k nb g h ((mb_o tk nx k nb (mv_f cb xb y k) g (0, zs_f k su, M)).1, mv_f cb xb y k g, (mb_o tk nx k nb (mv_f cb xb y k) g (0, zs_f k su, M)).2.1, (mb_o tk nx k nb (mv_f cb xb y k) g (0, zs_f k su, M)).2.2)).2.2.2.2.2.1) ((mb_i tk nx k nb g h ((mb_o tk nx k nb (mv_f cb xb y k) g (0, zs_f k su, M)).1, mv_f cb xb y k g, (mb_o tk nx k nb (mv_f cb xb y k) g (0, zs_f k su, M)).2.1, (mb_o tk nx k nb (mv_f cb xb y k) g (0, zs_f k su, M)).2.2)).2.2.2.2.2.2) (wi) (jb) (fp) (tf) (tt) (fi) (ln) (bI y) (1000) (pr) (1000) (tk) (8) (le) (576) (co) (576) (fr) (10) (em) (192) ((mb_i tk nx k nb g h ((mb_o tk nx k nb (mv_f cb xb y k) g (0, zs_f k su, M)).1, mv_f cb xb y k g, (mb_o tk nx k nb (mv_f cb xb y k) g (0, zs_f k su, M)).2.1, (mb_o tk nx k nb (mv_f cb xb y k) g (0, zs_f k su, M)).2.2)).2.2.2.2.1) (10) (nb) (10) ((mb_i tk nx k nb g h ((mb_o tk nx k nb (mv_f cb xb y k) g (0, zs_f k su, M)).1, mv_f cb xb y k g, (mb_o tk nx k nb (mv_f cb xb y k) g (0, zs_f k su, M)).2.1, (mb_o tk nx k nb (mv_f cb xb y k) g (0, zs_f k su, M)).2.2)).2.2.1)) H → va_D A (mW cI cZ qm mp mt ml mc mf me mg mh mu (cd) (nI k) (nI n) (nI (pn)) (nI (nx + (mb_i tk nx k nb g h ((mb_o tk nx k nb (mv_f cb xb y k) g (0, zs_f k su, M)).1, mv_f cb xb y k g, (mb_o tk nx k nb (mv_f cb xb y k) g (0, zs_f k su, M)).2.1, (mb_o tk nx k nb (mv_f cb xb y k) g (0, zs_f k su, M)).2.2)).1)) (ep) (nI ((mb_i tk nx k nb g h ((mb_o tk nx k nb (mv_f cb xb y k) g (0, zs_f k su, M)).1, mv_f cb xb y k g, (mb_o tk nx k nb (mv_f cb xb y k) g (0, zs_f k su, M)).2.1, (mb_o tk nx k nb (mv_f cb xb y k) g (0, zs_f k su, M)).2.2)).2.2.2.1)) ((mb_i tk nx k nb g h ((mb_o tk nx k nb (mv_f cb xb y k) g (0, zs_f k su, M)).1, mv_f cb xb y k g, (mb_o tk nx k nb (mv_f cb xb y k) g (0, zs_f k su, M)).2.1, (mb_o tk nx k nb (mv_f cb xb y k) g (0, zs_f k su, M)).2.2)).2.2.2.2.2.1) ((mb_i tk nx k nb g h ((mb_o tk nx k nb (mv_f cb xb y k) g (0, zs_f k su, M)).1, mv_f cb xb y k g, (mb_o tk nx k nb (mv_f cb xb y k) g (0, zs_f k su, M)).2.1, (mb_o tk nx k nb (mv_f cb xb y k) g (0, zs_f k su, M)).2.2)).2.2.2.2.2.2) (wi) (jb) (fp) (tf) (tt) (fi) (ln) (bI y) (1000) (pr) (1000) (tk) (8) (le) (576) (co) (576) (fr) (10) (em) (192) ((mb_i tk nx k nb g h ((mb_o tk nx k nb (mv_f cb xb y k) g (0, zs_f k su, M)).1, mv_f cb xb y k g, (mb_o tk nx k nb (mv_f cb xb y k) g (0, zs_f k su, M)).2.1, (mb_o tk nx k nb (mv_f cb xb y k) g (0, zs_f k su, M)).2.2)).2.2.2.2.1) (10) (nb) (10) ((mb_i tk nx k nb g h ((mb_o tk nx k nb (mv_f cb xb y k) g (0, zs_f k su, M)).1, mv_f cb xb y k g, (mb_o tk nx k nb (mv_f cb xb y k) g (0, zs_f k su, M)).2.1, (mb_o tk nx k nb (mv_f cb xb y k) g (0, zs_f k su, M)).2.2)).2.2.1)) → va_S A s.heap H locs → W p l e ({ frames := 2, cells := 0, slots := 0, locals := 48 }) s m ([.ref qm, .int (nI f), .int (nI b)] : List Value).toArray below meth c H locs 0 0 (MQ below (sd_qv D (mW cI cZ qm mp mt ml mc mf me mg mh mu (cd) (nI k) (nI n) (nI (pn)) (nI (nx + (mb_o tk nx k nb (mv_f cb xb y k) k (0, zs_f k su, M)).1)) (ep) (nI ((mb_e (mb_o tk nx k nb (mv_f cb xb y k) k (0, zs_f k su, M)).2.1 nb (bI y) k (mb_o tk nx k nb (mv_f cb xb y k) k (0, zs_f k su, M)).2.2).1)) ((mb_e (mb_o tk nx k nb (mv_f cb xb y k) k (0, zs_f k su, M)).2.1 nb (bI y) k (mb_o tk nx k nb (mv_f cb xb y k) k (0, zs_f k su, M)).2.2).2.2.1) ((mb_e (mb_o tk nx k nb (mv_f cb xb y k) k (0, zs_f k su, M)).2.1 nb (bI y) k (mb_o tk nx k nb (mv_f cb xb y k) k (0, zs_f k su, M)).2.2).2.2.2) (wi) (jb) (fp) (tf) (tt) (fi) (ln) (bI y) (1000) (pr) (1000) (tk) (8) (le) (576) (co) (576) (fr) (10) (em) (192) ((mb_e (mb_o tk nx k nb (mv_f cb xb y k) k (0, zs_f k su, M)).2.1 nb (bI y) k (mb_o tk nx k nb (mv_f cb xb y k) k (0, zs_f k su, M)).2.2).2.1) (10) (nb) (10) ((mb_o tk nx k nb (mv_f cb xb y k) k (0, zs_f k su, M)).2.1)) A) ([.ref qm, .int (nI f), .int (nI b)] : List Value).toArray s 0 0 A) (F0 m 136 ls []) := by
                intro d
                induction d using Nat.strongRecOn with
                | _ d ih136 =>
                intro h ls H locs hd hh9 hl hP hD hS
                subst hd
                refine lv_iload hx hb d_M_build_136 (lv_at hl 6 rfl) ?_
                refine lv_aload_n hx hb d_M_build_138 rfl (lv_at hl 0 rfl) ?_
                refine va_get (D := D) (ci := 5) (v := .int (nI k)) (C := R_M) (T := F_M) (N := 26) hx hb hts wl_M hown hK hP 0 rfl rfl 1 (by decide) (hts _ wf_M_48) (fun _ h9 => h9) rfl d_M_build_139 ?_
                refine lv_icmp_ge (tgt := 217) hx hb d_M_build_142 rfl (fun hc142 => ?_) (fun hc142 => ?_)
                · skip
                  rw [nI_leI (by omega) (by omega)] at hc142
                  have hhk : k = h := by omega
                  subst hhk
                  refine lv_iinc hx hb d_M_build_217 hl (k := 4) rfl (v := nI (g + 1)) (ii_1 _) (Nat.le_of_ble_eq_true rfl) (lv' := [(4, .int (nI (g + 1))), (0, .ref qm), (1, .int (nI f)), (2, .int (nI b)), (3, .int (nI (9 * (8 * f + b)))), (5, .int ((mb_i tk nx k nb g k ((mb_o tk nx k nb (mv_f cb xb y k) g (0, zs_f k su, M)).1, mv_f cb xb y k g, (mb_o tk nx k nb (mv_f cb xb y k) g (0, zs_f k su, M)).2.1, (mb_o tk nx k nb (mv_f cb xb y k) g (0, zs_f k su, M)).2.2)).2.1)), (6, .int (nI (k)))]) rfl (fun ls hl => ?_)
                  refine lv_goto (tgt := 39) hx hb d_M_build_220 rfl ?_
                  have hl := lv_sub hl (l' := [(0, .ref qm), (1, .int (nI f)), (2, .int (nI b)), (3, .int (nI (9 * (8 * f + b)))), (4, .int (nI (g + 1)))]) [1, 2, 3, 4, 0] rfl
                  exact ih39 _ (by omega) (g + 1) ls _ _ rfl (by omega) hl hP hD hS
                · skip
                  rw [nI_leI (by omega) (by omega)] at hc142
                  have hN1 := mb_i1 tk nx k nb g h ((mb_o tk nx k nb (mv_f cb xb y k) g (0, zs_f k su, M)).1, mv_f cb xb y k g, (mb_o tk nx k nb (mv_f cb xb y k) g (0, zs_f k su, M)).2.1, (mb_o tk nx k nb (mv_f cb xb y k) g (0, zs_f k su, M)).2.2) (by omega)
                  have hN2 := mb_i2 tk nx k nb g h ((mb_o tk nx k nb (mv_f cb xb y k) g (0, zs_f k su, M)).1, mv_f cb xb y k g, (mb_o tk nx k nb (mv_f cb xb y k) g (0, zs_f k su, M)).2.1, (mb_o tk nx k nb (mv_f cb xb y k) g (0, zs_f k su, M)).2.2)
                  dsimp only at hN1 hN2
                  have hTi : (mb_i tk nx k nb g h ((mb_o tk nx k nb (mv_f cb xb y k) g (0, zs_f k su, M)).1, mv_f cb xb y k g, (mb_o tk nx k nb (mv_f cb xb y k) g (0, zs_f k su, M)).2.1, (mb_o tk nx k nb (mv_f cb xb y k) g (0, zs_f k su, M)).2.2)).2.2.2.1 < 2 ^ 31 := by omega
                  have join165 : ∀ (t2 : Nat) (pc9 : Int32) (ls : Array Slot) (H : Heap) (locs : List Loc), (t2 = if h = k - 1 then (mb_i tk nx k nb g h ((mb_o tk nx k nb (mv_f cb xb y k) g (0, zs_f k su, M)).1, mv_f cb xb y k g, (mb_o tk nx k nb (mv_f cb xb y k) g (0, zs_f k su, M)).2.1, (mb_o tk nx k nb (mv_f cb xb y k) g (0, zs_f k su, M)).2.2)).1 else (mb_i tk nx k nb g h ((mb_o tk nx k nb (mv_f cb xb y k) g (0, zs_f k su, M)).1, mv_f cb xb y k g, (mb_o tk nx k nb (mv_f cb xb y k) g (0, zs_f k su, M)).2.1, (mb_o tk nx k nb (mv_f cb xb y k) g (0, zs_f k su, M)).2.2)).1 + 1) → (pc9 = if h = k - 1 then (mb_i tk nx k nb g h ((mb_o tk nx k nb (mv_f cb xb y k) g (0, zs_f k su, M)).1, mv_f cb xb y k g, (mb_o tk nx k nb (mv_f cb xb y k) g (0, zs_f k su, M)).2.1, (mb_o tk nx k nb (mv_f cb xb y k) g (0, zs_f k su, M)).2.2)).2.1 else tk (nx + (mb_i tk nx k nb g h ((mb_o tk nx k nb (mv_f cb xb y k) g (0, zs_f k su, M)).1, mv_f cb xb y k g, (mb_o tk nx k nb (mv_f cb xb y k) g (0, zs_f k su, M)).2.1, (mb_o tk nx k nb (mv_f cb xb y k) g (0, zs_f k su, M)).2.2)).1)) → lv_has ls 8 [(0, .ref qm), (1, .int (nI f)), (2, .int (nI b)), (3, .int (nI (9 * (8 * f + b)))), (4, .int (nI (g))), (5, .int ((mb_i tk nx k nb g h ((mb_o tk nx k nb (mv_f cb xb y k) g (0, zs_f k su, M)).1, mv_f cb xb y k g, (mb_o tk nx k nb (mv_f cb xb y k) g (0, zs_f k su, M)).2.1, (mb_o tk nx k nb (mv_f cb xb y k) g (0, zs_f k su, M)).2.2)).2.1)), (6, .int (nI (h)))] → va_P D cls (mW cI cZ qm mp mt ml mc mf me mg mh mu (cd) (nI k) (nI n) (nI (pn)) (nI (nx + t2)) (ep) (nI ((mb_i tk nx k nb g h ((mb_o tk nx k nb (mv_f cb xb y k) g (0, zs_f k su, M)).1, mv_f cb xb y k g, (mb_o tk nx k nb (mv_f cb xb y k) g (0, zs_f k su, M)).2.1, (mb_o tk nx k nb (mv_f cb xb y k) g (0, zs_f k su, M)).2.2)).2.2.2.1)) ((mb_i tk nx k nb g h ((mb_o tk nx k nb (mv_f cb xb y k) g (0, zs_f k su, M)).1, mv_f cb xb y k g, (mb_o tk nx k nb (mv_f cb xb y k) g (0, zs_f k su, M)).2.1, (mb_o tk nx k nb (mv_f cb xb y k) g (0, zs_f k su, M)).2.2)).2.2.2.2.2.1) ((mb_i tk nx k nb g h ((mb_o tk nx k nb (mv_f cb xb y k) g (0, zs_f k su, M)).1, mv_f cb xb y k g, (mb_o tk nx k nb (mv_f cb xb y k) g (0, zs_f k su, M)).2.1, (mb_o tk nx k nb (mv_f cb xb y k) g (0, zs_f k su, M)).2.2)).2.2.2.2.2.2) (wi) (jb) (fp) (tf) (tt) (fi) (ln) (bI y) (1000) (pr) (1000) (tk) (8) (le) (576) (co) (576) (fr) (10) (em) (192) ((mb_i tk nx k nb g h ((mb_o tk nx k nb (mv_f cb xb y k) g (0, zs_f k su, M)).1, mv_f cb xb y k g, (mb_o tk nx k nb (mv_f cb xb y k) g (0, zs_f k su, M)).2.1, (mb_o tk nx k nb (mv_f cb xb y k) g (0, zs_f k su, M)).2.2)).2.2.2.2.1) (10) (nb) (10) ((mb_i tk nx k nb g h ((mb_o tk nx k nb (mv_f cb xb y k) g (0, zs_f k su, M)).1, mv_f cb xb y k g, (mb_o tk nx k nb (mv_f cb xb y k) g (0, zs_f k su, M)).2.1, (mb_o tk nx k nb (mv_f cb xb y k) g (0, zs_f k su, M)).2.2)).2.2.1)) H → va_D A (mW cI cZ qm mp mt ml mc mf me mg mh mu (cd) (nI k) (nI n) (nI (pn)) (nI (nx + t2)) (ep) (nI ((mb_i tk nx k nb g h ((mb_o tk nx k nb (mv_f cb xb y k) g (0, zs_f k su, M)).1, mv_f cb xb y k g, (mb_o tk nx k nb (mv_f cb xb y k) g (0, zs_f k su, M)).2.1, (mb_o tk nx k nb (mv_f cb xb y k) g (0, zs_f k su, M)).2.2)).2.2.2.1)) ((mb_i tk nx k nb g h ((mb_o tk nx k nb (mv_f cb xb y k) g (0, zs_f k su, M)).1, mv_f cb xb y k g, (mb_o tk nx k nb (mv_f cb xb y k) g (0, zs_f k su, M)).2.1, (mb_o tk nx k nb (mv_f cb xb y k) g (0, zs_f k su, M)).2.2)).2.2.2.2.2.1) ((mb_i tk nx k nb g h ((mb_o tk nx k nb (mv_f cb xb y k) g (0, zs_f k su, M)).1, mv_f cb xb y k g, (mb_o tk nx k nb (mv_f cb xb y k) g (0, zs_f k su, M)).2.1, (mb_o tk nx k nb (mv_f cb xb y k) g (0, zs_f k su, M)).2.2)).2.2.2.2.2.2) (wi) (jb) (fp) (tf) (tt) (fi) (ln) (bI y) (1000) (pr) (1000) (tk) (8) (le) (576) (co) (576) (fr) (10) (em) (192) ((mb_i tk nx k nb g h ((mb_o tk nx k nb (mv_f cb xb y k) g (0, zs_f k su, M)).1, mv_f cb xb y k g, (mb_o tk nx k nb (mv_f cb xb y k) g (0, zs_f k su, M)).2.1, (mb_o tk nx k nb (mv_f cb xb y k) g (0, zs_f k su, M)).2.2)).2.2.2.2.1) (10) (nb) (10) ((mb_i tk nx k nb g h ((mb_o tk nx k nb (mv_f cb xb y k) g (0, zs_f k su, M)).1, mv_f cb xb y k g, (mb_o tk nx k nb (mv_f cb xb y k) g (0, zs_f k su, M)).2.1, (mb_o tk nx k nb (mv_f cb xb y k) g (0, zs_f k su, M)).2.2)).2.2.1)) → va_S A s.heap H locs → W p l e ({ frames := 2, cells := 0, slots := 0, locals := 48 }) s m ([.ref qm, .int (nI f), .int (nI b)] : List Value).toArray below meth c H locs 0 0 (MQ below (sd_qv D (mW cI cZ qm mp mt ml mc mf me mg mh mu (cd) (nI k) (nI n) (nI (pn)) (nI (nx + (mb_o tk nx k nb (mv_f cb xb y k) k (0, zs_f k su, M)).1)) (ep) (nI ((mb_e (mb_o tk nx k nb (mv_f cb xb y k) k (0, zs_f k su, M)).2.1 nb (bI y) k (mb_o tk nx k nb (mv_f cb xb y k) k (0, zs_f k su, M)).2.2).1)) ((mb_e (mb_o tk nx k nb (mv_f cb xb y k) k (0, zs_f k su, M)).2.1 nb (bI y) k (mb_o tk nx k nb (mv_f cb xb y k) k (0, zs_f k su, M)).2.2).2.2.1) ((mb_e (mb_o tk nx k nb (mv_f cb xb y k) k (0, zs_f k su, M)).2.1 nb (bI y) k (mb_o tk nx k nb (mv_f cb xb y k) k (0, zs_f k su, M)).2.2).2.2.2) (wi) (jb) (fp) (tf) (tt) (fi) (ln) (bI y) (1000) (pr) (1000) (tk) (8) (le) (576) (co) (576) (fr) (10) (em) (192) ((mb_e (mb_o tk nx k nb (mv_f cb xb y k) k (0, zs_f k su, M)).2.1 nb (bI y) k (mb_o tk nx k nb (mv_f cb xb y k) k (0, zs_f k su, M)).2.2).2.1) (10) (nb) (10) ((mb_o tk nx k nb (mv_f cb xb y k) k (0, zs_f k su, M)).2.1)) A) ([.ref qm, .int (nI f), .int (nI b)] : List Value).toArray s 0 0 A) (F0 m 165 ls [.int (pc9)]) := by
                    intro t2 pc9 ls H locs ht2 hpc hl hP hD hS
                    refine lv_istore hx hb d_M_build_165 hl (Nat.le_of_ble_eq_true rfl) (lv' := [(7, .int (pc9)), (0, .ref qm), (1, .int (nI f)), (2, .int (nI b)), (3, .int (nI (9 * (8 * f + b)))), (4, .int (nI (g))), (5, .int ((mb_i tk nx k nb g h ((mb_o tk nx k nb (mv_f cb xb y k) g (0, zs_f k su, M)).1, mv_f cb xb y k g, (mb_o tk nx k nb (mv_f cb xb y k) g (0, zs_f k su, M)).2.1, (mb_o tk nx k nb (mv_f cb xb y k) g (0, zs_f k su, M)).2.2)).2.1)), (6, .int (nI (h)))]) rfl (fun ls hl => ?_)
                    refine lv_iload hx hb d_M_build_167 (lv_at hl 6 rfl) ?_
                    refine lv_iload hx hb d_M_build_169 (lv_at hl 0 rfl) ?_
                    refine lv_ixor hx hb d_M_build_171 ?_
                    refine lv_istore hx hb d_M_build_172 hl (Nat.le_of_ble_eq_true rfl) (lv' := [(5, .int (((mb_i tk nx k nb g h ((mb_o tk nx k nb (mv_f cb xb y k) g (0, zs_f k su, M)).1, mv_f cb xb y k g, (mb_o tk nx k nb (mv_f cb xb y k) g (0, zs_f k su, M)).2.1, (mb_o tk nx k nb (mv_f cb xb y k) g (0, zs_f k su, M)).2.2)).2.1) ^^^ (pc9))), (7, .int (pc9)), (0, .ref qm), (1, .int (nI f)), (2, .int (nI b)), (3, .int (nI (9 * (8 * f + b)))), (4, .int (nI (g))), (6, .int (nI (h)))]) rfl (fun ls hl => ?_)
                    refine lv_aload_n hx hb d_M_build_174 rfl (lv_at hl 2 rfl) ?_
                    refine va_get (D := D) (ci := 5) (v := .ref mu) (C := R_M) (T := F_M) (N := 26) hx hb hts wl_M hown hK hP 0 rfl rfl 25 (by decide) (hts _ wf_M_42) (fun _ h9 => h9) rfl d_M_build_175 ?_
                    refine lv_iload hx hb d_M_build_178 (lv_at hl 7 rfl) ?_
                    refine lv_aload_n hx hb d_M_build_180 rfl (lv_at hl 2 rfl) ?_
                    refine va_get (D := D) (ci := 5) (v := .ref mu) (C := R_M) (T := F_M) (N := 26) hx hb hts wl_M hown hK hP 0 rfl rfl 25 (by decide) (hts _ wf_M_42) (fun _ h9 => h9) rfl d_M_build_181 ?_
                    refine lv_iload hx hb d_M_build_184 (lv_at hl 7 rfl) ?_
                    refine sd_iald (j := h) hx hb hK hP 9 0 rfl rfl (by omega) (by omega) d_M_build_186 ?_
                    refine lv_iload hx hb d_M_build_187 (lv_at hl 1 rfl) ?_
                    refine lv_ixor hx hb d_M_build_189 ?_
                    refine sd_iast (j := h) hx hb hK hP hD hS 9 0 rfl rfl (by omega) (by omega) d_M_build_190 (fun H locs hP hD hS => ?_)
                    have hP : va_P D cls (mW cI cZ qm mp mt ml mc mf me mg mh mu (cd) (nI k) (nI n) (nI (pn)) (nI (nx + t2)) (ep) (nI ((mb_i tk nx k nb g h ((mb_o tk nx k nb (mv_f cb xb y k) g (0, zs_f k su, M)).1, mv_f cb xb y k g, (mb_o tk nx k nb (mv_f cb xb y k) g (0, zs_f k su, M)).2.1, (mb_o tk nx k nb (mv_f cb xb y k) g (0, zs_f k su, M)).2.2)).2.2.2.1)) ((mb_i tk nx k nb g h ((mb_o tk nx k nb (mv_f cb xb y k) g (0, zs_f k su, M)).1, mv_f cb xb y k g, (mb_o tk nx k nb (mv_f cb xb y k) g (0, zs_f k su, M)).2.1, (mb_o tk nx k nb (mv_f cb xb y k) g (0, zs_f k su, M)).2.2)).2.2.2.2.2.1) ((mb_i tk nx k nb g h ((mb_o tk nx k nb (mv_f cb xb y k) g (0, zs_f k su, M)).1, mv_f cb xb y k g, (mb_o tk nx k nb (mv_f cb xb y k) g (0, zs_f k su, M)).2.1, (mb_o tk nx k nb (mv_f cb xb y k) g (0, zs_f k su, M)).2.2)).2.2.2.2.2.2) (wi) (jb) (fp) (tf) (tt) (fi) (ln) (bI y) (1000) (pr) (1000) (tk) (8) (le) (576) (co) (576) (fr) (10) (em) (192) ((mb_i tk nx k nb g h ((mb_o tk nx k nb (mv_f cb xb y k) g (0, zs_f k su, M)).1, mv_f cb xb y k g, (mb_o tk nx k nb (mv_f cb xb y k) g (0, zs_f k su, M)).2.1, (mb_o tk nx k nb (mv_f cb xb y k) g (0, zs_f k su, M)).2.2)).2.2.2.2.1) (10) (nb) (10) (upd ((mb_i tk nx k nb g h ((mb_o tk nx k nb (mv_f cb xb y k) g (0, zs_f k su, M)).1, mv_f cb xb y k g, (mb_o tk nx k nb (mv_f cb xb y k) g (0, zs_f k su, M)).2.1, (mb_o tk nx k nb (mv_f cb xb y k) g (0, zs_f k su, M)).2.2)).2.2.1) (h) ((((mb_i tk nx k nb g h ((mb_o tk nx k nb (mv_f cb xb y k) g (0, zs_f k su, M)).1, mv_f cb xb y k g, (mb_o tk nx k nb (mv_f cb xb y k) g (0, zs_f k su, M)).2.1, (mb_o tk nx k nb (mv_f cb xb y k) g (0, zs_f k su, M)).2.2)).2.2.1) (h)) ^^^ (pc9)))) H := hP
                    have hD : va_D A (mW cI cZ qm mp mt ml mc mf me mg mh mu (cd) (nI k) (nI n) (nI (pn)) (nI (nx + t2)) (ep) (nI ((mb_i tk nx k nb g h ((mb_o tk nx k nb (mv_f cb xb y k) g (0, zs_f k su, M)).1, mv_f cb xb y k g, (mb_o tk nx k nb (mv_f cb xb y k) g (0, zs_f k su, M)).2.1, (mb_o tk nx k nb (mv_f cb xb y k) g (0, zs_f k su, M)).2.2)).2.2.2.1)) ((mb_i tk nx k nb g h ((mb_o tk nx k nb (mv_f cb xb y k) g (0, zs_f k su, M)).1, mv_f cb xb y k g, (mb_o tk nx k nb (mv_f cb xb y k) g (0, zs_f k su, M)).2.1, (mb_o tk nx k nb (mv_f cb xb y k) g (0, zs_f k su, M)).2.2)).2.2.2.2.2.1) ((mb_i tk nx k nb g h ((mb_o tk nx k nb (mv_f cb xb y k) g (0, zs_f k su, M)).1, mv_f cb xb y k g, (mb_o tk nx k nb (mv_f cb xb y k) g (0, zs_f k su, M)).2.1, (mb_o tk nx k nb (mv_f cb xb y k) g (0, zs_f k su, M)).2.2)).2.2.2.2.2.2) (wi) (jb) (fp) (tf) (tt) (fi) (ln) (bI y) (1000) (pr) (1000) (tk) (8) (le) (576) (co) (576) (fr) (10) (em) (192) ((mb_i tk nx k nb g h ((mb_o tk nx k nb (mv_f cb xb y k) g (0, zs_f k su, M)).1, mv_f cb xb y k g, (mb_o tk nx k nb (mv_f cb xb y k) g (0, zs_f k su, M)).2.1, (mb_o tk nx k nb (mv_f cb xb y k) g (0, zs_f k su, M)).2.2)).2.2.2.2.1) (10) (nb) (10) (upd ((mb_i tk nx k nb g h ((mb_o tk nx k nb (mv_f cb xb y k) g (0, zs_f k su, M)).1, mv_f cb xb y k g, (mb_o tk nx k nb (mv_f cb xb y k) g (0, zs_f k su, M)).2.1, (mb_o tk nx k nb (mv_f cb xb y k) g (0, zs_f k su, M)).2.2)).2.2.1) (h) ((((mb_i tk nx k nb g h ((mb_o tk nx k nb (mv_f cb xb y k) g (0, zs_f k su, M)).1, mv_f cb xb y k g, (mb_o tk nx k nb (mv_f cb xb y k) g (0, zs_f k su, M)).2.1, (mb_o tk nx k nb (mv_f cb xb y k) g (0, zs_f k su, M)).2.2)).2.2.1) (h)) ^^^ (pc9)))) := hD
                    refine lv_aload_n hx hb d_M_build_191 rfl (lv_at hl 2 rfl) ?_
                    refine lv_aload_n hx hb d_M_build_192 rfl (lv_at hl 2 rfl) ?_
                    refine va_get (D := D) (ci := 5) (v := .ref mh) (C := R_M) (T := F_M) (N := 26) hx hb hts wl_M hown hK hP 0 rfl rfl 24 (by decide) (hts _ wf_M_39) (fun _ h9 => h9) rfl d_M_build_193 ?_
                    refine lv_iload hx hb d_M_build_196 (lv_at hl 6 rfl) ?_
                    refine sd_iald (j := g) hx hb hK hP 8 0 rfl rfl (by omega) (by omega) d_M_build_198 ?_
                    refine lv_aload_n hx hb d_M_build_199 rfl (lv_at hl 2 rfl) ?_
                    refine va_get (D := D) (ci := 5) (v := .ref mh) (C := R_M) (T := F_M) (N := 26) hx hb hts wl_M hown hK hP 0 rfl rfl 24 (by decide) (hts _ wf_M_39) (fun _ h9 => h9) rfl d_M_build_200 ?_
                    refine lv_iload hx hb d_M_build_203 (lv_at hl 7 rfl) ?_
                    refine sd_iald (j := h) hx hb hK hP 8 0 rfl rfl (by omega) (by omega) d_M_build_205 ?_
                    refine lv_iload hx hb d_M_build_206 (lv_at hl 1 rfl) ?_
                    refine sd_allVV (As := [.int (nb (g)), .int (nb (h)), .int (pc9)]) (rest := []) (w1 := (mW cI cZ qm mp mt ml mc mf me mg mh mu (cd) (nI k) (nI n) (nI (pn)) (nI ((nx + t2))) (ep) (nI ((mm_s ((mb_i tk nx k nb g h ((mb_o tk nx k nb (mv_f cb xb y k) g (0, zs_f k su, M)).1, mv_f cb xb y k g, (mb_o tk nx k nb (mv_f cb xb y k) g (0, zs_f k su, M)).2.1, (mb_o tk nx k nb (mv_f cb xb y k) g (0, zs_f k su, M)).2.2)).2.2.2) (nb (g)) (nb (h)) pc9).1)) ((mm_s ((mb_i tk nx k nb g h ((mb_o tk nx k nb (mv_f cb xb y k) g (0, zs_f k su, M)).1, mv_f cb xb y k g, (mb_o tk nx k nb (mv_f cb xb y k) g (0, zs_f k su, M)).2.1, (mb_o tk nx k nb (mv_f cb xb y k) g (0, zs_f k su, M)).2.2)).2.2.2) (nb (g)) (nb (h)) pc9).2.2.1) ((mm_s ((mb_i tk nx k nb g h ((mb_o tk nx k nb (mv_f cb xb y k) g (0, zs_f k su, M)).1, mv_f cb xb y k g, (mb_o tk nx k nb (mv_f cb xb y k) g (0, zs_f k su, M)).2.1, (mb_o tk nx k nb (mv_f cb xb y k) g (0, zs_f k su, M)).2.2)).2.2.2) (nb (g)) (nb (h)) pc9).2.2.2) (wi) (jb) (fp) (tf) (tt) (fi) (ln) (bI y) (1000) (pr) (1000) (tk) (8) (le) (576) (co) (576) (fr) (10) (em) (192) ((mm_s ((mb_i tk nx k nb g h ((mb_o tk nx k nb (mv_f cb xb y k) g (0, zs_f k su, M)).1, mv_f cb xb y k g, (mb_o tk nx k nb (mv_f cb xb y k) g (0, zs_f k su, M)).2.1, (mb_o tk nx k nb (mv_f cb xb y k) g (0, zs_f k su, M)).2.2)).2.2.2) (nb (g)) (nb (h)) pc9).2.1) (10) (nb) (10) (upd ((mb_i tk nx k nb g h ((mb_o tk nx k nb (mv_f cb xb y k) g (0, zs_f k su, M)).1, mv_f cb xb y k g, (mb_o tk nx k nb (mv_f cb xb y k) g (0, zs_f k su, M)).2.1, (mb_o tk nx k nb (mv_f cb xb y k) g (0, zs_f k su, M)).2.2)).2.2.1) (h) ((((mb_i tk nx k nb g h ((mb_o tk nx k nb (mv_f cb xb y k) g (0, zs_f k su, M)).1, mv_f cb xb y k g, (mb_o tk nx k nb (mv_f cb xb y k) g (0, zs_f k su, M)).2.1, (mb_o tk nx k nb (mv_f cb xb y k) g (0, zs_f k su, M)).2.2)).2.2.1) (h)) ^^^ (pc9))))) (c_M_send l D cI cZ cQ (qm) (mp) (mt) (ml) (mc) (mf) (me) (mg) (mh) (mu) (k) (n) (pn) (nx + t2) (cd) (ep) ((mb_i tk nx k nb g h ((mb_o tk nx k nb (mv_f cb xb y k) g (0, zs_f k su, M)).1, mv_f cb xb y k g, (mb_o tk nx k nb (mv_f cb xb y k) g (0, zs_f k su, M)).2.1, (mb_o tk nx k nb (mv_f cb xb y k) g (0, zs_f k su, M)).2.2)).2.2.2) (wi) (jb) (fp) (tf) (tt) (fi) (ln) (bI y) (pr) (tk) (le) (co) (fr) (em) (nb) (upd ((mb_i tk nx k nb g h ((mb_o tk nx k nb (mv_f cb xb y k) g (0, zs_f k su, M)).1, mv_f cb xb y k g, (mb_o tk nx k nb (mv_f cb xb y k) g (0, zs_f k su, M)).2.1, (mb_o tk nx k nb (mv_f cb xb y k) g (0, zs_f k su, M)).2.2)).2.2.1) (h) ((((mb_i tk nx k nb g h ((mb_o tk nx k nb (mv_f cb xb y k) g (0, zs_f k su, M)).1, mv_f cb xb y k g, (mb_o tk nx k nb (mv_f cb xb y k) g (0, zs_f k su, M)).2.1, (mb_o tk nx k nb (mv_f cb xb y k) g (0, zs_f k su, M)).2.2)).2.2.1) (h)) ^^^ (pc9))) (nb (g)) (nb (h)) (pc9) (hk) (hn) (hTi)) ⟨wc_M_send, wm_M_81, wi_M, by decide, by decide, show (parseMethodDescriptor y_M_send.desc).map (fun d => d.parameters.length) = some 3 by decide +kernel⟩ wo_M_send wz_M_send hx hb hml hown hts hl.1 ⟨Nat.le_of_ble_eq_true rfl, Nat.le_of_ble_eq_true rfl⟩ ⟨Nat.le_of_ble_eq_true rfl, Nat.le_of_ble_eq_true rfl⟩ hK hP hD hS hA (rfl) (q0 := 0) rfl rfl rfl (Nat.le_of_ble_eq_true rfl) d_M_build_208 (fun H locs hP hD hS => ?_)
                    have hP : va_P D cls (mW cI cZ qm mp mt ml mc mf me mg mh mu (cd) (nI k) (nI n) (nI (pn)) (nI ((nx + t2))) (ep) (nI ((mm_s ((mb_i tk nx k nb g h ((mb_o tk nx k nb (mv_f cb xb y k) g (0, zs_f k su, M)).1, mv_f cb xb y k g, (mb_o tk nx k nb (mv_f cb xb y k) g (0, zs_f k su, M)).2.1, (mb_o tk nx k nb (mv_f cb xb y k) g (0, zs_f k su, M)).2.2)).2.2.2) (nb (g)) (nb (h)) pc9).1)) ((mm_s ((mb_i tk nx k nb g h ((mb_o tk nx k nb (mv_f cb xb y k) g (0, zs_f k su, M)).1, mv_f cb xb y k g, (mb_o tk nx k nb (mv_f cb xb y k) g (0, zs_f k su, M)).2.1, (mb_o tk nx k nb (mv_f cb xb y k) g (0, zs_f k su, M)).2.2)).2.2.2) (nb (g)) (nb (h)) pc9).2.2.1) ((mm_s ((mb_i tk nx k nb g h ((mb_o tk nx k nb (mv_f cb xb y k) g (0, zs_f k su, M)).1, mv_f cb xb y k g, (mb_o tk nx k nb (mv_f cb xb y k) g (0, zs_f k su, M)).2.1, (mb_o tk nx k nb (mv_f cb xb y k) g (0, zs_f k su, M)).2.2)).2.2.2) (nb (g)) (nb (h)) pc9).2.2.2) (wi) (jb) (fp) (tf) (tt) (fi) (ln) (bI y) (1000) (pr) (1000) (tk) (8) (le) (576) (co) (576) (fr) (10) (em) (192) ((mm_s ((mb_i tk nx k nb g h ((mb_o tk nx k nb (mv_f cb xb y k) g (0, zs_f k su, M)).1, mv_f cb xb y k g, (mb_o tk nx k nb (mv_f cb xb y k) g (0, zs_f k su, M)).2.1, (mb_o tk nx k nb (mv_f cb xb y k) g (0, zs_f k su, M)).2.2)).2.2.2) (nb (g)) (nb (h)) pc9).2.1) (10) (nb) (10) (upd ((mb_i tk nx k nb g h ((mb_o tk nx k nb (mv_f cb xb y k) g (0, zs_f k su, M)).1, mv_f cb xb y k g, (mb_o tk nx k nb (mv_f cb xb y k) g (0, zs_f k su, M)).2.1, (mb_o tk nx k nb (mv_f cb xb y k) g (0, zs_f k su, M)).2.2)).2.2.1) (h) ((((mb_i tk nx k nb g h ((mb_o tk nx k nb (mv_f cb xb y k) g (0, zs_f k su, M)).1, mv_f cb xb y k g, (mb_o tk nx k nb (mv_f cb xb y k) g (0, zs_f k su, M)).2.1, (mb_o tk nx k nb (mv_f cb xb y k) g (0, zs_f k su, M)).2.2)).2.2.1) (h)) ^^^ (pc9)))) H := hP
                    have hD : va_D A (mW cI cZ qm mp mt ml mc mf me mg mh mu (cd) (nI k) (nI n) (nI (pn)) (nI ((nx + t2))) (ep) (nI ((mm_s ((mb_i tk nx k nb g h ((mb_o tk nx k nb (mv_f cb xb y k) g (0, zs_f k su, M)).1, mv_f cb xb y k g, (mb_o tk nx k nb (mv_f cb xb y k) g (0, zs_f k su, M)).2.1, (mb_o tk nx k nb (mv_f cb xb y k) g (0, zs_f k su, M)).2.2)).2.2.2) (nb (g)) (nb (h)) pc9).1)) ((mm_s ((mb_i tk nx k nb g h ((mb_o tk nx k nb (mv_f cb xb y k) g (0, zs_f k su, M)).1, mv_f cb xb y k g, (mb_o tk nx k nb (mv_f cb xb y k) g (0, zs_f k su, M)).2.1, (mb_o tk nx k nb (mv_f cb xb y k) g (0, zs_f k su, M)).2.2)).2.2.2) (nb (g)) (nb (h)) pc9).2.2.1) ((mm_s ((mb_i tk nx k nb g h ((mb_o tk nx k nb (mv_f cb xb y k) g (0, zs_f k su, M)).1, mv_f cb xb y k g, (mb_o tk nx k nb (mv_f cb xb y k) g (0, zs_f k su, M)).2.1, (mb_o tk nx k nb (mv_f cb xb y k) g (0, zs_f k su, M)).2.2)).2.2.2) (nb (g)) (nb (h)) pc9).2.2.2) (wi) (jb) (fp) (tf) (tt) (fi) (ln) (bI y) (1000) (pr) (1000) (tk) (8) (le) (576) (co) (576) (fr) (10) (em) (192) ((mm_s ((mb_i tk nx k nb g h ((mb_o tk nx k nb (mv_f cb xb y k) g (0, zs_f k su, M)).1, mv_f cb xb y k g, (mb_o tk nx k nb (mv_f cb xb y k) g (0, zs_f k su, M)).2.1, (mb_o tk nx k nb (mv_f cb xb y k) g (0, zs_f k su, M)).2.2)).2.2.2) (nb (g)) (nb (h)) pc9).2.1) (10) (nb) (10) (upd ((mb_i tk nx k nb g h ((mb_o tk nx k nb (mv_f cb xb y k) g (0, zs_f k su, M)).1, mv_f cb xb y k g, (mb_o tk nx k nb (mv_f cb xb y k) g (0, zs_f k su, M)).2.1, (mb_o tk nx k nb (mv_f cb xb y k) g (0, zs_f k su, M)).2.2)).2.2.1) (h) ((((mb_i tk nx k nb g h ((mb_o tk nx k nb (mv_f cb xb y k) g (0, zs_f k su, M)).1, mv_f cb xb y k g, (mb_o tk nx k nb (mv_f cb xb y k) g (0, zs_f k su, M)).2.1, (mb_o tk nx k nb (mv_f cb xb y k) g (0, zs_f k su, M)).2.2)).2.2.1) (h)) ^^^ (pc9)))) := hD
                    refine lv_iinc hx hb d_M_build_211 hl (k := 7) rfl (v := nI (h + 1)) (ii_1 _) (Nat.le_of_ble_eq_true rfl) (lv' := [(6, .int (nI (h + 1))), (5, .int (((mb_i tk nx k nb g h ((mb_o tk nx k nb (mv_f cb xb y k) g (0, zs_f k su, M)).1, mv_f cb xb y k g, (mb_o tk nx k nb (mv_f cb xb y k) g (0, zs_f k su, M)).2.1, (mb_o tk nx k nb (mv_f cb xb y k) g (0, zs_f k su, M)).2.2)).2.1) ^^^ (pc9))), (7, .int (pc9)), (0, .ref qm), (1, .int (nI f)), (2, .int (nI b)), (3, .int (nI (9 * (8 * f + b)))), (4, .int (nI (g)))]) rfl (fun ls hl => ?_)
                    refine lv_goto (tgt := 136) hx hb d_M_build_214 rfl ?_
                    have hl := lv_sub hl (l' := [(0, .ref qm), (1, .int (nI f)), (2, .int (nI b)), (3, .int (nI (9 * (8 * f + b)))), (4, .int (nI (g))), (5, .int (((mb_i tk nx k nb g h ((mb_o tk nx k nb (mv_f cb xb y k) g (0, zs_f k su, M)).1, mv_f cb xb y k g, (mb_o tk nx k nb (mv_f cb xb y k) g (0, zs_f k su, M)).2.1, (mb_o tk nx k nb (mv_f cb xb y k) g (0, zs_f k su, M)).2.2)).2.1) ^^^ (pc9))), (6, .int (nI (h + 1)))]) [3, 4, 5, 6, 7, 1, 0] rfl
                    subst ht2
                    subst hpc
                    exact ih136 _ (by omega) (h + 1) ls _ _ rfl (by omega) hl hP hD hS
                  refine lv_iload hx hb d_M_build_145 (lv_at hl 6 rfl) ?_
                  refine lv_aload_n hx hb d_M_build_147 rfl (lv_at hl 0 rfl) ?_
                  refine va_get (D := D) (ci := 5) (v := .int (nI k)) (C := R_M) (T := F_M) (N := 26) hx hb hts wl_M hown hK hP 0 rfl rfl 1 (by decide) (hts _ wf_M_48) (fun _ h9 => h9) rfl d_M_build_148 ?_
                  refine lv_iconst (v := 1) hx hb d_M_build_151 (by decide) ?_
                  refine lv_isub hx hb d_M_build_152 ?_
                  refine sd_top (y := nI (k - 1)) (ni_pred (by omega)) ?_
                  refine lv_icmp_ne (tgt := 161) hx hb d_M_build_153 rfl (fun hc153 => ?_) (fun hc153 => ?_)
                  · skip
                    have hlt : ¬ h = k - 1 := fun h9 => hc153 (by rw [h9])
                    have hmin : min h (k - 1) = h := Nat.min_eq_left (by omega)
                    refine lv_aload_n hx hb d_M_build_161 rfl (lv_at hl 0 rfl) ?_
                    refine sd_allVI (As := []) (rest := []) (w1 := (mW cI cZ qm mp mt ml mc mf me mg mh mu (cd) (nI k) (nI n) (nI (pn)) (nI ((nx + (mb_i tk nx k nb g h ((mb_o tk nx k nb (mv_f cb xb y k) g (0, zs_f k su, M)).1, mv_f cb xb y k g, (mb_o tk nx k nb (mv_f cb xb y k) g (0, zs_f k su, M)).2.1, (mb_o tk nx k nb (mv_f cb xb y k) g (0, zs_f k su, M)).2.2)).1) + 1)) (ep) (nI (((mb_i tk nx k nb g h ((mb_o tk nx k nb (mv_f cb xb y k) g (0, zs_f k su, M)).1, mv_f cb xb y k g, (mb_o tk nx k nb (mv_f cb xb y k) g (0, zs_f k su, M)).2.1, (mb_o tk nx k nb (mv_f cb xb y k) g (0, zs_f k su, M)).2.2)).2.2.2).1)) (((mb_i tk nx k nb g h ((mb_o tk nx k nb (mv_f cb xb y k) g (0, zs_f k su, M)).1, mv_f cb xb y k g, (mb_o tk nx k nb (mv_f cb xb y k) g (0, zs_f k su, M)).2.1, (mb_o tk nx k nb (mv_f cb xb y k) g (0, zs_f k su, M)).2.2)).2.2.2).2.2.1) (((mb_i tk nx k nb g h ((mb_o tk nx k nb (mv_f cb xb y k) g (0, zs_f k su, M)).1, mv_f cb xb y k g, (mb_o tk nx k nb (mv_f cb xb y k) g (0, zs_f k su, M)).2.1, (mb_o tk nx k nb (mv_f cb xb y k) g (0, zs_f k su, M)).2.2)).2.2.2).2.2.2) (wi) (jb) (fp) (tf) (tt) (fi) (ln) (bI y) (1000) (pr) (1000) (tk) (8) (le) (576) (co) (576) (fr) (10) (em) (192) (((mb_i tk nx k nb g h ((mb_o tk nx k nb (mv_f cb xb y k) g (0, zs_f k su, M)).1, mv_f cb xb y k g, (mb_o tk nx k nb (mv_f cb xb y k) g (0, zs_f k su, M)).2.1, (mb_o tk nx k nb (mv_f cb xb y k) g (0, zs_f k su, M)).2.2)).2.2.2).2.1) (10) (nb) (10) ((mb_i tk nx k nb g h ((mb_o tk nx k nb (mv_f cb xb y k) g (0, zs_f k su, M)).1, mv_f cb xb y k g, (mb_o tk nx k nb (mv_f cb xb y k) g (0, zs_f k su, M)).2.1, (mb_o tk nx k nb (mv_f cb xb y k) g (0, zs_f k su, M)).2.2)).2.2.1))) (c_M_nextTaken l D cI cZ cQ (qm) (mp) (mt) (ml) (mc) (mf) (me) (mg) (mh) (mu) (k) (n) (pn) (nx + (mb_i tk nx k nb g h ((mb_o tk nx k nb (mv_f cb xb y k) g (0, zs_f k su, M)).1, mv_f cb xb y k g, (mb_o tk nx k nb (mv_f cb xb y k) g (0, zs_f k su, M)).2.1, (mb_o tk nx k nb (mv_f cb xb y k) g (0, zs_f k su, M)).2.2)).1) (cd) (ep) ((mb_i tk nx k nb g h ((mb_o tk nx k nb (mv_f cb xb y k) g (0, zs_f k su, M)).1, mv_f cb xb y k g, (mb_o tk nx k nb (mv_f cb xb y k) g (0, zs_f k su, M)).2.1, (mb_o tk nx k nb (mv_f cb xb y k) g (0, zs_f k su, M)).2.2)).2.2.2) (wi) (jb) (fp) (tf) (tt) (fi) (ln) (bI y) (pr) (tk) (le) (co) (fr) (em) (nb) ((mb_i tk nx k nb g h ((mb_o tk nx k nb (mv_f cb xb y k) g (0, zs_f k su, M)).1, mv_f cb xb y k g, (mb_o tk nx k nb (mv_f cb xb y k) g (0, zs_f k su, M)).2.1, (mb_o tk nx k nb (mv_f cb xb y k) g (0, zs_f k su, M)).2.2)).2.2.1) (hk) (hn) (by omega)) ⟨wc_M_nextTaken, wm_M_73, wi_M, by decide, by decide, show (parseMethodDescriptor y_M_nextTaken.desc).map (fun d => d.parameters.length) = some 0 by decide +kernel⟩ wo_M_nextTaken wz_M_nextTaken hx hb hml hown hts hl.1 ⟨Nat.le_of_ble_eq_true rfl, Nat.le_of_ble_eq_true rfl⟩ ⟨Nat.le_of_ble_eq_true rfl, Nat.le_of_ble_eq_true rfl⟩ hK hP hD hS hA (rfl) (q0 := 0) rfl rfl rfl (Nat.le_of_ble_eq_true rfl) d_M_build_162 (fun H locs hP hD hS => ?_)
                    have hP : va_P D cls (mW cI cZ qm mp mt ml mc mf me mg mh mu (cd) (nI k) (nI n) (nI (pn)) (nI ((nx + (mb_i tk nx k nb g h ((mb_o tk nx k nb (mv_f cb xb y k) g (0, zs_f k su, M)).1, mv_f cb xb y k g, (mb_o tk nx k nb (mv_f cb xb y k) g (0, zs_f k su, M)).2.1, (mb_o tk nx k nb (mv_f cb xb y k) g (0, zs_f k su, M)).2.2)).1) + 1)) (ep) (nI (((mb_i tk nx k nb g h ((mb_o tk nx k nb (mv_f cb xb y k) g (0, zs_f k su, M)).1, mv_f cb xb y k g, (mb_o tk nx k nb (mv_f cb xb y k) g (0, zs_f k su, M)).2.1, (mb_o tk nx k nb (mv_f cb xb y k) g (0, zs_f k su, M)).2.2)).2.2.2).1)) (((mb_i tk nx k nb g h ((mb_o tk nx k nb (mv_f cb xb y k) g (0, zs_f k su, M)).1, mv_f cb xb y k g, (mb_o tk nx k nb (mv_f cb xb y k) g (0, zs_f k su, M)).2.1, (mb_o tk nx k nb (mv_f cb xb y k) g (0, zs_f k su, M)).2.2)).2.2.2).2.2.1) (((mb_i tk nx k nb g h ((mb_o tk nx k nb (mv_f cb xb y k) g (0, zs_f k su, M)).1, mv_f cb xb y k g, (mb_o tk nx k nb (mv_f cb xb y k) g (0, zs_f k su, M)).2.1, (mb_o tk nx k nb (mv_f cb xb y k) g (0, zs_f k su, M)).2.2)).2.2.2).2.2.2) (wi) (jb) (fp) (tf) (tt) (fi) (ln) (bI y) (1000) (pr) (1000) (tk) (8) (le) (576) (co) (576) (fr) (10) (em) (192) (((mb_i tk nx k nb g h ((mb_o tk nx k nb (mv_f cb xb y k) g (0, zs_f k su, M)).1, mv_f cb xb y k g, (mb_o tk nx k nb (mv_f cb xb y k) g (0, zs_f k su, M)).2.1, (mb_o tk nx k nb (mv_f cb xb y k) g (0, zs_f k su, M)).2.2)).2.2.2).2.1) (10) (nb) (10) ((mb_i tk nx k nb g h ((mb_o tk nx k nb (mv_f cb xb y k) g (0, zs_f k su, M)).1, mv_f cb xb y k g, (mb_o tk nx k nb (mv_f cb xb y k) g (0, zs_f k su, M)).2.1, (mb_o tk nx k nb (mv_f cb xb y k) g (0, zs_f k su, M)).2.2)).2.2.1)) H := hP
                    have hD : va_D A (mW cI cZ qm mp mt ml mc mf me mg mh mu (cd) (nI k) (nI n) (nI (pn)) (nI ((nx + (mb_i tk nx k nb g h ((mb_o tk nx k nb (mv_f cb xb y k) g (0, zs_f k su, M)).1, mv_f cb xb y k g, (mb_o tk nx k nb (mv_f cb xb y k) g (0, zs_f k su, M)).2.1, (mb_o tk nx k nb (mv_f cb xb y k) g (0, zs_f k su, M)).2.2)).1) + 1)) (ep) (nI (((mb_i tk nx k nb g h ((mb_o tk nx k nb (mv_f cb xb y k) g (0, zs_f k su, M)).1, mv_f cb xb y k g, (mb_o tk nx k nb (mv_f cb xb y k) g (0, zs_f k su, M)).2.1, (mb_o tk nx k nb (mv_f cb xb y k) g (0, zs_f k su, M)).2.2)).2.2.2).1)) (((mb_i tk nx k nb g h ((mb_o tk nx k nb (mv_f cb xb y k) g (0, zs_f k su, M)).1, mv_f cb xb y k g, (mb_o tk nx k nb (mv_f cb xb y k) g (0, zs_f k su, M)).2.1, (mb_o tk nx k nb (mv_f cb xb y k) g (0, zs_f k su, M)).2.2)).2.2.2).2.2.1) (((mb_i tk nx k nb g h ((mb_o tk nx k nb (mv_f cb xb y k) g (0, zs_f k su, M)).1, mv_f cb xb y k g, (mb_o tk nx k nb (mv_f cb xb y k) g (0, zs_f k su, M)).2.1, (mb_o tk nx k nb (mv_f cb xb y k) g (0, zs_f k su, M)).2.2)).2.2.2).2.2.2) (wi) (jb) (fp) (tf) (tt) (fi) (ln) (bI y) (1000) (pr) (1000) (tk) (8) (le) (576) (co) (576) (fr) (10) (em) (192) (((mb_i tk nx k nb g h ((mb_o tk nx k nb (mv_f cb xb y k) g (0, zs_f k su, M)).1, mv_f cb xb y k g, (mb_o tk nx k nb (mv_f cb xb y k) g (0, zs_f k su, M)).2.1, (mb_o tk nx k nb (mv_f cb xb y k) g (0, zs_f k su, M)).2.2)).2.2.2).2.1) (10) (nb) (10) ((mb_i tk nx k nb g h ((mb_o tk nx k nb (mv_f cb xb y k) g (0, zs_f k su, M)).1, mv_f cb xb y k g, (mb_o tk nx k nb (mv_f cb xb y k) g (0, zs_f k su, M)).2.1, (mb_o tk nx k nb (mv_f cb xb y k) g (0, zs_f k su, M)).2.2)).2.2.1)) := hD
                    have hl := lv_sub hl (l' := [(0, .ref qm), (1, .int (nI f)), (2, .int (nI b)), (3, .int (nI (9 * (8 * f + b)))), (4, .int (nI (g))), (5, .int ((mb_i tk nx k nb g h ((mb_o tk nx k nb (mv_f cb xb y k) g (0, zs_f k su, M)).1, mv_f cb xb y k g, (mb_o tk nx k nb (mv_f cb xb y k) g (0, zs_f k su, M)).2.1, (mb_o tk nx k nb (mv_f cb xb y k) g (0, zs_f k su, M)).2.2)).2.1)), (6, .int (nI (h)))]) [0, 1, 2, 3, 4, 5, 6] rfl
                    exact join165 _ _ ls _ _ (by first | exact (if_pos hlt).symm | exact (if_neg hlt).symm) (by first | exact (if_pos hlt).symm | exact (if_neg hlt).symm) hl hP hD hS
                  · skip
                    have hlt : h = k - 1 := (nI_eq (by omega) (by omega)).mp hc153
                    refine lv_iload hx hb d_M_build_156 (lv_at hl 5 rfl) ?_
                    refine lv_goto (tgt := 165) hx hb d_M_build_158 rfl ?_
                    have hl := lv_sub hl (l' := [(0, .ref qm), (1, .int (nI f)), (2, .int (nI b)), (3, .int (nI (9 * (8 * f + b)))), (4, .int (nI (g))), (5, .int ((mb_i tk nx k nb g h ((mb_o tk nx k nb (mv_f cb xb y k) g (0, zs_f k su, M)).1, mv_f cb xb y k g, (mb_o tk nx k nb (mv_f cb xb y k) g (0, zs_f k su, M)).2.1, (mb_o tk nx k nb (mv_f cb xb y k) g (0, zs_f k su, M)).2.2)).2.1)), (6, .int (nI (h)))]) [0, 1, 2, 3, 4, 5, 6] rfl
                    exact join165 _ _ ls _ _ (by first | exact (if_pos hlt).symm | exact (if_neg hlt).symm) (by first | exact (if_pos hlt).symm | exact (if_neg hlt).symm) hl hP hD hS
              exact loop136 _ (0) ls _ _ rfl (Nat.zero_le _) hl hP hD hS
            · skip
              rw [nI_leI (by omega) (by omega)] at hc75
              refine lv_iload hx hb d_M_build_78 (lv_at hl 6 rfl) ?_
              refine lv_iload hx hb d_M_build_80 (lv_at hl 4 rfl) ?_
              refine lv_icmp_ne (tgt := 90) hx hb d_M_build_82 rfl (fun hc82 => ?_) (fun hc82 => ?_)
              · skip
                have hgh : ¬ h = g := fun h9 => hc82 (by rw [h9])
                have hne9 : xb g ^^^ xb h ≠ 0#8 := fun h9 => hgh (hxd h g (by omega) (by omega) (gf_xc h9).symm)
                refine lv_iload hx hb d_M_build_90 (lv_at hl 5 rfl) ?_
                refine lv_aload_n hx hb d_M_build_92 rfl (lv_at hl 0 rfl) ?_
                refine va_get (D := D) (ci := 5) (v := .int (bI y)) (C := R_M) (T := F_M) (N := 26) hx hb hts wl_M hown hK hP 0 rfl rfl 23 (by decide) (hts _ wf_M_85) (fun _ h9 => h9) rfl d_M_build_93 ?_
                refine lv_aload_n hx hb d_M_build_96 rfl (lv_at hl 0 rfl) ?_
                refine va_get (D := D) (ci := 5) (v := .ref mh) (C := R_M) (T := F_M) (N := 26) hx hb hts wl_M hown hK hP 0 rfl rfl 24 (by decide) (hts _ wf_M_39) (fun _ h9 => h9) rfl d_M_build_97 ?_
                refine lv_iload hx hb d_M_build_100 (lv_at hl 6 rfl) ?_
                refine sd_iald (j := h) hx hb hK hP 8 0 rfl rfl (by omega) (by omega) d_M_build_102 ?_
                refine sd_top (y := bI (xb h)) (hxb h (by omega)) ?_
                refine lv_ixor hx hb d_M_build_103 ?_
                refine sd_top (y := bI (y ^^^ xb h)) (bI_xor _ _) ?_
                refine lv_aload_n hx hb d_M_build_104 rfl (lv_at hl 0 rfl) ?_
                refine va_get (D := D) (ci := 5) (v := .ref mh) (C := R_M) (T := F_M) (N := 26) hx hb hts wl_M hown hK hP 0 rfl rfl 24 (by decide) (hts _ wf_M_39) (fun _ h9 => h9) rfl d_M_build_105 ?_
                refine lv_iload hx hb d_M_build_108 (lv_at hl 4 rfl) ?_
                refine sd_iald (j := g) hx hb hK hP 8 0 rfl rfl (by omega) (by omega) d_M_build_110 ?_
                refine sd_top (y := bI (xb g)) (hxb g (by omega)) ?_
                refine lv_aload_n hx hb d_M_build_111 rfl (lv_at hl 0 rfl) ?_
                refine va_get (D := D) (ci := 5) (v := .ref mh) (C := R_M) (T := F_M) (N := 26) hx hb hts wl_M hown hK hP 0 rfl rfl 24 (by decide) (hts _ wf_M_39) (fun _ h9 => h9) rfl d_M_build_112 ?_
                refine lv_iload hx hb d_M_build_115 (lv_at hl 6 rfl) ?_
                refine sd_iald (j := h) hx hb hK hP 8 0 rfl rfl (by omega) (by omega) d_M_build_117 ?_
                refine sd_top (y := bI (xb h)) (hxb h (by omega)) ?_
                refine lv_ixor hx hb d_M_build_118 ?_
                refine sd_top (y := bI (xb g ^^^ xb h)) (bI_xor _ _) ?_
                refine sd_callSI (As := [.int (bI (y ^^^ xb h)), .int (bI (xb g ^^^ xb h))]) (rest := [.int (bI (gf_R xb y g (gf_h cb (xb g) k 0#8) h))]) (cx := []) (w1 := []) (c_M_quotient l D cI cZ cQ (y ^^^ xb h) (xb g ^^^ xb h) (hne9)) ⟨wc_M_quotient, wm_M_88, wi_M, by decide, by decide, show (parseMethodDescriptor y_M_quotient.desc).map (fun d => d.parameters.length) = some 2 by decide +kernel⟩ ws_M_quotient hx hb hml hown hts hl.1 ⟨Nat.le_of_ble_eq_true rfl, Nat.le_of_ble_eq_true rfl⟩ ⟨Nat.le_of_ble_eq_true rfl, Nat.le_of_ble_eq_true rfl⟩ hK hP hD hS hA [] rfl (by decide) rfl rfl rfl (Nat.le_of_ble_eq_true rfl) d_M_build_119 (fun H locs hP hD hS => ?_)
                have hP : va_P D cls (mW cI cZ qm mp mt ml mc mf me mg mh mu (cd) (nI k) (nI n) (nI (pn)) (nI ((nx + (mb_o tk nx k nb (mv_f cb xb y k) g (0, zs_f k su, M)).1))) (ep) (nI (((mb_o tk nx k nb (mv_f cb xb y k) g (0, zs_f k su, M)).2.2).1)) (((mb_o tk nx k nb (mv_f cb xb y k) g (0, zs_f k su, M)).2.2).2.2.1) (((mb_o tk nx k nb (mv_f cb xb y k) g (0, zs_f k su, M)).2.2).2.2.2) (wi) (jb) (fp) (tf) (tt) (fi) (ln) (bI y) (1000) (pr) (1000) (tk) (8) (le) (576) (co) (576) (fr) (10) (em) (192) (((mb_o tk nx k nb (mv_f cb xb y k) g (0, zs_f k su, M)).2.2).2.1) (10) (nb) (10) ((mb_o tk nx k nb (mv_f cb xb y k) g (0, zs_f k su, M)).2.1)) H := hP
                have hD : va_D A (mW cI cZ qm mp mt ml mc mf me mg mh mu (cd) (nI k) (nI n) (nI (pn)) (nI ((nx + (mb_o tk nx k nb (mv_f cb xb y k) g (0, zs_f k su, M)).1))) (ep) (nI (((mb_o tk nx k nb (mv_f cb xb y k) g (0, zs_f k su, M)).2.2).1)) (((mb_o tk nx k nb (mv_f cb xb y k) g (0, zs_f k su, M)).2.2).2.2.1) (((mb_o tk nx k nb (mv_f cb xb y k) g (0, zs_f k su, M)).2.2).2.2.2) (wi) (jb) (fp) (tf) (tt) (fi) (ln) (bI y) (1000) (pr) (1000) (tk) (8) (le) (576) (co) (576) (fr) (10) (em) (192) (((mb_o tk nx k nb (mv_f cb xb y k) g (0, zs_f k su, M)).2.2).2.1) (10) (nb) (10) ((mb_o tk nx k nb (mv_f cb xb y k) g (0, zs_f k su, M)).2.1)) := hD
                refine sd_callSI (As := [.int (bI (gf_R xb y g (gf_h cb (xb g) k 0#8) h)), .int (bI (gf_m (y ^^^ xb h) (gf_i (xb g ^^^ xb h))))]) (rest := []) (cx := []) (w1 := []) (c_M_product l D cI cZ cQ (gf_R xb y g (gf_h cb (xb g) k 0#8) h) (gf_m (y ^^^ xb h) (gf_i (xb g ^^^ xb h)))) ⟨wc_M_product, wm_M_54, wi_M, by decide, by decide, show (parseMethodDescriptor y_M_product.desc).map (fun d => d.parameters.length) = some 2 by decide +kernel⟩ ws_M_product hx hb hml hown hts hl.1 ⟨Nat.le_of_ble_eq_true rfl, Nat.le_of_ble_eq_true rfl⟩ ⟨Nat.le_of_ble_eq_true rfl, Nat.le_of_ble_eq_true rfl⟩ hK hP hD hS hA [] rfl (by decide) rfl rfl rfl (Nat.le_of_ble_eq_true rfl) d_M_build_122 (fun H locs hP hD hS => ?_)
                have hP : va_P D cls (mW cI cZ qm mp mt ml mc mf me mg mh mu (cd) (nI k) (nI n) (nI (pn)) (nI ((nx + (mb_o tk nx k nb (mv_f cb xb y k) g (0, zs_f k su, M)).1))) (ep) (nI (((mb_o tk nx k nb (mv_f cb xb y k) g (0, zs_f k su, M)).2.2).1)) (((mb_o tk nx k nb (mv_f cb xb y k) g (0, zs_f k su, M)).2.2).2.2.1) (((mb_o tk nx k nb (mv_f cb xb y k) g (0, zs_f k su, M)).2.2).2.2.2) (wi) (jb) (fp) (tf) (tt) (fi) (ln) (bI y) (1000) (pr) (1000) (tk) (8) (le) (576) (co) (576) (fr) (10) (em) (192) (((mb_o tk nx k nb (mv_f cb xb y k) g (0, zs_f k su, M)).2.2).2.1) (10) (nb) (10) ((mb_o tk nx k nb (mv_f cb xb y k) g (0, zs_f k su, M)).2.1)) H := hP
                have hD : va_D A (mW cI cZ qm mp mt ml mc mf me mg mh mu (cd) (nI k) (nI n) (nI (pn)) (nI ((nx + (mb_o tk nx k nb (mv_f cb xb y k) g (0, zs_f k su, M)).1))) (ep) (nI (((mb_o tk nx k nb (mv_f cb xb y k) g (0, zs_f k su, M)).2.2).1)) (((mb_o tk nx k nb (mv_f cb xb y k) g (0, zs_f k su, M)).2.2).2.2.1) (((mb_o tk nx k nb (mv_f cb xb y k) g (0, zs_f k su, M)).2.2).2.2.2) (wi) (jb) (fp) (tf) (tt) (fi) (ln) (bI y) (1000) (pr) (1000) (tk) (8) (le) (576) (co) (576) (fr) (10) (em) (192) (((mb_o tk nx k nb (mv_f cb xb y k) g (0, zs_f k su, M)).2.2).2.1) (10) (nb) (10) ((mb_o tk nx k nb (mv_f cb xb y k) g (0, zs_f k su, M)).2.1)) := hD
                refine sd_top (y := bI (gf_R xb y g (gf_h cb (xb g) k 0#8) (h + 1))) (by rw [gf_Rn hgh]) ?_
                refine lv_istore hx hb d_M_build_125 hl (Nat.le_of_ble_eq_true rfl) (lv' := [(5, .int (bI (gf_R xb y g (gf_h cb (xb g) k 0#8) (h + 1)))), (0, .ref qm), (1, .int (nI f)), (2, .int (nI b)), (3, .int (nI (9 * (8 * f + b)))), (4, .int (nI (g))), (6, .int (nI (h)))]) rfl (fun ls hl => ?_)
                refine lv_iinc hx hb d_M_build_127 hl (k := 6) rfl (v := nI (h + 1)) (ii_1 _) (Nat.le_of_ble_eq_true rfl) (lv' := [(6, .int (nI (h + 1))), (5, .int (bI (gf_R xb y g (gf_h cb (xb g) k 0#8) (h + 1)))), (0, .ref qm), (1, .int (nI f)), (2, .int (nI b)), (3, .int (nI (9 * (8 * f + b)))), (4, .int (nI (g)))]) rfl (fun ls hl => ?_)
                refine lv_goto (tgt := 69) hx hb d_M_build_130 rfl ?_
                have hl := lv_sub hl (l' := [(0, .ref qm), (1, .int (nI f)), (2, .int (nI b)), (3, .int (nI (9 * (8 * f + b)))), (4, .int (nI (g))), (5, .int (bI (gf_R xb y g (gf_h cb (xb g) k 0#8) (h + 1)))), (6, .int (nI (h + 1)))]) [2, 3, 4, 5, 6, 1, 0] rfl
                exact ih69 _ (by omega) (h + 1) ls _ _ rfl (by omega) hl hP hD hS
              · skip
                have hgh : h = g := (nI_eq (by omega) (by omega)).mp hc82
                refine lv_iload hx hb d_M_build_85 (lv_at hl 5 rfl) ?_
                refine sd_top (y := bI (gf_R xb y g (gf_h cb (xb g) k 0#8) (h + 1))) (by rw [gf_Re hgh]) ?_
                refine lv_goto (tgt := 125) hx hb d_M_build_87 rfl ?_
                refine lv_istore hx hb d_M_build_125 hl (Nat.le_of_ble_eq_true rfl) (lv' := [(5, .int (bI (gf_R xb y g (gf_h cb (xb g) k 0#8) (h + 1)))), (0, .ref qm), (1, .int (nI f)), (2, .int (nI b)), (3, .int (nI (9 * (8 * f + b)))), (4, .int (nI (g))), (6, .int (nI (h)))]) rfl (fun ls hl => ?_)
                refine lv_iinc hx hb d_M_build_127 hl (k := 6) rfl (v := nI (h + 1)) (ii_1 _) (Nat.le_of_ble_eq_true rfl) (lv' := [(6, .int (nI (h + 1))), (5, .int (bI (gf_R xb y g (gf_h cb (xb g) k 0#8) (h + 1)))), (0, .ref qm), (1, .int (nI f)), (2, .int (nI b)), (3, .int (nI (9 * (8 * f + b)))), (4, .int (nI (g)))]) rfl (fun ls hl => ?_)
                refine lv_goto (tgt := 69) hx hb d_M_build_130 rfl ?_
                have hl := lv_sub hl (l' := [(0, .ref qm), (1, .int (nI f)), (2, .int (nI b)), (3, .int (nI (9 * (8 * f + b)))), (4, .int (nI (g))), (5, .int (bI (gf_R xb y g (gf_h cb (xb g) k 0#8) (h + 1)))), (6, .int (nI (h + 1)))]) [2, 3, 4, 5, 6, 1, 0] rfl
                exact ih69 _ (by omega) (h + 1) ls _ _ rfl (by omega) hl hP hD hS
          exact loop69 _ (0) ls _ _ rfl (Nat.zero_le _) hl hP hD hS
      exact loop39 _ (0) ls _ _ rfl (Nat.zero_le _) hl hP hD hS
    · skip
      rw [nI_leI (by omega) (by omega)] at hc19
      refine lv_aload_n hx hb d_M_build_22 rfl (lv_at hl 0 rfl) ?_
      refine va_get (D := D) (ci := 5) (v := .ref mu) (C := R_M) (T := F_M) (N := 26) hx hb hts wl_M hown hK hP 0 rfl rfl 25 (by decide) (hts _ wf_M_42) (fun _ h9 => h9) rfl d_M_build_23 ?_
      refine lv_iload hx hb d_M_build_26 (lv_at hl 4 rfl) ?_
      refine lv_iconst (v := 0) hx hb d_M_build_28 (by decide) ?_
      refine sd_iast (j := h) hx hb hK hP hD hS 9 0 rfl rfl (by omega) (by omega) d_M_build_29 (fun H locs hP hD hS => ?_)
      have hP : va_P D cls (mW cI cZ qm mp mt ml mc mf me mg mh mu (cd) (nI k) (nI n) (nI (pn)) (nI (nx)) (ep) (nI (M.1)) (M.2.2.1) (M.2.2.2) (wi) (jb) (fp) (tf) (tt) (fi) (ln) (bI y) (1000) (pr) (1000) (tk) (8) (le) (576) (co) (576) (fr) (10) (em) (192) (M.2.1) (10) (nb) (10) (upd (zs_f h su) (h) (0))) H := hP
      have hD : va_D A (mW cI cZ qm mp mt ml mc mf me mg mh mu (cd) (nI k) (nI n) (nI (pn)) (nI (nx)) (ep) (nI (M.1)) (M.2.2.1) (M.2.2.2) (wi) (jb) (fp) (tf) (tt) (fi) (ln) (bI y) (1000) (pr) (1000) (tk) (8) (le) (576) (co) (576) (fr) (10) (em) (192) (M.2.1) (10) (nb) (10) (upd (zs_f h su) (h) (0))) := hD
      refine lv_iinc hx hb d_M_build_30 hl (k := 4) rfl (v := nI (h + 1)) (ii_1 _) (Nat.le_of_ble_eq_true rfl) (lv' := [(4, .int (nI (h + 1))), (0, .ref qm), (1, .int (nI f)), (2, .int (nI b)), (3, .int (nI (9 * (8 * f + b))))]) rfl (fun ls hl => ?_)
      refine lv_goto (tgt := 13) hx hb d_M_build_33 rfl ?_
      have hl := lv_sub hl (l' := [(0, .ref qm), (1, .int (nI f)), (2, .int (nI b)), (3, .int (nI (9 * (8 * f + b)))), (4, .int (nI (h + 1)))]) [1, 2, 3, 4, 0] rfl
      exact ih13 _ (by omega) (h + 1) ls _ _ rfl (by omega) hl hP hD hS
  exact loop13 _ (0) ls _ _ rfl (Nat.zero_le _) hl hP hD hS
