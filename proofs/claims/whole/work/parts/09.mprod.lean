/-! the reference's product of bytes: a long product, then the rest by the modulus, bit by bit; it is the same product -/
def iB (r : BitVec 32) : Int32 := Int32.ofBitVec r
theorem iB_bv (r : BitVec 32) : (iB r).toBitVec = r := rfl
theorem iB_bI (a : BitVec 8) : iB (a.setWidth 32) = bI a := Int32.toBitVec_inj.mp (by rw [iB_bv, bI_bv])
theorem sh_l : ∀ n, n < 32 → ((nI n &&& 31).toBitVec.smod 32).toNat = n := by decide +kernel
theorem iB_shl (a : BitVec 8) (r : BitVec 32) {j : Nat} (hj : j < 32) : iB r ^^^ (bI a <<< (nI j &&& 31)) = iB (r ^^^ (a.setWidth 32 <<< j)) := by
  apply Int32.toBitVec_inj.mp
  rw [Int32.toBitVec_xor, Int32.toBitVec_shiftLeft, bI_bv, iB_bv, iB_bv, BitVec.shiftLeft_eq', sh_l j hj]
theorem iB_shlc (c : Int32) (r : BitVec 32) {j : Nat} (hj : j < 32) : iB r ^^^ (c <<< (nI j &&& 31)) = iB (r ^^^ (c.toBitVec <<< j)) := by
  apply Int32.toBitVec_inj.mp
  rw [Int32.toBitVec_xor, Int32.toBitVec_shiftLeft, iB_bv, iB_bv, BitVec.shiftLeft_eq', sh_l j hj]
theorem bv_odd (x : BitVec 32) : x &&& 1#32 = 1#32 ↔ x.getLsbD 0 = true := by
  constructor
  · intro h
    have h1 := congrArg (fun y => BitVec.getLsbD y 0) h
    simpa using h1
  · intro h
    apply BitVec.eq_of_getLsbD_eq
    intro i hi
    rw [BitVec.getLsbD_and, BitVec.getLsbD_one]
    by_cases h0 : i = 0
    · subst h0; simp [h]
    · simp [h0]
theorem iB_bit (r : BitVec 32) {j : Nat} (hj : j < 32) : ((iB r >>> (nI j &&& 31)) &&& 1) = 1 ↔ r.getLsbD j = true := by
  rw [← Int32.toBitVec_inj, Int32.toBitVec_and, Int32.toBitVec_shiftRight, iB_bv]
  show BitVec.sshiftRight' r ((nI j &&& 31).toBitVec.smod 32) &&& 1#32 = 1#32 ↔ _
  rw [bv_odd]
  unfold BitVec.sshiftRight'
  rw [sh_l j hj, BitVec.getLsbD_sshiftRight]
  simp [hj]
def mp_1 (a b : BitVec 8) : Nat → BitVec 32
  | 0 => 0#32
  | j + 1 => if b.getLsbD j = true then mp_1 a b j ^^^ (a.setWidth 32 <<< j) else mp_1 a b j
def mp_s (n : Nat) (r : BitVec 32) : BitVec 32 := if r.getLsbD (8 + n) = true then r ^^^ (283#32 <<< n) else r
def mp_2 : Nat → BitVec 32 → BitVec 32
  | 0, r => r
  | n + 1, r => mp_2 n (mp_s n r)
theorem w_x4 {w : Nat} (a b c d : BitVec w) : (a ^^^ b) ^^^ (c ^^^ d) = (a ^^^ c) ^^^ (b ^^^ d) := by
  rw [BitVec.xor_assoc, BitVec.xor_assoc, ← BitVec.xor_assoc b c d, BitVec.xor_comm b c, BitVec.xor_assoc c b d]
theorem mp_s_l (n : Nat) (r q : BitVec 32) : mp_s n (r ^^^ q) = mp_s n r ^^^ mp_s n q := by
  unfold mp_s
  rw [BitVec.getLsbD_xor]
  cases h1 : r.getLsbD (8 + n) <;> cases h2 : q.getLsbD (8 + n) <;> simp
  · rw [BitVec.xor_assoc]
  · rw [BitVec.xor_assoc, BitVec.xor_assoc, BitVec.xor_comm q]
  · rw [w_x4 r _ q, BitVec.xor_self, BitVec.xor_zero]
theorem mp_2_l (n : Nat) : ∀ r q : BitVec 32, mp_2 n (r ^^^ q) = mp_2 n r ^^^ mp_2 n q := by
  induction n with
  | zero => intro r q; rfl
  | succ n ih =>
    intro r q
    show mp_2 n (mp_s n (r ^^^ q)) = mp_2 n (mp_s n r) ^^^ mp_2 n (mp_s n q)
    rw [mp_s_l, ih]
theorem mp_1_a (a a' b : BitVec 8) (j : Nat) : mp_1 (a ^^^ a') b j = mp_1 a b j ^^^ mp_1 a' b j := by
  induction j with
  | zero => exact BitVec.xor_zero.symm
  | succ j ih =>
    show (if b.getLsbD j = true then mp_1 (a ^^^ a') b j ^^^ ((a ^^^ a').setWidth 32 <<< j) else mp_1 (a ^^^ a') b j) = (if b.getLsbD j = true then mp_1 a b j ^^^ (a.setWidth 32 <<< j) else mp_1 a b j) ^^^ (if b.getLsbD j = true then mp_1 a' b j ^^^ (a'.setWidth 32 <<< j) else mp_1 a' b j)
    by_cases h : b.getLsbD j = true
    · rw [if_pos h, if_pos h, if_pos h, ih, BitVec.setWidth_xor, BitVec.shiftLeft_xor_distrib, w_x4]
    · rw [if_neg h, if_neg h, if_neg h, ih]
theorem mp_1_b (a b b' : BitVec 8) (j : Nat) : mp_1 a (b ^^^ b') j = mp_1 a b j ^^^ mp_1 a b' j := by
  induction j with
  | zero => exact BitVec.xor_zero.symm
  | succ j ih =>
    show (if (b ^^^ b').getLsbD j = true then mp_1 a (b ^^^ b') j ^^^ (a.setWidth 32 <<< j) else mp_1 a (b ^^^ b') j) = (if b.getLsbD j = true then mp_1 a b j ^^^ (a.setWidth 32 <<< j) else mp_1 a b j) ^^^ (if b'.getLsbD j = true then mp_1 a b' j ^^^ (a.setWidth 32 <<< j) else mp_1 a b' j)
    rw [BitVec.getLsbD_xor, ih]
    cases h1 : b.getLsbD j <;> cases h2 : b'.getLsbD j <;> simp
    · rw [BitVec.xor_assoc]
    · rw [BitVec.xor_assoc, BitVec.xor_assoc, BitVec.xor_comm (mp_1 a b' j)]
    · rw [w_x4 (mp_1 a b j) _ (mp_1 a b' j), BitVec.xor_self, BitVec.xor_zero]
theorem w_lin0 {w : Nat} {f : BitVec 8 → BitVec w} (hf : ∀ x y, f (x ^^^ y) = f x ^^^ f y) : f 0#8 = 0#w := by
  have h := hf 0#8 0#8
  rw [BitVec.xor_self, BitVec.xor_self] at h
  exact h
theorem w_lin {w : Nat} {f g : BitVec 8 → BitVec w} (hf : ∀ x y, f (x ^^^ y) = f x ^^^ f y) (hg : ∀ x y, g (x ^^^ y) = g x ^^^ g y) (h : ∀ i, i < 8 → f (1#8 <<< i) = g (1#8 <<< i)) (x : BitVec 8) : f x = g x := by
  have key : ∀ i, i < 8 → f (gf_e i x) = g (gf_e i x) := by
    intro i hi
    unfold gf_e
    by_cases hb : x.getLsbD i = true
    · rw [if_pos hb]; exact h i hi
    · rw [if_neg hb, w_lin0 hf, w_lin0 hg]
  have h1 : f (gf_E x) = g (gf_E x) := by
    unfold gf_E
    rw [hf, hf, hf, hf, hf, hf, hf, hg, hg, hg, hg, hg, hg, hg, key 0 (by omega), key 1 (by omega), key 2 (by omega), key 3 (by omega), key 4 (by omega), key 5 (by omega), key 6 (by omega), key 7 (by omega)]
  rw [gf_bits] at h1
  exact h1
set_option maxRecDepth 100000 in
theorem mp_00 : ∀ i, i < 8 → ∀ j, j < 8 → mp_2 7 (mp_1 (1#8 <<< i) (1#8 <<< j) 8) = (gf_m (1#8 <<< i) (1#8 <<< j)).setWidth 32 := by decide +kernel
theorem mp_eq (a b : BitVec 8) : mp_2 7 (mp_1 a b 8) = (gf_m a b).setWidth 32 :=
  w_lin (f := fun a => mp_2 7 (mp_1 a b 8)) (g := fun a => (gf_m a b).setWidth 32) (fun x y => by show mp_2 7 (mp_1 (x ^^^ y) b 8) = _; rw [mp_1_a, mp_2_l]) (fun x y => by show (gf_m (x ^^^ y) b).setWidth 32 = _; rw [gf_l, BitVec.setWidth_xor])
    (fun i hi => w_lin (f := fun b => mp_2 7 (mp_1 (1#8 <<< i) b 8)) (g := fun b => (gf_m (1#8 <<< i) b).setWidth 32) (fun x y => by show mp_2 7 (mp_1 _ (x ^^^ y) 8) = _; rw [mp_1_b, mp_2_l]) (fun x y => by show (gf_m _ (x ^^^ y)).setWidth 32 = _; rw [gf_r, BitVec.setWidth_xor]) (fun j hj => mp_00 i hi j hj) b) a
theorem mp_bI (a b : BitVec 8) : iB (mp_2 7 (mp_1 a b 8)) = bI (gf_m a b) := by rw [mp_eq, iB_bI]
