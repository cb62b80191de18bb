/-! GF(256): bytes as BitVec 8, their product, inverse, polynomials, and the value at a place out of k values (Lagrange) -/
def gf_x (a : BitVec 8) : BitVec 8 := (a <<< 1) ^^^ (if a.msb = true then 0x1b#8 else 0#8)
def gf_mA : Nat → BitVec 8 → BitVec 8 → BitVec 8
  | 0, _, _ => 0#8
  | n + 1, a, b => (if b.getLsbD 0 = true then a else 0#8) ^^^ gf_mA n (gf_x a) (b >>> 1)
def gf_m (a b : BitVec 8) : BitVec 8 := gf_mA 8 a b
theorem gf_ite (p q : Bool) (c : BitVec 8) : (if (p ^^ q) = true then c else 0#8) = (if p = true then c else 0#8) ^^^ (if q = true then c else 0#8) := by
  cases p <;> cases q <;> simp
theorem gf_x4 (a b c d : BitVec 8) : (a ^^^ b) ^^^ (c ^^^ d) = (a ^^^ c) ^^^ (b ^^^ d) := by
  rw [BitVec.xor_assoc, BitVec.xor_assoc, ← BitVec.xor_assoc b c d, BitVec.xor_comm b c, BitVec.xor_assoc c b d]
theorem gf_xc {a b : BitVec 8} (h : a ^^^ b = 0#8) : a = b := by
  have h1 : (a ^^^ b) ^^^ b = 0#8 ^^^ b := by rw [h]
  rw [BitVec.xor_assoc, BitVec.xor_self, BitVec.xor_zero, BitVec.zero_xor] at h1
  exact h1
theorem gf_x_add (a b : BitVec 8) : gf_x (a ^^^ b) = gf_x a ^^^ gf_x b := by
  unfold gf_x
  rw [BitVec.shiftLeft_xor_distrib, BitVec.msb_xor, gf_ite, gf_x4]
theorem gf_if2 (p : Prop) [Decidable p] (a b : BitVec 8) : (if p then a ^^^ b else 0#8) = (if p then a else 0#8) ^^^ (if p then b else 0#8) := by
  by_cases h : p
  · rw [if_pos h, if_pos h, if_pos h]
  · rw [if_neg h, if_neg h, if_neg h, BitVec.xor_zero]
theorem gf_mA_l (n : Nat) : ∀ a a' b : BitVec 8, gf_mA n (a ^^^ a') b = gf_mA n a b ^^^ gf_mA n a' b := by
  induction n with
  | zero => intro a a' b; exact (BitVec.xor_zero).symm
  | succ n ih =>
    intro a a' b
    show (if b.getLsbD 0 = true then a ^^^ a' else 0#8) ^^^ gf_mA n (gf_x (a ^^^ a')) (b >>> 1) = _
    rw [gf_x_add, ih, gf_if2, gf_x4]
    rfl
theorem gf_mA_r (n : Nat) : ∀ a b b' : BitVec 8, gf_mA n a (b ^^^ b') = gf_mA n a b ^^^ gf_mA n a b' := by
  induction n with
  | zero => intro a b b'; exact (BitVec.xor_zero).symm
  | succ n ih =>
    intro a b b'
    show (if (b ^^^ b').getLsbD 0 = true then a else 0#8) ^^^ gf_mA n (gf_x a) ((b ^^^ b') >>> 1) = _
    rw [BitVec.ushiftRight_xor_distrib, ih, BitVec.getLsbD_xor, gf_ite, gf_x4]
    rfl
theorem gf_l (a a' b : BitVec 8) : gf_m (a ^^^ a') b = gf_m a b ^^^ gf_m a' b := gf_mA_l 8 a a' b
theorem gf_r (a b b' : BitVec 8) : gf_m a (b ^^^ b') = gf_m a b ^^^ gf_m a b' := gf_mA_r 8 a b b'
def gf_e (i : Nat) (x : BitVec 8) : BitVec 8 := if x.getLsbD i = true then 1#8 <<< i else 0#8
def gf_E (x : BitVec 8) : BitVec 8 := gf_e 0 x ^^^ (gf_e 1 x ^^^ (gf_e 2 x ^^^ (gf_e 3 x ^^^ (gf_e 4 x ^^^ (gf_e 5 x ^^^ (gf_e 6 x ^^^ gf_e 7 x))))))
set_option maxRecDepth 100000 in
theorem gf_bits : ∀ x : BitVec 8, gf_E x = x := by decide +kernel
theorem gf_lin0 {f : BitVec 8 → BitVec 8} (hf : ∀ x y, f (x ^^^ y) = f x ^^^ f y) : f 0#8 = 0#8 := by
  have h := hf 0#8 0#8
  rw [BitVec.xor_self, BitVec.xor_self] at h
  exact h
theorem gf_lin {f g : BitVec 8 → BitVec 8} (hf : ∀ x y, f (x ^^^ y) = f x ^^^ f y) (hg : ∀ x y, g (x ^^^ y) = g x ^^^ g y) (h : ∀ i, i < 8 → f (1#8 <<< i) = g (1#8 <<< i)) (x : BitVec 8) : f x = g x := by
  have key : ∀ i, i < 8 → f (gf_e i x) = g (gf_e i x) := by
    intro i hi
    unfold gf_e
    by_cases hb : x.getLsbD i = true
    · rw [if_pos hb]; exact h i hi
    · rw [if_neg hb, gf_lin0 hf, gf_lin0 hg]
  have h1 : f (gf_E x) = g (gf_E x) := by
    unfold gf_E
    rw [hf, hf, hf, hf, hf, hf, hf, hg, hg, hg, hg, hg, hg, hg, key 0 (by omega), key 1 (by omega), key 2 (by omega), key 3 (by omega), key 4 (by omega), key 5 (by omega), key 6 (by omega), key 7 (by omega)]
  rw [gf_bits] at h1
  exact h1
set_option maxRecDepth 100000 in
theorem gf_comm0 : ∀ i, i < 8 → ∀ j, j < 8 → gf_m (1#8 <<< i) (1#8 <<< j) = gf_m (1#8 <<< j) (1#8 <<< i) := by decide +kernel
theorem gf_comm (a b : BitVec 8) : gf_m a b = gf_m b a :=
  gf_lin (f := fun a => gf_m a b) (g := fun a => gf_m b a) (fun x y => gf_l x y b) (fun x y => gf_r b x y)
    (fun i hi => gf_lin (f := fun b => gf_m (1#8 <<< i) b) (g := fun b => gf_m b (1#8 <<< i)) (fun x y => gf_r _ x y) (fun x y => gf_l x y _) (fun j hj => gf_comm0 i hi j hj) b) a
set_option maxRecDepth 100000 in
theorem gf_assoc0 : ∀ i, i < 8 → ∀ j, j < 8 → ∀ k, k < 8 → gf_m (gf_m (1#8 <<< i) (1#8 <<< j)) (1#8 <<< k) = gf_m (1#8 <<< i) (gf_m (1#8 <<< j) (1#8 <<< k)) := by decide +kernel
theorem gf_assoc (a b c : BitVec 8) : gf_m (gf_m a b) c = gf_m a (gf_m b c) :=
  gf_lin (f := fun a => gf_m (gf_m a b) c) (g := fun a => gf_m a (gf_m b c)) (fun x y => by show gf_m (gf_m (x ^^^ y) b) c = _; rw [gf_l, gf_l]) (fun x y => gf_l x y _)
    (fun i hi => gf_lin (f := fun b => gf_m (gf_m (1#8 <<< i) b) c) (g := fun b => gf_m (1#8 <<< i) (gf_m b c)) (fun x y => by show gf_m (gf_m _ (x ^^^ y)) c = _; rw [gf_r, gf_l]) (fun x y => by show gf_m _ (gf_m (x ^^^ y) c) = _; rw [gf_l, gf_r])
      (fun j hj => gf_lin (f := fun c => gf_m (gf_m (1#8 <<< i) (1#8 <<< j)) c) (g := fun c => gf_m (1#8 <<< i) (gf_m (1#8 <<< j) c)) (fun x y => gf_r _ x y) (fun x y => by show gf_m _ (gf_m _ (x ^^^ y)) = _; rw [gf_r, gf_r]) (fun k hk => gf_assoc0 i hi j hj k hk) c) b) a
set_option maxRecDepth 100000 in
theorem gf_one : ∀ a : BitVec 8, gf_m 1#8 a = a := by decide +kernel
theorem gf_oneR (a : BitVec 8) : gf_m a 1#8 = a := by rw [gf_comm, gf_one]
theorem gf_0l (a : BitVec 8) : gf_m 0#8 a = 0#8 := gf_lin0 (f := fun x => gf_m x a) (fun x y => gf_l x y a)
theorem gf_0r (a : BitVec 8) : gf_m a 0#8 = 0#8 := gf_lin0 (f := fun x => gf_m a x) (fun x y => gf_r a x y)
def gf_iA : Nat → BitVec 8 → BitVec 8 → BitVec 8
  | 0, r, _ => r
  | n + 1, r, p => gf_iA n (gf_m r (gf_m p p)) (gf_m p p)
def gf_i (b : BitVec 8) : BitVec 8 := gf_iA 7 1#8 b
set_option maxRecDepth 100000 in
theorem gf_inv : ∀ b : BitVec 8, b ≠ 0#8 → gf_m b (gf_i b) = 1#8 := by decide +kernel
theorem gf_m4 (a b c d : BitVec 8) : gf_m (gf_m a b) (gf_m c d) = gf_m (gf_m a c) (gf_m b d) := by
  rw [gf_assoc, gf_assoc, ← gf_assoc b c d, gf_comm b c, gf_assoc c b d]
theorem gf_iA_m (n : Nat) : ∀ r r' p p' : BitVec 8, gf_iA n (gf_m r r') (gf_m p p') = gf_m (gf_iA n r p) (gf_iA n r' p') := by
  induction n with
  | zero => intro r r' p p'; rfl
  | succ n ih =>
    intro r r' p p'
    show gf_iA n (gf_m (gf_m r r') (gf_m (gf_m p p') (gf_m p p'))) (gf_m (gf_m p p') (gf_m p p')) = _
    rw [gf_m4 p p' p p', gf_m4 r r', ih]
    rfl
theorem gf_i_m (a b : BitVec 8) : gf_i (gf_m a b) = gf_m (gf_i a) (gf_i b) := by
  have h := gf_iA_m 7 1#8 1#8 a b
  rw [gf_one] at h
  exact h
theorem gf_i1 : gf_i 1#8 = 1#8 := by decide +kernel
theorem gf_nz {a b : BitVec 8} (ha : a ≠ 0#8) (h : gf_m a b = 0#8) : b = 0#8 := by
  have h1 : gf_m (gf_i a) (gf_m a b) = b := by rw [← gf_assoc, gf_comm (gf_i a) a, gf_inv a ha, gf_one]
  rw [h, gf_0r] at h1
  exact h1.symm
theorem gf_nz2 {a b : BitVec 8} (ha : a ≠ 0#8) (hb : b ≠ 0#8) : gf_m a b ≠ 0#8 := fun h => hb (gf_nz ha h)
/-- the quotient is the one c with c b = a -/
theorem gf_quo {a b c : BitVec 8} (hb : b ≠ 0#8) : gf_m c b = a ↔ c = gf_m a (gf_i b) := by
  constructor
  · intro h
    rw [← h, gf_assoc, gf_inv b hb, gf_oneR]
  · intro h
    rw [h, gf_assoc, gf_comm (gf_i b) b, gf_inv b hb, gf_oneR]
-- polynomials: coefficients co 0 .. co (k - 1)
def gf_p (x : BitVec 8) : Nat → BitVec 8
  | 0 => 1#8
  | n + 1 => gf_m (gf_p x n) x
def gf_s (co : Nat → BitVec 8) (x : BitVec 8) : Nat → BitVec 8
  | 0 => 0#8
  | n + 1 => gf_s co x n ^^^ gf_m (co n) (gf_p x n)
/-- Horner from power n - 1 down, begun with v -/
def gf_h (co : Nat → BitVec 8) (x : BitVec 8) : Nat → BitVec 8 → BitVec 8
  | 0, v => v
  | n + 1, v => gf_h co x n (gf_m v x ^^^ co n)
theorem gf_h_eq (co : Nat → BitVec 8) (x : BitVec 8) (n : Nat) : ∀ v, gf_h co x n v = gf_m v (gf_p x n) ^^^ gf_s co x n := by
  induction n with
  | zero => intro v; show v = gf_m v 1#8 ^^^ 0#8; rw [gf_oneR, BitVec.xor_zero]
  | succ n ih =>
    intro v
    show gf_h co x n (gf_m v x ^^^ co n) = gf_m v (gf_m (gf_p x n) x) ^^^ (gf_s co x n ^^^ gf_m (co n) (gf_p x n))
    rw [ih, gf_l, gf_assoc, gf_comm x, BitVec.xor_assoc, BitVec.xor_comm (gf_s co x n)]
theorem gf_h0 (co : Nat → BitVec 8) (x : BitVec 8) (n : Nat) : gf_h co x n 0#8 = gf_s co x n := by
  rw [gf_h_eq, gf_0l, BitVec.zero_xor]
theorem gf_s_congr {co co' : Nat → BitVec 8} {x : BitVec 8} {n : Nat} (h : ∀ j, j < n → co j = co' j) : gf_s co x n = gf_s co' x n := by
  induction n with
  | zero => rfl
  | succ n ih =>
    show gf_s co x n ^^^ gf_m (co n) (gf_p x n) = gf_s co' x n ^^^ gf_m (co' n) (gf_p x n)
    rw [ih (fun j hj => h j (by omega)), h n (by omega)]
theorem gf_s_add (co co' : Nat → BitVec 8) (x : BitVec 8) (n : Nat) : gf_s (fun j => co j ^^^ co' j) x n = gf_s co x n ^^^ gf_s co' x n := by
  induction n with
  | zero => exact (BitVec.xor_zero).symm
  | succ n ih =>
    show gf_s (fun j => co j ^^^ co' j) x n ^^^ gf_m (co n ^^^ co' n) (gf_p x n) = _
    rw [ih, gf_l, gf_x4]
    rfl
theorem gf_s_mul (c : BitVec 8) (co : Nat → BitVec 8) (x : BitVec 8) (n : Nat) : gf_s (fun j => gf_m c (co j)) x n = gf_m c (gf_s co x n) := by
  induction n with
  | zero => exact (gf_0r c).symm
  | succ n ih =>
    show gf_s (fun j => gf_m c (co j)) x n ^^^ gf_m (gf_m c (co n)) (gf_p x n) = gf_m c (gf_s co x n ^^^ gf_m (co n) (gf_p x n))
    rw [ih, gf_r, gf_assoc]
theorem gf_s_0 (x : BitVec 8) (n : Nat) : gf_s (fun _ => 0#8) x n = 0#8 := by
  induction n with
  | zero => rfl
  | succ n ih =>
    show gf_s (fun _ => 0#8) x n ^^^ gf_m 0#8 (gf_p x n) = 0#8
    rw [ih, gf_0l, BitVec.xor_zero]
/-- the lowest power apart -/
theorem gf_s_low (co : Nat → BitVec 8) (x : BitVec 8) (n : Nat) : gf_s co x (n + 1) = co 0 ^^^ gf_m (gf_s (fun j => co (j + 1)) x n) x := by
  induction n with
  | zero =>
    show 0#8 ^^^ gf_m (co 0) 1#8 = co 0 ^^^ gf_m 0#8 x
    rw [gf_oneR, gf_0l, BitVec.xor_zero, BitVec.zero_xor]
  | succ n ih =>
    show gf_s co x (n + 1) ^^^ gf_m (co (n + 1)) (gf_m (gf_p x n) x) = co 0 ^^^ gf_m (gf_s (fun j => co (j + 1)) x n ^^^ gf_m (co (n + 1)) (gf_p x n)) x
    rw [ih, gf_l, gf_assoc, BitVec.xor_assoc]
theorem gf_s_at0 (co : Nat → BitVec 8) (n : Nat) : gf_s co 0#8 (n + 1) = co 0 := by
  rw [gf_s_low, gf_0r, BitVec.xor_zero]
/-- by y - r -/
theorem gf_div (r : BitVec 8) (n : Nat) : ∀ co : Nat → BitVec 8, ∃ q : Nat → BitVec 8, ∀ y, gf_s co y (n + 1) = gf_m (y ^^^ r) (gf_s q y n) ^^^ gf_s co r (n + 1) := by
  induction n with
  | zero =>
    intro co
    refine ⟨co, fun y => ?_⟩
    rw [gf_s_low, gf_s_low]
    show co 0 ^^^ gf_m 0#8 y = gf_m (y ^^^ r) 0#8 ^^^ (co 0 ^^^ gf_m 0#8 r)
    rw [gf_0l, gf_0l, gf_0r, BitVec.zero_xor]
  | succ n ih =>
    intro co
    obtain ⟨q, hq⟩ := ih (fun j => co (j + 1))
    refine ⟨fun j => if j = 0 then gf_s (fun j => co (j + 1)) r (n + 1) else q (j - 1), fun y => ?_⟩
    rw [gf_s_low co y, hq y, gf_s_low co r, gf_s_low _ y n]
    show co 0 ^^^ gf_m (gf_m (y ^^^ r) (gf_s q y n) ^^^ gf_s (fun j => co (j + 1)) r (n + 1)) y = gf_m (y ^^^ r) (gf_s (fun j => co (j + 1)) r (n + 1) ^^^ gf_m (gf_s q y n) y) ^^^ (co 0 ^^^ gf_m (gf_s (fun j => co (j + 1)) r (n + 1)) r)
    generalize gf_s (fun j => co (j + 1)) r (n + 1) = A
    generalize gf_s q y n = B
    rw [gf_l _ A y, gf_assoc, gf_r (y ^^^ r) A, gf_l y r A, gf_comm A y, gf_comm A r]
    generalize gf_m (y ^^^ r) (gf_m B y) = C
    generalize gf_m y A = D
    generalize gf_m r A = F
    generalize co 0 = G
    rw [BitVec.xor_comm G (C ^^^ D), BitVec.xor_comm (D ^^^ F) C, BitVec.xor_assoc C D G, BitVec.xor_assoc C (D ^^^ F) (G ^^^ F), BitVec.xor_comm G F, BitVec.xor_assoc D F (F ^^^ G), ← BitVec.xor_assoc F F G, BitVec.xor_self, BitVec.zero_xor]
/-- n coefficients, n roots: nothing else -/
theorem gf_roots (n : Nat) : ∀ (co x : Nat → BitVec 8), (∀ i j, i < n → j < n → x i = x j → i = j) → (∀ i, i < n → gf_s co (x i) n = 0#8) → ∀ y, gf_s co y n = 0#8 := by
  induction n with
  | zero => intro co x _ _ y; rfl
  | succ n ih =>
    intro co x hd h0 y
    obtain ⟨q, hq⟩ := gf_div (x n) n co
    have h1 := ih q x (fun i j hi hj => hd i j (by omega) (by omega)) (fun i hi => by
      have h2 := hq (x i)
      rw [h0 i (by omega), h0 n (by omega), BitVec.xor_zero] at h2
      refine gf_nz (fun h3 => ?_) h2.symm
      have := hd i n (by omega) (by omega) (gf_xc h3)
      omega) y
    rw [hq y, h1, h0 n (by omega), gf_0r, BitVec.xor_zero]
def gf_is (k : Nat) (f : BitVec 8 → BitVec 8) : Prop := ∃ co : Nat → BitVec 8, ∀ y, f y = gf_s co y k
theorem gf_is_0 (k : Nat) : gf_is k (fun _ => 0#8) := ⟨fun _ => 0#8, fun y => (gf_s_0 y k).symm⟩
theorem gf_is_add {k : Nat} {f g : BitVec 8 → BitVec 8} (hf : gf_is k f) (hg : gf_is k g) : gf_is k (fun y => f y ^^^ g y) := by
  obtain ⟨a, ha⟩ := hf
  obtain ⟨b, hb⟩ := hg
  exact ⟨fun j => a j ^^^ b j, fun y => by rw [gf_s_add, ← ha, ← hb]⟩
theorem gf_is_mul {k : Nat} {f : BitVec 8 → BitVec 8} (c : BitVec 8) (hf : gf_is k f) : gf_is k (fun y => gf_m c (f y)) := by
  obtain ⟨a, ha⟩ := hf
  exact ⟨fun j => gf_m c (a j), fun y => by rw [gf_s_mul, ← ha]⟩
theorem gf_is_up {k : Nat} {f : BitVec 8 → BitVec 8} (hf : gf_is k f) : gf_is (k + 1) f := by
  obtain ⟨a, ha⟩ := hf
  refine ⟨fun j => if j < k then a j else 0#8, fun y => ?_⟩
  show f y = gf_s (fun j => if j < k then a j else 0#8) y k ^^^ gf_m (if k < k then a k else 0#8) (gf_p y k)
  rw [if_neg (Nat.lt_irrefl k), gf_0l, BitVec.xor_zero, ha, gf_s_congr (fun j hj => (if_pos hj).symm)]
theorem gf_is_x {k : Nat} {f : BitVec 8 → BitVec 8} (hf : gf_is k f) : gf_is (k + 1) (fun y => gf_m (f y) y) := by
  obtain ⟨a, ha⟩ := hf
  refine ⟨fun j => if j = 0 then 0#8 else a (j - 1), fun y => ?_⟩
  rw [gf_s_low]
  show gf_m (f y) y = 0#8 ^^^ gf_m (gf_s a y k) y
  rw [BitVec.zero_xor, ha]
theorem gf_is_lin {k : Nat} {f : BitVec 8 → BitVec 8} (r : BitVec 8) (hf : gf_is k f) : gf_is (k + 1) (fun y => gf_m (f y) (y ^^^ r)) := by
  obtain ⟨co, h⟩ := gf_is_add (gf_is_x hf) (gf_is_up (gf_is_mul r hf))
  exact ⟨co, fun y => by show gf_m (f y) (y ^^^ r) = _; rw [gf_r, gf_comm (f y) r]; exact h y⟩
theorem gf_is_1 : gf_is 1 (fun _ => 1#8) := ⟨fun _ => 1#8, fun y => by rw [gf_s_low]; show 1#8 = 1#8 ^^^ gf_m 0#8 y; rw [gf_0l, BitVec.xor_zero]⟩
/-- the product of y - x h over h < n, h other than g -/
def gf_N (x : Nat → BitVec 8) (g : Nat) (y : BitVec 8) : Nat → BitVec 8
  | 0 => 1#8
  | n + 1 => if n = g then gf_N x g y n else gf_m (gf_N x g y n) (y ^^^ x n)
theorem gf_N_is (x : Nat → BitVec 8) (g n : Nat) : (n ≤ g → gf_is (n + 1) (fun y => gf_N x g y n)) ∧ (g < n → gf_is n (fun y => gf_N x g y n)) := by
  induction n with
  | zero => exact ⟨fun _ => gf_is_1, fun h => absurd h (Nat.not_lt_zero g)⟩
  | succ n ih =>
    have hne : n ≠ g → (fun y => gf_N x g y (n + 1)) = (fun y => gf_m (gf_N x g y n) (y ^^^ x n)) := fun h => funext fun y => if_neg h
    have heq : n = g → (fun y => gf_N x g y (n + 1)) = (fun y => gf_N x g y n) := fun h => funext fun y => if_pos h
    constructor
    · intro h
      rw [hne (by omega)]
      exact gf_is_lin _ (ih.1 (by omega))
    · intro h
      by_cases hg : n = g
      · rw [heq hg]
        exact ih.1 (by omega)
      · rw [hne hg]
        exact gf_is_lin _ (ih.2 (by omega))
theorem gf_N_0 (x : Nat → BitVec 8) {g i n : Nat} (hi : i < n) (hg : i ≠ g) : gf_N x g (x i) n = 0#8 := by
  induction n with
  | zero => exact absurd hi (Nat.not_lt_zero i)
  | succ n ih =>
    show (if n = g then gf_N x g (x i) n else gf_m (gf_N x g (x i) n) (x i ^^^ x n)) = 0#8
    by_cases hn : i = n
    · subst hn
      rw [if_neg hg, BitVec.xor_self, gf_0r]
    · rw [ih (by omega), gf_0l]
      split <;> rfl
theorem gf_N_n (x : Nat → BitVec 8) {g n k : Nat} (hd : ∀ i j, i < k → j < k → x i = x j → i = j) (hg : g < k) (hn : n ≤ k) : gf_N x g (x g) n ≠ 0#8 := by
  induction n with
  | zero => show 1#8 ≠ 0#8; decide
  | succ n ih =>
    show (if n = g then gf_N x g (x g) n else gf_m (gf_N x g (x g) n) (x g ^^^ x n)) ≠ 0#8
    by_cases h : n = g
    · rw [if_pos h]; exact ih (by omega)
    · rw [if_neg h]
      exact gf_nz2 (ih (by omega)) (fun h3 => h (hd n g (by omega) hg (gf_xc h3).symm))
/-- the weight of x g for the value at y -/
def gf_w (x : Nat → BitVec 8) (k : Nat) (y : BitVec 8) (g : Nat) : BitVec 8 := gf_m (gf_N x g y k) (gf_i (gf_N x g (x g) k))
def gf_L (P : Nat → BitVec 8) (w : Nat → BitVec 8) : Nat → BitVec 8
  | 0 => 0#8
  | n + 1 => gf_L P w n ^^^ gf_m (P n) (w n)
theorem gf_L_is (P x : Nat → BitVec 8) (k n : Nat) (hn : n ≤ k) : gf_is k (fun y => gf_L P (gf_w x k y) n) := by
  induction n with
  | zero => exact gf_is_0 k
  | succ n ih =>
    refine gf_is_add (ih (by omega)) (gf_is_mul (P n) ?_)
    obtain ⟨co, h⟩ := gf_is_mul (gf_i (gf_N x n (x n) k)) ((gf_N_is x n k).2 (by omega))
    exact ⟨co, fun y => by rw [← h y]; exact gf_comm _ _⟩
theorem gf_L_at (P x : Nat → BitVec 8) {k i : Nat} (hd : ∀ i j, i < k → j < k → x i = x j → i = j) (hi : i < k) (n : Nat) (hn : n ≤ k) : gf_L P (gf_w x k (x i)) n = if i < n then P i else 0#8 := by
  induction n with
  | zero => rfl
  | succ n ih =>
    show gf_L P (gf_w x k (x i)) n ^^^ gf_m (P n) (gf_w x k (x i) n) = _
    rw [ih (by omega)]
    by_cases h : i = n
    · subst h
      rw [if_neg (Nat.lt_irrefl i), if_pos (Nat.lt_succ_self i), BitVec.zero_xor]
      unfold gf_w
      rw [gf_inv _ (gf_N_n x hd hi (Nat.le_refl k)), gf_oneR]
    · unfold gf_w
      rw [gf_N_0 x hi h, gf_0l, gf_0r, BitVec.xor_zero]
      by_cases h2 : i < n
      · rw [if_pos h2, if_pos (by omega)]
      · rw [if_neg h2, if_neg (by omega)]
/-- k values give all -/
theorem gf_lagrange (co x : Nat → BitVec 8) {k : Nat} (hd : ∀ i j, i < k → j < k → x i = x j → i = j) (y : BitVec 8) : gf_L (fun g => gf_s co (x g) k) (gf_w x k y) k = gf_s co y k := by
  obtain ⟨c1, h1⟩ := gf_is_add (gf_L_is (fun g => gf_s co (x g) k) x k k (Nat.le_refl k)) (⟨co, fun _ => rfl⟩ : gf_is k (fun y => gf_s co y k))
  have h2 := gf_roots k c1 x hd (fun i hi => by
    rw [← h1 (x i)]
    show gf_L (fun g => gf_s co (x g) k) (gf_w x k (x i)) k ^^^ gf_s co (x i) k = 0#8
    rw [gf_L_at _ x hd hi k (Nat.le_refl k), if_pos hi, BitVec.xor_self]) y
  rw [← h1 y] at h2
  exact gf_xc h2
/-- factor by factor: the weight's way in the reference -/
def gf_R (x : Nat → BitVec 8) (y : BitVec 8) (g : Nat) (v : BitVec 8) : Nat → BitVec 8
  | 0 => v
  | n + 1 => if n = g then gf_R x y g v n else gf_m (gf_R x y g v n) (gf_m (y ^^^ x n) (gf_i (x g ^^^ x n)))
theorem gf_R_eq (x : Nat → BitVec 8) (y : BitVec 8) (g : Nat) (v : BitVec 8) (n : Nat) : gf_R x y g v n = gf_m v (gf_m (gf_N x g y n) (gf_i (gf_N x g (x g) n))) := by
  induction n with
  | zero => show v = gf_m v (gf_m 1#8 (gf_i 1#8)); rw [gf_i1, gf_one, gf_oneR]
  | succ n ih =>
    show (if n = g then gf_R x y g v n else gf_m (gf_R x y g v n) (gf_m (y ^^^ x n) (gf_i (x g ^^^ x n)))) = gf_m v (gf_m (if n = g then gf_N x g y n else gf_m (gf_N x g y n) (y ^^^ x n)) (gf_i (if n = g then gf_N x g (x g) n else gf_m (gf_N x g (x g) n) (x g ^^^ x n))))
    by_cases h : n = g
    · rw [if_pos h, if_pos h, if_pos h]; exact ih
    · rw [if_neg h, if_neg h, if_neg h, ih, gf_i_m, gf_m4 (gf_N x g y n) (y ^^^ x n), gf_assoc]
theorem gf_R_w (x : Nat → BitVec 8) (y : BitVec 8) (g k : Nat) (v : BitVec 8) : gf_R x y g v k = gf_m v (gf_w x k y g) := gf_R_eq x y g v k
