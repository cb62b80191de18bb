/-! bytes as ints; what the two products' loops do, in bytes -/
def bI (a : BitVec 8) : Int32 := nI a.toNat
theorem bI_bv (a : BitVec 8) : (bI a).toBitVec = a.setWidth 32 := by
  show BitVec.ofNat 32 a.toNat = a.setWidth 32
  exact BitVec.ofNat_toNat 32 a
theorem bI_xor (a b : BitVec 8) : bI a ^^^ bI b = bI (a ^^^ b) := by
  apply Int32.toBitVec_inj.mp
  rw [Int32.toBitVec_xor, bI_bv, bI_bv, bI_bv, BitVec.setWidth_xor]
theorem bI_lt (a : BitVec 8) : a.toNat < 256 := a.isLt
theorem bI_inj {a b : BitVec 8} (h : bI a = bI b) : a = b := by
  have h1 := congrArg Int32.toInt h
  have ha := a.isLt
  have hb := b.isLt
  unfold bI at h1
  rw [nI_toInt (by omega), nI_toInt (by omega)] at h1
  exact BitVec.eq_of_toNat_eq (by omega)
theorem bI_0 : bI 0#8 = 0 := by decide +kernel
theorem bI_1 : bI 1#8 = 1 := by decide +kernel
set_option maxRecDepth 100000 in
theorem bI_bit : ∀ b : BitVec 8, ∀ j, j < 8 → (((((bI b).toUInt32 >>> ((nI j).toUInt32 &&& Int32.toUInt32 31)).toInt32 &&& 1) = 1) ↔ b.getLsbD j = true) := by decide +kernel
set_option maxRecDepth 100000 in
theorem bI_sbit : ∀ b : BitVec 8, ∀ j, j < 8 → ((((bI b) >>> (nI j &&& 31)) &&& 1) = 1 ↔ b.getLsbD j = true) := by decide +kernel
set_option maxRecDepth 100000 in
theorem bI_xt : ∀ t : BitVec 8, (if (bI t <<< ((1 : Int32) &&& 31)) < 256 then bI t <<< ((1 : Int32) &&& 31) else (bI t <<< ((1 : Int32) &&& 31)) ^^^ 283) = bI (gf_x t) := by decide +kernel
theorem bI_xt1 {t : BitVec 8} (h : (bI t <<< ((1 : Int32) &&& 31)) < 256) : bI t <<< ((1 : Int32) &&& 31) = bI (gf_x t) := by
  have h1 := bI_xt t
  rw [if_pos h] at h1
  exact h1
theorem bI_xt2 {t : BitVec 8} (h : ¬ (bI t <<< ((1 : Int32) &&& 31)) < 256) : (bI t <<< ((1 : Int32) &&& 31)) ^^^ 283 = bI (gf_x t) := by
  have h1 := bI_xt t
  rw [if_neg h] at h1
  exact h1
/-- what is left of a product behind j bits: the sum s, the shifted a, b's bits from j on -/
def gf_c (b : BitVec 8) (j : Nat) (s t : BitVec 8) : BitVec 8 := s ^^^ gf_mA (8 - j) t (b >>> j)
theorem gf_c0 (a b : BitVec 8) : gf_c b 0 0#8 a = gf_m a b := by
  show 0#8 ^^^ gf_mA 8 a (b >>> 0) = gf_m a b
  rw [BitVec.zero_xor, BitVec.ushiftRight_zero]
  rfl
theorem gf_c8 (b s t : BitVec 8) : gf_c b 8 s t = s := by
  show s ^^^ gf_mA 0 t (b >>> 8) = s
  exact BitVec.xor_zero
theorem gf_cS {b s t : BitVec 8} {j : Nat} (hj : j < 8) : gf_c b (j + 1) (if b.getLsbD j = true then s ^^^ t else s) (gf_x t) = gf_c b j s t := by
  unfold gf_c
  rw [show 8 - j = (8 - (j + 1)) + 1 by omega]
  show _ = s ^^^ ((if (b >>> j).getLsbD 0 = true then t else 0#8) ^^^ gf_mA (8 - (j + 1)) (gf_x t) ((b >>> j) >>> 1))
  rw [BitVec.getLsbD_ushiftRight, ← BitVec.shiftRight_add, ← BitVec.xor_assoc]
  congr 1
  by_cases h : b.getLsbD j = true
  · rw [if_pos h, if_pos (show b.getLsbD (j + 0) = true from h)]
  · rw [if_neg h, if_neg (show ¬ b.getLsbD (j + 0) = true from h), BitVec.xor_zero]
