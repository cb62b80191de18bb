/-! a file's bytes are put together -/
set_option maxRecDepth 100000 in
theorem bI_64 : ∀ a : BitVec 8, (bI a).toInt64.toBitVec = a.setWidth 64 := by decide +kernel
theorem sh_64 : ∀ b, b < 8 → (((nI 8 * nI b).toInt64 &&& 63).toBitVec.smod 64).toNat = 8 * b := by decide +kernel
theorem sh_8 : ((((8 : Int32).toInt64 &&& 63)).toBitVec.smod 64).toNat = 8 := by decide +kernel
theorem rv_S (w : Nat → BitVec 8) (lf q : Nat) : (rv_f w lf (q + 1)).toBitVec = ((rv_f w lf q).toBitVec <<< 8) ||| (w (lf - 1 - q)).setWidth 64 := by
  show ((rv_f w lf q <<< ((8 : Int32).toInt64 &&& 63)) ||| (bI (w (lf - 1 - q))).toInt64).toBitVec = _
  rw [Int64.toBitVec_or, Int64.toBitVec_shiftLeft, bI_64, BitVec.shiftLeft_eq', sh_8]
theorem rs_S (co : Nat → Int32) (f b : Nat) (w : Nat → BitVec 8) (hb : b < 8) (h : co (9 * (8 * f + b)) = bI (w b)) : (rs_f co f (b + 1)).toBitVec = (rs_f co f b).toBitVec ||| ((w b).setWidth 64 <<< (8 * b)) := by
  show (rs_f co f b ||| ((co (9 * (8 * f + b))).toInt64 <<< ((nI 8 * nI b).toInt64 &&& 63))).toBitVec = _
  rw [Int64.toBitVec_or, Int64.toBitVec_shiftLeft, h, bI_64, BitVec.shiftLeft_eq', sh_64 b hb]
theorem rv_rs (co : Nat → Int32) (f lf : Nat) (w : Nat → BitVec 8) (hlf : lf ≤ 8) (h : ∀ b, b < lf → co (9 * (8 * f + b)) = bI (w b)) : rv_f w lf lf = rs_f co f lf := by
  have key : ∀ q, q ≤ lf → (rs_f co f lf).toBitVec = ((rv_f w lf q).toBitVec <<< (8 * (lf - q))) ||| (rs_f co f (lf - q)).toBitVec := by
    intro q hq
    induction q with
    | zero =>
      show (rs_f co f lf).toBitVec = ((0 : Int64).toBitVec <<< (8 * (lf - 0))) ||| (rs_f co f (lf - 0)).toBitVec
      rw [Nat.sub_zero]
      show _ = (0#64 <<< (8 * lf)) ||| _
      rw [BitVec.zero_shiftLeft, BitVec.zero_or]
    | succ q ih =>
      rw [ih (by omega), rv_S, BitVec.shiftLeft_or_distrib, ← BitVec.shiftLeft_add]
      have e : lf - q = (lf - (q + 1)) + 1 := by omega
      have e2 : lf - 1 - q = lf - (q + 1) := by omega
      rw [e, rs_S co f (lf - (q + 1)) w (by omega) (h _ (by omega)), e2, show 8 + 8 * (lf - (q + 1)) = 8 * (lf - (q + 1) + 1) by omega, BitVec.or_assoc]
      congr 1
      rw [BitVec.or_comm]
  have h1 := key lf (Nat.le_refl lf)
  rw [Nat.sub_self] at h1
  apply Int64.toBitVec_inj.mp
  rw [h1]
  show _ = ((rv_f w lf lf).toBitVec <<< 0) ||| 0#64
  rw [BitVec.shiftLeft_zero, BitVec.or_zero]
theorem hv_0 (co : Nat → Int32) (o k : Nat) (hk : 1 ≤ k) : hv co o k 0 = by_ (co o) := by
  unfold hv
  rw [gf_h0]
  obtain ⟨q, rfl⟩ : ∃ q, k = q + 1 := ⟨k - 1, by omega⟩
  exact gf_s_at0 _ q
theorem gf_Lc {P P' w w' : Nat → BitVec 8} {n : Nat} (h : ∀ i, i < n → P i = P' i) (h2 : ∀ i, i < n → w i = w' i) : gf_L P w n = gf_L P' w' n := by
  induction n with
  | zero => rfl
  | succ n ih =>
    show gf_L P w n ^^^ gf_m (P n) (w n) = gf_L P' w' n ^^^ gf_m (P' n) (w' n)
    rw [ih (fun i hi => h i (by omega)) (fun i hi => h2 i (by omega)), h n (by omega), h2 n (by omega)]
