/-! whole numbers' bits: the machine's own operations on small numbers that aren't negative -/
theorem xb_bv (a : Nat) : (Int32.ofInt (a : Int)).toBitVec = BitVec.ofNat 32 a := by
  show BitVec.ofInt 32 (a : Int) = _
  exact BitVec.ofInt_natCast 32 a
theorem xb_int {v : Int32} {n : Nat} (h : v.toBitVec = BitVec.ofNat 32 n) (hn : n < 2 ^ 31) : v.toInt = (n : Int) := by
  show v.toBitVec.toInt = _
  rw [h, BitVec.toInt_eq_toNat_of_lt (by rw [BitVec.toNat_ofNat]; omega), BitVec.toNat_ofNat, Nat.mod_eq_of_lt (by omega)]
theorem xn_and {a b : Nat} (ha : a < 2 ^ 31) : x_iand (a : Int) (b : Int) = ((a &&& b : Nat) : Int) := by
  refine xb_int ?_ (Nat.lt_of_le_of_lt Nat.and_le_left ha)
  rw [Int32.toBitVec_and, xb_bv, xb_bv, BitVec.ofNat_and]
theorem xn_or {a b : Nat} (ha : a < 2 ^ 31) (hb : b < 2 ^ 31) : x_ior (a : Int) (b : Int) = ((a ||| b : Nat) : Int) := by
  refine xb_int ?_ (Nat.or_lt_two_pow ha hb)
  rw [Int32.toBitVec_or, xb_bv, xb_bv, BitVec.ofNat_or]
theorem xn_xor {a b : Nat} (ha : a < 2 ^ 31) (hb : b < 2 ^ 31) : x_ixor (a : Int) (b : Int) = ((a ^^^ b : Nat) : Int) := by
  refine xb_int ?_ (Nat.xor_lt_two_pow ha hb)
  rw [Int32.toBitVec_xor, xb_bv, xb_bv, BitVec.ofNat_xor]
theorem xb_sh : ∀ k : Fin 32, ((Int32.ofInt ((k : Nat) : Int) &&& 31).toBitVec.smod 32) = BitVec.ofNat 32 k := by decide +kernel
theorem xn_shl {a k : Nat} (hk : k < 32) (ha : a * 2 ^ k < 2 ^ 31) : x_ishl (a : Int) (k : Int) = ((a * 2 ^ k : Nat) : Int) := by
  refine xb_int ?_ ha
  rw [Int32.toBitVec_shiftLeft, xb_sh ⟨k, hk⟩, xb_bv]
  apply BitVec.eq_of_toNat_eq
  simp only [BitVec.shiftLeft_eq', BitVec.toNat_shiftLeft, BitVec.toNat_ofNat, Nat.shiftLeft_eq]
  rw [Nat.mod_eq_of_lt (show k < 2 ^ 32 by omega)]
  rw [Nat.mod_mul_mod]
theorem xn_shr {a k : Nat} (hk : k < 32) (ha : a < 2 ^ 31) : x_ishr (a : Int) (k : Int) = ((a >>> k : Nat) : Int) := by
  unfold x_ishr
  show (Int32.ofInt (a : Int) >>> (Int32.ofInt (k : Int) &&& 31)).toBitVec.toInt = _
  rw [Int32.toBitVec_shiftRight, xb_sh ⟨k, hk⟩, xb_bv]
  simp only [BitVec.sshiftRight_eq', BitVec.toInt_sshiftRight, BitVec.toNat_ofNat]
  rw [Nat.mod_eq_of_lt (show k < 2 ^ 32 by omega), BitVec.toInt_eq_toNat_of_lt (by rw [BitVec.toNat_ofNat]; omega), BitVec.toNat_ofNat, Nat.mod_eq_of_lt (show a < 2 ^ 32 by omega)]
  rfl
theorem xn_ushr {a k : Nat} (hk : k < 32) (ha : a < 2 ^ 31) : x_iushr (a : Int) (k : Int) = ((a >>> k : Nat) : Int) := by
  unfold x_iushr
  refine xb_int ?_ (Nat.lt_of_le_of_lt (Nat.shiftRight_le _ _) ha)
  show (((Int32.ofInt (a : Int)).toUInt32 >>> ((Int32.ofInt (k : Int)).toUInt32 &&& Int32.toUInt32 31)).toBitVec) = _
  have e : ∀ k : Fin 32, ((Int32.ofInt ((k : Nat) : Int)).toUInt32.toBitVec &&& (Int32.toUInt32 31).toBitVec) % 32 = BitVec.ofNat 32 k := by decide +kernel
  rw [UInt32.toBitVec_shiftRight, UInt32.toBitVec_and, e ⟨k, hk⟩, show (Int32.ofInt (a : Int)).toUInt32.toBitVec = BitVec.ofNat 32 a from xb_bv a]
  apply BitVec.eq_of_toNat_eq
  simp only [BitVec.ushiftRight_eq', BitVec.toNat_ushiftRight, BitVec.toNat_ofNat]
  rw [Nat.mod_eq_of_lt (show k < 2 ^ 32 by omega), Nat.mod_eq_of_lt (show a < 2 ^ 32 by omega), Nat.mod_eq_of_lt (show a >>> k < 2 ^ 32 from Nat.lt_of_le_of_lt (Nat.shiftRight_le _ _) (by omega))]
/-- how many of the first k bits are ones -/
def onesU (n : Nat) : Nat → Nat
  | 0 => 0
  | k + 1 => onesU n k + (n >>> k) % 2
abbrev ones (n : Nat) : Nat := onesU n 20
/-- v, counted out before it is used -/
def bfc {β : Type} (n : Nat) (f : Nat → β) : β := Nat.rec (f 0) (fun m _ => f (m + 1)) n
theorem bfc_eq {β : Type} (n : Nat) (f : Nat → β) : bfc n f = f n := by cases n <;> rfl
def bcf (n : Nat) : Nat := bfc (n - ((n >>> 1) &&& 1431655765)) fun i => bfc ((i &&& 858993459) + ((i >>> 2) &&& 858993459)) fun i => bfc ((i + (i >>> 4)) &&& 252645135) fun i => bfc (i + (i >>> 8)) fun i => bfc (i + (i >>> 16)) fun i => i &&& 63
def bchk (k : Nat) : Nat → Nat → Bool := Nat.rec (fun v c => bfc v fun v => Nat.beq (bcf v) c) (fun _ ih v c => bfc v fun v => bfc c fun c => and (ih (2 * v) c) (ih (2 * v + 1) (c + 1))) k
theorem onesU_two (n b : Nat) (hb : b < 2) : ∀ k, onesU (2 * n + b) (k + 1) = onesU n k + b
  | 0 => by simp [onesU]; omega
  | k + 1 => by
    rw [onesU, onesU_two n b hb k, onesU, Nat.shiftRight_succ_inside, show (2 * n + b) / 2 = n by omega]
    omega
theorem onesU_small {n : Nat} : ∀ {k j : Nat}, n < 2 ^ k → onesU n (k + j) = onesU n k
  | k, 0, _ => rfl
  | k, j + 1, h => by
    rw [show k + (j + 1) = (k + j) + 1 by omega, onesU, onesU_small h, Nat.shiftRight_eq_div_pow, Nat.div_eq_of_lt (Nat.lt_of_lt_of_le h (Nat.pow_le_pow_right (by decide) (by omega)))]
    rfl
theorem bchk_ok : ∀ (k v c j : Nat), bchk k v c = true → onesU v j = c → ∀ w, w < 2 ^ k → bcf (v * 2 ^ k + w) = onesU (v * 2 ^ k + w) (k + j)
  | 0, v, c, j, h, hc, w, hw => by
    have h1 : (bfc v fun v => Nat.beq (bcf v) c) = true := h
    rw [bfc_eq] at h1
    have h2 := Nat.eq_of_beq_eq_true h1
    have hw0 : w = 0 := by simpa using hw
    subst hw0
    simp only [Nat.pow_zero, Nat.mul_one, Nat.add_zero, Nat.zero_add]
    rw [h2, hc]
  | k + 1, v, c, j, h, hc, w, hw => by
    have h1 : (bfc v fun v => bfc c fun c => and (bchk k (2 * v) c) (bchk k (2 * v + 1) (c + 1))) = true := h
    rw [bfc_eq, bfc_eq, Bool.and_eq_true] at h1
    have e : 2 ^ (k + 1) = 2 * 2 ^ k := by rw [Nat.pow_succ, Nat.mul_comm]
    rw [e] at hw
    by_cases hq : w < 2 ^ k
    · have := bchk_ok k (2 * v) c (j + 1) h1.1 (by have := onesU_two v 0 (by decide) j; rw [Nat.add_zero] at this; rw [this, hc]; rfl) w hq
      rw [e, show v * (2 * 2 ^ k) = 2 * v * 2 ^ k by rw [← Nat.mul_assoc, Nat.mul_comm v 2], this]
      congr 1
      omega
    · have := bchk_ok k (2 * v + 1) (c + 1) (j + 1) h1.2 (by rw [onesU_two v 1 (by decide) j, hc]) (w - 2 ^ k) (by omega)
      rw [e, show v * (2 * 2 ^ k) + w = (2 * v + 1) * 2 ^ k + (w - 2 ^ k) by rw [Nat.add_mul, ← Nat.mul_assoc, Nat.mul_comm v 2]; omega, this]
      congr 1
      omega
theorem bchk_18 : bchk 18 0 0 = true := by decide +kernel
theorem bcf_ones {v : Nat} (h : v < 2 ^ 18) : bcf v = ones v := by
  have := bchk_ok 18 0 0 0 bchk_18 rfl v h
  rw [Nat.zero_mul, Nat.zero_add, Nat.add_zero] at this
  rw [this]
  exact (onesU_small (j := 2) h).symm
