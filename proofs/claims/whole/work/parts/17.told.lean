/-! a told long, a name: which are good -/
theorem cr_shr (t : Int64) (x : UInt64) (n : Nat) (hx : x.toNat % 64 = n) : (t.toUInt64 >>> x).toInt64 = 0 ↔ t.toBitVec.toNat < 2 ^ n := by
  rw [← Int64.toBitVec_inj, ← BitVec.toNat_inj]
  show (t.toUInt64 >>> x).toNat = 0 ↔ t.toUInt64.toNat < 2 ^ n
  rw [UInt64.toNat_shiftRight, hx, Nat.shiftRight_eq_div_pow]
  constructor
  · intro h
    have d : t.toUInt64.toNat / 2 ^ n < 1 := by
      rw [h]
      decide
    have e := (Nat.div_lt_iff_lt_mul (Nat.two_pow_pos n)).mp d
    rw [Nat.one_mul] at e
    exact e
  · exact Nat.div_eq_of_lt
def tN (x : Int64) : Nat := x.toBitVec.toNat
theorem tN_lN (x : Int64) : x = lN (tN x) := Int64.toBitVec_inj.mp (by
  show x.toBitVec = BitVec.ofNat 64 x.toBitVec.toNat
  simp)
theorem tN_i (x : Int64) : x.toInt32 = nI (tN x) := by
  rw [← lN_i, ← tN_lN]
def tOK (x : Int64) : Bool := decide (tN x < 2 ^ 30) && decide (tN x % 2 ^ 20 < 1000001) && decide (tN x / 2 ^ 23 % 128 < 100)
theorem inN_nat {j n : Nat} (hj : j < 2 ^ 31) (hn : n < 2 ^ 31) : inN (nI j) n = true ↔ j < n := by
  rw [inN_lt hn (nI_pos hj), nI_ltI hj hn]
theorem inN_natf {j n : Nat} (hj : j < 2 ^ 31) (hn : n < 2 ^ 31) : inN (nI j) n = false ↔ ¬ j < n := by
  rw [← inN_nat hj hn]; simp
def nOK (x : Int32) : Bool := inN x 2560 && decide (x.toNatClampNeg % 128 < 100)
theorem inN_shr (x : Int32) : inN (x >>> ((9 : Int32) &&& 31)) 5 = inN x 2560 := by
  have h := pk_shr x ((9 : Int32) &&& 31) 9 (by decide)
  have h2 : x.toInt >>> 9 = x.toInt / 512 := by rw [Int.shiftRight_eq_div_pow]; rfl
  rw [h2] at h
  unfold inN
  have z0 : (0 : Int32).toInt = 0 := by decide
  have e1 : (0 ≤ x >>> ((9 : Int32) &&& 31)) ↔ 0 ≤ x := by
    rw [Int32.le_iff_toInt_le, Int32.le_iff_toInt_le, h, z0]; omega
  have e2 : ((x >>> ((9 : Int32) &&& 31)).toInt < (5 : Nat)) ↔ x.toInt < (2560 : Nat) := by
    rw [h]; omega
  rw [decide_eq_decide.mpr e1, decide_eq_decide.mpr e2]
