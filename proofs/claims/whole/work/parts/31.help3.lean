/-! arguments that the reference finds valid -/
def zi (k : Int32) : Nat := k.toInt.toNat
theorem zi_ok {k : Int32} (h : 0 ≤ k.toInt) : k = nI (zi k) := by
  apply Int32.toInt_inj.mp
  have hr : k.toInt < 2147483648 := Int32.toInt_lt k
  unfold zi
  rw [nI_toInt (by omega)]
  omega
theorem zw_iff {x y z : Int64} : zf_X9_within x y z = true ↔ y.toInt ≤ x.toInt ∧ x.toInt ≤ z.toInt := by
  rw [zf_X9_within_e]
  by_cases h1 : x < y
  · rw [if_pos h1]
    rw [zlt64] at h1
    constructor
    · intro h; exact absurd h (by decide)
    · intro h; omega
  · rw [if_neg h1]
    by_cases h2 : z < x
    · rw [if_pos h2]
      rw [zlt64] at h2
      constructor
      · intro h; exact absurd h (by decide)
      · intro h; omega
    · rw [if_neg h2]
      rw [zlt64] at h1 h2
      constructor
      · intro h; omega
      · intro h; rfl
theorem zt64 (k : Int32) : k.toInt64.toInt = k.toInt := Int32.toInt_toInt64 k
theorem zok_w {k : Int32} {a b : Int64} (h : zf_X9_within k.toInt64 a b = true) (ha : 0 ≤ a.toInt) : k = nI (zi k) ∧ a.toInt ≤ (zi k : Int) ∧ (zi k : Int) ≤ b.toInt := by
  rw [zw_iff, zt64] at h
  refine ⟨zi_ok (by omega), ?_, ?_⟩ <;> (unfold zi; omega)
theorem zok_w2 {k : Int32} {a b : Int64} {u v : Nat} (hu : a = lN u) (hv : b = lN v) (h : zf_X9_within k.toInt64 a b = true) (h1 : u < 2 ^ 31) (h2 : v < 2 ^ 31) : k = nI (zi k) ∧ u ≤ zi k ∧ zi k ≤ v := by
  subst hu hv
  have ea : (lN u).toInt = u := pk_lT (by omega)
  have eb : (lN v).toInt = v := pk_lT (by omega)
  obtain ⟨e, a1, b1⟩ := zok_w h (by omega)
  exact ⟨e, by omega, by omega⟩
theorem zok_cell {k : Int32} (h : zf_X9_isCell k = true) : k = nI (zi k) ∧ zi k < 3 := by
  rw [zf_X9_isCell_e] at h
  have := zok_w2 (u := 0) (v := 2) rfl rfl h (by decide) (by decide)
  exact ⟨this.1, by omega⟩
theorem zok_chance {k : Int32} (h : zf_X9_isChance k = true) : k = nI (zi k) ∧ zi k ≤ 10 := by
  rw [zf_X9_isChance_e] at h
  have := zok_w2 (u := 0) (v := 10) rfl rfl h (by decide) (by decide)
  exact ⟨this.1, by omega⟩
theorem zok_lt {k : Int32} {n : Nat} (h : zf_X9_within k.toInt64 (0 : Int64) ((nI n - (1 : Int32)).toInt64) = true) (hn : n < 2 ^ 31) : k = nI (zi k) ∧ zi k < n := by
  have e0 : (0 : Int64).toInt = 0 := by decide
  obtain ⟨e, a1, b1⟩ := zok_w h (by rw [e0]; omega)
  rw [zt64] at b1
  refine ⟨e, ?_⟩
  rcases Nat.eq_zero_or_pos n with q | q
  · subst q
    have : (nI 0 - (1 : Int32)).toInt = -1 := by decide
    omega
  · have e1 : nI n - (1 : Int32) = nI (n - 1) := by
      obtain ⟨m, rfl⟩ : ∃ m, n = m + 1 := ⟨n - 1, by omega⟩
      exact pk_sub (a := m + 1) (b := 1) (by omega)
    rw [e1, nI_toInt (by omega)] at b1
    omega
theorem zok_hyp {v : Nat → Int64} {k : Int32} (h : zf_X9_isHypothesis v k = true) (hn : zc (v 34) ≤ 8) : k = nI (zi k) ∧ zi k < zc (v 34) := by
  rw [zf_X9_isHypothesis_e] at h
  exact zok_lt h (by omega)
theorem zok_test {v : Nat → Int64} {k : Int32} (h : zf_X9_isTest v k = true) (hn : zc (v 43) ≤ 10) : k = nI (zi k) ∧ zi k < zc (v 43) := by
  rw [zf_X9_isTest_e] at h
  exact zok_lt h (by omega)
theorem zuL_eq (f : Nat → Int64) (k : Nat) (x : Int64) : vp_updL f k x k = x := if_pos rfl
theorem zuL_ne {f : Nat → Int64} {k j : Nat} {x : Int64} (h : j ≠ k) : vp_updL f k x j = f j := if_neg h
theorem zlN1 (a : Nat) : lN a + (1 : Int64) = lN (a + 1) := (Int64.ofNat_add a 1).symm
theorem zlNm (a : Nat) (h : 0 < a) : lN a - (1 : Int64) = lN (a - 1) := by
  obtain ⟨m, rfl⟩ : ∃ m, a = m + 1 := ⟨a - 1, by omega⟩
  rw [← zlN1, Nat.add_sub_cancel, Int64.add_sub_cancel]
theorem zlc_lo {v : Nat → Int64} {t k : Nat} {x y : Int32} {j : Nat} (h : j < 44) : zf_X9_laysChances v t k x y j = v j := by
  rw [zf_X9_laysChances_e, zuL_ne (by omega), zuL_ne (by omega), zuL_ne (by omega)]
theorem zmany1 {v : Nat → Int64} {k n : Nat} (h : v k = lN n) : vp_updL v k (v k + (1 : Int64)) k = lN (n + 1) := by rw [zuL_eq, h, zlN1]
theorem zmanym {v : Nat → Int64} {k n : Nat} (h : v k = lN n) (h0 : 0 < n) : vp_updL v k (v k - (1 : Int64)) k = lN (n - 1) := by rw [zuL_eq, h, zlNm _ h0]
theorem zDN (n : Nat) : nI (n + 1) - (1 : Int32) = nI n := pk_sub (a := n + 1) (b := 1) (by omega)
theorem zDK : nI 0 - (1 : Int32) = (-1 : Int32) := by decide
theorem zDne {a : Nat} (h : ¬ nI a - (1 : Int32) = (-1 : Int32)) : 0 < a := by
  rcases Nat.eq_zero_or_pos a with q | q
  · subst q; exact absurd zDK h
  · exact q
theorem zshlD {a : Nat} (h0 : 0 < a) (h : a ≤ 8) : (1 : Int32) <<< ((nI a - (1 : Int32)) &&& 31) = nI (2 ^ (a - 1)) := by
  obtain ⟨m, rfl⟩ : ∃ m, a = m + 1 := ⟨a - 1, by omega⟩
  rw [zDN, zshl (by omega), Nat.add_sub_cancel]
theorem zxor (a b : Nat) : nI a ^^^ nI b = nI (a ^^^ b) := by
  apply Int32.toBitVec_inj.mp
  show BitVec.ofNat 32 a ^^^ BitVec.ofNat 32 b = BitVec.ofNat 32 (a ^^^ b)
  apply BitVec.eq_of_toNat_eq
  simp [Nat.xor_mod_two_pow]
theorem zxor0 (a : Nat) : nI a ^^^ (0 : Int32) = nI a := by
  apply Int32.toBitVec_inj.mp
  show BitVec.ofNat 32 a ^^^ BitVec.ofNat 32 0 = BitVec.ofNat 32 a
  apply BitVec.eq_of_toNat_eq
  simp
theorem zxorlt {u a : Nat} (hu : u < 256) (ha : a < 8) : u ^^^ 2 ^ a < 256 := by
  have h2 : 2 ^ a < 2 ^ 8 := Nat.pow_lt_pow_right (by decide) ha
  exact Nat.xor_lt_two_pow (n := 8) hu h2
/-- what the tare and the loads of the reference need where they divide -/
def zLd (v : Nat → Int64) : Prop := ¬ zf_X9_size v = -9223372036854775808 ∧ ¬ zf_X9_size v = 0 ∧ ∀ k, k < 3 → ¬ zf_X9_loadOf v k = -9223372036854775808 ∧ ¬ zf_X9_divisor (zf_X9_loadOf v k) (zf_X9_size v) = 0
theorem zne0p {x : Int64} (h : (0 : Int64) < x) : ¬ x = 0 := fun q => by rw [q] at h; exact absurd h (by decide)
theorem zne0m {x : Int64} (h : x < (0 : Int64)) : ¬ -x = 0 := fun q => by
  have : x = 0 := by rw [← Int64.neg_neg (a := x), q]; decide
  rw [this] at h; exact absurd h (by decide)
/-- not the least long (its own name: omega stands still over the literal) -/
def zNM (x : Int64) : Prop := ¬ x = -9223372036854775808
