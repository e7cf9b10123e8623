/-! small facts for the reference's walks -/
def zNow (v : Nat → Int64) : Prop := v 9 = lN (zc (v 9)) ∧ zc (v 9) ≤ 8 ∧ v 34 = lN (zc (v 34)) ∧ zc (v 34) ≤ 8 ∧ v 43 = lN (zc (v 43)) ∧ zc (v 43) ≤ 10 ∧ v 284 = lN (zc (v 284)) ∧ zc (v 284) ≤ 8 ∧ v 301 = lN (zc (v 301)) ∧ zc (v 301) ≤ 8
theorem zneg0 {x : Int64} (h : ¬ x = 0) : ¬ -x = 0 := fun q => h (by rw [← Int64.neg_neg (a := x), q]; decide)
theorem zle64 (a b : Int64) : a ≤ b ↔ a.toInt ≤ b.toInt := Int64.le_iff_toInt_le
theorem zlt64 (a b : Int64) : a < b ↔ a.toInt < b.toInt := Int64.lt_iff_toInt_lt
theorem zrng64 (x : Int64) : -9223372036854775808 ≤ x.toInt ∧ x.toInt < 9223372036854775808 := ⟨Int64.le_toInt x, Int64.toInt_lt x⟩
theorem zbm64 {z : Int} (h1 : -9223372036854775808 ≤ z) (h2 : z < 9223372036854775808) : z.bmod (2 ^ 64) = z := by
  rw [Int.bmod_def]
  omega
theorem zneg_nn {x : Int64} (hm : ¬ x = -9223372036854775808) (h : ¬ 0 ≤ x) : 0 ≤ -x := by
  have hr := zrng64 x
  have hne : x.toInt ≠ -9223372036854775808 := fun q => hm (Int64.toInt_inj.mp (by rw [q]; decide))
  rw [zle64] at h ⊢
  rw [Int64.toInt_neg]
  have e0 : (0 : Int64).toInt = 0 := by decide
  rw [e0] at h ⊢
  rw [zbm64 (by omega) (by omega)]
  omega
theorem zofN {x : Int64} (h : 0 ≤ x) : x = lN x.toInt.toNat := by
  rw [zle64] at h
  have e0 : (0 : Int64).toInt = 0 := by decide
  rw [e0] at h
  apply Int64.toInt_inj.mp
  have hr := zrng64 x
  rw [pk_lT (by omega)]
  omega
theorem zrem_lN {a b : Nat} (ha : a < 2 ^ 63) (h0 : 0 < b) (hb : b < 2 ^ 63) : zremL (lN a) (lN b) = lN (a % b) := pk_lRem ha h0 hb
theorem zgl {x y : Int64} (hx : 0 ≤ x) (hy : 0 ≤ y) (h : ¬ y = 0) : 0 ≤ zremL x y ∧ (zremL x y).toInt.toNat < y.toInt.toNat := by
  have rx := zrng64 x
  have ry := zrng64 y
  have ex := zofN hx
  have ey := zofN hy
  generalize hn : x.toInt.toNat = n at ex
  generalize hk : y.toInt.toNat = k at ey
  have n1 : n < 2 ^ 63 := by omega
  have k1 : k < 2 ^ 63 := by omega
  have k0 : 0 < k := by
    rcases Nat.eq_zero_or_pos k with q | q
    · exact absurd (by rw [ey, q]; rfl) h
    · exact q
  have hlt := Nat.mod_lt n k0
  rw [ex, ey, zrem_lN n1 k0 k1, zle64, pk_lT (by omega)]
  have e0 : (0 : Int64).toInt = 0 := by decide
  rw [e0]
  omega
theorem zgl1 {x y : Int64} {n : Nat} (hx : 0 ≤ x) (hy : 0 ≤ y) (h : ¬ y = 0) (hn : y.toInt.toNat < n + 1) : (zremL x y).toInt.toNat < n := by
  have := (zgl hx hy h).2
  omega
