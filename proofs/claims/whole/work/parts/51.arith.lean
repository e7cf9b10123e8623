/-! Longs by their numbers; the greatest common divisors of both sides; parts of fractions. -/
theorem zadd64 {a b : Int64} (h1 : -9223372036854775808 ≤ a.toInt + b.toInt) (h2 : a.toInt + b.toInt < 9223372036854775808) : (a + b).toInt = a.toInt + b.toInt := by rw [Int64.toInt_add, zbm64 h1 h2]
theorem zsub64 {a b : Int64} (h1 : -9223372036854775808 ≤ a.toInt - b.toInt) (h2 : a.toInt - b.toInt < 9223372036854775808) : (a - b).toInt = a.toInt - b.toInt := by rw [Int64.toInt_sub, zbm64 h1 h2]
theorem zmul64 {a b : Int64} (h1 : -9223372036854775808 ≤ a.toInt * b.toInt) (h2 : a.toInt * b.toInt < 9223372036854775808) : (a * b).toInt = a.toInt * b.toInt := by rw [Int64.toInt_mul, zbm64 h1 h2]
theorem zneg64 {a : Int64} (h : ¬ a = -9223372036854775808) : (-a).toInt = -a.toInt := by
  have hr := zrng64 a
  have hne : a.toInt ≠ -9223372036854775808 := fun q => h (Int64.toInt_inj.mp (by rw [q]; decide))
  rw [Int64.toInt_neg, zbm64 (by omega) (by omega)]
theorem zMINI {x : Int64} (h : -9223372036854775808 < x.toInt) : ¬ x = -9223372036854775808 := fun q => by
  rw [q] at h
  exact absurd h (by decide)
theorem zne_MIN {x : Int64} (h : ¬ x = -9223372036854775808) : -9223372036854775808 < x.toInt := by
  have hr := zrng64 x
  have hne : x.toInt ≠ -9223372036854775808 := fun q => h (Int64.toInt_inj.mp (by rw [q]; decide))
  omega
theorem z0I : (0 : Int64).toInt = 0 := by decide
theorem zle0 {x : Int64} : 0 ≤ x ↔ 0 ≤ x.toInt := by rw [zle64, z0I]
theorem zlt0 {x : Int64} : 0 < x ↔ 0 < x.toInt := by rw [zlt64, z0I]
theorem zeq0 {x : Int64} : x = 0 ↔ x.toInt = 0 := ⟨fun h => by rw [h, z0I], fun h => Int64.toInt_inj.mp (by rw [h, z0I])⟩
theorem zmulb {a b A B : Int} (ha : -A ≤ a ∧ a ≤ A) (hb : -B ≤ b ∧ b ≤ B) : -(A * B) ≤ a * b ∧ a * b ≤ A * B := by
  have hA : 0 ≤ A := by omega
  have hB : 0 ≤ B := by omega
  have h1 : a.natAbs ≤ A.toNat := by omega
  have h2 : b.natAbs ≤ B.toNat := by omega
  have h3 := Nat.mul_le_mul h1 h2
  rw [← Int.natAbs_mul] at h3
  have h4 : ((A.toNat * B.toNat : Nat) : Int) = A * B := by
    rw [Int.natCast_mul, Int.toNat_of_nonneg hA, Int.toNat_of_nonneg hB]
  omega
theorem zlN_ne {c : Nat} (hc : c < 2 ^ 63) (h : ¬ c = 0) : ¬ lN c = (0 : Int64) := fun q => h ((pk_lEQ hc (by omega : (0 : Nat) < 2 ^ 63)).mp q)
/-! gcd -/
theorem zdvs : ∀ (n a c : Nat), a < 2 ^ 63 → c < 2 ^ 63 → c < n → (zl_X9_divisor_28 n (lN a) (lN c)).1 = lN (Nat.gcd a c) := by
  intro n
  induction n with
  | zero => intro a c _ _ h; omega
  | succ n ih =>
    intro a c ha hc hn
    rw [zl_X9_divisor_28_s]
    by_cases h : c = 0
    · subst h
      rw [if_pos (show lN 0 = (0 : Int64) from rfl), Nat.gcd_zero_right]
    · rw [if_neg (zlN_ne hc h), zrem_lN ha (by omega) hc]
      have hlt := Nat.mod_lt a (by omega : 0 < c)
      rw [ih c (a % c) hc (by omega) (by omega), Nat.gcd_comm a c, Nat.gcd_rec c a, Nat.gcd_comm]
theorem zgcs : ∀ (b n j a c : Nat), a < 2 ^ 63 → c < 2 ^ 63 → c < 2 ^ b → 2 * b + 1 ≤ n → zl_X2_gcd_15 n j (lN a) (lN c) = lN (Nat.gcd a c) := by
  have h0 : ∀ (n j a : Nat), zl_X2_gcd_15 (n + 1) j (lN a) (lN 0) = lN (Nat.gcd a 0) := fun n j a => by
    rw [zl_X2_gcd_15_s, if_pos (show lN 0 = (0 : Int64) from rfl), Nat.gcd_zero_right]
  have hs : ∀ (n j a c : Nat), a < 2 ^ 63 → c < 2 ^ 63 → ¬ c = 0 → zl_X2_gcd_15 (n + 1) j (lN a) (lN c) = zl_X2_gcd_15 n (j + 1) (lN c) (lN (a % c)) := fun n j a c ha hc h => by
    rw [zl_X2_gcd_15_s, if_neg (zlN_ne hc h), zrem_lN ha (by omega) hc]
  have hg : ∀ a c : Nat, Nat.gcd a c = Nat.gcd c (a % c) := fun a c => by rw [Nat.gcd_comm a c, Nat.gcd_rec c a, Nat.gcd_comm]
  intro b
  induction b with
  | zero =>
    intro n j a c ha hc h1 h2
    obtain ⟨m, rfl⟩ : ∃ m, n = m + 1 := ⟨n - 1, by omega⟩
    have : c = 0 := by omega
    subst this
    exact h0 m j a
  | succ b ih =>
    intro n j a c ha hc h1 h2
    obtain ⟨m, rfl⟩ : ∃ m, n = m + 1 + 1 := ⟨n - 2, by omega⟩
    by_cases h : c = 0
    · subst h; exact h0 _ _ _
    · rw [hs _ _ _ _ ha hc h, hg]
      have hlt := Nat.mod_lt a (by omega : 0 < c)
      generalize hr : a % c = r at hlt
      by_cases q : r = 0
      · subst q; exact h0 _ _ _
      · rw [hs _ _ _ _ hc (by omega) q, hg]
        have hl2 := Nat.mod_lt c (by omega : 0 < r)
        have hd := Nat.div_add_mod c r
        have hp : 0 < c / r := Nat.div_pos (by omega) (by omega)
        have hm : r * 1 ≤ r * (c / r) := Nat.mul_le_mul_left r hp
        rw [Nat.pow_succ] at h1
        exact ih m _ r (c % r) (by omega) (by omega) (by omega) (by omega)
theorem zabsN {x : Int64} (h : ¬ x = -9223372036854775808) : zabsL x = lN x.toInt.natAbs := by
  have hm := zne_MIN h
  have hr := zrng64 x
  apply Int64.toInt_inj.mp
  rw [pk_lT (by omega)]
  unfold zabsL
  by_cases c : 0 < x
  · rw [if_pos c]; rw [zlt0] at c; omega
  · rw [if_neg c, zneg64 h]; rw [zlt0] at c; omega
theorem zposN {x : Int64} (h : 0 ≤ x) : x = lN x.toInt.natAbs := by
  have hr := zrng64 x
  rw [zle0] at h
  apply Int64.toInt_inj.mp
  rw [pk_lT (by omega)]
  omega
theorem znegN {x : Int64} (hm : ¬ x = -9223372036854775808) (h : ¬ 0 ≤ x) : -x = lN x.toInt.natAbs := by
  have hr := zrng64 x
  have h2 := zne_MIN hm
  rw [zle0] at h
  apply Int64.toInt_inj.mp
  rw [pk_lT (by omega), zneg64 hm]
  omega
theorem zgcdC {x y : Int64} (hx : ¬ x = -9223372036854775808) (hy : ¬ y = -9223372036854775808) : zf_X2_gcd x y = lN (Nat.gcd x.toInt.natAbs y.toInt.natAbs) := by
  have rx := zrng64 x
  have ry := zrng64 y
  have mx := zne_MIN hx
  have my := zne_MIN hy
  rw [zf_X2_gcd_e, zabsN hx, zabsN hy]
  exact zgcs 63 200 0 _ _ (by omega) (by omega) (by omega) (by decide)
theorem zgcdM {x y : Int64} (hx : ¬ x = -9223372036854775808) (hy : ¬ y = -9223372036854775808) : zf_X9_divisor x y = lN (Nat.gcd x.toInt.natAbs y.toInt.natAbs) := by
  have rx := zrng64 x
  have ry := zrng64 y
  have mx := zne_MIN hx
  have my := zne_MIN hy
  have key : ∀ {a c : Int64} {u w : Nat}, a = lN u → c = lN w → u < 2 ^ 63 → w < 2 ^ 63 → (zl_X9_divisor_28 (c.toInt.toNat + 1) a c).1 = lN (Nat.gcd u w) := fun {a c u w} e1 e2 h1 h2 => by
    subst e1 e2
    exact zdvs _ u w h1 h2 (by rw [pk_lT h2]; omega)
  rw [zf_X9_divisor_e]
  split <;> split
  · exact key (zposN (by assumption)) (zposN (by assumption)) (by omega) (by omega)
  · exact key (zposN (by assumption)) (znegN hy (by assumption)) (by omega) (by omega)
  · exact key (znegN hx (by assumption)) (zposN (by assumption)) (by omega) (by omega)
  · exact key (znegN hx (by assumption)) (znegN hy (by assumption)) (by omega) (by omega)
theorem zgcd_eq {x y : Int64} (hx : ¬ x = -9223372036854775808) (hy : ¬ y = -9223372036854775808) : zf_X2_gcd x y = zf_X9_divisor x y := by rw [zgcdC hx hy, zgcdM hx hy]
theorem zdiv_ne0 {x y : Int64} (hx : ¬ x = -9223372036854775808) (hy : 0 < y.toInt) : ¬ zf_X9_divisor x y = 0 := by
  have ry := zrng64 y
  rw [zgcdM hx (zMINI (by omega))]
  have h1 : 0 < Nat.gcd x.toInt.natAbs y.toInt.natAbs := Nat.gcd_pos_of_pos_right _ (by omega)
  have h2 := Nat.gcd_le_right x.toInt.natAbs (show 0 < y.toInt.natAbs by omega)
  intro q
  have := (pk_lEQ (b := 0) (by omega) (by omega)).mp q
  omega
theorem zpart_eq {x y : Int64} {t : Int32} (hx : ¬ x = -9223372036854775808) (hy : 0 < y.toInt) : zf_X2_partOf x y t = zf_X9_partOf x y t := by
  have hy2 : ¬ y = -9223372036854775808 := zMINI (by omega)
  have hne := zdiv_ne0 hx hy
  rw [zf_X2_partOf_e, zf_X9_partOf_e, zgcd_eq hx hy2, if_pos (zle0.mpr (by omega)), if_neg hne, if_neg hne]
/-! a place's differences -/
theorem zsub32 {a b : Int32} (ha : zpl a) (hb : zpl b) : (a - b).toInt = a.toInt - b.toInt := by
  unfold zpl at ha hb
  rw [Int32.toInt_sub]
  rw [Int.bmod_def]
  omega
theorem zsubL {a b : Int32} (ha : zpl a) (hb : zpl b) : (a - b).toInt64 = a.toInt64 - b.toInt64 := by
  apply Int64.toInt_inj.mp
  rw [Int32.toInt_toInt64, zsub32 ha hb, zsub64 (by rw [Int32.toInt_toInt64, Int32.toInt_toInt64]; unfold zpl at ha hb; omega) (by rw [Int32.toInt_toInt64, Int32.toInt_toInt64]; unfold zpl at ha hb; omega), Int32.toInt_toInt64, Int32.toInt_toInt64]
theorem zgrind_t (a b c : Int64) : (a - b) * c = a * c - b * c := by grind
theorem zgrind_u (ax ay bx b_y x y w : Int64) : w * ((ax - x) * (b_y - y) - (bx - x) * (ay - y)) = (ax * b_y - bx * ay) * w + (ay - b_y) * (w * x) + (bx - ax) * (w * y) := by grind
