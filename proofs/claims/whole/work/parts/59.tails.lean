/-! Tails and trial plans on both sides -/
def zPf (a b : Nat) : Nat → Nat → Nat
  | 0, 0 => 1
  | 0, _ + 1 => 0
  | n + 1, 0 => zPf a b n 0 * a
  | n + 1, i + 1 => zPf a b n (i + 1) * a + zPf a b n i * b
theorem zPf_gt (a b : Nat) : ∀ n i, n < i → zPf a b n i = 0 := by
  intro n
  induction n with
  | zero =>
    intro i h
    obtain ⟨m, rfl⟩ : ∃ m, i = m + 1 := ⟨i - 1, by omega⟩
    rfl
  | succ n ih =>
    intro i h
    obtain ⟨m, rfl⟩ : ∃ m, i = m + 1 := ⟨i - 1, by omega⟩
    show zPf a b n (m + 1) * a + zPf a b n m * b = 0
    rw [ih _ (by omega), ih _ (by omega)]
    simp
theorem zPf_b (a b : Nat) : ∀ n i, i ≤ n → zPf a b n i = zPf 1 1 n i * b ^ i * a ^ (n - i) := by
  intro n
  induction n with
  | zero => intro i h; have : i = 0 := by omega
            subst this; simp [zPf]
  | succ n ih =>
    intro i h
    match i, h with
    | 0, _ =>
      show zPf a b n 0 * a = zPf 1 1 n 0 * 1 * b ^ 0 * a ^ (n + 1 - 0)
      rw [ih 0 (by omega), Nat.sub_zero, Nat.sub_zero, Nat.pow_succ]
      simp [Nat.mul_assoc]
    | m + 1, h =>
      show zPf a b n (m + 1) * a + zPf a b n m * b = (zPf 1 1 n (m + 1) * 1 + zPf 1 1 n m * 1) * b ^ (m + 1) * a ^ (n + 1 - (m + 1))
      rw [ih m (by omega), Nat.add_sub_add_right]
      by_cases q : m = n
      · subst q
        rw [zPf_gt a b m (m + 1) (by omega), zPf_gt 1 1 m (m + 1) (by omega)]
        simp [Nat.pow_succ]
        grind
      · rw [ih (m + 1) (by omega)]
        have e : n - m = (n - (m + 1)) + 1 := by omega
        rw [e, Nat.pow_succ, Nat.pow_succ]
        grind
theorem zws : ∀ t, t < 16 → ∀ k, k < 17 → k ≤ t → zf_X7_ways t k = lN (zPf 1 1 t k) := by decide +kernel
theorem zpw5 (u : Nat) : ∀ n j x, zl_X7_power_5 u n j (lN x) = lN (x * u ^ n) := by
  intro n
  induction n with
  | zero => intro j x; rw [Nat.pow_zero, Nat.mul_one]; rfl
  | succ n ih =>
    intro j x
    rw [zl_X7_power_5_s, lN_mul, ih, Nat.pow_succ, Nat.mul_assoc, Nat.mul_comm u]
theorem zpw (u n : Nat) : zf_X7_power u n = lN (u ^ n) := by
  rw [zf_X7_power_e]
  have := zpw5 u n 0 1
  rw [Nat.one_mul] at this
  exact this
theorem zterm {t k u : Nat} (ht : t ≤ 15) (hk : k ≤ t) : ((zf_X7_ways t k) * (zf_X7_power u k)) * (zf_X7_power (10 - u) (t - k)) = lN (zPf (10 - u) u t k) := by
  rw [zws t (by omega) k (by omega) hk, zpw, zpw, lN_mul, lN_mul, ← zPf_b _ _ _ _ hk]
/-! the reference's row -/
theorem zly40 (u : Nat) : ∀ n v q, zl_X9_laysWays_40 u n v q = if 1 ≤ q ∧ q ≤ n then v q * lN (10 - u) + v (q - 1) * lN u else v q := by
  intro n
  induction n with
  | zero => intro v q; rw [if_neg (by omega)]; rfl
  | succ n ih =>
    intro v q
    rw [zl_X9_laysWays_40_s, ih]
    by_cases h : 1 ≤ q ∧ q ≤ n
    · rw [if_pos h, if_pos (by omega), zuL_ne (by omega), zuL_ne (by omega)]
    · rw [if_neg h]
      by_cases h2 : q = n + 1
      · subst h2; rw [zuL_eq, if_pos (by omega)]
      · rw [zuL_ne h2, if_neg (by omega)]
theorem zly2 : ∀ n j v q, zl_X9_laysWays_2 n j v q = if j ≤ q ∧ q < j + n then (if q = 0 then 1 else 0) else v q := by
  intro n
  induction n with
  | zero => intro j v q; rw [if_neg (by omega)]; rfl
  | succ n ih =>
    intro j v q
    have e : zl_X9_laysWays_2 (n + 1) j v = zl_X9_laysWays_2 n (j + 1) (vp_updL v j (if j = 0 then 1 else 0)) := by
      rw [zl_X9_laysWays_2_s]
      split <;> rfl
    rw [e, ih]
    by_cases h : j + 1 ≤ q ∧ q < j + 1 + n
    · rw [if_pos h, if_pos (show j ≤ q ∧ q < j + (n + 1) by omega)]
    · rw [if_neg h]
      by_cases h2 : q = j
      · subst h2; rw [zuL_eq, if_pos (show q ≤ q ∧ q < q + (n + 1) by omega)]
      · rw [zuL_ne h2, if_neg (show ¬ (j ≤ q ∧ q < j + (n + 1)) by omega)]
theorem zly31 (u : Nat) : ∀ n j v m, (∀ i, i < 17 → v i = lN (zPf (10 - u) u m i)) → ∀ i, i < 17 → zl_X9_laysWays_31 u n j v i = lN (zPf (10 - u) u (m + n) i) := by
  intro n
  induction n with
  | zero => intro j v m h; exact h
  | succ n ih =>
    intro j v m h i hi
    rw [zl_X9_laysWays_31_s, show m + (n + 1) = (m + 1) + n by omega]
    refine ih (j + 1) _ (m + 1) (fun q hq => ?_) i hi
    match q, hq with
    | 0, _ =>
      rw [zuL_eq, zly40, if_neg (by omega), h 0 (by omega), lN_mul]
      rfl
    | q + 1, hq =>
      rw [zuL_ne (by omega), zly40, if_pos (by omega), h (q + 1) hq, Nat.add_sub_cancel, h q (by omega), lN_mul, lN_mul, lN_add]
      rfl
theorem zlyW (W : Nat → Int64) (t u : Nat) : ∀ i, i < 17 → zf_X9_laysWays W t u i = lN (zPf (10 - u) u t i) := by
  rw [zf_X9_laysWays_e]
  have h0 : ∀ i, i < 17 → zl_X9_laysWays_2 17 0 W i = lN (zPf (10 - u) u 0 i) := fun i hi => by
    rw [zly2, if_pos (by omega)]
    match i with
    | 0 => rfl
    | i + 1 => rfl
  have := zly31 u t 0 _ 0 h0
  rw [Nat.zero_add] at this
  exact this
theorem ztl (W : Nat → Int64) {t u : Nat} (ht : t ≤ 15) : ∀ k n j x, k + j + n = t + 1 → ∀ r, k + j + n + r ≤ 17 → zl_X9_tailOf_12 W t k u (n + r) j x = zl_X7_atLeast_5 t k u n j x := by
  intro k n
  induction n with
  | zero =>
    intro j x hj r
    rw [Nat.zero_add]
    have key : ∀ r j x, t < k + j → k + j + r ≤ 17 → zl_X9_tailOf_12 W t k u r j x = x := by
      intro r
      induction r with
      | zero => intro j x _ _; rfl
      | succ r ih =>
        intro j x h1 h2
        rw [zl_X9_tailOf_12_s, zlyW W t u _ (by omega), zPf_gt _ _ _ _ h1, show lN 0 = (0 : Int64) from rfl, Int64.add_zero]
        exact ih _ _ (by omega) (by omega)
    intro hr
    exact key r j x (by omega) (by omega)
  | succ n ih =>
    intro j x hj r hr
    rw [show n + 1 + r = (n + r) + 1 by omega, zl_X9_tailOf_12_s, zl_X7_atLeast_5_s, zlyW W t u _ (by omega), zterm ht (by omega)]
    exact ih (j + 1) _ (by omega) r (by omega)
theorem ztail (W : Nat → Int64) {t k u : Nat} (ht : t ≤ 15) (hk : k ≤ 16) : zf_X7_atLeast t k u = (zf_X9_tailOf W t k u).1 := by
  rw [zf_X7_atLeast_e, zf_X9_tailOf_e]
  show _ = zl_X9_tailOf_12 W t k u (17 - k) 0 0
  by_cases c : k ≤ t + 1
  · rw [show 17 - k = (t + 1 - k) + (16 - t) by omega]
    exact (ztl W ht k (t + 1 - k) 0 0 (by omega) (16 - t) (by omega)).symm
  · have e : t + 1 - k = 0 := by omega
    rw [e]
    have key : ∀ r j x, t < k + j → k + j + r ≤ 17 → zl_X9_tailOf_12 W t k u r j x = x := by
      intro r
      induction r with
      | zero => intro j x _ _; rfl
      | succ r ih =>
        intro j x h1 h2
        rw [zl_X9_tailOf_12_s, zlyW W t u _ (by omega), zPf_gt _ _ _ _ h1, show lN 0 = (0 : Int64) from rfl, Int64.add_zero]
        exact ih _ _ (by omega) (by omega)
    exact (key (17 - k) 0 0 (by omega) (by omega)).symm
theorem ztens (j : Nat) : zf_X7_power 10 j = zf_X9_tens j := by
  have key : ∀ n j x, zl_X7_power_5 10 n j x = zl_X9_tens_4 n j x := by
    intro n
    induction n with
    | zero => intro j x; rfl
    | succ n ih => intro j x; rw [zl_X7_power_5_s, zl_X9_tens_4_s, ih]; rfl
  rw [zf_X7_power_e, zf_X9_tens_e]
  exact key j 0 1
theorem zqCh {x : Int32} : zf_X8_requireRange x (0 : Int32) (10 : Int32) = 0 ↔ zf_X9_isChance x = true := by
  rw [zf_X9_isChance_e]
  exact zqRW (by decide) (by decide)
theorem zp_tail {MNow MPast : Nat → Int64} {MSav : Nat} {PX : Nat → Int32} {PY : Nat → Int32} {PC : Nat → Int32} {PN : Nat} {POX : Nat → Int32} {POY : Nat → Int32} {POW : Nat → Int32} {bH : Nat} {bW : Nat → Int64} {bT : Nat} {bM : Nat → Nat → Int32} {rS : Nat} {rSt : Nat → Int32} {rHo : Nat → Int32} {rE : Nat} {rEl : Nat → Int32} {rEh : Nat → Int32} {zSc : Nat} {zVX : Nat → Nat → Int32} {zVY : Nat → Nat → Int32} {zVC : Nat → Nat → Int32} {zVN : Nat → Nat} {zVOX : Nat → Nat → Int32} {zVOY : Nat → Nat → Int32} {zVOW : Nat → Nat → Int32} {zVH : Nat → Nat} {zVW : Nat → Nat → Int64} {zVT : Nat → Nat} {zVM : Nat → Nat → Nat → Int32} {zVS : Nat → Nat} {zVSt : Nat → Nat → Int32} {zVHo : Nat → Nat → Int32} {zVE : Nat → Nat} {zVEl : Nat → Nat → Int32} {zVEh : Nat → Nat → Int32} (h : zRel MNow MPast MSav PX PY PC PN POX POY POW bH bW bT bM rS rSt rHo rE rEl rEh zSc zVX zVY zVC zVN zVOX zVOY zVOW zVH zVW zVT zVM zVS zVSt zVHo zVE zVEl zVEh) (t : Int32) (k : Int32) (u : Int32) (MWay : Nat → Int64) : zOut ((zf_X8_tail t k u).1) [2] ((zf_X9_tail MWay t k u).2.1) (((zf_X8_tail t k u).2)) (((zf_X9_tail MWay t k u).1)) (True) := by
  rw [zf_X8_tail_e, zf_X9_tail_e]
  have e1 : zf_X8_requireRange t (0 : Int32) (15 : Int32) = 0 ↔ zf_X9_within t.toInt64 (0 : Int64) (15 : Int64) = true := zqRW (by decide) (by decide)
  have e2 : zf_X8_requireRange k (0 : Int32) (16 : Int32) = 0 ↔ zf_X9_within k.toInt64 (0 : Int64) (16 : Int64) = true := zqRW (by decide) (by decide)
  by_cases c1 : zf_X8_requireRange t (0 : Int32) (15 : Int32) = 0
  · rw [if_pos c1, if_pos (e1.mp c1)]
    by_cases c2 : zf_X8_requireRange k (0 : Int32) (16 : Int32) = 0
    · rw [if_pos c2, if_pos (e2.mp c2)]
      by_cases c3 : zf_X8_requireRange u (0 : Int32) (10 : Int32) = 0
      · rw [if_pos c3, if_pos (zqCh.mp c3)]
        obtain ⟨-, -, h1⟩ := zrr (u := 0) (v := 15) rfl rfl c1 (by decide) (by decide)
        obtain ⟨-, -, h2⟩ := zrr (u := 0) (v := 16) rfl rfl c2 (by decide) (by decide)
        exact zOut_ok rfl (ztail MWay h1 h2) trivial
      · rw [if_neg c3, if_neg (fun q => c3 (zqCh.mpr q))]
        exact zOut_no (zk2 c3) (by decide) rfl trivial
    · rw [if_neg c2, if_neg (fun q => c2 (e2.mpr q))]
      exact zOut_no (zk2 c2) (by decide) rfl trivial
  · rw [if_neg c1, if_neg (fun q => c1 (e1.mpr q))]
    exact zOut_no (zk2 c1) (by decide) rfl trivial
theorem zft53 (u v w : Int32) {a : Nat} (ha : a ≤ 15) {Kc : Int32} {Km : (Nat → Int64) → (Int32 × Int32 × (Nat → Int64))} (hK : ∀ W, (Km W).1 = Kc ∧ (Km W).2.1 = 0) : ∀ n j W, j + n = a + 2 → (zl_X9_fewestTrials_53 u v w a Km n j W).1 = zl_X7_smallestPlan_19 (zi u) (zi v) (zi w) a Kc n j ∧ (zl_X9_fewestTrials_53 u v w a Km n j W).2.1 = 0 := by
  intro n
  induction n with
  | zero => intro j W _; exact hK W
  | succ n ih =>
    intro j W hj
    rw [zl_X9_fewestTrials_53_s, zl_X7_smallestPlan_19_s, ← ztail W ha (by omega : j ≤ 16), ← ztail _ ha (by omega : j ≤ 16), ztens]
    by_cases c1 : zf_X9_tens a < lN (zi w) * zf_X7_atLeast a j (zi u)
    · rw [if_pos c1, if_pos c1]
      exact ih _ _ (by omega)
    · rw [if_neg c1, if_neg c1]
      by_cases c2 : zf_X9_tens a < lN (zi w) * (zf_X9_tens a - zf_X7_atLeast a j (zi v))
      · rw [if_pos c2, if_pos c2]
        exact ih _ _ (by omega)
      · rw [if_neg c2, if_neg c2]
        exact ⟨rfl, rfl⟩
theorem zft43 (u v w : Int32) : ∀ n j W, j + n = 16 → (zl_X9_fewestTrials_43 u v w n j W).1 = zl_X7_smallestPlan_2 (zi u) (zi v) (zi w) n j ∧ (zl_X9_fewestTrials_43 u v w n j W).2.1 = 0 := by
  intro n
  induction n with
  | zero => intro j W _; exact ⟨rfl, rfl⟩
  | succ n ih =>
    intro j W hj
    rw [zl_X9_fewestTrials_43_s, zl_X7_smallestPlan_2_s]
    exact zft53 u v w (by omega) (fun W => ih (j + 1) W (by omega)) (j + 2) 0 W (by omega)
theorem zp_fewestTrials {MNow MPast : Nat → Int64} {MSav : Nat} {PX : Nat → Int32} {PY : Nat → Int32} {PC : Nat → Int32} {PN : Nat} {POX : Nat → Int32} {POY : Nat → Int32} {POW : Nat → Int32} {bH : Nat} {bW : Nat → Int64} {bT : Nat} {bM : Nat → Nat → Int32} {rS : Nat} {rSt : Nat → Int32} {rHo : Nat → Int32} {rE : Nat} {rEl : Nat → Int32} {rEh : Nat → Int32} {zSc : Nat} {zVX : Nat → Nat → Int32} {zVY : Nat → Nat → Int32} {zVC : Nat → Nat → Int32} {zVN : Nat → Nat} {zVOX : Nat → Nat → Int32} {zVOY : Nat → Nat → Int32} {zVOW : Nat → Nat → Int32} {zVH : Nat → Nat} {zVW : Nat → Nat → Int64} {zVT : Nat → Nat} {zVM : Nat → Nat → Nat → Int32} {zVS : Nat → Nat} {zVSt : Nat → Nat → Int32} {zVHo : Nat → Nat → Int32} {zVE : Nat → Nat} {zVEl : Nat → Nat → Int32} {zVEh : Nat → Nat → Int32} (h : zRel MNow MPast MSav PX PY PC PN POX POY POW bH bW bT bM rS rSt rHo rE rEl rEh zSc zVX zVY zVC zVN zVOX zVOY zVOW zVH zVW zVT zVM zVS zVSt zVHo zVE zVEl zVEh) (u : Int32) (v : Int32) (w : Int32) (MWay : Nat → Int64) : zOut ((zf_X8_fewestTrials u v w).1) [2] ((zf_X9_fewestTrials MWay u v w).2.1) ((((zf_X8_fewestTrials u v w).2)).toInt64) ((((zf_X9_fewestTrials MWay u v w).1)).toInt64) (True) := by
  rw [zf_X8_fewestTrials_e, zf_X9_fewestTrials_e]
  have e3 : zf_X8_requireRange w (1 : Int32) (1000 : Int32) = 0 ↔ zf_X9_within w.toInt64 (1 : Int64) (1000 : Int64) = true := zqRW (by decide) (by decide)
  by_cases c1 : zf_X8_requireRange u (0 : Int32) (10 : Int32) = 0
  · rw [if_pos c1, if_pos (zqCh.mp c1)]
    by_cases c2 : zf_X8_requireRange v (0 : Int32) (10 : Int32) = 0
    · rw [if_pos c2, if_pos (zqCh.mp c2)]
      by_cases c3 : zf_X8_requireRange w (1 : Int32) (1000 : Int32) = 0
      · rw [if_pos c3, if_pos (e3.mp c3)]
        obtain ⟨f1, f2⟩ := zft43 u v w 16 0 MWay (by omega)
        exact zOut_ok f2 (congrArg Int32.toInt64 (by rw [f1, ← zf_X7_smallestPlan_e])) trivial
      · rw [if_neg c3, if_neg (fun q => c3 (e3.mpr q))]
        exact zOut_no (zk2 c3) (by decide) rfl trivial
    · rw [if_neg c2, if_neg (fun q => c2 (zqCh.mpr q))]
      exact zOut_no (zk2 c2) (by decide) rfl trivial
  · rw [if_neg c1, if_neg (fun q => c1 (zqCh.mpr q))]
    exact zOut_no (zk2 c1) (by decide) rfl trivial
