/-! Hypotheses and chances on both sides -/
def zpt (q : Nat) : Int32 := if q % 3 = 2 then 10 else 0
theorem zptI (q : Nat) : 0 ≤ (zpt q).toInt ∧ (zpt q).toInt ≤ 10 := by
  unfold zpt
  split <;> decide
theorem zchg (M : Nat → Nat → Int32) (t k : Nat) (x y : Int32) (t' j : Nat) : (zf_X1_changeChances M t k x y).2 t' j = if t' = t then (if j = 3 * k + 2 then (10 : Int32) - x - y else if j = 3 * k + 1 then y else if j = 3 * k then x else M t j) else M t' j := by
  rw [zf_X1_changeChances_e]
  dsimp only
  rw [Nat.mul_comm k 3]
  by_cases h : t' = t
  · subst h
    simp only [zupR, upd, if_true]
  · simp only [zupR, if_neg h]
theorem zchg1 (M : Nat → Nat → Int32) (t k : Nat) (x y : Int32) : (zf_X1_changeChances M t k x y).1 = (10 : Int32) - x - y := by
  rw [zf_X1_changeChances_e]
  dsimp only
  simp only [zupR, upd, if_true]
theorem zrst2 (t : Nat) : ∀ n j M t' q, q < 24 → zl_X1_resetChances_2 t n j M t' q = if t' = t ∧ 3 * j ≤ q ∧ q < 3 * (j + n) then zpt q else M t' q := by
  intro n
  induction n with
  | zero => intro j M t' q hq; rw [if_neg (by omega)]; rfl
  | succ n ih =>
    intro j M t' q hq
    rw [zl_X1_resetChances_2_s, ih _ _ _ _ hq]
    by_cases h : t' = t ∧ 3 * (j + 1) ≤ q ∧ q < 3 * (j + 1 + n)
    · rw [if_pos h, if_pos (by omega)]
    · rw [if_neg h, zchg]
      by_cases h2 : t' = t
      · rw [if_pos h2]
        by_cases h3 : 3 * j ≤ q ∧ q < 3 * (j + 1)
        · rw [if_pos (show t' = t ∧ 3 * j ≤ q ∧ q < 3 * (j + (n + 1)) from ⟨h2, by omega, by omega⟩)]
          unfold zpt
          rcases (show q = 3 * j ∨ q = 3 * j + 1 ∨ q = 3 * j + 2 by omega) with e | e | e
          · rw [if_neg (by omega), if_neg (by omega), if_pos e, if_neg (by omega)]
          · rw [if_neg (by omega), if_pos e, if_neg (by omega)]
          · rw [if_pos e, if_pos (by omega)]; decide
        · rw [if_neg (by omega), if_neg (by omega), if_neg (by omega), if_neg (by omega), h2]
      · rw [if_neg h2, if_neg (by omega)]
theorem zrstC (M : Nat → Nat → Int32) (t t' q : Nat) (hq : q < 24) : zf_X1_resetChances M t t' q = if t' = t then zpt q else M t' q := by
  rw [zf_X1_resetChances_e, zrst2 t 8 0 M t' q hq]
  by_cases h : t' = t
  · rw [if_pos h, if_pos (by omega)]
  · rw [if_neg h, if_neg (by omega)]
theorem zrst30 : ∀ n j M t' q, q < 24 → zl_X1_restart_30 n j M t' q = if j ≤ t' ∧ t' < j + n then zpt q else M t' q := by
  intro n
  induction n with
  | zero => intro j M t' q hq; rw [if_neg (by omega)]; rfl
  | succ n ih =>
    intro j M t' q hq
    rw [zl_X1_restart_30_s, ih _ _ _ _ hq]
    by_cases h : j + 1 ≤ t' ∧ t' < j + 1 + n
    · rw [if_pos h, if_pos (by omega)]
    · rw [if_neg h, zrstC _ _ _ _ hq]
      by_cases h2 : t' = j
      · rw [if_pos h2, if_pos (by omega)]
      · rw [if_neg h2, if_neg (by omega)]
theorem zrst7 : ∀ n j w i, zl_X1_restart_7 n j w i = if j ≤ i ∧ i < j + n then 1 else w i := by
  intro n
  induction n with
  | zero => intro j w i; rw [if_neg (by omega)]; rfl
  | succ n ih =>
    intro j w i
    rw [zl_X1_restart_7_s, ih]
    by_cases h : j + 1 ≤ i ∧ i < j + 1 + n
    · rw [if_pos h, if_pos (by omega)]
    · rw [if_neg h]
      by_cases h2 : i = j
      · subst h2; rw [zuL_eq, if_pos (by omega)]
      · rw [zuL_ne h2, if_neg (by omega)]
/-! the reference's -/
theorem zlcM (v : Nat → Int64) (t k : Nat) (x y : Int32) (i : Nat) : zf_X9_laysChances v t k x y i = if i = 44 + 3 * (8 * t + k) + 2 then ((10 : Int32) - x - y).toInt64 else if i = 44 + 3 * (8 * t + k) + 1 then y.toInt64 else if i = 44 + 3 * (8 * t + k) then x.toInt64 else v i := by
  rw [zf_X9_laysChances_e]
  rfl
theorem zlc0 (v : Nat → Int64) (t k : Nat) (hk : k < 8) (i : Nat) : zf_X9_laysChances v t k (0 : Int32) (0 : Int32) i = if 44 ≤ i ∧ (i - 44) / 24 = t ∧ (i - 44) / 3 % 8 = k then (zpt (i - 44)).toInt64 else v i := by
  rw [zlcM]
  by_cases h : 44 ≤ i ∧ (i - 44) / 24 = t ∧ (i - 44) / 3 % 8 = k
  · rw [if_pos h]
    unfold zpt
    rcases (show i = 44 + 3 * (8 * t + k) ∨ i = 44 + 3 * (8 * t + k) + 1 ∨ i = 44 + 3 * (8 * t + k) + 2 by omega) with e | e | e
    · rw [if_neg (by omega), if_neg (by omega), if_pos e, if_neg (by omega)]
    · rw [if_neg (by omega), if_pos e, if_neg (by omega)]
    · rw [if_pos e, if_pos (by omega)]; decide
  · rw [if_neg h, if_neg (by omega), if_neg (by omega), if_neg (by omega)]
theorem zlh34 (k : Nat) (hk : k < 8) : ∀ n j v i, zl_X9_laysHypotheses_34 k n j v i = if 44 ≤ i ∧ j ≤ (i - 44) / 24 ∧ (i - 44) / 24 < j + n ∧ (i - 44) / 3 % 8 = k then (zpt (i - 44)).toInt64 else v i := by
  intro n
  induction n with
  | zero => intro j v i; rw [if_neg (by omega)]; rfl
  | succ n ih =>
    intro j v i
    rw [zl_X9_laysHypotheses_34_s, ih, zlc0 _ _ _ hk]
    by_cases h : 44 ≤ i ∧ j + 1 ≤ (i - 44) / 24 ∧ (i - 44) / 24 < j + 1 + n ∧ (i - 44) / 3 % 8 = k
    · rw [if_pos h, if_pos (by omega)]
    · rw [if_neg h]
      by_cases h2 : 44 ≤ i ∧ (i - 44) / 24 = j ∧ (i - 44) / 3 % 8 = k
      · rw [if_pos h2, if_pos (by omega)]
      · rw [if_neg h2, if_neg (by omega)]
theorem zlh2 (n : Nat) : ∀ m j v i, j + m ≤ 8 → zl_X9_laysHypotheses_2 n m j v i = if 35 + j ≤ i ∧ i < 35 + j + m then (if i - 35 ≥ n then 0 else 1) else if 44 ≤ i ∧ i < 284 ∧ j ≤ (i - 44) / 3 % 8 ∧ (i - 44) / 3 % 8 < j + m then (zpt (i - 44)).toInt64 else v i := by
  intro m
  induction m with
  | zero => intro j v i _; rw [if_neg (by omega), if_neg (by omega)]; rfl
  | succ m ih =>
    intro j v i hj
    have e : zl_X9_laysHypotheses_2 n (m + 1) j v = zl_X9_laysHypotheses_2 n m (j + 1) (zl_X9_laysHypotheses_34 j 10 0 (vp_updL v (35 + j) (if j ≥ n then 0 else 1))) := by
      rw [zl_X9_laysHypotheses_2_s]
      split <;> rfl
    rw [e, ih _ _ _ (by omega), zlh34 j (by omega)]
    by_cases h : 35 + (j + 1) ≤ i ∧ i < 35 + (j + 1) + m
    · rw [if_pos h, if_pos (show 35 + j ≤ i ∧ i < 35 + j + (m + 1) by omega)]
    · rw [if_neg h]
      by_cases h1 : i = 35 + j
      · subst h1
        rw [if_neg (show ¬ (44 ≤ 35 + j ∧ 35 + j < 284 ∧ j + 1 ≤ (35 + j - 44) / 3 % 8 ∧ (35 + j - 44) / 3 % 8 < j + 1 + m) by omega), if_neg (show ¬ (44 ≤ 35 + j ∧ 0 ≤ (35 + j - 44) / 24 ∧ (35 + j - 44) / 24 < 0 + 10 ∧ (35 + j - 44) / 3 % 8 = j) by omega), zuL_eq, if_pos (show 35 + j ≤ 35 + j ∧ 35 + j < 35 + j + (m + 1) by omega), Nat.add_sub_cancel_left]
      · rw [zuL_ne h1, if_neg (show ¬ (35 + j ≤ i ∧ i < 35 + j + (m + 1)) by omega)]
        by_cases h2 : 44 ≤ i ∧ i < 284 ∧ j + 1 ≤ (i - 44) / 3 % 8 ∧ (i - 44) / 3 % 8 < j + 1 + m
        · rw [if_pos h2, if_pos (show 44 ≤ i ∧ i < 284 ∧ j ≤ (i - 44) / 3 % 8 ∧ (i - 44) / 3 % 8 < j + (m + 1) by omega)]
        · rw [if_neg h2]
          by_cases h3 : 44 ≤ i ∧ 0 ≤ (i - 44) / 24 ∧ (i - 44) / 24 < 0 + 10 ∧ (i - 44) / 3 % 8 = j
          · rw [if_pos h3, if_pos (show 44 ≤ i ∧ i < 284 ∧ j ≤ (i - 44) / 3 % 8 ∧ (i - 44) / 3 % 8 < j + (m + 1) by omega)]
          · rw [if_neg h3, if_neg (show ¬ (44 ≤ i ∧ i < 284 ∧ j ≤ (i - 44) / 3 % 8 ∧ (i - 44) / 3 % 8 < j + (m + 1)) by omega)]
theorem zlh (n : Nat) (v : Nat → Int64) (i : Nat) : zf_X9_laysHypotheses v n i = if 35 ≤ i ∧ i < 43 then (if i - 35 ≥ n then 0 else 1) else if 44 ≤ i ∧ i < 284 then (zpt (i - 44)).toInt64 else v i := by
  rw [zf_X9_laysHypotheses_e, zlh2 n 8 0 v i (by omega)]
  by_cases h : 35 ≤ i ∧ i < 43
  · rw [if_pos h, if_pos (show 35 + 0 ≤ i ∧ i < 35 + 0 + 8 by omega)]
  · rw [if_neg h, if_neg (show ¬ (35 + 0 ≤ i ∧ i < 35 + 0 + 8) by omega)]
    by_cases h2 : 44 ≤ i ∧ i < 284
    · rw [if_pos h2, if_pos (show 44 ≤ i ∧ i < 284 ∧ 0 ≤ (i - 44) / 3 % 8 ∧ (i - 44) / 3 % 8 < 0 + 8 by omega)]
    · rw [if_neg h2, if_neg (show ¬ (44 ≤ i ∧ i < 284 ∧ 0 ≤ (i - 44) / 3 % 8 ∧ (i - 44) / 3 % 8 < 0 + 8) by omega)]
theorem zat38 (N : Nat → Int64) : ∀ n j v i, j + n ≤ 8 → zl_X9_addTest_38 N n j v i = if 44 ≤ i ∧ (i - 44) / 24 = zc (N 43) ∧ j ≤ (i - 44) / 3 % 8 ∧ (i - 44) / 3 % 8 < j + n then (zpt (i - 44)).toInt64 else v i := by
  intro n
  induction n with
  | zero => intro j v i _; rw [if_neg (by omega)]; rfl
  | succ n ih =>
    intro j v i hj
    rw [zl_X9_addTest_38_s, ih _ _ _ (by omega), zlc0 _ _ _ (by omega)]
    by_cases h : 44 ≤ i ∧ (i - 44) / 24 = zc (N 43) ∧ j + 1 ≤ (i - 44) / 3 % 8 ∧ (i - 44) / 3 % 8 < j + 1 + n
    · rw [if_pos h, if_pos (by omega)]
    · rw [if_neg h]
      by_cases h2 : 44 ≤ i ∧ (i - 44) / 24 = zc (N 43) ∧ (i - 44) / 3 % 8 = j
      · rw [if_pos h2, if_pos (by omega)]
      · rw [if_neg h2, if_neg (by omega)]
theorem zptS (t h : Nat) : (zpt (3 * h)).toInt = 0 ∧ (zpt (3 * h + 1)).toInt = 0 ∧ (zpt (3 * h + 2)).toInt = 10 := by
  unfold zpt
  rw [if_neg (by omega), if_neg (by omega), if_pos (by omega)]
  decide
theorem zptM (t j : Nat) : zpt (44 + 24 * t + j - 44) = zpt j := by
  unfold zpt
  have : (44 + 24 * t + j - 44) % 3 = j % 3 := by omega
  rw [this]
theorem zp_setHypotheses {MNow MPast : Nat → Int64} {MSav : Nat} {PX : Nat → Int32} {PY : Nat → Int32} {PC : Nat → Int32} {PN : Nat} {POX : Nat → Int32} {POY : Nat → Int32} {POW : Nat → Int32} {bH : Nat} {bW : Nat → Int64} {bT : Nat} {bM : Nat → Nat → Int32} {rS : Nat} {rSt : Nat → Int32} {rHo : Nat → Int32} {rE : Nat} {rEl : Nat → Int32} {rEh : Nat → Int32} {zSc : Nat} {zVX : Nat → Nat → Int32} {zVY : Nat → Nat → Int32} {zVC : Nat → Nat → Int32} {zVN : Nat → Nat} {zVOX : Nat → Nat → Int32} {zVOY : Nat → Nat → Int32} {zVOW : Nat → Nat → Int32} {zVH : Nat → Nat} {zVW : Nat → Nat → Int64} {zVT : Nat → Nat} {zVM : Nat → Nat → Nat → Int32} {zVS : Nat → Nat} {zVSt : Nat → Nat → Int32} {zVHo : Nat → Nat → Int32} {zVE : Nat → Nat} {zVEl : Nat → Nat → Int32} {zVEh : Nat → Nat → Int32} (h : zRel MNow MPast MSav PX PY PC PN POX POY POW bH bW bT bM rS rSt rHo rE rEl rEh zSc zVX zVY zVC zVN zVOX zVOY zVOW zVH zVW zVT zVM zVS zVSt zVHo zVE zVEl zVEh) (zSD : Nat → Nat → Nat) (k : Int32) : zOut ((zf_X8_setHypotheses zSD zSc PX PY PC PN POX POY POW bH bW bT bM rS rSt rHo rE rEl rEh zVX zVY zVC zVN zVOX zVOY zVOW zVH zVW zVT zVM zVS zVSt zVHo zVE zVEl zVEh k).1) [2] ((zf_X9_setHypotheses MNow MPast MSav k).2.1) ((nI (((zf_X8_setHypotheses zSD zSc PX PY PC PN POX POY POW bH bW bT bM rS rSt rHo rE rEl rEh zVX zVY zVC zVN zVOX zVOY zVOW zVH zVW zVT zVM zVS zVSt zVHo zVE zVEl zVEh k).2.1))).toInt64) ((nI (((zf_X9_setHypotheses MNow MPast MSav k).1))).toInt64) (zRel ((zf_X9_setHypotheses MNow MPast MSav k).2.2.1) ((zf_X9_setHypotheses MNow MPast MSav k).2.2.2.1) ((zf_X9_setHypotheses MNow MPast MSav k).2.2.2.2) PX PY PC PN POX POY POW ((zf_X8_setHypotheses zSD zSc PX PY PC PN POX POY POW bH bW bT bM rS rSt rHo rE rEl rEh zVX zVY zVC zVN zVOX zVOY zVOW zVH zVW zVT zVM zVS zVSt zVHo zVE zVEl zVEh k).2.2.2.2.2.2.2.2.2.2.2.2.2.2.2.2.2.2.2.2.2.1) ((zf_X8_setHypotheses zSD zSc PX PY PC PN POX POY POW bH bW bT bM rS rSt rHo rE rEl rEh zVX zVY zVC zVN zVOX zVOY zVOW zVH zVW zVT zVM zVS zVSt zVHo zVE zVEl zVEh k).2.2.2.2.2.2.2.2.2.2.2.2.2.2.2.2.2.2.2.2.2.2.1) bT ((zf_X8_setHypotheses zSD zSc PX PY PC PN POX POY POW bH bW bT bM rS rSt rHo rE rEl rEh zVX zVY zVC zVN zVOX zVOY zVOW zVH zVW zVT zVM zVS zVSt zVHo zVE zVEl zVEh k).2.2.2.2.2.2.2.2.2.2.2.2.2.2.2.2.2.2.2.2.2.2.2) rS rSt rHo rE rEl rEh ((zf_X8_setHypotheses zSD zSc PX PY PC PN POX POY POW bH bW bT bM rS rSt rHo rE rEl rEh zVX zVY zVC zVN zVOX zVOY zVOW zVH zVW zVT zVM zVS zVSt zVHo zVE zVEl zVEh k).2.2.2.1) ((zf_X8_setHypotheses zSD zSc PX PY PC PN POX POY POW bH bW bT bM rS rSt rHo rE rEl rEh zVX zVY zVC zVN zVOX zVOY zVOW zVH zVW zVT zVM zVS zVSt zVHo zVE zVEl zVEh k).2.2.2.2.1) ((zf_X8_setHypotheses zSD zSc PX PY PC PN POX POY POW bH bW bT bM rS rSt rHo rE rEl rEh zVX zVY zVC zVN zVOX zVOY zVOW zVH zVW zVT zVM zVS zVSt zVHo zVE zVEl zVEh k).2.2.2.2.2.1) ((zf_X8_setHypotheses zSD zSc PX PY PC PN POX POY POW bH bW bT bM rS rSt rHo rE rEl rEh zVX zVY zVC zVN zVOX zVOY zVOW zVH zVW zVT zVM zVS zVSt zVHo zVE zVEl zVEh k).2.2.2.2.2.2.1) ((zf_X8_setHypotheses zSD zSc PX PY PC PN POX POY POW bH bW bT bM rS rSt rHo rE rEl rEh zVX zVY zVC zVN zVOX zVOY zVOW zVH zVW zVT zVM zVS zVSt zVHo zVE zVEl zVEh k).2.2.2.2.2.2.2.1) ((zf_X8_setHypotheses zSD zSc PX PY PC PN POX POY POW bH bW bT bM rS rSt rHo rE rEl rEh zVX zVY zVC zVN zVOX zVOY zVOW zVH zVW zVT zVM zVS zVSt zVHo zVE zVEl zVEh k).2.2.2.2.2.2.2.2.1) ((zf_X8_setHypotheses zSD zSc PX PY PC PN POX POY POW bH bW bT bM rS rSt rHo rE rEl rEh zVX zVY zVC zVN zVOX zVOY zVOW zVH zVW zVT zVM zVS zVSt zVHo zVE zVEl zVEh k).2.2.2.2.2.2.2.2.2.1) ((zf_X8_setHypotheses zSD zSc PX PY PC PN POX POY POW bH bW bT bM rS rSt rHo rE rEl rEh zVX zVY zVC zVN zVOX zVOY zVOW zVH zVW zVT zVM zVS zVSt zVHo zVE zVEl zVEh k).2.2.2.2.2.2.2.2.2.2.1) ((zf_X8_setHypotheses zSD zSc PX PY PC PN POX POY POW bH bW bT bM rS rSt rHo rE rEl rEh zVX zVY zVC zVN zVOX zVOY zVOW zVH zVW zVT zVM zVS zVSt zVHo zVE zVEl zVEh k).2.2.2.2.2.2.2.2.2.2.2.1) ((zf_X8_setHypotheses zSD zSc PX PY PC PN POX POY POW bH bW bT bM rS rSt rHo rE rEl rEh zVX zVY zVC zVN zVOX zVOY zVOW zVH zVW zVT zVM zVS zVSt zVHo zVE zVEl zVEh k).2.2.2.2.2.2.2.2.2.2.2.2.1) ((zf_X8_setHypotheses zSD zSc PX PY PC PN POX POY POW bH bW bT bM rS rSt rHo rE rEl rEh zVX zVY zVC zVN zVOX zVOY zVOW zVH zVW zVT zVM zVS zVSt zVHo zVE zVEl zVEh k).2.2.2.2.2.2.2.2.2.2.2.2.2.1) ((zf_X8_setHypotheses zSD zSc PX PY PC PN POX POY POW bH bW bT bM rS rSt rHo rE rEl rEh zVX zVY zVC zVN zVOX zVOY zVOW zVH zVW zVT zVM zVS zVSt zVHo zVE zVEl zVEh k).2.2.2.2.2.2.2.2.2.2.2.2.2.2.1) ((zf_X8_setHypotheses zSD zSc PX PY PC PN POX POY POW bH bW bT bM rS rSt rHo rE rEl rEh zVX zVY zVC zVN zVOX zVOY zVOW zVH zVW zVT zVM zVS zVSt zVHo zVE zVEl zVEh k).2.2.2.2.2.2.2.2.2.2.2.2.2.2.2.1) ((zf_X8_setHypotheses zSD zSc PX PY PC PN POX POY POW bH bW bT bM rS rSt rHo rE rEl rEh zVX zVY zVC zVN zVOX zVOY zVOW zVH zVW zVT zVM zVS zVSt zVHo zVE zVEl zVEh k).2.2.2.2.2.2.2.2.2.2.2.2.2.2.2.2.1) ((zf_X8_setHypotheses zSD zSc PX PY PC PN POX POY POW bH bW bT bM rS rSt rHo rE rEl rEh zVX zVY zVC zVN zVOX zVOY zVOW zVH zVW zVT zVM zVS zVSt zVHo zVE zVEl zVEh k).2.2.2.2.2.2.2.2.2.2.2.2.2.2.2.2.2.1) ((zf_X8_setHypotheses zSD zSc PX PY PC PN POX POY POW bH bW bT bM rS rSt rHo rE rEl rEh zVX zVY zVC zVN zVOX zVOY zVOW zVH zVW zVT zVM zVS zVSt zVHo zVE zVEl zVEh k).2.2.2.2.2.2.2.2.2.2.2.2.2.2.2.2.2.2.1) ((zf_X8_setHypotheses zSD zSc PX PY PC PN POX POY POW bH bW bT bM rS rSt rHo rE rEl rEh zVX zVY zVC zVN zVOX zVOY zVOW zVH zVW zVT zVM zVS zVSt zVHo zVE zVEl zVEh k).2.2.2.2.2.2.2.2.2.2.2.2.2.2.2.2.2.2.2.1) ((zf_X8_setHypotheses zSD zSc PX PY PC PN POX POY POW bH bW bT bM rS rSt rHo rE rEl rEh zVX zVY zVC zVN zVOX zVOY zVOW zVH zVW zVT zVM zVS zVSt zVHo zVE zVEl zVEh k).2.2.2.2.2.2.2.2.2.2.2.2.2.2.2.2.2.2.2.2.1)) := by
  obtain ⟨⟨hP, hB, hR⟩, -, -, -⟩ := id h
  obtain ⟨⟨b1, b2, b3⟩, ⟨b4, b5⟩, -⟩ := id hB
  rw [zf_X8_setHypotheses_e, zf_X9_setHypotheses_e]
  have e2 : zf_X8_requireRange k (1 : Int32) (8 : Int32) = 0 ↔ zf_X9_within k.toInt64 (1 : Int64) (8 : Int64) = true := zqRW (by decide) (by decide)
  by_cases c1 : zf_X8_requireRange k (1 : Int32) (8 : Int32) = 0
  · rw [if_pos c1, if_pos (e2.mp c1)]
    obtain ⟨-, k1, k8⟩ := zrr (u := 1) (v := 8) rfl rfl c1 (by decide) (by decide)
    try dsimp only
    refine zOut_ok rfl (by rw [zcN b1 (by omega)]) (zRel_save h ⟨?_, ?_, ?_⟩)
    · exact hP.congr (fun q hq => by rw [zlh, if_neg (by omega), if_neg (by omega), zuL_ne (by omega)]) (fun _ _ => rfl) (fun _ _ => rfl) (fun _ _ => rfl) (fun _ _ => rfl) (fun _ _ => rfl) (fun _ _ => rfl)
    · rw [zf_X1_restart_e]
      dsimp only
      refine ⟨⟨by rw [zlh, if_neg (by omega), if_neg (by omega), zuL_eq], k1, k8⟩, ⟨by rw [zlh, if_neg (by omega), if_neg (by omega), zuL_ne (by omega)]; exact b4, b5⟩, fun i hi => ?_, fun i hi h8 => ?_, ⟨0, by omega, ?_⟩, fun t ht j hj => ?_, fun t ht q hq => ?_, fun q h1 h2 => ?_⟩
      · rw [zlh, if_pos (by omega), if_neg (by omega), zrst7, if_pos (by omega)]
        decide
      · rw [zlh, if_pos (by omega), if_pos (by omega)]
      · rw [zrst7, if_pos (by omega)]; decide
      · rw [zlh, if_neg (by omega), if_pos (by omega), zptM, zrst30 _ _ _ _ _ hj, if_pos (by omega)]
      · rw [zrst30 _ _ _ _ _ (by omega), zrst30 _ _ _ _ _ (by omega), zrst30 _ _ _ _ _ (by omega), if_pos (by omega), if_pos (by omega), if_pos (by omega)]
        have := zptS 0 q
        omega
      · rw [zlh, if_neg (by omega), if_pos (by omega), Int32.toInt_toInt64]
        exact zptI _
    · exact hR.congr (fun q h1 h2 => by rw [zlh, if_neg (by omega), if_neg (by omega), zuL_ne (by omega)]) (fun _ _ => rfl) (fun _ _ => rfl) (fun _ _ => rfl) (fun _ _ => rfl)
  · rw [if_neg c1, if_neg (fun q => c1 (e2.mpr q))]
    exact zOut_no (zk2 c1) (by decide) rfl h
theorem zp_addTest {MNow MPast : Nat → Int64} {MSav : Nat} {PX : Nat → Int32} {PY : Nat → Int32} {PC : Nat → Int32} {PN : Nat} {POX : Nat → Int32} {POY : Nat → Int32} {POW : Nat → Int32} {bH : Nat} {bW : Nat → Int64} {bT : Nat} {bM : Nat → Nat → Int32} {rS : Nat} {rSt : Nat → Int32} {rHo : Nat → Int32} {rE : Nat} {rEl : Nat → Int32} {rEh : Nat → Int32} {zSc : Nat} {zVX : Nat → Nat → Int32} {zVY : Nat → Nat → Int32} {zVC : Nat → Nat → Int32} {zVN : Nat → Nat} {zVOX : Nat → Nat → Int32} {zVOY : Nat → Nat → Int32} {zVOW : Nat → Nat → Int32} {zVH : Nat → Nat} {zVW : Nat → Nat → Int64} {zVT : Nat → Nat} {zVM : Nat → Nat → Nat → Int32} {zVS : Nat → Nat} {zVSt : Nat → Nat → Int32} {zVHo : Nat → Nat → Int32} {zVE : Nat → Nat} {zVEl : Nat → Nat → Int32} {zVEh : Nat → Nat → Int32} (h : zRel MNow MPast MSav PX PY PC PN POX POY POW bH bW bT bM rS rSt rHo rE rEl rEh zSc zVX zVY zVC zVN zVOX zVOY zVOW zVH zVW zVT zVM zVS zVSt zVHo zVE zVEl zVEh) (zSD : Nat → Nat → Nat) : zOut ((zf_X8_addTest zSD zSc PX PY PC PN POX POY POW bH bW bT bM rS rSt rHo rE rEl rEh zVX zVY zVC zVN zVOX zVOY zVOW zVH zVW zVT zVM zVS zVSt zVHo zVE zVEl zVEh).1) [3] ((zf_X9_addTest MNow MPast MSav).2.1) ((nI (((zf_X8_addTest zSD zSc PX PY PC PN POX POY POW bH bW bT bM rS rSt rHo rE rEl rEh zVX zVY zVC zVN zVOX zVOY zVOW zVH zVW zVT zVM zVS zVSt zVHo zVE zVEl zVEh).2.1))).toInt64) ((nI (((zf_X9_addTest MNow MPast MSav).1))).toInt64) (zRel ((zf_X9_addTest MNow MPast MSav).2.2.1) ((zf_X9_addTest MNow MPast MSav).2.2.2.1) ((zf_X9_addTest MNow MPast MSav).2.2.2.2) PX PY PC PN POX POY POW bH bW ((zf_X8_addTest zSD zSc PX PY PC PN POX POY POW bH bW bT bM rS rSt rHo rE rEl rEh zVX zVY zVC zVN zVOX zVOY zVOW zVH zVW zVT zVM zVS zVSt zVHo zVE zVEl zVEh).2.2.2.2.2.2.2.2.2.2.2.2.2.2.2.2.2.2.2.2.2.1) ((zf_X8_addTest zSD zSc PX PY PC PN POX POY POW bH bW bT bM rS rSt rHo rE rEl rEh zVX zVY zVC zVN zVOX zVOY zVOW zVH zVW zVT zVM zVS zVSt zVHo zVE zVEl zVEh).2.2.2.2.2.2.2.2.2.2.2.2.2.2.2.2.2.2.2.2.2.2) rS rSt rHo rE rEl rEh ((zf_X8_addTest zSD zSc PX PY PC PN POX POY POW bH bW bT bM rS rSt rHo rE rEl rEh zVX zVY zVC zVN zVOX zVOY zVOW zVH zVW zVT zVM zVS zVSt zVHo zVE zVEl zVEh).2.2.2.1) ((zf_X8_addTest zSD zSc PX PY PC PN POX POY POW bH bW bT bM rS rSt rHo rE rEl rEh zVX zVY zVC zVN zVOX zVOY zVOW zVH zVW zVT zVM zVS zVSt zVHo zVE zVEl zVEh).2.2.2.2.1) ((zf_X8_addTest zSD zSc PX PY PC PN POX POY POW bH bW bT bM rS rSt rHo rE rEl rEh zVX zVY zVC zVN zVOX zVOY zVOW zVH zVW zVT zVM zVS zVSt zVHo zVE zVEl zVEh).2.2.2.2.2.1) ((zf_X8_addTest zSD zSc PX PY PC PN POX POY POW bH bW bT bM rS rSt rHo rE rEl rEh zVX zVY zVC zVN zVOX zVOY zVOW zVH zVW zVT zVM zVS zVSt zVHo zVE zVEl zVEh).2.2.2.2.2.2.1) ((zf_X8_addTest zSD zSc PX PY PC PN POX POY POW bH bW bT bM rS rSt rHo rE rEl rEh zVX zVY zVC zVN zVOX zVOY zVOW zVH zVW zVT zVM zVS zVSt zVHo zVE zVEl zVEh).2.2.2.2.2.2.2.1) ((zf_X8_addTest zSD zSc PX PY PC PN POX POY POW bH bW bT bM rS rSt rHo rE rEl rEh zVX zVY zVC zVN zVOX zVOY zVOW zVH zVW zVT zVM zVS zVSt zVHo zVE zVEl zVEh).2.2.2.2.2.2.2.2.1) ((zf_X8_addTest zSD zSc PX PY PC PN POX POY POW bH bW bT bM rS rSt rHo rE rEl rEh zVX zVY zVC zVN zVOX zVOY zVOW zVH zVW zVT zVM zVS zVSt zVHo zVE zVEl zVEh).2.2.2.2.2.2.2.2.2.1) ((zf_X8_addTest zSD zSc PX PY PC PN POX POY POW bH bW bT bM rS rSt rHo rE rEl rEh zVX zVY zVC zVN zVOX zVOY zVOW zVH zVW zVT zVM zVS zVSt zVHo zVE zVEl zVEh).2.2.2.2.2.2.2.2.2.2.1) ((zf_X8_addTest zSD zSc PX PY PC PN POX POY POW bH bW bT bM rS rSt rHo rE rEl rEh zVX zVY zVC zVN zVOX zVOY zVOW zVH zVW zVT zVM zVS zVSt zVHo zVE zVEl zVEh).2.2.2.2.2.2.2.2.2.2.2.1) ((zf_X8_addTest zSD zSc PX PY PC PN POX POY POW bH bW bT bM rS rSt rHo rE rEl rEh zVX zVY zVC zVN zVOX zVOY zVOW zVH zVW zVT zVM zVS zVSt zVHo zVE zVEl zVEh).2.2.2.2.2.2.2.2.2.2.2.2.1) ((zf_X8_addTest zSD zSc PX PY PC PN POX POY POW bH bW bT bM rS rSt rHo rE rEl rEh zVX zVY zVC zVN zVOX zVOY zVOW zVH zVW zVT zVM zVS zVSt zVHo zVE zVEl zVEh).2.2.2.2.2.2.2.2.2.2.2.2.2.1) ((zf_X8_addTest zSD zSc PX PY PC PN POX POY POW bH bW bT bM rS rSt rHo rE rEl rEh zVX zVY zVC zVN zVOX zVOY zVOW zVH zVW zVT zVM zVS zVSt zVHo zVE zVEl zVEh).2.2.2.2.2.2.2.2.2.2.2.2.2.2.1) ((zf_X8_addTest zSD zSc PX PY PC PN POX POY POW bH bW bT bM rS rSt rHo rE rEl rEh zVX zVY zVC zVN zVOX zVOY zVOW zVH zVW zVT zVM zVS zVSt zVHo zVE zVEl zVEh).2.2.2.2.2.2.2.2.2.2.2.2.2.2.2.1) ((zf_X8_addTest zSD zSc PX PY PC PN POX POY POW bH bW bT bM rS rSt rHo rE rEl rEh zVX zVY zVC zVN zVOX zVOY zVOW zVH zVW zVT zVM zVS zVSt zVHo zVE zVEl zVEh).2.2.2.2.2.2.2.2.2.2.2.2.2.2.2.2.1) ((zf_X8_addTest zSD zSc PX PY PC PN POX POY POW bH bW bT bM rS rSt rHo rE rEl rEh zVX zVY zVC zVN zVOX zVOY zVOW zVH zVW zVT zVM zVS zVSt zVHo zVE zVEl zVEh).2.2.2.2.2.2.2.2.2.2.2.2.2.2.2.2.2.1) ((zf_X8_addTest zSD zSc PX PY PC PN POX POY POW bH bW bT bM rS rSt rHo rE rEl rEh zVX zVY zVC zVN zVOX zVOY zVOW zVH zVW zVT zVM zVS zVSt zVHo zVE zVEl zVEh).2.2.2.2.2.2.2.2.2.2.2.2.2.2.2.2.2.2.1) ((zf_X8_addTest zSD zSc PX PY PC PN POX POY POW bH bW bT bM rS rSt rHo rE rEl rEh zVX zVY zVC zVN zVOX zVOY zVOW zVH zVW zVT zVM zVS zVSt zVHo zVE zVEl zVEh).2.2.2.2.2.2.2.2.2.2.2.2.2.2.2.2.2.2.2.1) ((zf_X8_addTest zSD zSc PX PY PC PN POX POY POW bH bW bT bM rS rSt rHo rE rEl rEh zVX zVY zVC zVN zVOX zVOY zVOW zVH zVW zVT zVM zVS zVSt zVHo zVE zVEl zVEh).2.2.2.2.2.2.2.2.2.2.2.2.2.2.2.2.2.2.2.2.1)) := by
  obtain ⟨⟨hP, hB, hR⟩, -, -, -⟩ := id h
  obtain ⟨⟨b1, b2, b3⟩, ⟨b4, b5⟩, b6, b7, b8, b9, b10, b11⟩ := id hB
  have ez := zcN b4 (by omega)
  rw [zf_X8_addTest_e, zf_X9_addTest_e]
  by_cases c1 : zf_X8_requireSpace (nI bT) (10 : Int32) = 0
  · have hlt : ¬ bT = 10 := (zqS (n := bT) (m := 10) b5 (by decide)).mp c1
    rw [if_pos c1, if_neg (by rw [ez]; exact hlt)]
    try dsimp only
    refine zOut_ok rfl (by rw [ez, zf_X1_appendTest_e]) (zRel_save h ⟨?_, ?_, ?_⟩)
    · exact hP.congr (fun q hq => by rw [zuL_ne (by omega), zat38 _ _ _ _ _ (by omega), if_neg (by omega)]) (fun _ _ => rfl) (fun _ _ => rfl) (fun _ _ => rfl) (fun _ _ => rfl) (fun _ _ => rfl) (fun _ _ => rfl)
    · rw [zf_X1_appendTest_e]
      dsimp only
      refine ⟨⟨by rw [zuL_ne (by omega), zat38 _ _ _ _ _ (by omega), if_neg (by omega)]; exact b1, b2, b3⟩, ⟨by rw [zuL_eq, zat38 _ _ _ _ _ (by omega), if_neg (by omega), b4, zlN1], by omega⟩, fun i hi => ?_, fun i hi h8 => ?_, b8, fun t ht j hj => ?_, fun t ht q hq => ?_, fun q h1 h2 => ?_⟩
      · rw [zuL_ne (by omega), zat38 _ _ _ _ _ (by omega), if_neg (by omega)]; exact b6 i hi
      · rw [zuL_ne (by omega), zat38 _ _ _ _ _ (by omega), if_neg (by omega)]; exact b7 i hi h8
      · rw [zuL_ne (by omega), zat38 _ _ _ _ _ (by omega), zrstC _ _ _ _ hj]
        by_cases e : t = bT
        · rw [if_pos e, if_pos (by omega), zptM]
        · rw [if_neg e, if_neg (by omega)]; exact b9 t (by omega) j hj
      · rw [zrstC _ _ _ _ (by omega), zrstC _ _ _ _ (by omega), zrstC _ _ _ _ (by omega)]
        by_cases e : t = bT
        · rw [if_pos e, if_pos e, if_pos e]
          have := zptS 0 q
          omega
        · rw [if_neg e, if_neg e, if_neg e]; exact b10 t (by omega) q hq
      · rw [zuL_ne (by omega), zat38 _ _ _ _ _ (by omega)]
        split
        · rw [Int32.toInt_toInt64]; exact zptI _
        · exact b11 q h1 h2
    · exact hR.congr (fun q h1 h2 => by rw [zuL_ne (by omega), zat38 _ _ _ _ _ (by omega), if_neg (by omega)]) (fun _ _ => rfl) (fun _ _ => rfl) (fun _ _ => rfl) (fun _ _ => rfl)
  · have hlt : bT = 10 := Decidable.not_not.mp (fun q => c1 ((zqS (n := bT) (m := 10) b5 (by decide)).mpr q))
    rw [if_neg c1, if_pos (by rw [ez]; exact hlt)]
    exact zOut_no (zk3 c1) (by decide) rfl h
theorem zqH {v : Nat → Int64} {k : Int32} {n : Nat} (h : v 34 = lN n) (hn : n < 2 ^ 30) : zf_X8_requireIndex k (nI n) = 0 ↔ zf_X9_isHypothesis v k = true := by rw [zf_X9_isHypothesis_e, zcN h (by omega)]; exact zqIW hn
theorem zqTt {v : Nat → Int64} {k : Int32} {n : Nat} (h : v 43 = lN n) (hn : n < 2 ^ 30) : zf_X8_requireIndex k (nI n) = 0 ↔ zf_X9_isTest v k = true := by rw [zf_X9_isTest_e, zcN h (by omega)]; exact zqIW hn
theorem zp_setChances {MNow MPast : Nat → Int64} {MSav : Nat} {PX : Nat → Int32} {PY : Nat → Int32} {PC : Nat → Int32} {PN : Nat} {POX : Nat → Int32} {POY : Nat → Int32} {POW : Nat → Int32} {bH : Nat} {bW : Nat → Int64} {bT : Nat} {bM : Nat → Nat → Int32} {rS : Nat} {rSt : Nat → Int32} {rHo : Nat → Int32} {rE : Nat} {rEl : Nat → Int32} {rEh : Nat → Int32} {zSc : Nat} {zVX : Nat → Nat → Int32} {zVY : Nat → Nat → Int32} {zVC : Nat → Nat → Int32} {zVN : Nat → Nat} {zVOX : Nat → Nat → Int32} {zVOY : Nat → Nat → Int32} {zVOW : Nat → Nat → Int32} {zVH : Nat → Nat} {zVW : Nat → Nat → Int64} {zVT : Nat → Nat} {zVM : Nat → Nat → Nat → Int32} {zVS : Nat → Nat} {zVSt : Nat → Nat → Int32} {zVHo : Nat → Nat → Int32} {zVE : Nat → Nat} {zVEl : Nat → Nat → Int32} {zVEh : Nat → Nat → Int32} (h : zRel MNow MPast MSav PX PY PC PN POX POY POW bH bW bT bM rS rSt rHo rE rEl rEh zSc zVX zVY zVC zVN zVOX zVOY zVOW zVH zVW zVT zVM zVS zVSt zVHo zVE zVEl zVEh) (zSD : Nat → Nat → Nat) (t : Int32) (k : Int32) (x : Int32) (y : Int32) : zOut ((zf_X8_setChances zSD zSc PX PY PC PN POX POY POW bH bW bT bM rS rSt rHo rE rEl rEh zVX zVY zVC zVN zVOX zVOY zVOW zVH zVW zVT zVM zVS zVSt zVHo zVE zVEl zVEh t k x y).1) [1, 2] ((zf_X9_setChances MNow MPast MSav t k x y).2.1) ((((zf_X8_setChances zSD zSc PX PY PC PN POX POY POW bH bW bT bM rS rSt rHo rE rEl rEh zVX zVY zVC zVN zVOX zVOY zVOW zVH zVW zVT zVM zVS zVSt zVHo zVE zVEl zVEh t k x y).2.1)).toInt64) ((((zf_X9_setChances MNow MPast MSav t k x y).1)).toInt64) (zRel ((zf_X9_setChances MNow MPast MSav t k x y).2.2.1) ((zf_X9_setChances MNow MPast MSav t k x y).2.2.2.1) ((zf_X9_setChances MNow MPast MSav t k x y).2.2.2.2) PX PY PC PN POX POY POW bH bW bT ((zf_X8_setChances zSD zSc PX PY PC PN POX POY POW bH bW bT bM rS rSt rHo rE rEl rEh zVX zVY zVC zVN zVOX zVOY zVOW zVH zVW zVT zVM zVS zVSt zVHo zVE zVEl zVEh t k x y).2.2.2.2.2.2.2.2.2.2.2.2.2.2.2.2.2.2.2.2.2) rS rSt rHo rE rEl rEh ((zf_X8_setChances zSD zSc PX PY PC PN POX POY POW bH bW bT bM rS rSt rHo rE rEl rEh zVX zVY zVC zVN zVOX zVOY zVOW zVH zVW zVT zVM zVS zVSt zVHo zVE zVEl zVEh t k x y).2.2.2.1) ((zf_X8_setChances zSD zSc PX PY PC PN POX POY POW bH bW bT bM rS rSt rHo rE rEl rEh zVX zVY zVC zVN zVOX zVOY zVOW zVH zVW zVT zVM zVS zVSt zVHo zVE zVEl zVEh t k x y).2.2.2.2.1) ((zf_X8_setChances zSD zSc PX PY PC PN POX POY POW bH bW bT bM rS rSt rHo rE rEl rEh zVX zVY zVC zVN zVOX zVOY zVOW zVH zVW zVT zVM zVS zVSt zVHo zVE zVEl zVEh t k x y).2.2.2.2.2.1) ((zf_X8_setChances zSD zSc PX PY PC PN POX POY POW bH bW bT bM rS rSt rHo rE rEl rEh zVX zVY zVC zVN zVOX zVOY zVOW zVH zVW zVT zVM zVS zVSt zVHo zVE zVEl zVEh t k x y).2.2.2.2.2.2.1) ((zf_X8_setChances zSD zSc PX PY PC PN POX POY POW bH bW bT bM rS rSt rHo rE rEl rEh zVX zVY zVC zVN zVOX zVOY zVOW zVH zVW zVT zVM zVS zVSt zVHo zVE zVEl zVEh t k x y).2.2.2.2.2.2.2.1) ((zf_X8_setChances zSD zSc PX PY PC PN POX POY POW bH bW bT bM rS rSt rHo rE rEl rEh zVX zVY zVC zVN zVOX zVOY zVOW zVH zVW zVT zVM zVS zVSt zVHo zVE zVEl zVEh t k x y).2.2.2.2.2.2.2.2.1) ((zf_X8_setChances zSD zSc PX PY PC PN POX POY POW bH bW bT bM rS rSt rHo rE rEl rEh zVX zVY zVC zVN zVOX zVOY zVOW zVH zVW zVT zVM zVS zVSt zVHo zVE zVEl zVEh t k x y).2.2.2.2.2.2.2.2.2.1) ((zf_X8_setChances zSD zSc PX PY PC PN POX POY POW bH bW bT bM rS rSt rHo rE rEl rEh zVX zVY zVC zVN zVOX zVOY zVOW zVH zVW zVT zVM zVS zVSt zVHo zVE zVEl zVEh t k x y).2.2.2.2.2.2.2.2.2.2.1) ((zf_X8_setChances zSD zSc PX PY PC PN POX POY POW bH bW bT bM rS rSt rHo rE rEl rEh zVX zVY zVC zVN zVOX zVOY zVOW zVH zVW zVT zVM zVS zVSt zVHo zVE zVEl zVEh t k x y).2.2.2.2.2.2.2.2.2.2.2.1) ((zf_X8_setChances zSD zSc PX PY PC PN POX POY POW bH bW bT bM rS rSt rHo rE rEl rEh zVX zVY zVC zVN zVOX zVOY zVOW zVH zVW zVT zVM zVS zVSt zVHo zVE zVEl zVEh t k x y).2.2.2.2.2.2.2.2.2.2.2.2.1) ((zf_X8_setChances zSD zSc PX PY PC PN POX POY POW bH bW bT bM rS rSt rHo rE rEl rEh zVX zVY zVC zVN zVOX zVOY zVOW zVH zVW zVT zVM zVS zVSt zVHo zVE zVEl zVEh t k x y).2.2.2.2.2.2.2.2.2.2.2.2.2.1) ((zf_X8_setChances zSD zSc PX PY PC PN POX POY POW bH bW bT bM rS rSt rHo rE rEl rEh zVX zVY zVC zVN zVOX zVOY zVOW zVH zVW zVT zVM zVS zVSt zVHo zVE zVEl zVEh t k x y).2.2.2.2.2.2.2.2.2.2.2.2.2.2.1) ((zf_X8_setChances zSD zSc PX PY PC PN POX POY POW bH bW bT bM rS rSt rHo rE rEl rEh zVX zVY zVC zVN zVOX zVOY zVOW zVH zVW zVT zVM zVS zVSt zVHo zVE zVEl zVEh t k x y).2.2.2.2.2.2.2.2.2.2.2.2.2.2.2.1) ((zf_X8_setChances zSD zSc PX PY PC PN POX POY POW bH bW bT bM rS rSt rHo rE rEl rEh zVX zVY zVC zVN zVOX zVOY zVOW zVH zVW zVT zVM zVS zVSt zVHo zVE zVEl zVEh t k x y).2.2.2.2.2.2.2.2.2.2.2.2.2.2.2.2.1) ((zf_X8_setChances zSD zSc PX PY PC PN POX POY POW bH bW bT bM rS rSt rHo rE rEl rEh zVX zVY zVC zVN zVOX zVOY zVOW zVH zVW zVT zVM zVS zVSt zVHo zVE zVEl zVEh t k x y).2.2.2.2.2.2.2.2.2.2.2.2.2.2.2.2.2.1) ((zf_X8_setChances zSD zSc PX PY PC PN POX POY POW bH bW bT bM rS rSt rHo rE rEl rEh zVX zVY zVC zVN zVOX zVOY zVOW zVH zVW zVT zVM zVS zVSt zVHo zVE zVEl zVEh t k x y).2.2.2.2.2.2.2.2.2.2.2.2.2.2.2.2.2.2.1) ((zf_X8_setChances zSD zSc PX PY PC PN POX POY POW bH bW bT bM rS rSt rHo rE rEl rEh zVX zVY zVC zVN zVOX zVOY zVOW zVH zVW zVT zVM zVS zVSt zVHo zVE zVEl zVEh t k x y).2.2.2.2.2.2.2.2.2.2.2.2.2.2.2.2.2.2.2.1) ((zf_X8_setChances zSD zSc PX PY PC PN POX POY POW bH bW bT bM rS rSt rHo rE rEl rEh zVX zVY zVC zVN zVOX zVOY zVOW zVH zVW zVT zVM zVS zVSt zVHo zVE zVEl zVEh t k x y).2.2.2.2.2.2.2.2.2.2.2.2.2.2.2.2.2.2.2.2.1)) := by
  obtain ⟨⟨hP, hB, hR⟩, -, -, -⟩ := id h
  obtain ⟨⟨b1, b2, b3⟩, ⟨b4, b5⟩, b6, b7, b8, b9, b10, b11⟩ := id hB
  rw [zf_X8_setChances_e, zf_X9_setChances_e]
  have a0 : (0 : Int32).toInt = 0 := by decide
  have a10 : (10 : Int32).toInt = 10 := by decide
  by_cases c1 : zf_X8_requireIndex t (nI bT) = 0
  · rw [if_pos c1, if_pos ((zqTt b4 (by omega)).mp c1)]
    by_cases c2 : zf_X8_requireIndex k (nI bH) = 0
    · rw [if_pos c2, if_pos ((zqH b1 (by omega)).mp c2)]
      have e3 : zf_X8_requireRange x (0 : Int32) (10 : Int32) = 0 ↔ zf_X9_within x.toInt64 (0 : Int64) (10 : Int64) = true := zqRW (by decide) (by decide)
      by_cases c3 : zf_X8_requireRange x (0 : Int32) (10 : Int32) = 0
      · rw [if_pos c3, if_pos (e3.mp c3)]
        have e4 : zf_X8_requireRange y (0 : Int32) ((10 : Int32) - x) = 0 ↔ zf_X9_within y.toInt64 (0 : Int64) (((10 : Int32) - x).toInt64) = true := zqRW (by decide) (Int32.toInt_toInt64 _)
        by_cases c4 : zf_X8_requireRange y (0 : Int32) ((10 : Int32) - x) = 0
        · rw [if_pos c4, if_pos (e4.mp c4)]
          obtain ⟨-, ht⟩ := zri c1 (by omega)
          obtain ⟨-, hk⟩ := zri c2 (by omega)
          have hx := zqR.mp c3
          have hy := zqR.mp c4
          have d1 : ((10 : Int32) - x).toInt = 10 - x.toInt := by
            rw [Int32.toInt_sub, Int.bmod_def, a10]
            omega
          have d2 : ((10 : Int32) - x - y).toInt = 10 - x.toInt - y.toInt := by
            rw [Int32.toInt_sub, Int.bmod_def, d1]
            omega
          try dsimp only
          refine zOut_ok rfl (by rw [zchg1]) (zRel_save h ⟨?_, ?_, ?_⟩)
          · exact hP.congr (fun q hq => by rw [zlcM, if_neg (by omega), if_neg (by omega), if_neg (by omega)]) (fun _ _ => rfl) (fun _ _ => rfl) (fun _ _ => rfl) (fun _ _ => rfl) (fun _ _ => rfl) (fun _ _ => rfl)
          · refine ⟨⟨by rw [zlcM, if_neg (by omega), if_neg (by omega), if_neg (by omega)]; exact b1, b2, b3⟩, ⟨by rw [zlcM, if_neg (by omega), if_neg (by omega), if_neg (by omega)]; exact b4, b5⟩, fun i hi => ?_, fun i hi h8 => ?_, b8, fun t' ht' j hj => ?_, fun t' ht' q hq => ?_, fun q h1 h2 => ?_⟩
            · rw [zlcM, if_neg (by omega), if_neg (by omega), if_neg (by omega)]; exact b6 i hi
            · rw [zlcM, if_neg (by omega), if_neg (by omega), if_neg (by omega)]; exact b7 i hi h8
            · rw [zlcM, zchg]
              by_cases e : t' = zi t
              · rw [if_pos e]
                by_cases q2 : j = 3 * zi k + 2
                · rw [if_pos q2, if_pos (by omega)]
                · rw [if_neg q2, if_neg (by omega)]
                  by_cases q1 : j = 3 * zi k + 1
                  · rw [if_pos q1, if_pos (by omega)]
                  · rw [if_neg q1, if_neg (by omega)]
                    by_cases q0 : j = 3 * zi k
                    · rw [if_pos q0, if_pos (by omega)]
                    · rw [if_neg q0, if_neg (by omega), ← e]; exact b9 t' ht' j hj
              · rw [if_neg e, if_neg (by omega), if_neg (by omega), if_neg (by omega)]; exact b9 t' ht' j hj
            · rw [zchg, zchg, zchg]
              by_cases e : t' = zi t
              · rw [if_pos e, if_pos e, if_pos e]
                by_cases q0 : q = zi k
                · rw [if_neg (by omega), if_neg (by omega), if_pos (by omega), if_neg (by omega), if_pos (by omega), if_pos (by omega), d2]
                  omega
                · rw [if_neg (by omega), if_neg (by omega), if_neg (by omega), if_neg (by omega), if_neg (by omega), if_neg (by omega), if_neg (by omega), if_neg (by omega), if_neg (by omega), ← e]
                  exact b10 t' ht' q hq
              · rw [if_neg e, if_neg e, if_neg e]; exact b10 t' ht' q hq
            · rw [zlcM]
              split
              · rw [Int32.toInt_toInt64, d2]; omega
              · split
                · rw [Int32.toInt_toInt64]; omega
                · split
                  · rw [Int32.toInt_toInt64]; omega
                  · exact b11 q h1 h2
          · exact hR.congr (fun q h1 h2 => by rw [zlcM, if_neg (by omega), if_neg (by omega), if_neg (by omega)]) (fun _ _ => rfl) (fun _ _ => rfl) (fun _ _ => rfl) (fun _ _ => rfl)
        · rw [if_neg c4, if_neg (fun q => c4 (e4.mpr q))]
          exact zOut_no (zk2 c4) (by decide) rfl h
      · rw [if_neg c3, if_neg (fun q => c3 (e3.mpr q))]
        exact zOut_no (zk2 c3) (by decide) rfl h
    · rw [if_neg c2, if_neg (fun q => c2 ((zqH b1 (by omega)).mpr q))]
      exact zOut_no (zk1 c2) (by decide) rfl h
  · rw [if_neg c1, if_neg (fun q => c1 ((zqTt b4 (by omega)).mpr q))]
    exact zOut_no (zk1 c1) (by decide) rfl h
