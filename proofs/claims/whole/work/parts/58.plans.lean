/-! Plans on both sides: values by depth -/
def zmu (v w : Nat → Int64) (t o : Nat) : Nat → Int64 := fun i => w i * v (44 + 3 * (8 * t + i) + o)
def zpsF (F : (Nat → Int64) → Int64) (v w : Nat → Int64) (t : Nat) : Nat → Nat → Int64 → Int64
  | 0, _, y => y
  | n + 1, j, y => zpsF F v w t n (j + 1) (y + F (zmu v w t j))
def zPV (v : Nat → Int64) (T : Nat) : Nat → (Nat → Int64) → Int64
  | 0, w => zmx w 8 0 0
  | d + 1, w => zmx (fun t => zpsF (zPV v T d) v w t 3 0 0) T 0 0
abbrev zps (v : Nat → Int64) (T d : Nat) (w : Nat → Int64) (t : Nat) : Nat → Nat → Int64 → Int64 := zpsF (zPV v T d) v w t
def zPS (v : Nat → Int64) (T d : Nat) (w : Nat → Int64) : Nat → Int64 := fun t => zpsF (zPV v T d) v w t 3 0 0
def zfts (r : Nat → Int64) : Nat → Nat → Int64 → Int32 → Int32
  | 0, _, _, f => f
  | n + 1, j, x, f => if r j ≤ x then zfts r n (j + 1) x f else zfts r n (j + 1) (r j) (nI j)
theorem zfts_s (r : Nat → Int64) (n j : Nat) (x : Int64) (f : Int32) : zfts r (n + 1) j x f = zfts r n (j + 1) (zmaxL x (r j)) (if r j ≤ x then f else nI j) := by
  show (if r j ≤ x then zfts r n (j + 1) x f else zfts r n (j + 1) (r j) (nI j)) = _
  by_cases c : r j ≤ x
  · rw [if_pos c, if_pos c, zmax_le (by rw [zle64] at c; exact c)]
  · rw [if_neg c, if_neg c]
    unfold zmaxL
    rw [if_neg (by rw [zlt64]; rw [zle64] at c; omega)]
theorem zSm3 {f0 f1 f2 f : Nat → Int} : ∀ n j, (∀ i, j ≤ i → i < j + n → f0 i + f1 i + f2 i = 10 * f i) → zSm f0 n j + zSm f1 n j + zSm f2 n j = 10 * zSm f n j := by
  intro n
  induction n with
  | zero => intro j _; rfl
  | succ n ih =>
    intro j h
    have h1 := h j (by omega) (by omega)
    have h2 := ih (j + 1) (fun i a b => h i (by omega) (by omega))
    show f0 j + zSm f0 n (j + 1) + (f1 j + zSm f1 n (j + 1)) + (f2 j + zSm f2 n (j + 1)) = 10 * (f j + zSm f n (j + 1))
    omega
theorem zSm_cg {f g : Nat → Int} : ∀ n j, (∀ i, j ≤ i → i < j + n → f i = g i) → zSm f n j = zSm g n j := by
  intro n
  induction n with
  | zero => intro j _; rfl
  | succ n ih =>
    intro j h
    show f j + zSm f n (j + 1) = g j + zSm g n (j + 1)
    rw [h j (by omega) (by omega), ih (j + 1) (fun i a b => h i (by omega) (by omega))]
theorem zneg1 {r : Nat → Int64} {T : Nat} (hT : 1 ≤ T) (h : ∀ t, t < T → 0 ≤ (r t).toInt) : zmx r T 0 (-1) = zmx r T 0 0 := by
  obtain ⟨n, rfl⟩ : ∃ n, T = n + 1 := ⟨T - 1, by omega⟩
  have h0 := h 0 (by omega)
  have e1 : (-1 : Int64).toInt = -1 := by decide
  show zmx r n 1 (zmaxL (-1) (r 0)) = zmx r n 1 (zmaxL 0 (r 0))
  have a1 : zmaxL (-1) (r 0) = r 0 := by
    unfold zmaxL
    rw [if_neg (by rw [zlt64, e1]; omega)]
  have a2 : zmaxL 0 (r 0) = r 0 := by
    unfold zmaxL
    rw [if_neg (by rw [zlt64, z0I]; omega)]
  rw [a1, a2]
/-- a row of weights that a plan of depth d can bear -/
def zOK (v : Nat → Int64) (bH d : Nat) (w : Nat → Int64) : Prop := (∀ i, i < 8 → 0 ≤ (w i).toInt) ∧ (∀ i, bH ≤ i → i < 8 → w i = 0) ∧ (10 : Int) ^ d * zSm (fun i => (w i).toInt) 8 0 ≤ 8000000000000000000
section ZPN
variable {v : Nat → Int64} {bH : Nat} {bW : Nat → Int64} {bT : Nat} {bM : Nat → Nat → Int32}
theorem zp10 (d : Nat) : (1 : Int) ≤ (10 : Int) ^ d := by
  induction d with
  | zero => decide
  | succ d ih => rw [Int.pow_succ]; omega
theorem zmuI (h : zRB v bH bW bT bM) {t o i : Nat} (ht : t < 10) (ho : o < 3) (hi : i < 8) {w : Nat → Int64} (h0 : 0 ≤ (w i).toInt) (h1 : (w i).toInt ≤ 800000000000000000) : (zmu v w t o i).toInt = (w i).toInt * (v (44 + 3 * (8 * t + i) + o)).toInt ∧ 0 ≤ (zmu v w t o i).toInt := by
  have hc := h.2.2.2.2.2.2.2 (44 + 3 * (8 * t + i) + o) (by omega) (by omega)
  have hb := zmulb (a := (w i).toInt) (b := (v (44 + 3 * (8 * t + i) + o)).toInt) (A := 800000000000000000) (B := 10) (by omega) (by omega)
  have hp := Int.mul_nonneg h0 hc.1
  unfold zmu
  rw [zmul64 (by omega) (by omega)]
  exact ⟨rfl, hp⟩
theorem zOK_le {d : Nat} {w : Nat → Int64} (hw : zOK v bH (d + 1) w) : ∀ i, i < 8 → (w i).toInt ≤ 800000000000000000 := fun i hi => by
  obtain ⟨w1, w2, w3⟩ := hw
  have hs := zSm_ge 8 0 (f := fun i => (w i).toInt) (fun i _ hi => w1 i (by omega)) i (by omega) (by omega)
  have h0 := zSm_nn 8 0 (f := fun i => (w i).toInt) (fun i _ hi => w1 i (by omega))
  have hp := zp10 d
  rw [Int.pow_succ] at w3
  have h1 : 10 * zSm (fun i => (w i).toInt) 8 0 ≤ (10 : Int) ^ d * 10 * zSm (fun i => (w i).toInt) 8 0 := Int.mul_le_mul_of_nonneg_right (by omega) h0
  omega
/-- the three outcomes share ten times the weights -/
theorem zmuS (h : zRB v bH bW bT bM) {t d : Nat} (ht : t < bT) {w : Nat → Int64} (hw : zOK v bH (d + 1) w) : zSm (fun i => (zmu v w t 0 i).toInt) 8 0 + zSm (fun i => (zmu v w t 1 i).toInt) 8 0 + zSm (fun i => (zmu v w t 2 i).toInt) 8 0 = 10 * zSm (fun i => (w i).toInt) 8 0 := by
  have hT := h.2.1.2
  refine zSm3 8 0 (fun i _ hi => ?_)
  have hle := zOK_le hw i (by omega)
  have h0 := hw.1 i (by omega)
  have e0 := (zmuI h (t := t) (o := 0) (i := i) (by omega) (by omega) (by omega) h0 hle).1
  have e1 := (zmuI h (t := t) (o := 1) (i := i) (by omega) (by omega) (by omega) h0 hle).1
  have e2 := (zmuI h (t := t) (o := 2) (i := i) (by omega) (by omega) (by omega) h0 hle).1
  obtain ⟨-, -, -, -, -, b9, b10, -⟩ := h
  have c0 := b9 t ht (3 * i) (by omega)
  have c1 := b9 t ht (3 * i + 1) (by omega)
  have c2 := b9 t ht (3 * i + 2) (by omega)
  obtain ⟨-, -, -, hs⟩ := b10 t ht i (by omega)
  rw [show 44 + 24 * t + 3 * i = 44 + 3 * (8 * t + i) + 0 by omega] at c0
  rw [show 44 + 24 * t + (3 * i + 1) = 44 + 3 * (8 * t + i) + 1 by omega] at c1
  rw [show 44 + 24 * t + (3 * i + 2) = 44 + 3 * (8 * t + i) + 2 by omega] at c2
  rw [c0, Int32.toInt_toInt64] at e0
  rw [c1, Int32.toInt_toInt64] at e1
  rw [c2, Int32.toInt_toInt64] at e2
  show (zmu v w t 0 i).toInt + (zmu v w t 1 i).toInt + (zmu v w t 2 i).toInt = 10 * (w i).toInt
  rw [e0, e1, e2, ← Int.mul_add, ← Int.mul_add, hs, Int.mul_comm]
theorem zOK_mu (h : zRB v bH bW bT bM) {t o d : Nat} (ht : t < bT) (ho : o < 3) {w : Nat → Int64} (hw : zOK v bH (d + 1) w) : zOK v bH d (zmu v w t o) := by
  have hT := h.2.1.2
  have hS := zmuS h ht hw
  have hle := zOK_le hw
  obtain ⟨w1, w2, w3⟩ := hw
  have hn : ∀ o, o < 3 → ∀ i, i < 8 → 0 ≤ (zmu v w t o i).toInt := fun o ho i hi => (zmuI h (by omega) ho hi (w1 i hi) (hle i hi)).2
  refine ⟨hn o ho, fun i a b => ?_, ?_⟩
  · unfold zmu
    rw [w2 i a b, Int64.zero_mul]
  · have n0 := zSm_nn 8 0 (f := fun i => (zmu v w t 0 i).toInt) (fun i _ hi => hn 0 (by omega) i (by omega))
    have n1 := zSm_nn 8 0 (f := fun i => (zmu v w t 1 i).toInt) (fun i _ hi => hn 1 (by omega) i (by omega))
    have n2 := zSm_nn 8 0 (f := fun i => (zmu v w t 2 i).toInt) (fun i _ hi => hn 2 (by omega) i (by omega))
    have hp := zp10 d
    rw [Int.pow_succ, Int.mul_assoc] at w3
    have hb : zSm (fun i => (zmu v w t o i).toInt) 8 0 ≤ 10 * zSm (fun i => (w i).toInt) 8 0 := by
      rcases (show o = 0 ∨ o = 1 ∨ o = 2 by omega) with rfl | rfl | rfl <;> omega
    have := Int.mul_le_mul_of_nonneg_left hb (show (0 : Int) ≤ (10 : Int) ^ d by omega)
    omega
theorem zPSb_of (h : zRB v bH bW bT bM) {t d : Nat} (ht : t < bT) {w : Nat → Int64} (hw : zOK v bH (d + 1) w) (hb : ∀ w, zOK v bH d w → 0 ≤ (zPV v bT d w).toInt ∧ (zPV v bT d w).toInt ≤ (10 : Int) ^ d * zSm (fun i => (w i).toInt) 8 0) : 0 ≤ (zPS v bT d w t).toInt ∧ (zPS v bT d w t).toInt ≤ (10 : Int) ^ (d + 1) * zSm (fun i => (w i).toInt) 8 0 := by
  have hS := zmuS h ht hw
  have q0 := hb _ (zOK_mu h ht (by omega : 0 < 3) hw)
  have q1 := hb _ (zOK_mu h ht (by omega : 1 < 3) hw)
  have q2 := hb _ (zOK_mu h ht (by omega : 2 < 3) hw)
  have w3 := hw.2.2
  have e : (10 : Int) ^ d * zSm (fun i => (zmu v w t 0 i).toInt) 8 0 + (10 : Int) ^ d * zSm (fun i => (zmu v w t 1 i).toInt) 8 0 + (10 : Int) ^ d * zSm (fun i => (zmu v w t 2 i).toInt) 8 0 = (10 : Int) ^ (d + 1) * zSm (fun i => (w i).toInt) 8 0 := by
    rw [← Int.mul_add, ← Int.mul_add, hS, Int.pow_succ, Int.mul_assoc]
  show 0 ≤ (((0 + zPV v bT d (zmu v w t 0)) + zPV v bT d (zmu v w t 1)) + zPV v bT d (zmu v w t 2)).toInt ∧ (((0 + zPV v bT d (zmu v w t 0)) + zPV v bT d (zmu v w t 1)) + zPV v bT d (zmu v w t 2)).toInt ≤ _
  rw [Int64.zero_add]
  have a1 := zadd64 (a := zPV v bT d (zmu v w t 0)) (b := zPV v bT d (zmu v w t 1)) (by omega) (by omega)
  have a2 := zadd64 (a := zPV v bT d (zmu v w t 0) + zPV v bT d (zmu v w t 1)) (b := zPV v bT d (zmu v w t 2)) (by omega) (by omega)
  omega
theorem zPVb (h : zRB v bH bW bT bM) : ∀ d w, zOK v bH d w → 0 ≤ (zPV v bT d w).toInt ∧ (zPV v bT d w).toInt ≤ (10 : Int) ^ d * zSm (fun i => (w i).toInt) 8 0 := by
  intro d
  induction d with
  | zero =>
    intro w hw
    obtain ⟨w1, w2, w3⟩ := hw
    obtain ⟨m1, m2, m3⟩ := zmx_ge w 8 0 0
    have h0 := zSm_nn 8 0 (f := fun i => (w i).toInt) (fun i _ hi => w1 i (by omega))
    rw [z0I] at m1
    refine ⟨m1, ?_⟩
    show (zmx w 8 0 0).toInt ≤ (10 : Int) ^ 0 * zSm (fun i => (w i).toInt) 8 0
    rw [Int.pow_zero, Int.one_mul]
    rcases m3 with m3 | ⟨i, a, b, c⟩
    · rw [m3, z0I]; exact h0
    · rw [c]; exact zSm_ge 8 0 (f := fun i => (w i).toInt) (fun i _ hi => w1 i (by omega)) i a b
  | succ d ih =>
    intro w hw
    obtain ⟨m1, m2, m3⟩ := zmx_ge (zPS v bT d w) bT 0 0
    rw [z0I] at m1
    refine ⟨m1, ?_⟩
    show (zmx (zPS v bT d w) bT 0 0).toInt ≤ _
    have h0 := zSm_nn 8 0 (f := fun i => (w i).toInt) (fun i _ hi => hw.1 i (by omega))
    rcases m3 with m3 | ⟨i, a, b, c⟩
    · rw [m3, z0I]
      exact Int.mul_nonneg (by have := zp10 (d + 1); omega) h0
    · rw [c]; exact (zPSb_of h (by omega) hw ih).2
theorem zPSb (h : zRB v bH bW bT bM) {t d : Nat} (ht : t < bT) {w : Nat → Int64} (hw : zOK v bH (d + 1) w) : 0 ≤ (zPS v bT d w t).toInt ∧ (zPS v bT d w t).toInt ≤ (10 : Int) ^ (d + 1) * zSm (fun i => (w i).toInt) 8 0 := zPSb_of h ht hw (zPVb h d)
theorem zOK_w (h : zRB v bH bW bT bM) {d : Nat} (hd : d ≤ 3) : zOK v bH d (fun i => v (35 + i)) := by
  have hn : ∀ i, i < 8 → 0 ≤ (v (35 + i)).toInt ∧ (v (35 + i)).toInt ≤ 1000000000000000 := fun i hi => by
    by_cases q : i < bH
    · rw [(h.2.2.1 i q).1]; exact (h.2.2.1 i q).2
    · rw [h.2.2.2.1 i (by omega) hi, z0I]; omega
  refine ⟨fun i hi => (hn i hi).1, fun i a b => h.2.2.2.1 i a b, ?_⟩
  have h1 := zSm_le (B := 1000000000000000) 8 0 (f := fun i => (v (35 + i)).toInt) (fun i _ hi => (hn i (by omega)).2)
  have h0 := zSm_nn 8 0 (f := fun i => (v (35 + i)).toInt) (fun i _ hi => (hn i (by omega)).1)
  show (10 : Int) ^ d * zSm (fun i => (v (35 + i)).toInt) 8 0 ≤ 8000000000000000000
  have e0 : (10 : Int) ^ 0 = 1 := by decide
  have e1 : (10 : Int) ^ 1 = 10 := by decide
  have e2 : (10 : Int) ^ 2 = 100 := by decide
  have e3 : (10 : Int) ^ 3 = 1000 := by decide
  rcases (show d = 0 ∨ d = 1 ∨ d = 2 ∨ d = 3 by omega) with rfl | rfl | rfl | rfl
  · rw [e0]; omega
  · rw [e1]; omega
  · rw [e2]; omega
  · rw [e3]; omega
/-! the class -/
theorem zml (M : Nat → Nat → Int32) (f : Nat → Int64) (t k : Nat) : ∀ n j o i, zl_X1_multiply_11 M f t k n j o i = if j ≤ i ∧ i < j + n then f i * (M t (i * 3 + k)).toInt64 else o i := by
  intro n
  induction n with
  | zero => intro j o i; rw [if_neg (by omega)]; rfl
  | succ n ih =>
    intro j o i
    rw [zl_X1_multiply_11_s, ih]
    by_cases h : j + 1 ≤ i ∧ i < j + 1 + n
    · rw [if_pos h, if_pos (by omega)]
    · rw [if_neg h]
      by_cases h2 : i = j
      · subst h2; rw [zuL_eq, if_pos (by omega)]
      · rw [zuL_ne h2, if_neg (by omega)]
theorem zmuC (h : zRB v bH bW bT bM) {t k : Nat} (ht : t < bT) (hk : k < 3) {f w : Nat → Int64} (hf : ∀ i, i < bH → f i = w i) (o : Nat → Int64) : ∀ i, i < bH → zf_X1_multiply bH bM f t k o i = zmu v w t k i := fun i hi => by
  have h8 := h.1.2.2
  have e := h.2.2.2.2.2.1 t ht (i * 3 + k) (by omega)
  rw [zf_X1_multiply_e, zml, if_pos (by omega), hf i hi, ← e]
  unfold zmu
  congr 2
  omega
theorem zmu0 {w : Nat → Int64} {t o : Nat} (hw : ∀ i, bH ≤ i → i < 8 → w i = 0) : ∀ i, bH ≤ i → i < 8 → zmu v w t o i = 0 := fun i a b => by
  unfold zmu
  rw [hw i a b, Int64.zero_mul]
theorem zPVc0 (h : zRB v bH bW bT bM) {f w : Nat → Int64} (hf : ∀ i, i < bH → f i = w i) (hw : ∀ i, bH ≤ i → i < 8 → w i = 0) : zf_X3_greatestValue_0 bH f = zPV v bT 0 w := by
  have h8 := h.1.2.2
  rw [zf_X3_greatestValue_0_e, zf_X1_greatest_e, zgr5]
  show zmx f bH 0 0 = zmx w 8 0 0
  rw [show (8 : Nat) = bH + (8 - bH) by omega, zmx_app, zmx_cg bH 0 0 (fun i a b => hf i (by omega))]
  refine (zmx_0 _ _ _ ?_ (fun i a b => hw i (by omega) (by omega))).symm
  have := (zmx_ge w bH 0 0).1
  rw [z0I] at this
  exact this
theorem zbeg (h : zRB v bH bW bT bM) {f g9 : Nat → Int64} (e : g9 = va_cpy bW f 0 0 8) : ∀ i, i < bH → g9 i = (fun i => v (35 + i)) i := fun i hi => by
  have h8 := h.1.2.2
  subst e
  rw [zcpy (by omega)]
  exact (h.2.2.1 i hi).1.symm
theorem zPVv1 (h : zRB v bH bW bT bM) {f w : Nat → Int64} {t : Nat} (ht : t < bT) (hf : ∀ i, i < bH → f i = w i) (hw : ∀ i, bH ≤ i → i < 8 → w i = 0) : ∀ n j x (g0 : Nat → Int64), j + n = 3 → (zl_X3_valueOfTest_1_17 bH bM f t n j x g0).1 = zps v bT 0 w t n j x := by
  have hn8 := h.1.2.2
  intro n
  induction n with
  | zero => intro j x g0 _; rfl
  | succ n ih =>
    intro j x g0 hj
    have hm := zmuC h ht (show j < 3 by omega) hf
    rw [zl_X3_valueOfTest_1_17_s, zPVc0 h (fun i hi => hm g0 i hi) (zmu0 hw), ih _ _ _ (by omega)]
    rfl
theorem zPVt1 (h : zRB v bH bW bT bM) {f w : Nat → Int64} {t : Nat} (ht : t < bT) (hf : ∀ i, i < bH → f i = w i) (hw : ∀ i, bH ≤ i → i < 8 → w i = 0) (f0 : Nat → Int64) : (zf_X3_valueOfTest_1 bH bM f0 f t).1 = zPS v bT 0 w t := by
  rw [zf_X3_valueOfTest_1_e]
  exact zPVv1 h ht hf hw 3 0 0 f0 (by omega)
theorem zPVg1 (h : zRB v bH bW bT bM) {f w : Nat → Int64} (hf : ∀ i, i < bH → f i = w i) (hw : ∀ i, bH ≤ i → i < 8 → w i = 0) : ∀ n j x (g0 : Nat → Int64), j + n = bT → (zl_X3_greatestValue_1_17 bH bM f n j x g0).1 = zmx (zPS v bT 0 w) n j x := by
  intro n
  induction n with
  | zero => intro j x g0 _; rfl
  | succ n ih =>
    intro j x g0 hj
    rw [zl_X3_greatestValue_1_17_s, zPVt1 h (by omega) hf hw, ih _ _ _ (by omega)]
    rfl
theorem zPVc1 (h : zRB v bH bW bT bM) {f w : Nat → Int64} {f0 : Nat → Int64} (hf : ∀ i, i < bH → f i = w i) (hw : ∀ i, bH ≤ i → i < 8 → w i = 0) : (zf_X3_greatestValue_1 bH bT bM f0 f).1 = zPV v bT 1 w := by
  rw [zf_X3_greatestValue_1_e]
  exact zPVg1 h hf hw bT 0 0 f0 (by omega)
theorem zPFl1 (h : zRB v bH bW bT bM) (f : Nat → Int64) : ∀ n j x y (g0 : Nat → Int64), j + n = bT → (zl_X3_bestFirstTest_1_16 bH bW bM f n j x y g0).2.1 = zfts (zPS v bT 0 (fun i => v (35 + i))) n j x y := by
  intro n
  induction n with
  | zero => intro j x y g0 _; rfl
  | succ n ih =>
    intro j x y g0 hj
    rw [zl_X3_bestFirstTest_1_16_s, zPVt1 h (by omega) (zbeg h (by rfl)) (fun i a b => h.2.2.2.1 i a b)]
    show _ = if zPS v bT 0 (fun i => v (35 + i)) j ≤ x then zfts (zPS v bT 0 (fun i => v (35 + i))) n (j + 1) x y else zfts (zPS v bT 0 (fun i => v (35 + i))) n (j + 1) (zPS v bT 0 (fun i => v (35 + i)) j) (nI j)
    by_cases c : zPS v bT 0 (fun i => v (35 + i)) j ≤ x
    · rw [if_pos c, if_pos c]; exact ih _ _ _ _ (by omega)
    · rw [if_neg c, if_neg c]; exact ih _ _ _ _ (by omega)
theorem zPVv2 (h : zRB v bH bW bT bM) {f w : Nat → Int64} {t : Nat} (ht : t < bT) (hf : ∀ i, i < bH → f i = w i) (hw : ∀ i, bH ≤ i → i < 8 → w i = 0) : ∀ n j x (g0 : Nat → Int64) (g1 : Nat → Int64), j + n = 3 → (zl_X3_valueOfTest_2_17 bH bT bM f t n j x g0 g1).1 = zps v bT 1 w t n j x := by
  have hn8 := h.1.2.2
  intro n
  induction n with
  | zero => intro j x g0 g1 _; rfl
  | succ n ih =>
    intro j x g0 g1 hj
    have hm := zmuC h ht (show j < 3 by omega) hf
    rw [zl_X3_valueOfTest_2_17_s, zPVc1 h (fun i hi => hm g1 i hi) (zmu0 hw), ih _ _ _ _ (by omega)]
    rfl
theorem zPVt2 (h : zRB v bH bW bT bM) {f w : Nat → Int64} {t : Nat} (ht : t < bT) (hf : ∀ i, i < bH → f i = w i) (hw : ∀ i, bH ≤ i → i < 8 → w i = 0) (f0 : Nat → Int64) (f1 : Nat → Int64) : (zf_X3_valueOfTest_2 bH bT bM f0 f1 f t).1 = zPS v bT 1 w t := by
  rw [zf_X3_valueOfTest_2_e]
  exact zPVv2 h ht hf hw 3 0 0 f0 f1 (by omega)
theorem zPVg2 (h : zRB v bH bW bT bM) {f w : Nat → Int64} (hf : ∀ i, i < bH → f i = w i) (hw : ∀ i, bH ≤ i → i < 8 → w i = 0) : ∀ n j x (g0 : Nat → Int64) (g1 : Nat → Int64), j + n = bT → (zl_X3_greatestValue_2_17 bH bT bM f n j x g0 g1).1 = zmx (zPS v bT 1 w) n j x := by
  intro n
  induction n with
  | zero => intro j x g0 g1 _; rfl
  | succ n ih =>
    intro j x g0 g1 hj
    rw [zl_X3_greatestValue_2_17_s, zPVt2 h (by omega) hf hw, ih _ _ _ _ (by omega)]
    rfl
theorem zPVc2 (h : zRB v bH bW bT bM) {f w : Nat → Int64} {f0 f1 : Nat → Int64} (hf : ∀ i, i < bH → f i = w i) (hw : ∀ i, bH ≤ i → i < 8 → w i = 0) : (zf_X3_greatestValue_2 bH bT bM f0 f1 f).1 = zPV v bT 2 w := by
  rw [zf_X3_greatestValue_2_e]
  exact zPVg2 h hf hw bT 0 0 f0 f1 (by omega)
theorem zPFl2 (h : zRB v bH bW bT bM) (f : Nat → Int64) : ∀ n j x y (g0 : Nat → Int64) (g1 : Nat → Int64), j + n = bT → (zl_X3_bestFirstTest_2_16 bH bW bT bM f n j x y g0 g1).2.1 = zfts (zPS v bT 1 (fun i => v (35 + i))) n j x y := by
  intro n
  induction n with
  | zero => intro j x y g0 g1 _; rfl
  | succ n ih =>
    intro j x y g0 g1 hj
    rw [zl_X3_bestFirstTest_2_16_s, zPVt2 h (by omega) (zbeg h (by rfl)) (fun i a b => h.2.2.2.1 i a b)]
    show _ = if zPS v bT 1 (fun i => v (35 + i)) j ≤ x then zfts (zPS v bT 1 (fun i => v (35 + i))) n (j + 1) x y else zfts (zPS v bT 1 (fun i => v (35 + i))) n (j + 1) (zPS v bT 1 (fun i => v (35 + i)) j) (nI j)
    by_cases c : zPS v bT 1 (fun i => v (35 + i)) j ≤ x
    · rw [if_pos c, if_pos c]; exact ih _ _ _ _ _ (by omega)
    · rw [if_neg c, if_neg c]; exact ih _ _ _ _ _ (by omega)
theorem zPVv3 (h : zRB v bH bW bT bM) {f w : Nat → Int64} {t : Nat} (ht : t < bT) (hf : ∀ i, i < bH → f i = w i) (hw : ∀ i, bH ≤ i → i < 8 → w i = 0) : ∀ n j x (g0 : Nat → Int64) (g1 : Nat → Int64) (g2 : Nat → Int64), j + n = 3 → (zl_X3_valueOfTest_3_17 bH bT bM f t n j x g0 g1 g2).1 = zps v bT 2 w t n j x := by
  have hn8 := h.1.2.2
  intro n
  induction n with
  | zero => intro j x g0 g1 g2 _; rfl
  | succ n ih =>
    intro j x g0 g1 g2 hj
    have hm := zmuC h ht (show j < 3 by omega) hf
    rw [zl_X3_valueOfTest_3_17_s, zPVc2 h (fun i hi => hm g2 i hi) (zmu0 hw), ih _ _ _ _ _ (by omega)]
    rfl
theorem zPVt3 (h : zRB v bH bW bT bM) {f w : Nat → Int64} {t : Nat} (ht : t < bT) (hf : ∀ i, i < bH → f i = w i) (hw : ∀ i, bH ≤ i → i < 8 → w i = 0) (f0 : Nat → Int64) (f1 : Nat → Int64) (f2 : Nat → Int64) : (zf_X3_valueOfTest_3 bH bT bM f0 f1 f2 f t).1 = zPS v bT 2 w t := by
  rw [zf_X3_valueOfTest_3_e]
  exact zPVv3 h ht hf hw 3 0 0 f0 f1 f2 (by omega)
theorem zPVg3 (h : zRB v bH bW bT bM) {f w : Nat → Int64} (hf : ∀ i, i < bH → f i = w i) (hw : ∀ i, bH ≤ i → i < 8 → w i = 0) : ∀ n j x (g0 : Nat → Int64) (g1 : Nat → Int64) (g2 : Nat → Int64), j + n = bT → (zl_X3_greatestValue_3_17 bH bT bM f n j x g0 g1 g2).1 = zmx (zPS v bT 2 w) n j x := by
  intro n
  induction n with
  | zero => intro j x g0 g1 g2 _; rfl
  | succ n ih =>
    intro j x g0 g1 g2 hj
    rw [zl_X3_greatestValue_3_17_s, zPVt3 h (by omega) hf hw, ih _ _ _ _ _ (by omega)]
    rfl
theorem zPVc3 (h : zRB v bH bW bT bM) {f w : Nat → Int64} {f0 f1 f2 : Nat → Int64} (hf : ∀ i, i < bH → f i = w i) (hw : ∀ i, bH ≤ i → i < 8 → w i = 0) : (zf_X3_greatestValue_3 bH bT bM f0 f1 f2 f).1 = zPV v bT 3 w := by
  rw [zf_X3_greatestValue_3_e]
  exact zPVg3 h hf hw bT 0 0 f0 f1 f2 (by omega)
theorem zPFl3 (h : zRB v bH bW bT bM) (f : Nat → Int64) : ∀ n j x y (g0 : Nat → Int64) (g1 : Nat → Int64) (g2 : Nat → Int64), j + n = bT → (zl_X3_bestFirstTest_3_16 bH bW bT bM f n j x y g0 g1 g2).2.1 = zfts (zPS v bT 2 (fun i => v (35 + i))) n j x y := by
  intro n
  induction n with
  | zero => intro j x y g0 g1 g2 _; rfl
  | succ n ih =>
    intro j x y g0 g1 g2 hj
    rw [zl_X3_bestFirstTest_3_16_s, zPVt3 h (by omega) (zbeg h (by rfl)) (fun i a b => h.2.2.2.1 i a b)]
    show _ = if zPS v bT 2 (fun i => v (35 + i)) j ≤ x then zfts (zPS v bT 2 (fun i => v (35 + i))) n (j + 1) x y else zfts (zPS v bT 2 (fun i => v (35 + i))) n (j + 1) (zPS v bT 2 (fun i => v (35 + i)) j) (nI j)
    by_cases c : zPS v bT 2 (fun i => v (35 + i)) j ≤ x
    · rw [if_pos c, if_pos c]; exact ih _ _ _ _ _ _ (by omega)
    · rw [if_neg c, if_neg c]; exact ih _ _ _ _ _ _ (by omega)
/-! the reference -/
theorem zgo3 (v : Nat → Int64) (u t k : Nat) : ∀ n j V q, j + n ≤ 8 → zl_X9_goes_3 v u t k n j V q = if 8 * u + 8 + j ≤ q ∧ q < 8 * u + 8 + j + n then V (q - 8) * v (44 + 3 * (8 * t + (q - (8 * u + 8))) + k) else V q := by
  intro n
  induction n with
  | zero => intro j V q _; rw [if_neg (by omega)]; rfl
  | succ n ih =>
    intro j V q hj
    rw [zl_X9_goes_3_s, ih _ _ _ (by omega)]
    by_cases h : 8 * u + 8 + (j + 1) ≤ q ∧ q < 8 * u + 8 + (j + 1) + n
    · rw [if_pos h, if_pos (by omega), zuL_ne (by omega)]
    · rw [if_neg h]
      by_cases h2 : q = 8 * u + 8 + j
      · subst h2
        rw [zuL_eq, if_pos (by omega), Nat.add_sub_cancel_left, show 8 * u + 8 + j - 8 = 8 * u + j by omega]
      · rw [zuL_ne h2, if_neg (by omega)]
theorem zgoes {u t k : Nat} (V w : Nat → Int64) (hV : ∀ i, i < 8 → V (8 * u + i) = w i) : (∀ q, q < 8 * u + 8 → zf_X9_goes v V u t k q = V q) ∧ ∀ i, i < 8 → zf_X9_goes v V u t k (8 * (u + 1) + i) = zmu v w t k i := by
  constructor
  · intro q hq
    rw [zf_X9_goes_e, zgo3 _ _ _ _ _ _ _ _ (by omega), if_neg (by omega)]
  · intro i hi
    rw [zf_X9_goes_e, zgo3 _ _ _ _ _ _ _ _ (by omega), if_pos (by omega), show 8 * (u + 1) + i - 8 = 8 * u + i by omega, hV i hi, show 8 * (u + 1) + i - (8 * u + 8) = i by omega]
    rfl
theorem zgr9 (V : Nat → Int64) (u : Nat) (w : Nat → Int64) : ∀ n j x, j + n ≤ 8 → (∀ i, i < 8 → V (8 * u + i) = w i) → zl_X9_greatest_5 V u n j x = zmx w n j x := by
  intro n
  induction n with
  | zero => intro j x _ _; rfl
  | succ n ih =>
    intro j x hj hV
    rw [zl_X9_greatest_5_s, hV j (by omega), zmax_if x (w j) (fun z => zl_X9_greatest_5 V u n (j + 1) z), ih _ _ (by omega) hV]
    rfl
theorem zgrM {V : Nat → Int64} {u : Nat} {w : Nat → Int64} (hV : ∀ i, i < 8 → V (8 * u + i) = w i) : zf_X9_greatest V u = zPV v bT 0 w := by
  rw [zf_X9_greatest_e]
  exact zgr9 V u w 8 0 0 (by omega) hV
theorem zM1_24 {u t : Nat} (w : Nat → Int64) : ∀ n j y V, j + n = 3 → (∀ i, i < 8 → V (8 * u + i) = w i) → (zl_X9_lastOne_24 v u t n j y V).1 = zps v bT 0 w t n j y ∧ ∀ q, q < 8 * u + 8 → (zl_X9_lastOne_24 v u t n j y V).2 q = V q := by
  intro n
  induction n with
  | zero => intro j y V _ _; exact ⟨rfl, fun q _ => rfl⟩
  | succ n ih =>
    intro j y V hj hV
    obtain ⟨g1, g2⟩ := zgoes (v := v) (u := u) (t := t) (k := j) V w hV
    have hv := zgrM (v := v) (bT := bT) (V := zf_X9_goes v V u t j) (u := u + 1) (w := zmu v w t j) g2
    obtain ⟨i1, i2⟩ := ih (j + 1) (y + zf_X9_greatest (zf_X9_goes v V u t j) (u + 1)) (zf_X9_goes v V u t j) (by omega) (fun i hi => by rw [g1 _ (by omega)]; exact hV i hi)
    rw [zl_X9_lastOne_24_s]
    refine ⟨?_, fun q hq => by rw [i2 q hq, g1 q hq]⟩
    rw [i1, hv]
    rfl
theorem zM1_7 (h : zRB v bH bW bT bM) (hT : 1 ≤ bT) {u : Nat} {w : Nat → Int64} (hw : zOK v bH 1 w) : ∀ n j x V f, j + n = bT → (∀ i, i < 8 → V (8 * u + i) = w i) → (zl_X9_lastOne_7 v u n j x V f).1 = zmx (zPS v bT 0 w) n j x ∧ (∀ q, q < 8 * u + 8 → (zl_X9_lastOne_7 v u n j x V f).2.1 q = V q) ∧ (zl_X9_lastOne_7 v u n j x V f).2.2 = if u = 0 then zfts (zPS v bT 0 w) n j x f else f := by
  intro n
  induction n with
  | zero => intro j x V f _ _; exact ⟨rfl, fun q _ => rfl, by split <;> rfl⟩
  | succ n ih =>
    intro j x V f hj hV
    have hL := zM1_24 (v := v) (bT := bT) (t := j) w 3 0 0 V (by omega) hV
    have hs : (zl_X9_lastOne_24 v u j 3 0 (0 : Int64) V).1 = zPS v bT 0 w j := hL.1
    have hk : ∀ i, i < 8 → (zl_X9_lastOne_24 v u j 3 0 (0 : Int64) V).2 (8 * u + i) = w i := fun i hi => by rw [hL.2 _ (by omega)]; exact hV i hi
    have e : zl_X9_lastOne_7 v u (n + 1) j x V f = zl_X9_lastOne_7 v u n (j + 1) (zmaxL x (zPS v bT 0 w j)) (zl_X9_lastOne_24 v u j 3 0 (0 : Int64) V).2 (if u = 0 then (if zPS v bT 0 w j ≤ x then f else nI j) else f) := by
      rw [zl_X9_lastOne_7_s, hs]
      by_cases c : zPS v bT 0 w j ≤ x
      · have m1 : zmaxL x (zPS v bT 0 w j) = x := zmax_le (by rw [zle64] at c; exact c)
        rw [m1]
        by_cases c0 : u = 0
        · simp only [if_pos c0, if_pos c]
        · simp only [if_neg c0, if_pos c]
      · have m1 : zmaxL x (zPS v bT 0 w j) = zPS v bT 0 w j := by
          unfold zmaxL
          rw [if_neg (by rw [zlt64]; rw [zle64] at c; omega)]
        rw [m1]
        by_cases c0 : u = 0
        · simp only [if_pos c0, if_neg c]
        · simp only [if_neg c0, if_neg c]
    obtain ⟨i1, i2, i3⟩ := ih (j + 1) (zmaxL x (zPS v bT 0 w j)) (zl_X9_lastOne_24 v u j 3 0 (0 : Int64) V).2 (if u = 0 then (if zPS v bT 0 w j ≤ x then f else nI j) else f) (by omega) hk
    rw [e]
    refine ⟨i1, fun q hq => by rw [i2 q hq, hL.2 q hq], ?_⟩
    rw [i3]
    by_cases c0 : u = 0
    · rw [if_pos c0, if_pos c0, if_pos c0]
      exact (zfts_s (zPS v bT 0 w) n j x f).symm
    · rw [if_neg c0, if_neg c0, if_neg c0]
theorem zM1 (h : zRB v bH bW bT bM) (hT : 1 ≤ bT) {u : Nat} {w : Nat → Int64} (hw : zOK v bH 1 w) (V : Nat → Int64) (f : Int32) (hV : ∀ i, i < 8 → V (8 * u + i) = w i) : (zf_X9_lastOne v V f u).1 = zPV v bT 1 w ∧ (∀ q, q < 8 * u + 8 → (zf_X9_lastOne v V f u).2.1 q = V q) ∧ (zf_X9_lastOne v V f u).2.2 = if u = 0 then zfts (zPS v bT 0 w) bT 0 (-1) f else f := by
  have ez := zcN h.2.1.1 (by have := h.2.1.2; omega)
  obtain ⟨i1, i2, i3⟩ := zM1_7 h hT (u := u) hw bT 0 (-1) V f (by omega) hV
  rw [zf_X9_lastOne_e, ez]
  refine ⟨?_, i2, i3⟩
  show (zl_X9_lastOne_7 v u bT 0 (-1) V f).1 = zmx (zPS v bT 0 w) bT 0 0
  rw [i1]
  exact zneg1 hT (fun t ht => (zPSb h ht hw).1)
theorem zM2_24 (h : zRB v bH bW bT bM) (hT : 1 ≤ bT) {u t : Nat} (ht : t < bT) {w : Nat → Int64} (hw : zOK v bH 2 w) : ∀ n j y V f, j + n = 3 → (∀ i, i < 8 → V (8 * u + i) = w i) → (zl_X9_lastTwo_24 v u t n j y V f).1 = zps v bT 1 w t n j y ∧ (∀ q, q < 8 * u + 8 → (zl_X9_lastTwo_24 v u t n j y V f).2.1 q = V q) ∧ (zl_X9_lastTwo_24 v u t n j y V f).2.2 = f := by
  intro n
  induction n with
  | zero => intro j y V f _ _; exact ⟨rfl, fun q _ => rfl, rfl⟩
  | succ n ih =>
    intro j y V f hj hV
    obtain ⟨g1, g2⟩ := zgoes (v := v) (u := u) (t := t) (k := j) V w hV
    obtain ⟨l1, l2, l3⟩ := zM1 h hT (u := u + 1) (zOK_mu h ht (by omega : j < 3) hw) (zf_X9_goes v V u t j) f g2
    obtain ⟨i1, i2, i3⟩ := ih (j + 1) (y + (zf_X9_lastOne v (zf_X9_goes v V u t j) f (u + 1)).1) (zf_X9_lastOne v (zf_X9_goes v V u t j) f (u + 1)).2.1 (zf_X9_lastOne v (zf_X9_goes v V u t j) f (u + 1)).2.2 (by omega) (fun i hi => by rw [l2 _ (by omega), g1 _ (by omega)]; exact hV i hi)
    rw [zl_X9_lastTwo_24_s]
    refine ⟨?_, fun q hq => by rw [i2 q hq, l2 q (by omega), g1 q hq], by rw [i3, l3, if_neg (by omega)]⟩
    rw [i1, l1]
    rfl
theorem zM2_7 (h : zRB v bH bW bT bM) (hT : 1 ≤ bT) {u : Nat} {w : Nat → Int64} (hw : zOK v bH 2 w) : ∀ n j x V f, j + n = bT → (∀ i, i < 8 → V (8 * u + i) = w i) → (zl_X9_lastTwo_7 v u n j x V f).1 = zmx (zPS v bT 1 w) n j x ∧ (∀ q, q < 8 * u + 8 → (zl_X9_lastTwo_7 v u n j x V f).2.1 q = V q) ∧ (zl_X9_lastTwo_7 v u n j x V f).2.2 = if u = 0 then zfts (zPS v bT 1 w) n j x f else f := by
  intro n
  induction n with
  | zero => intro j x V f _ _; exact ⟨rfl, fun q _ => rfl, by split <;> rfl⟩
  | succ n ih =>
    intro j x V f hj hV
    have hL := zM2_24 h hT (by omega : j < bT) hw 3 0 0 V f (by omega) hV
    have hs : (zl_X9_lastTwo_24 v u j 3 0 (0 : Int64) V f).1 = zPS v bT 1 w j := hL.1
    have hk : ∀ i, i < 8 → (zl_X9_lastTwo_24 v u j 3 0 (0 : Int64) V f).2.1 (8 * u + i) = w i := fun i hi => by rw [hL.2.1 _ (by omega)]; exact hV i hi
    have e : zl_X9_lastTwo_7 v u (n + 1) j x V f = zl_X9_lastTwo_7 v u n (j + 1) (zmaxL x (zPS v bT 1 w j)) (zl_X9_lastTwo_24 v u j 3 0 (0 : Int64) V f).2.1 (if u = 0 then (if zPS v bT 1 w j ≤ x then f else nI j) else f) := by
      rw [zl_X9_lastTwo_7_s, hs, hL.2.2]
      by_cases c : zPS v bT 1 w j ≤ x
      · have m1 : zmaxL x (zPS v bT 1 w j) = x := zmax_le (by rw [zle64] at c; exact c)
        rw [m1]
        by_cases c0 : u = 0
        · simp only [if_pos c0, if_pos c]
        · simp only [if_neg c0, if_pos c]
      · have m1 : zmaxL x (zPS v bT 1 w j) = zPS v bT 1 w j := by
          unfold zmaxL
          rw [if_neg (by rw [zlt64]; rw [zle64] at c; omega)]
        rw [m1]
        by_cases c0 : u = 0
        · simp only [if_pos c0, if_neg c]
        · simp only [if_neg c0, if_neg c]
    obtain ⟨i1, i2, i3⟩ := ih (j + 1) (zmaxL x (zPS v bT 1 w j)) (zl_X9_lastTwo_24 v u j 3 0 (0 : Int64) V f).2.1 (if u = 0 then (if zPS v bT 1 w j ≤ x then f else nI j) else f) (by omega) hk
    rw [e]
    refine ⟨i1, fun q hq => by rw [i2 q hq, hL.2.1 q hq], ?_⟩
    rw [i3]
    by_cases c0 : u = 0
    · rw [if_pos c0, if_pos c0, if_pos c0]
      exact (zfts_s (zPS v bT 1 w) n j x f).symm
    · rw [if_neg c0, if_neg c0, if_neg c0]
theorem zM2 (h : zRB v bH bW bT bM) (hT : 1 ≤ bT) {u : Nat} {w : Nat → Int64} (hw : zOK v bH 2 w) (V : Nat → Int64) (f : Int32) (hV : ∀ i, i < 8 → V (8 * u + i) = w i) : (zf_X9_lastTwo v V f u).1 = zPV v bT 2 w ∧ (∀ q, q < 8 * u + 8 → (zf_X9_lastTwo v V f u).2.1 q = V q) ∧ (zf_X9_lastTwo v V f u).2.2 = if u = 0 then zfts (zPS v bT 1 w) bT 0 (-1) f else f := by
  have ez := zcN h.2.1.1 (by have := h.2.1.2; omega)
  obtain ⟨i1, i2, i3⟩ := zM2_7 h hT (u := u) hw bT 0 (-1) V f (by omega) hV
  rw [zf_X9_lastTwo_e, ez]
  refine ⟨?_, i2, i3⟩
  show (zl_X9_lastTwo_7 v u bT 0 (-1) V f).1 = zmx (zPS v bT 1 w) bT 0 0
  rw [i1]
  exact zneg1 hT (fun t ht => (zPSb h ht hw).1)
theorem zM3_22 (h : zRB v bH bW bT bM) (hT : 1 ≤ bT) {t : Nat} (ht : t < bT) {w : Nat → Int64} (hw : zOK v bH 3 w) : ∀ n j y V f, j + n = 3 → (∀ i, i < 8 → V (8 * 0 + i) = w i) → (zl_X9_allThree_22 v t n j y V f).1 = zps v bT 2 w t n j y ∧ (∀ q, q < 8 → (zl_X9_allThree_22 v t n j y V f).2.1 q = V q) ∧ (zl_X9_allThree_22 v t n j y V f).2.2 = f := by
  intro n
  induction n with
  | zero => intro j y V f _ _; exact ⟨rfl, fun q _ => rfl, rfl⟩
  | succ n ih =>
    intro j y V f hj hV
    obtain ⟨g1, g2⟩ := zgoes (v := v) (u := 0) (t := t) (k := j) V w hV
    obtain ⟨l1, l2, l3⟩ := zM2 h hT (u := 1) (zOK_mu h ht (by omega : j < 3) hw) (zf_X9_goes v V 0 t j) f g2
    obtain ⟨i1, i2, i3⟩ := ih (j + 1) (y + (zf_X9_lastTwo v (zf_X9_goes v V 0 t j) f 1).1) (zf_X9_lastTwo v (zf_X9_goes v V 0 t j) f 1).2.1 (zf_X9_lastTwo v (zf_X9_goes v V 0 t j) f 1).2.2 (by omega) (fun i hi => by rw [l2 _ (by omega), g1 _ (by omega)]; exact hV i hi)
    rw [zl_X9_allThree_22_s]
    refine ⟨?_, fun q hq => by rw [i2 q hq, l2 q (by omega), g1 q (by omega)], by rw [i3, l3, if_neg (by omega)]⟩
    rw [i1, l1]
    rfl
theorem zM3_6 (h : zRB v bH bW bT bM) (hT : 1 ≤ bT) {w : Nat → Int64} (hw : zOK v bH 3 w) : ∀ n j x V f, j + n = bT → (∀ i, i < 8 → V (8 * 0 + i) = w i) → (zl_X9_allThree_6 v n j x V f).1 = zmx (zPS v bT 2 w) n j x ∧ (zl_X9_allThree_6 v n j x V f).2.2 = zfts (zPS v bT 2 w) n j x f := by
  intro n
  induction n with
  | zero => intro j x V f _ _; exact ⟨rfl, rfl⟩
  | succ n ih =>
    intro j x V f hj hV
    have hL := zM3_22 h hT (by omega : j < bT) hw 3 0 0 V f (by omega) hV
    have hs : (zl_X9_allThree_22 v j 3 0 (0 : Int64) V f).1 = zPS v bT 2 w j := hL.1
    have hk : ∀ i, i < 8 → (zl_X9_allThree_22 v j 3 0 (0 : Int64) V f).2.1 (8 * 0 + i) = w i := fun i hi => by rw [hL.2.1 _ (by omega)]; exact hV i hi
    have e : zl_X9_allThree_6 v (n + 1) j x V f = zl_X9_allThree_6 v n (j + 1) (zmaxL x (zPS v bT 2 w j)) (zl_X9_allThree_22 v j 3 0 (0 : Int64) V f).2.1 (if zPS v bT 2 w j ≤ x then f else nI j) := by
      rw [zl_X9_allThree_6_s, hs, hL.2.2]
      by_cases c : zPS v bT 2 w j ≤ x
      · have m1 : zmaxL x (zPS v bT 2 w j) = x := zmax_le (by rw [zle64] at c; exact c)
        rw [m1]
        simp only [if_pos c]
      · have m1 : zmaxL x (zPS v bT 2 w j) = zPS v bT 2 w j := by
          unfold zmaxL
          rw [if_neg (by rw [zlt64]; rw [zle64] at c; omega)]
        rw [m1]
        simp only [if_neg c]
    obtain ⟨i1, i2⟩ := ih (j + 1) (zmaxL x (zPS v bT 2 w j)) (zl_X9_allThree_22 v j 3 0 (0 : Int64) V f).2.1 (if zPS v bT 2 w j ≤ x then f else nI j) (by omega) hk
    rw [e]
    exact ⟨i1, i2.trans (zfts_s (zPS v bT 2 w) n j x f).symm⟩
theorem zM3 (h : zRB v bH bW bT bM) (hT : 1 ≤ bT) {w : Nat → Int64} (hw : zOK v bH 3 w) (V : Nat → Int64) (f : Int32) (hV : ∀ i, i < 8 → V (8 * 0 + i) = w i) : (zf_X9_allThree v V f).1 = zPV v bT 3 w ∧ (zf_X9_allThree v V f).2.2 = zfts (zPS v bT 2 w) bT 0 (-1) f := by
  have ez := zcN h.2.1.1 (by have := h.2.1.2; omega)
  obtain ⟨i1, i2⟩ := zM3_6 h hT hw bT 0 (-1) V f (by omega) hV
  rw [zf_X9_allThree_e, ez]
  refine ⟨?_, i2⟩
  show (zl_X9_allThree_6 v bT 0 (-1) V f).1 = zmx (zPS v bT 2 w) bT 0 0
  rw [i1]
  exact zneg1 hT (fun t ht => (zPSb h ht hw).1)
theorem zpl0_7 : ∀ n j V i, zl_X9_plan_0_7 v n j V i = if j ≤ i ∧ i < j + n then v (35 + i) else V i := by
  intro n
  induction n with
  | zero => intro j V i; rw [if_neg (by omega)]; rfl
  | succ n ih =>
    intro j V i
    rw [zl_X9_plan_0_7_s, ih]
    by_cases h : j + 1 ≤ i ∧ i < j + 1 + n
    · rw [if_pos h, if_pos (by omega)]
    · rw [if_neg h]
      by_cases h2 : i = j
      · subst h2; rw [zuL_eq, if_pos (by omega)]
      · rw [zuL_ne h2, if_neg (by omega)]
theorem zpl0_r (V : Nat → Int64) : ∀ i, i < 8 → zl_X9_plan_0_7 v 8 0 V (8 * 0 + i) = (fun i => v (35 + i)) i := fun i hi => by
  rw [zpl0_7, if_pos (by omega), Nat.mul_zero, Nat.zero_add]
theorem zpl1_7 : ∀ n j V i, zl_X9_plan_1_7 v n j V i = if j ≤ i ∧ i < j + n then v (35 + i) else V i := by
  intro n
  induction n with
  | zero => intro j V i; rw [if_neg (by omega)]; rfl
  | succ n ih =>
    intro j V i
    rw [zl_X9_plan_1_7_s, ih]
    by_cases h : j + 1 ≤ i ∧ i < j + 1 + n
    · rw [if_pos h, if_pos (by omega)]
    · rw [if_neg h]
      by_cases h2 : i = j
      · subst h2; rw [zuL_eq, if_pos (by omega)]
      · rw [zuL_ne h2, if_neg (by omega)]
theorem zpl1_r (V : Nat → Int64) : ∀ i, i < 8 → zl_X9_plan_1_7 v 8 0 V (8 * 0 + i) = (fun i => v (35 + i)) i := fun i hi => by
  rw [zpl1_7, if_pos (by omega), Nat.mul_zero, Nat.zero_add]
theorem zpl2_7 : ∀ n j V i, zl_X9_plan_2_7 v n j V i = if j ≤ i ∧ i < j + n then v (35 + i) else V i := by
  intro n
  induction n with
  | zero => intro j V i; rw [if_neg (by omega)]; rfl
  | succ n ih =>
    intro j V i
    rw [zl_X9_plan_2_7_s, ih]
    by_cases h : j + 1 ≤ i ∧ i < j + 1 + n
    · rw [if_pos h, if_pos (by omega)]
    · rw [if_neg h]
      by_cases h2 : i = j
      · subst h2; rw [zuL_eq, if_pos (by omega)]
      · rw [zuL_ne h2, if_neg (by omega)]
theorem zpl2_r (V : Nat → Int64) : ∀ i, i < 8 → zl_X9_plan_2_7 v 8 0 V (8 * 0 + i) = (fun i => v (35 + i)) i := fun i hi => by
  rw [zpl2_7, if_pos (by omega), Nat.mul_zero, Nat.zero_add]
theorem zpl3_7 : ∀ n j V i, zl_X9_plan_3_7 v n j V i = if j ≤ i ∧ i < j + n then v (35 + i) else V i := by
  intro n
  induction n with
  | zero => intro j V i; rw [if_neg (by omega)]; rfl
  | succ n ih =>
    intro j V i
    rw [zl_X9_plan_3_7_s, ih]
    by_cases h : j + 1 ≤ i ∧ i < j + 1 + n
    · rw [if_pos h, if_pos (by omega)]
    · rw [if_neg h]
      by_cases h2 : i = j
      · subst h2; rw [zuL_eq, if_pos (by omega)]
      · rw [zuL_ne h2, if_neg (by omega)]
theorem zpl3_r (V : Nat → Int64) : ∀ i, i < 8 → zl_X9_plan_3_7 v 8 0 V (8 * 0 + i) = (fun i => v (35 + i)) i := fun i hi => by
  rw [zpl3_7, if_pos (by omega), Nat.mul_zero, Nat.zero_add]
theorem zBV0 (h : zRB v bH bW bT bM) (hT : True) (f0 : Nat → Int64) (V : Nat → Int64) : (zf_X3_bestValue_0 bH bW f0).1 = (zf_X9_plan_0 v V).1 ∧ 0 ≤ (zf_X9_plan_0 v V).1.toInt := by
  have hw := zOK_w h (d := 0) (by decide)
  have e1 : (zf_X9_plan_0 v V).1 = zPV v bT 0 (fun i => v (35 + i)) := by
    rw [zf_X9_plan_0_e]
    exact zgrM (zpl0_r V)
  have e2 : (zf_X3_bestValue_0 bH bW f0).1 = zPV v bT 0 (fun i => v (35 + i)) := by
    rw [zf_X3_bestValue_0_e]
    exact zPVc0 h (zbeg h rfl) (fun i a b => h.2.2.2.1 i a b)
  rw [e1, e2]
  exact ⟨rfl, (zPVb h 0 _ hw).1⟩
theorem zBV1 (h : zRB v bH bW bT bM) (hT : 1 ≤ bT) (f0 f1 : Nat → Int64) (V : Nat → Int64) : (zf_X3_bestValue_1 bH bW bT bM f0 f1).1 = (zf_X9_plan_1 v V).1 ∧ 0 ≤ (zf_X9_plan_1 v V).1.toInt := by
  have hw := zOK_w h (d := 1) (by decide)
  have e1 : (zf_X9_plan_1 v V).1 = zPV v bT 1 (fun i => v (35 + i)) := by
    rw [zf_X9_plan_1_e]
    exact (zM1 h hT (u := 0) hw _ _ (zpl1_r V)).1
  have e2 : (zf_X3_bestValue_1 bH bW bT bM f0 f1).1 = zPV v bT 1 (fun i => v (35 + i)) := by
    rw [zf_X3_bestValue_1_e]
    exact zPVc1 h (zbeg h rfl) (fun i a b => h.2.2.2.1 i a b)
  rw [e1, e2]
  exact ⟨rfl, (zPVb h 1 _ hw).1⟩
theorem zBF1 (h : zRB v bH bW bT bM) (hT : 1 ≤ bT) (f0 f1 : Nat → Int64) (V : Nat → Int64) : (zf_X3_bestFirstTest_1 bH bW bT bM f0 f1).1 = (zf_X9_plan_1 v V).2.2 := by
  have hw := zOK_w h (d := 1) (by decide)
  have e1 : (zf_X9_plan_1 v V).2.2 = zfts (zPS v bT 0 (fun i => v (35 + i))) bT 0 (-1) (-1) := by
    rw [zf_X9_plan_1_e]
    exact (zM1 h hT (u := 0) hw _ _ (zpl1_r V)).2.2
  rw [e1, zf_X3_bestFirstTest_1_e]
  exact zPFl1 h f1 bT 0 (-1) (-1) f0 (by omega)
theorem zBN1 (h : zRB v bH bW bT bM) (V : Nat → Int64) : -1 ≤ (zf_X9_plan_1 v V).1.toInt := by
  rcases Nat.eq_zero_or_pos bT with q | q
  · subst q
    have ez := zcN h.2.1.1 (by decide)
    rw [zf_X9_plan_1_e, zf_X9_lastOne_e, ez]
    show -1 ≤ (-1 : Int64).toInt
    decide
  · have := (zBV1 h q V V V).2
    omega
theorem zBV2 (h : zRB v bH bW bT bM) (hT : 1 ≤ bT) (f0 f1 f2 : Nat → Int64) (V : Nat → Int64) : (zf_X3_bestValue_2 bH bW bT bM f0 f1 f2).1 = (zf_X9_plan_2 v V).1 ∧ 0 ≤ (zf_X9_plan_2 v V).1.toInt := by
  have hw := zOK_w h (d := 2) (by decide)
  have e1 : (zf_X9_plan_2 v V).1 = zPV v bT 2 (fun i => v (35 + i)) := by
    rw [zf_X9_plan_2_e]
    exact (zM2 h hT (u := 0) hw _ _ (zpl2_r V)).1
  have e2 : (zf_X3_bestValue_2 bH bW bT bM f0 f1 f2).1 = zPV v bT 2 (fun i => v (35 + i)) := by
    rw [zf_X3_bestValue_2_e]
    exact zPVc2 h (zbeg h rfl) (fun i a b => h.2.2.2.1 i a b)
  rw [e1, e2]
  exact ⟨rfl, (zPVb h 2 _ hw).1⟩
theorem zBF2 (h : zRB v bH bW bT bM) (hT : 1 ≤ bT) (f0 f1 f2 : Nat → Int64) (V : Nat → Int64) : (zf_X3_bestFirstTest_2 bH bW bT bM f0 f1 f2).1 = (zf_X9_plan_2 v V).2.2 := by
  have hw := zOK_w h (d := 2) (by decide)
  have e1 : (zf_X9_plan_2 v V).2.2 = zfts (zPS v bT 1 (fun i => v (35 + i))) bT 0 (-1) (-1) := by
    rw [zf_X9_plan_2_e]
    exact (zM2 h hT (u := 0) hw _ _ (zpl2_r V)).2.2
  rw [e1, zf_X3_bestFirstTest_2_e]
  exact zPFl2 h f2 bT 0 (-1) (-1) f0 f1 (by omega)
theorem zBN2 (h : zRB v bH bW bT bM) (V : Nat → Int64) : -1 ≤ (zf_X9_plan_2 v V).1.toInt := by
  rcases Nat.eq_zero_or_pos bT with q | q
  · subst q
    have ez := zcN h.2.1.1 (by decide)
    rw [zf_X9_plan_2_e, zf_X9_lastTwo_e, ez]
    show -1 ≤ (-1 : Int64).toInt
    decide
  · have := (zBV2 h q V V V V).2
    omega
theorem zBV3 (h : zRB v bH bW bT bM) (hT : 1 ≤ bT) (f0 f1 f2 f3 : Nat → Int64) (V : Nat → Int64) : (zf_X3_bestValue_3 bH bW bT bM f0 f1 f2 f3).1 = (zf_X9_plan_3 v V).1 ∧ 0 ≤ (zf_X9_plan_3 v V).1.toInt := by
  have hw := zOK_w h (d := 3) (by decide)
  have e1 : (zf_X9_plan_3 v V).1 = zPV v bT 3 (fun i => v (35 + i)) := by
    rw [zf_X9_plan_3_e]
    exact (zM3 h hT hw _ _ (zpl3_r V)).1
  have e2 : (zf_X3_bestValue_3 bH bW bT bM f0 f1 f2 f3).1 = zPV v bT 3 (fun i => v (35 + i)) := by
    rw [zf_X3_bestValue_3_e]
    exact zPVc3 h (zbeg h rfl) (fun i a b => h.2.2.2.1 i a b)
  rw [e1, e2]
  exact ⟨rfl, (zPVb h 3 _ hw).1⟩
theorem zBF3 (h : zRB v bH bW bT bM) (hT : 1 ≤ bT) (f0 f1 f2 f3 : Nat → Int64) (V : Nat → Int64) : (zf_X3_bestFirstTest_3 bH bW bT bM f0 f1 f2 f3).1 = (zf_X9_plan_3 v V).2.2 := by
  have hw := zOK_w h (d := 3) (by decide)
  have e1 : (zf_X9_plan_3 v V).2.2 = zfts (zPS v bT 2 (fun i => v (35 + i))) bT 0 (-1) (-1) := by
    rw [zf_X9_plan_3_e]
    exact (zM3 h hT hw _ _ (zpl3_r V)).2
  rw [e1, zf_X3_bestFirstTest_3_e]
  exact zPFl3 h f3 bT 0 (-1) (-1) f0 f1 f2 (by omega)
theorem zBN3 (h : zRB v bH bW bT bM) (V : Nat → Int64) : -1 ≤ (zf_X9_plan_3 v V).1.toInt := by
  rcases Nat.eq_zero_or_pos bT with q | q
  · subst q
    have ez := zcN h.2.1.1 (by decide)
    rw [zf_X9_plan_3_e, zf_X9_allThree_e, ez]
    show -1 ≤ (-1 : Int64).toInt
    decide
  · have := (zBV3 h q V V V V V).2
    omega
theorem zten (d : Nat) (hd : d ≤ 3) : zf_X7_power 10 d = zf_X9_tens d ∧ 0 < (zf_X9_tens d).toInt ∧ (zf_X9_tens d).toInt ≤ 1000 := by
  rcases (show d = 0 ∨ d = 1 ∨ d = 2 ∨ d = 3 by omega) with rfl | rfl | rfl | rfl <;> decide
theorem ztw (h : zRB v bH bW bT bM) {d : Nat} (hd : d ≤ 3) : 0 < (zf_X9_tens d * zf_X9_weights v).toInt ∧ (zf_X9_tens d * zf_X9_weights v).toInt ≤ 8000000000000000000 := by
  obtain ⟨-, t1, t2⟩ := zten d hd
  obtain ⟨-, -, e3, e4⟩ := zwsum h
  have hb := zmulb (a := (zf_X9_tens d).toInt) (b := (zf_X9_weights v).toInt) (A := 1000) (B := 8000000000000000) (by omega) (by omega)
  have hp := Int.mul_pos t1 e3
  rw [zmul64 (by omega) (by omega)]
  omega
theorem zplH (h : zRB v bH bW bT bM) (V : Nat → Int64) : (∀ k, k ≤ 3 → ¬ (zf_X9_tens k) * (zf_X9_weights v) = -9223372036854775808) ∧ (zNM (zf_X9_plan_0 v V).1 ∧ zNM (zf_X9_plan_1 v V).1 ∧ zNM (zf_X9_plan_2 v V).1 ∧ zNM (zf_X9_plan_3 v V).1) ∧
    (¬ zf_X9_divisor ((zf_X9_plan_0 v V).1) ((zf_X9_tens 0) * (zf_X9_weights v)) = 0 ∧ ¬ zf_X9_divisor ((zf_X9_plan_1 v V).1) ((zf_X9_tens 1) * (zf_X9_weights v)) = 0 ∧ ¬ zf_X9_divisor ((zf_X9_plan_2 v V).1) ((zf_X9_tens 2) * (zf_X9_weights v)) = 0 ∧ ¬ zf_X9_divisor ((zf_X9_plan_3 v V).1) ((zf_X9_tens 3) * (zf_X9_weights v)) = 0) := by
  have p0 := (zBV0 h trivial V V).2
  have p1 := zBN1 h V
  have p2 := zBN2 h V
  have p3 := zBN3 h V
  have m0 : ¬ (zf_X9_plan_0 v V).1 = -9223372036854775808 := zMINI (by omega)
  have m1 : ¬ (zf_X9_plan_1 v V).1 = -9223372036854775808 := zMINI (by omega)
  have m2 : ¬ (zf_X9_plan_2 v V).1 = -9223372036854775808 := zMINI (by omega)
  have m3 : ¬ (zf_X9_plan_3 v V).1 = -9223372036854775808 := zMINI (by omega)
  exact ⟨fun k hk => zMINI (by have := ztw h hk; omega), ⟨m0, m1, m2, m3⟩, zdiv_ne0 m0 (ztw h (by omega)).1, zdiv_ne0 m1 (ztw h (by omega)).1, zdiv_ne0 m2 (ztw h (by omega)).1, zdiv_ne0 m3 (ztw h (by omega)).1⟩
end ZPN
theorem zn10 : ¬ ((1 : Int32) = 0) := by decide
theorem zn20 : ¬ ((2 : Int32) = 0) := by decide
theorem zn30 : ¬ ((3 : Int32) = 0) := by decide
theorem zn21 : ¬ ((2 : Int32) = 1) := by decide
theorem zn31 : ¬ ((3 : Int32) = 1) := by decide
theorem zn32 : ¬ ((3 : Int32) = 2) := by decide
theorem zqTs {n : Nat} : zf_X8_requireTests n = 0 ↔ ¬ n = 0 := by
  rw [zf_X8_requireTests_e]
  by_cases c : n = 0
  · rw [if_pos c]; exact ⟨fun h => absurd h (by decide), fun h => absurd c h⟩
  · rw [if_neg c]; exact ⟨fun _ => c, fun _ => rfl⟩
theorem zp_planValue {MNow MPast : Nat → Int64} {MSav : Nat} {PX : Nat → Int32} {PY : Nat → Int32} {PC : Nat → Int32} {PN : Nat} {POX : Nat → Int32} {POY : Nat → Int32} {POW : Nat → Int32} {bH : Nat} {bW : Nat → Int64} {bT : Nat} {bM : Nat → Nat → Int32} {rS : Nat} {rSt : Nat → Int32} {rHo : Nat → Int32} {rE : Nat} {rEl : Nat → Int32} {rEh : Nat → Int32} {zSc : Nat} {zVX : Nat → Nat → Int32} {zVY : Nat → Nat → Int32} {zVC : Nat → Nat → Int32} {zVN : Nat → Nat} {zVOX : Nat → Nat → Int32} {zVOY : Nat → Nat → Int32} {zVOW : Nat → Nat → Int32} {zVH : Nat → Nat} {zVW : Nat → Nat → Int64} {zVT : Nat → Nat} {zVM : Nat → Nat → Nat → Int32} {zVS : Nat → Nat} {zVSt : Nat → Nat → Int32} {zVHo : Nat → Nat → Int32} {zVE : Nat → Nat} {zVEl : Nat → Nat → Int32} {zVEh : Nat → Nat → Int32} (h : zRel MNow MPast MSav PX PY PC PN POX POY POW bH bW bT bM rS rSt rHo rE rEl rEh zSc zVX zVY zVC zVN zVOX zVOY zVOW zVH zVW zVT zVM zVS zVSt zVHo zVE zVEl zVEh) (f0 : Nat → Int64) (f1 : Nat → Int64) (f2 : Nat → Int64) (f3 : Nat → Int64) (k : Int32) (t : Int32) (MLev : Nat → Int64) (MFst : Int32) : zOut ((zf_X8_planValue bH bW bT bM f0 f1 f2 f3 k t).1) [2, 3] ((zf_X9_planValue MNow MLev MFst k t).2.1) (((zf_X8_planValue bH bW bT bM f0 f1 f2 f3 k t).2.1)) (((zf_X9_planValue MNow MLev MFst k t).1)) (True) := by
  obtain ⟨⟨hP, hB, hR⟩, -, -, -⟩ := id h
  obtain ⟨⟨b1, b2, b3⟩, ⟨b4, b5⟩, -⟩ := id hB
  have ez := zcN b4 (by omega)
  obtain ⟨e1, e2, e3, e4⟩ := zwsum hB
  rw [zf_X8_planValue_e, zf_X9_planValue_e]
  have q1 : zf_X8_requireRange k (0 : Int32) (3 : Int32) = 0 ↔ zf_X9_within k.toInt64 (0 : Int64) (3 : Int64) = true := zqRW (by decide) (by decide)
  by_cases c1 : zf_X8_requireRange k (0 : Int32) (3 : Int32) = 0
  · rw [if_pos c1, if_pos (q1.mp c1)]
    by_cases c2 : zf_X8_requireRange t (0 : Int32) (1 : Int32) = 0
    · rw [if_pos c2, if_pos (zqT.mp c2)]
      by_cases k0 : k = 0
      · subst k0
        rw [if_pos rfl, if_pos (by decide), if_pos rfl]
        obtain ⟨v1, v2⟩ := zBV0 hB trivial f0 MLev
        refine zOut_ok rfl ?_ trivial
        dsimp only
        rw [v1, (zten 0 (by decide)).1, e1, zpart_eq (zMINI (by omega)) (ztw hB (by decide)).1]
      · have hk := zqR.mp c1
        have a0 : (0 : Int32).toInt = 0 := by decide
        have a1 : (1 : Int32).toInt = 1 := by decide
        have a2 : (2 : Int32).toInt = 2 := by decide
        have a3 : (3 : Int32).toInt = 3 := by decide
        have hkn : ¬ k ≤ 0 := fun q => k0 (Int32.toInt_inj.mp (by rw [Int32.le_iff_toInt_le] at q; omega))
        rw [if_neg k0, if_neg hkn]
        have hsp : k = 1 ∨ k = 2 ∨ k = 3 := by
          have hne : ¬ k.toInt = 0 := fun q => k0 (Int32.toInt_inj.mp (by rw [q, a0]))
          rcases (show k.toInt = 1 ∨ k.toInt = 2 ∨ k.toInt = 3 by omega) with q | q | q
          · exact .inl (Int32.toInt_inj.mp (by rw [q, a1]))
          · exact .inr (.inl (Int32.toInt_inj.mp (by rw [q, a2])))
          · exact .inr (.inr (Int32.toInt_inj.mp (by rw [q, a3])))
        by_cases c3 : zf_X8_requireTests bT = 0
        · have hT := zqTs.mp c3
          rw [if_neg (show ¬ zc (MNow 43) = 0 by rw [ez]; exact hT)]
          rcases hsp with rfl | rfl | rfl
          · simp only [if_pos c3, zn10, zn20, zn30, zn21, zn31, zn32, eq_self, if_true, if_false]
            obtain ⟨v1, v2⟩ := zBV1 hB (by omega) f0 f1 MLev
            refine zOut_ok rfl ?_ trivial
            try dsimp only
            rw [v1, (zten 1 (by decide)).1, e1, zpart_eq (zMINI (by omega)) (ztw hB (by decide)).1]
          · simp only [if_pos c3, zn10, zn20, zn30, zn21, zn31, zn32, eq_self, if_true, if_false]
            obtain ⟨v1, v2⟩ := zBV2 hB (by omega) f0 f1 f2 MLev
            refine zOut_ok rfl ?_ trivial
            try dsimp only
            rw [v1, (zten 2 (by decide)).1, e1, zpart_eq (zMINI (by omega)) (ztw hB (by decide)).1]
          · simp only [if_pos c3, zn10, zn20, zn30, zn21, zn31, zn32, eq_self, if_true, if_false]
            obtain ⟨v1, v2⟩ := zBV3 hB (by omega) f0 f1 f2 f3 MLev
            refine zOut_ok rfl ?_ trivial
            try dsimp only
            rw [v1, (zten 3 (by decide)).1, e1, zpart_eq (zMINI (by omega)) (ztw hB (by decide)).1]
        · have hT : bT = 0 := Decidable.not_not.mp (fun q => c3 (zqTs.mpr q))
          rw [if_pos (show zc (MNow 43) = 0 by rw [ez]; exact hT)]
          rcases hsp with rfl | rfl | rfl
          · simp only [if_neg c3, zn10, zn20, zn30, zn21, zn31, zn32, eq_self, if_true, if_false]
            exact zOut_no (zk3t c3) (by decide) rfl trivial
          · simp only [if_neg c3, zn10, zn20, zn30, zn21, zn31, zn32, eq_self, if_true, if_false]
            exact zOut_no (zk3t c3) (by decide) rfl trivial
          · simp only [if_neg c3, zn10, zn20, zn30, zn21, zn31, zn32, eq_self, if_true, if_false]
            exact zOut_no (zk3t c3) (by decide) rfl trivial
    · rw [if_neg c2, if_neg (fun q => c2 (zqT.mpr q))]
      exact zOut_no (zk2 c2) (by decide) rfl trivial
  · rw [if_neg c1, if_neg (fun q => c1 (q1.mpr q))]
    exact zOut_no (zk2 c1) (by decide) rfl trivial
theorem zp_planFirst {MNow MPast : Nat → Int64} {MSav : Nat} {PX : Nat → Int32} {PY : Nat → Int32} {PC : Nat → Int32} {PN : Nat} {POX : Nat → Int32} {POY : Nat → Int32} {POW : Nat → Int32} {bH : Nat} {bW : Nat → Int64} {bT : Nat} {bM : Nat → Nat → Int32} {rS : Nat} {rSt : Nat → Int32} {rHo : Nat → Int32} {rE : Nat} {rEl : Nat → Int32} {rEh : Nat → Int32} {zSc : Nat} {zVX : Nat → Nat → Int32} {zVY : Nat → Nat → Int32} {zVC : Nat → Nat → Int32} {zVN : Nat → Nat} {zVOX : Nat → Nat → Int32} {zVOY : Nat → Nat → Int32} {zVOW : Nat → Nat → Int32} {zVH : Nat → Nat} {zVW : Nat → Nat → Int64} {zVT : Nat → Nat} {zVM : Nat → Nat → Nat → Int32} {zVS : Nat → Nat} {zVSt : Nat → Nat → Int32} {zVHo : Nat → Nat → Int32} {zVE : Nat → Nat} {zVEl : Nat → Nat → Int32} {zVEh : Nat → Nat → Int32} (h : zRel MNow MPast MSav PX PY PC PN POX POY POW bH bW bT bM rS rSt rHo rE rEl rEh zSc zVX zVY zVC zVN zVOX zVOY zVOW zVH zVW zVT zVM zVS zVSt zVHo zVE zVEl zVEh) (f0 : Nat → Int64) (f1 : Nat → Int64) (f2 : Nat → Int64) (f3 : Nat → Int64) (k : Int32) (MLev : Nat → Int64) (MFst : Int32) : zOut ((zf_X8_planFirst bH bW bT bM f0 f1 f2 f3 k).1) [2, 3] ((zf_X9_planFirst MNow MLev MFst k).2.1) ((((zf_X8_planFirst bH bW bT bM f0 f1 f2 f3 k).2.1)).toInt64) ((((zf_X9_planFirst MNow MLev MFst k).1)).toInt64) (True) := by
  obtain ⟨⟨hP, hB, hR⟩, -, -, -⟩ := id h
  obtain ⟨⟨b1, b2, b3⟩, ⟨b4, b5⟩, -⟩ := id hB
  have ez := zcN b4 (by omega)
  rw [zf_X8_planFirst_e, zf_X9_planFirst_e]
  have q1 : zf_X8_requireRange k (1 : Int32) (3 : Int32) = 0 ↔ zf_X9_within k.toInt64 (1 : Int64) (3 : Int64) = true := zqRW (by decide) (by decide)
  by_cases c1 : zf_X8_requireRange k (1 : Int32) (3 : Int32) = 0
  · rw [if_pos c1, if_pos (q1.mp c1)]
    have hk := zqR.mp c1
    have a1 : (1 : Int32).toInt = 1 := by decide
    have a2 : (2 : Int32).toInt = 2 := by decide
    have a3 : (3 : Int32).toInt = 3 := by decide
    have hsp : k = 1 ∨ k = 2 ∨ k = 3 := by
      rcases (show k.toInt = 1 ∨ k.toInt = 2 ∨ k.toInt = 3 by omega) with q | q | q
      · exact .inl (Int32.toInt_inj.mp (by rw [q, a1]))
      · exact .inr (.inl (Int32.toInt_inj.mp (by rw [q, a2])))
      · exact .inr (.inr (Int32.toInt_inj.mp (by rw [q, a3])))
    by_cases c3 : zf_X8_requireTests bT = 0
    · have hT := zqTs.mp c3
      rw [if_neg (show ¬ zc (MNow 43) = 0 by rw [ez]; exact hT)]
      rcases hsp with rfl | rfl | rfl
      · simp only [if_pos c3, zn10, zn20, zn30, zn21, zn31, zn32, eq_self, if_true, if_false]
        exact zOut_ok rfl (congrArg Int32.toInt64 (zBF1 hB (by omega) f0 f1 MLev)) trivial
      · simp only [if_pos c3, zn10, zn20, zn30, zn21, zn31, zn32, eq_self, if_true, if_false]
        exact zOut_ok rfl (congrArg Int32.toInt64 (zBF2 hB (by omega) f0 f1 f2 MLev)) trivial
      · simp only [if_pos c3, zn10, zn20, zn30, zn21, zn31, zn32, eq_self, if_true, if_false]
        exact zOut_ok rfl (congrArg Int32.toInt64 (zBF3 hB (by omega) f0 f1 f2 f3 MLev)) trivial
    · have hT : bT = 0 := Decidable.not_not.mp (fun q => c3 (zqTs.mpr q))
      rw [if_pos (show zc (MNow 43) = 0 by rw [ez]; exact hT)]
      rcases hsp with rfl | rfl | rfl
      · simp only [if_neg c3, zn10, zn20, zn30, zn21, zn31, zn32, eq_self, if_true, if_false]
        exact zOut_no (zk3t c3) (by decide) rfl trivial
      · simp only [if_neg c3, zn10, zn20, zn30, zn21, zn31, zn32, eq_self, if_true, if_false]
        exact zOut_no (zk3t c3) (by decide) rfl trivial
      · simp only [if_neg c3, zn10, zn20, zn30, zn21, zn31, zn32, eq_self, if_true, if_false]
        exact zOut_no (zk3t c3) (by decide) rfl trivial
  · rw [if_neg c1, if_neg (fun q => c1 (q1.mpr q))]
    exact zOut_no (zk2 c1) (by decide) rfl trivial
