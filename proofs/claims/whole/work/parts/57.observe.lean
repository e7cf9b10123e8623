/-! observe on both sides -/
def zmx (r : Nat → Int64) : Nat → Nat → Int64 → Int64
  | 0, _, x => x
  | n + 1, j, x => zmx r n (j + 1) (zmaxL x (r j))
theorem zmaxI2 (a b : Int64) : a.toInt ≤ (zmaxL a b).toInt ∧ b.toInt ≤ (zmaxL a b).toInt ∧ (zmaxL a b = a ∨ zmaxL a b = b) := by
  unfold zmaxL
  split
  · rename_i h; rw [zlt64] at h; exact ⟨by omega, by omega, .inl rfl⟩
  · rename_i h; rw [zlt64] at h; exact ⟨by omega, by omega, .inr rfl⟩
theorem zmax_le {x y : Int64} (h : y.toInt ≤ x.toInt) : zmaxL x y = x := by
  unfold zmaxL
  split
  · rfl
  · rename_i q; rw [zlt64] at q; exact Int64.toInt_inj.mp (by omega)
theorem zmax_if (x y : Int64) {α : Type} (f : Int64 → α) : (if y ≤ x then f x else f y) = f (zmaxL x y) := by
  by_cases h : y ≤ x
  · rw [if_pos h, zmax_le (by rw [zle64] at h; exact h)]
  · rw [if_neg h]
    unfold zmaxL
    rw [if_neg (by rw [zlt64]; rw [zle64] at h; omega)]
theorem zmx_cg {r r' : Nat → Int64} : ∀ n j x, (∀ i, j ≤ i → i < j + n → r i = r' i) → zmx r n j x = zmx r' n j x := by
  intro n
  induction n with
  | zero => intro j x _; rfl
  | succ n ih =>
    intro j x h
    show zmx r n (j + 1) (zmaxL x (r j)) = zmx r' n (j + 1) (zmaxL x (r' j))
    rw [h j (by omega) (by omega)]
    exact ih _ _ (fun i a b => h i (by omega) (by omega))
theorem zmx_app (r : Nat → Int64) : ∀ n m j x, zmx r (n + m) j x = zmx r m (j + n) (zmx r n j x) := by
  intro n
  induction n with
  | zero => intro m j x; rw [Nat.zero_add]; rfl
  | succ n ih =>
    intro m j x
    rw [show n + 1 + m = (n + m) + 1 by omega]
    show zmx r (n + m) (j + 1) (zmaxL x (r j)) = zmx r m (j + (n + 1)) (zmx r n (j + 1) (zmaxL x (r j)))
    rw [ih, show j + 1 + n = j + (n + 1) by omega]
theorem zmx_ge (r : Nat → Int64) : ∀ n j x, x.toInt ≤ (zmx r n j x).toInt ∧ (∀ i, j ≤ i → i < j + n → (r i).toInt ≤ (zmx r n j x).toInt) ∧ (zmx r n j x = x ∨ ∃ i, j ≤ i ∧ i < j + n ∧ zmx r n j x = r i) := by
  intro n
  induction n with
  | zero => intro j x; exact ⟨Int.le_refl _, fun i a b => by omega, .inl rfl⟩
  | succ n ih =>
    intro j x
    obtain ⟨h1, h2, h3⟩ := ih (j + 1) (zmaxL x (r j))
    obtain ⟨m1, m2, m3⟩ := zmaxI2 x (r j)
    show x.toInt ≤ (zmx r n (j + 1) (zmaxL x (r j))).toInt ∧ (∀ i, j ≤ i → i < j + (n + 1) → (r i).toInt ≤ (zmx r n (j + 1) (zmaxL x (r j))).toInt) ∧ (zmx r n (j + 1) (zmaxL x (r j)) = x ∨ ∃ i, j ≤ i ∧ i < j + (n + 1) ∧ zmx r n (j + 1) (zmaxL x (r j)) = r i)
    refine ⟨by omega, fun i a b => ?_, ?_⟩
    · by_cases e : i = j
      · subst e; omega
      · exact h2 i (by omega) (by omega)
    · rcases h3 with h3 | ⟨i, a, b, c⟩
      · rcases m3 with m3 | m3
        · exact .inl (by rw [h3, m3])
        · exact .inr ⟨j, by omega, by omega, by rw [h3, m3]⟩
      · exact .inr ⟨i, by omega, by omega, c⟩
theorem zmx_0 {r : Nat → Int64} : ∀ n j x, 0 ≤ x.toInt → (∀ i, j ≤ i → i < j + n → r i = 0) → zmx r n j x = x := by
  intro n
  induction n with
  | zero => intro j x _ _; rfl
  | succ n ih =>
    intro j x hx h
    show zmx r n (j + 1) (zmaxL x (r j)) = x
    rw [h j (by omega) (by omega), zmax_le (by rw [z0I]; exact hx)]
    exact ih _ _ hx (fun i a b => h i (by omega) (by omega))
theorem zgr5 (f : Nat → Int64) : ∀ n j x, zl_X1_greatest_5 f n j x = zmx f n j x := by
  intro n
  induction n with
  | zero => intro j x; rfl
  | succ n ih => intro j x; rw [zl_X1_greatest_5_s, ih]; rfl
theorem zml11 (W : Nat → Int64) (M : Nat → Nat → Int32) (t k : Nat) : ∀ n j o i, zl_X1_multiply_w_11 W M t k n j o i = if j ≤ i ∧ i < j + n then W i * (M t (i * 3 + k)).toInt64 else o i := by
  intro n
  induction n with
  | zero => intro j o i; rw [if_neg (by omega)]; rfl
  | succ n ih =>
    intro j o i
    rw [zl_X1_multiply_w_11_s, ih]
    by_cases h : j + 1 ≤ i ∧ i < j + 1 + n
    · rw [if_pos h, if_pos (by omega)]
    · rw [if_neg h]
      by_cases h2 : i = j
      · subst h2; rw [zuL_eq, if_pos (by omega)]
      · rw [zuL_ne h2, if_neg (by omega)]
theorem zrd39 (H : Nat) (f : Nat → Int64) : ∀ n j o i, zl_X1_reduce_39 H f n j o i = if j ≤ i ∧ i < j + n then o i / zl_X1_reduce_5 f H 0 0 else o i := by
  intro n
  induction n with
  | zero => intro j o i; rw [if_neg (by omega)]; rfl
  | succ n ih =>
    intro j o i
    rw [zl_X1_reduce_39_s, ih]
    by_cases h : j + 1 ≤ i ∧ i < j + 1 + n
    · rw [if_pos h, if_pos (by omega), zuL_ne (by omega)]
    · rw [if_neg h]
      by_cases h2 : i = j
      · subst h2; rw [zuL_eq, if_pos (by omega)]
      · rw [zuL_ne h2, if_neg (by omega)]
section ZOB
variable {v : Nat → Int64} {bH : Nat} {bW : Nat → Int64} {bT : Nat} {bM : Nat → Nat → Int32}
def zpr (v : Nat → Int64) (t k i : Nat) : Int64 := v (35 + i) * v (44 + 3 * (8 * t + i) + k)
theorem zpr_b (h : zRB v bH bW bT bM) {t k i : Nat} (ht : t < 10) (hk : k < 3) (hi : i < 8) : 0 ≤ (zpr v t k i).toInt ∧ (zpr v t k i).toInt ≤ 10000000000000000 := by
  obtain ⟨⟨b1, b2, b3⟩, ⟨b4, b5⟩, b6, b7, b8, b9, b10, b11⟩ := id h
  have hc := b11 (44 + 3 * (8 * t + i) + k) (by omega) (by omega)
  have hw : 0 ≤ (v (35 + i)).toInt ∧ (v (35 + i)).toInt ≤ 1000000000000000 := by
    by_cases q : i < bH
    · rw [(b6 i q).1]; exact (b6 i q).2
    · rw [b7 i (by omega) hi, z0I]; omega
  unfold zpr
  have hb := zmulb (a := (v (35 + i)).toInt) (b := (v (44 + 3 * (8 * t + i) + k)).toInt) (A := 1000000000000000) (B := 10) (by omega) (by omega)
  have hp := Int.mul_nonneg hw.1 hc.1
  rw [zmul64 (by omega) (by omega)]
  omega
theorem zobsH (h : zRB v bH bW bT bM) : ∀ t k j, t < 10 → k < 3 → j < 8 → zNM ((v (35 + j)) * (v ((44 + 3 * (8 * t + j)) + k))) := fun t k j ht hk hj => by
  have := zpr_b h ht hk hj
  unfold zpr at this
  exact zMINI (by omega)
theorem zpr_0 (h : zRB v bH bW bT bM) {t k i : Nat} (hi : bH ≤ i) (h8 : i < 8) : zpr v t k i = 0 := by
  unfold zpr
  rw [h.2.2.2.1 i hi h8, Int64.zero_mul]
theorem zpr_c (h : zRB v bH bW bT bM) {t k i : Nat} (ht : t < bT) (hk : k < 3) (hi : i < bH) : bW i * (bM t (i * 3 + k)).toInt64 = zpr v t k i := by
  obtain ⟨⟨b1, b2, b3⟩, ⟨b4, b5⟩, b6, b7, b8, b9, -⟩ := id h
  have e := b9 t ht (i * 3 + k) (by omega)
  unfold zpr
  rw [(b6 i hi).1, ← e]
  congr 2
  omega
theorem zl5app (t k : Nat) : ∀ n m j x V, zl_X9_laysThen_5 v t k (n + m) j x V = zl_X9_laysThen_5 v t k m (j + n) (zl_X9_laysThen_5 v t k n j x V).1 (zl_X9_laysThen_5 v t k n j x V).2 := by
  intro n
  induction n with
  | zero => intro m j x V; rw [Nat.zero_add]; rfl
  | succ n ih =>
    intro m j x V
    rw [show n + 1 + m = (n + m) + 1 by omega, zl_X9_laysThen_5_s, zl_X9_laysThen_5_s, ih, show j + 1 + n = j + (n + 1) by omega]
theorem zl5arr (t k : Nat) : ∀ n j x V i, (zl_X9_laysThen_5 v t k n j x V).2 i = if j ≤ i ∧ i < j + n then zpr v t k i else V i := by
  intro n
  induction n with
  | zero => intro j x V i; rw [if_neg (by omega)]; rfl
  | succ n ih =>
    intro j x V i
    rw [zl_X9_laysThen_5_s, ih]
    by_cases h : j + 1 ≤ i ∧ i < j + 1 + n
    · rw [if_pos h, if_pos (by omega)]
    · rw [if_neg h]
      by_cases h2 : i = j
      · subst h2; rw [zuL_eq, if_pos (by omega)]; rfl
      · rw [zuL_ne h2, if_neg (by omega)]
/-- both chains of divisors -/
theorem zl5g (h : zRB v bH bW bT bM) {t k : Nat} (ht : t < 10) (hk : k < 3) {f : Nat → Int64} (hf : ∀ i, i < bH → f i = zpr v t k i) : ∀ n j a V, j + n ≤ bH → a < 2 ^ 63 → (zl_X9_laysThen_5 v t k n j (lN a) V).1 = zl_X1_reduce_5 f n j (lN a) ∧ ∃ a', zl_X1_reduce_5 f n j (lN a) = lN a' ∧ a' < 2 ^ 63 ∧ (a' = 0 → a = 0 ∧ ∀ i, j ≤ i → i < j + n → f i = 0) := by
  have h8 := h.1.2.2
  intro n
  induction n with
  | zero => intro j a V _ ha; exact ⟨rfl, a, rfl, ha, fun q => ⟨q, fun i x y => by omega⟩⟩
  | succ n ih =>
    intro j a V hj ha
    have hb := zpr_b h (i := j) ht hk (by omega)
    have hM : ¬ zpr v t k j = -9223372036854775808 := zMINI (by omega)
    have hA : ¬ lN a = -9223372036854775808 := zMINI (by rw [pk_lT ha]; omega)
    have ej : (lN a).toInt.natAbs = a := by rw [pk_lT ha]; omega
    have hd : (vp_updL V j ((v (35 + j)) * (v ((44 + 3 * (8 * t + j)) + k)))) j = zpr v t k j := zuL_eq _ _ _
    rw [zl_X9_laysThen_5_s, zl_X1_reduce_5_s, hd, hf j (by omega), zgcdC hA hM, zgcdM hA hM, ej]
    have hr := zrng64 (zpr v t k j)
    have hlt : Nat.gcd a (zpr v t k j).toInt.natAbs < 2 ^ 63 := by
      rcases Nat.eq_zero_or_pos a with q | q
      · subst q; rw [Nat.gcd_zero_left]; omega
      · have := Nat.gcd_le_left (zpr v t k j).toInt.natAbs q
        omega
    obtain ⟨i1, a', i2, i3, i4⟩ := ih (j + 1) (Nat.gcd a (zpr v t k j).toInt.natAbs) (vp_updL V j ((v (35 + j)) * (v ((44 + 3 * (8 * t + j)) + k)))) (by omega) hlt
    refine ⟨i1, a', i2, i3, fun q => ?_⟩
    obtain ⟨q1, q2⟩ := i4 q
    have q3 := Nat.gcd_eq_zero_iff.mp q1
    refine ⟨q3.1, fun i x y => ?_⟩
    by_cases e : i = j
    · subst e
      rw [hf i (by omega)]
      exact zeq0.mpr (by omega)
    · exact q2 i (by omega) (by omega)
theorem zl5t (h : zRB v bH bW bT bM) {t k : Nat} : ∀ n j a V, bH ≤ j → j + n ≤ 8 → a < 2 ^ 63 → (zl_X9_laysThen_5 v t k n j (lN a) V).1 = lN a := by
  intro n
  induction n with
  | zero => intro j a V _ _ _; rfl
  | succ n ih =>
    intro j a V h1 h2 ha
    have hA : ¬ lN a = -9223372036854775808 := zMINI (by rw [pk_lT ha]; omega)
    have ej : (lN a).toInt.natAbs = a := by rw [pk_lT ha]; omega
    have hd : (vp_updL V j ((v (35 + j)) * (v ((44 + 3 * (8 * t + j)) + k)))) j = 0 := (zuL_eq _ _ _).trans (zpr_0 h h1 (by omega))
    rw [zl_X9_laysThen_5_s, hd, zgcdM hA (by decide), ej, z0I, Int.natAbs_zero, Nat.gcd_zero_right]
    exact ih _ _ _ (by omega) (by omega) ha
/-- what is laid and its greatest -/
def zrr9 (v : Nat → Int64) (G : Int64) (t k i : Nat) : Int64 := if G = 0 then 0 else zpr v t k i / G
theorem zl68 (Th : Nat → Int64) (t k : Nat) : ∀ n j x V, (∀ i, j ≤ i → i < j + n → V i = zpr v t k i) → (zl_X9_laysThen_68 v Th t k n j x V).1 = zmx (zrr9 v (zl_X9_laysThen_5 v t k 8 0 0 Th).1 t k) n j x ∧ ∀ i, (zl_X9_laysThen_68 v Th t k n j x V).2 i = if j ≤ i ∧ i < j + n then zrr9 v (zl_X9_laysThen_5 v t k 8 0 0 Th).1 t k i else V i := by
  intro n
  induction n with
  | zero => intro j x V _; exact ⟨rfl, fun i => by rw [if_neg (by omega)]; rfl⟩
  | succ n ih =>
    intro j x V hV
    have e : zl_X9_laysThen_68 v Th t k (n + 1) j x V = zl_X9_laysThen_68 v Th t k n (j + 1) (zmaxL x (zrr9 v (zl_X9_laysThen_5 v t k 8 0 0 Th).1 t k j)) (vp_updL V j (zrr9 v (zl_X9_laysThen_5 v t k 8 0 0 Th).1 t k j)) := by
      rw [zl_X9_laysThen_68_s]
      unfold zrr9
      rw [← hV j (by omega) (by omega)]
      by_cases c : (zl_X9_laysThen_5 v t k 8 0 0 Th).1 = 0
      · rw [if_pos c, if_pos c, zuL_eq, zmax_if x 0 (fun z => zl_X9_laysThen_68 v Th t k n (j + 1) z (vp_updL V j 0))]
      · rw [if_neg c, if_neg c, zuL_eq, zmax_if x _ (fun z => zl_X9_laysThen_68 v Th t k n (j + 1) z (vp_updL V j _))]
    rw [e]
    obtain ⟨i1, i2⟩ := ih (j + 1) (zmaxL x (zrr9 v (zl_X9_laysThen_5 v t k 8 0 0 Th).1 t k j)) (vp_updL V j (zrr9 v (zl_X9_laysThen_5 v t k 8 0 0 Th).1 t k j)) (fun i a b => by rw [zuL_ne (by omega)]; exact hV i (by omega) (by omega))
    refine ⟨i1, fun i => ?_⟩
    rw [i2]
    by_cases h : j + 1 ≤ i ∧ i < j + 1 + n
    · rw [if_pos h, if_pos (by omega)]
    · rw [if_neg h]
      by_cases h2 : i = j
      · subst h2; rw [zuL_eq, if_pos (by omega)]
      · rw [zuL_ne h2, if_neg (by omega)]
theorem zdivI {x y : Int64} (h1 : 0 ≤ x.toInt) (h2 : x.toInt ≤ 10000000000000000) (h3 : 0 < y.toInt) : 0 ≤ (x / y).toInt ∧ (x / y).toInt ≤ x.toInt := by
  rw [zquo (zMINI (by omega)), Int.tdiv_eq_ediv_of_nonneg h1]
  exact ⟨Int.ediv_nonneg h1 (by omega), Int.ediv_le_self _ h1⟩
/-- observe's row, on both sides: the entries r, their greatest; what they are -/
theorem zobs (h : zRB v bH bW bT bM) {t k : Nat} (ht : t < bT) (hk : k < 3) (o Th : Nat → Int64) : ∃ r : Nat → Int64, (∀ i, i < bH → zf_X1_reduce bH (zf_X1_multiply_w bH bW bM t k o) i = r i) ∧ (∀ i, i < 8 → (zf_X9_laysThen v Th t k).2 i = r i) ∧ (∀ i, i < 8 → 0 ≤ (r i).toInt) ∧ (∀ i, bH ≤ i → i < 8 → r i = 0) ∧
    zf_X1_greatest bH (zf_X1_reduce bH (zf_X1_multiply_w bH bW bM t k o)) = zmx r 8 0 0 ∧ (zf_X9_laysThen v Th t k).1 = zmx r 8 0 0 := by
  obtain ⟨⟨b1, b2, b3⟩, ⟨b4, b5⟩, -⟩ := id h
  generalize hfe : zf_X1_multiply_w bH bW bM t k o = f
  have hf : ∀ i, i < bH → f i = zpr v t k i := fun i hi => by
    rw [← hfe, zf_X1_multiply_w_e, zml11, if_pos (by omega)]
    exact zpr_c h ht hk hi
  obtain ⟨g1, a', g2, g3, g4⟩ := zl5g h (by omega) hk hf bH 0 0 Th (by omega) (by omega)
  have hG : (zl_X9_laysThen_5 v t k 8 0 0 Th).1 = lN a' := by
    rw [show (8 : Nat) = bH + (8 - bH) by omega, zl5app]
    have e0 : (0 : Int64) = lN 0 := rfl
    rw [e0, g1, g2]
    exact zl5t h _ _ _ _ (by omega) (by omega) g3
  have hGc : zl_X1_reduce_5 f bH 0 0 = lN a' := g2
  have hrow : ∀ i, i < bH → zf_X1_reduce bH f i = zrr9 v (lN a') t k i := fun i hi => by
    rw [zf_X1_reduce_e, hGc]
    unfold zrr9
    by_cases c : lN a' = 0
    · rw [if_pos c, if_pos c]
      have : a' = 0 := (pk_lEQ g3 (by omega : (0 : Nat) < 2 ^ 63)).mp c
      exact (g4 this).2 i (by omega) (by omega)
    · rw [if_neg c, if_neg c, zrd39, if_pos (by omega), hGc, hf i hi]
  have hb : ∀ i, i < 8 → 0 ≤ (zrr9 v (lN a') t k i).toInt := fun i hi => by
    unfold zrr9
    by_cases c : lN a' = 0
    · rw [if_pos c, z0I]; omega
    · rw [if_neg c]
      have hp := zpr_b h (t := t) (k := k) (i := i) (by omega) hk hi
      have : ¬ a' = 0 := fun q => c (by rw [q]; rfl)
      exact (zdivI hp.1 hp.2 (by rw [pk_lT g3]; omega)).1
  have hz : ∀ i, bH ≤ i → i < 8 → zrr9 v (lN a') t k i = 0 := fun i h1 h2 => by
    unfold zrr9
    by_cases c : lN a' = 0
    · rw [if_pos c]
    · rw [if_neg c, zpr_0 h h1 h2, Int64.zero_div]
  have hl := zl68 (v := v) Th t k 8 0 0 (zl_X9_laysThen_5 v t k 8 0 0 Th).2 (fun i a b => by rw [zl5arr, if_pos (by omega)])
  rw [hG] at hl
  have hx : zmx (zrr9 v (lN a') t k) 8 0 0 = zmx (zrr9 v (lN a') t k) bH 0 0 := by
    rw [show (8 : Nat) = bH + (8 - bH) by omega, zmx_app]
    refine zmx_0 _ _ _ ?_ (fun i a b => hz i (by omega) (by omega))
    have := (zmx_ge (zrr9 v (lN a') t k) bH 0 0).1
    rw [z0I] at this
    exact this
  refine ⟨zrr9 v (lN a') t k, hrow, fun i hi => ?_, hb, hz, ?_, ?_⟩
  · rw [zf_X9_laysThen_e]
    rw [hl.2 i, if_pos (by omega)]
  · rw [zf_X1_greatest_e, zgr5, hx]
    exact zmx_cg _ _ _ (fun i a b => hrow i (by omega))
  · rw [zf_X9_laysThen_e]
    dsimp only
    rw [hl.1]
theorem zmp4 (W : Nat → Int64) : ∀ n j x, x ≤ j → (∀ i, i < x → (W i).toInt < (W x).toInt) → (∀ i, i ≤ j → (W i).toInt ≤ (W x).toInt) → zl_X1_mostProbable_4 W n j x ≤ j + n ∧ (∀ i, i < zl_X1_mostProbable_4 W n j x → (W i).toInt < (W (zl_X1_mostProbable_4 W n j x)).toInt) ∧ ∀ i, i ≤ j + n → (W i).toInt ≤ (W (zl_X1_mostProbable_4 W n j x)).toInt := by
  intro n
  induction n with
  | zero => intro j x h1 h2 h3; exact ⟨h1, h2, h3⟩
  | succ n ih =>
    intro j x h1 h2 h3
    rw [zl_X1_mostProbable_4_s]
    by_cases c : W (1 + j) ≤ W x
    · rw [if_pos c]
      rw [zle64] at c
      have := ih (j + 1) x (by omega) h2 (fun i hi => by
        by_cases e : i = 1 + j
        · subst e; exact c
        · exact h3 i (by omega))
      rw [show j + 1 + n = j + (n + 1) by omega] at this
      exact this
    · rw [if_neg c]
      rw [zle64] at c
      have := ih (j + 1) (1 + j) (by omega) (fun i hi => by have := h3 i (by omega); omega) (fun i hi => by
        by_cases e : i = 1 + j
        · subst e; omega
        · have := h3 i (by omega); omega)
      rw [show j + 1 + n = j + (n + 1) by omega] at this
      exact this
theorem zob88 (Th : Nat → Int64) (t k : Int32) : ∀ n x V, (∀ m, m < n → (zf_X9_laysThen v Th (zi t) (zi k)).2 m = (zf_X9_laysThen v Th (zi t) (zi k)).1 → (∀ i, i < m → ¬ (zf_X9_laysThen v Th (zi t) (zi k)).2 i = (zf_X9_laysThen v Th (zi t) (zi k)).1) → (zl_X9_observe_88 v Th t k n x V).1 = nI m) ∧
    ((∀ i, i < n → ¬ (zf_X9_laysThen v Th (zi t) (zi k)).2 i = (zf_X9_laysThen v Th (zi t) (zi k)).1) → (zl_X9_observe_88 v Th t k n x V).1 = x) ∧ ∀ q, (zl_X9_observe_88 v Th t k n x V).2 q = if 35 ≤ q ∧ q < 35 + n then (zf_X9_laysThen v Th (zi t) (zi k)).2 (q - 35) else V q := by
  intro n
  induction n with
  | zero => intro x V; exact ⟨fun m hm => by omega, fun _ => rfl, fun q => by rw [if_neg (by omega)]; rfl⟩
  | succ n ih =>
    intro x V
    generalize hT : zf_X9_laysThen v Th (zi t) (zi k) = T at ih ⊢
    have hs : zl_X9_observe_88 v Th t k (n + 1) x V = zl_X9_observe_88 v Th t k n (if T.2 n = T.1 then nI n else x) (vp_updL V (35 + n) (T.2 n)) := by
      rw [zl_X9_observe_88_s, hT]
      by_cases c : T.2 n = T.1
      · rw [if_pos c, if_pos c]
      · rw [if_neg c, if_neg c]
    rw [hs]
    obtain ⟨i1, i2, i3⟩ := ih (if T.2 n = T.1 then nI n else x) (vp_updL V (35 + n) (T.2 n))
    refine ⟨fun m hm h1 h2 => ?_, fun h1 => ?_, fun q => ?_⟩
    · by_cases e : m = n
      · subst e
        rw [i2 h2, if_pos h1]
      · exact i1 m (by omega) h1 h2
    · rw [i2 (fun i hi => h1 i (by omega)), if_neg (h1 n (by omega))]
    · rw [i3]
      by_cases c : 35 ≤ q ∧ q < 35 + n
      · rw [if_pos c, if_pos (by omega)]
      · rw [if_neg c]
        by_cases c2 : q = 35 + n
        · subst c2; rw [zuL_eq, if_pos (by omega), Nat.add_sub_cancel_left]
        · rw [zuL_ne c2, if_neg (by omega)]
end ZOB
theorem zp_observe {MNow MPast : Nat → Int64} {MSav : Nat} {PX : Nat → Int32} {PY : Nat → Int32} {PC : Nat → Int32} {PN : Nat} {POX : Nat → Int32} {POY : Nat → Int32} {POW : Nat → Int32} {bH : Nat} {bW : Nat → Int64} {bT : Nat} {bM : Nat → Nat → Int32} {rS : Nat} {rSt : Nat → Int32} {rHo : Nat → Int32} {rE : Nat} {rEl : Nat → Int32} {rEh : Nat → Int32} {zSc : Nat} {zVX : Nat → Nat → Int32} {zVY : Nat → Nat → Int32} {zVC : Nat → Nat → Int32} {zVN : Nat → Nat} {zVOX : Nat → Nat → Int32} {zVOY : Nat → Nat → Int32} {zVOW : Nat → Nat → Int32} {zVH : Nat → Nat} {zVW : Nat → Nat → Int64} {zVT : Nat → Nat} {zVM : Nat → Nat → Nat → Int32} {zVS : Nat → Nat} {zVSt : Nat → Nat → Int32} {zVHo : Nat → Nat → Int32} {zVE : Nat → Nat} {zVEl : Nat → Nat → Int32} {zVEh : Nat → Nat → Int32} (h : zRel MNow MPast MSav PX PY PC PN POX POY POW bH bW bT bM rS rSt rHo rE rEl rEh zSc zVX zVY zVC zVN zVOX zVOY zVOW zVH zVW zVT zVM zVS zVSt zVHo zVE zVEl zVEh) (zSD : Nat → Nat → Nat) (o : Nat → Int64) (t : Int32) (k : Int32) (MThen : Nat → Int64) : zOut ((zf_X8_observe zSD zSc PX PY PC PN POX POY POW bH bW bT bM rS rSt rHo rE rEl rEh o zVX zVY zVC zVN zVOX zVOY zVOW zVH zVW zVT zVM zVS zVSt zVHo zVE zVEl zVEh t k).1) [1, 2, 3, 4] ((zf_X9_observe MNow MPast MSav MThen t k).2.1) ((nI (((zf_X8_observe zSD zSc PX PY PC PN POX POY POW bH bW bT bM rS rSt rHo rE rEl rEh o zVX zVY zVC zVN zVOX zVOY zVOW zVH zVW zVT zVM zVS zVSt zVHo zVE zVEl zVEh t k).2.1))).toInt64) ((((zf_X9_observe MNow MPast MSav MThen t k).1)).toInt64) (zRel ((zf_X9_observe MNow MPast MSav MThen t k).2.2.1) ((zf_X9_observe MNow MPast MSav MThen t k).2.2.2.1) ((zf_X9_observe MNow MPast MSav MThen t k).2.2.2.2.1) PX PY PC PN POX POY POW bH ((zf_X8_observe zSD zSc PX PY PC PN POX POY POW bH bW bT bM rS rSt rHo rE rEl rEh o zVX zVY zVC zVN zVOX zVOY zVOW zVH zVW zVT zVM zVS zVSt zVHo zVE zVEl zVEh t k).2.2.2.2.2.2.2.2.2.2.2.2.2.2.2.2.2.2.2.2.2.1) bT bM rS rSt rHo rE rEl rEh ((zf_X8_observe zSD zSc PX PY PC PN POX POY POW bH bW bT bM rS rSt rHo rE rEl rEh o zVX zVY zVC zVN zVOX zVOY zVOW zVH zVW zVT zVM zVS zVSt zVHo zVE zVEl zVEh t k).2.2.2.1) ((zf_X8_observe zSD zSc PX PY PC PN POX POY POW bH bW bT bM rS rSt rHo rE rEl rEh o zVX zVY zVC zVN zVOX zVOY zVOW zVH zVW zVT zVM zVS zVSt zVHo zVE zVEl zVEh t k).2.2.2.2.1) ((zf_X8_observe zSD zSc PX PY PC PN POX POY POW bH bW bT bM rS rSt rHo rE rEl rEh o zVX zVY zVC zVN zVOX zVOY zVOW zVH zVW zVT zVM zVS zVSt zVHo zVE zVEl zVEh t k).2.2.2.2.2.1) ((zf_X8_observe zSD zSc PX PY PC PN POX POY POW bH bW bT bM rS rSt rHo rE rEl rEh o zVX zVY zVC zVN zVOX zVOY zVOW zVH zVW zVT zVM zVS zVSt zVHo zVE zVEl zVEh t k).2.2.2.2.2.2.1) ((zf_X8_observe zSD zSc PX PY PC PN POX POY POW bH bW bT bM rS rSt rHo rE rEl rEh o zVX zVY zVC zVN zVOX zVOY zVOW zVH zVW zVT zVM zVS zVSt zVHo zVE zVEl zVEh t k).2.2.2.2.2.2.2.1) ((zf_X8_observe zSD zSc PX PY PC PN POX POY POW bH bW bT bM rS rSt rHo rE rEl rEh o zVX zVY zVC zVN zVOX zVOY zVOW zVH zVW zVT zVM zVS zVSt zVHo zVE zVEl zVEh t k).2.2.2.2.2.2.2.2.1) ((zf_X8_observe zSD zSc PX PY PC PN POX POY POW bH bW bT bM rS rSt rHo rE rEl rEh o zVX zVY zVC zVN zVOX zVOY zVOW zVH zVW zVT zVM zVS zVSt zVHo zVE zVEl zVEh t k).2.2.2.2.2.2.2.2.2.1) ((zf_X8_observe zSD zSc PX PY PC PN POX POY POW bH bW bT bM rS rSt rHo rE rEl rEh o zVX zVY zVC zVN zVOX zVOY zVOW zVH zVW zVT zVM zVS zVSt zVHo zVE zVEl zVEh t k).2.2.2.2.2.2.2.2.2.2.1) ((zf_X8_observe zSD zSc PX PY PC PN POX POY POW bH bW bT bM rS rSt rHo rE rEl rEh o zVX zVY zVC zVN zVOX zVOY zVOW zVH zVW zVT zVM zVS zVSt zVHo zVE zVEl zVEh t k).2.2.2.2.2.2.2.2.2.2.2.1) ((zf_X8_observe zSD zSc PX PY PC PN POX POY POW bH bW bT bM rS rSt rHo rE rEl rEh o zVX zVY zVC zVN zVOX zVOY zVOW zVH zVW zVT zVM zVS zVSt zVHo zVE zVEl zVEh t k).2.2.2.2.2.2.2.2.2.2.2.2.1) ((zf_X8_observe zSD zSc PX PY PC PN POX POY POW bH bW bT bM rS rSt rHo rE rEl rEh o zVX zVY zVC zVN zVOX zVOY zVOW zVH zVW zVT zVM zVS zVSt zVHo zVE zVEl zVEh t k).2.2.2.2.2.2.2.2.2.2.2.2.2.1) ((zf_X8_observe zSD zSc PX PY PC PN POX POY POW bH bW bT bM rS rSt rHo rE rEl rEh o zVX zVY zVC zVN zVOX zVOY zVOW zVH zVW zVT zVM zVS zVSt zVHo zVE zVEl zVEh t k).2.2.2.2.2.2.2.2.2.2.2.2.2.2.1) ((zf_X8_observe zSD zSc PX PY PC PN POX POY POW bH bW bT bM rS rSt rHo rE rEl rEh o zVX zVY zVC zVN zVOX zVOY zVOW zVH zVW zVT zVM zVS zVSt zVHo zVE zVEl zVEh t k).2.2.2.2.2.2.2.2.2.2.2.2.2.2.2.1) ((zf_X8_observe zSD zSc PX PY PC PN POX POY POW bH bW bT bM rS rSt rHo rE rEl rEh o zVX zVY zVC zVN zVOX zVOY zVOW zVH zVW zVT zVM zVS zVSt zVHo zVE zVEl zVEh t k).2.2.2.2.2.2.2.2.2.2.2.2.2.2.2.2.1) ((zf_X8_observe zSD zSc PX PY PC PN POX POY POW bH bW bT bM rS rSt rHo rE rEl rEh o zVX zVY zVC zVN zVOX zVOY zVOW zVH zVW zVT zVM zVS zVSt zVHo zVE zVEl zVEh t k).2.2.2.2.2.2.2.2.2.2.2.2.2.2.2.2.2.1) ((zf_X8_observe zSD zSc PX PY PC PN POX POY POW bH bW bT bM rS rSt rHo rE rEl rEh o zVX zVY zVC zVN zVOX zVOY zVOW zVH zVW zVT zVM zVS zVSt zVHo zVE zVEl zVEh t k).2.2.2.2.2.2.2.2.2.2.2.2.2.2.2.2.2.2.1) ((zf_X8_observe zSD zSc PX PY PC PN POX POY POW bH bW bT bM rS rSt rHo rE rEl rEh o zVX zVY zVC zVN zVOX zVOY zVOW zVH zVW zVT zVM zVS zVSt zVHo zVE zVEl zVEh t k).2.2.2.2.2.2.2.2.2.2.2.2.2.2.2.2.2.2.2.1) ((zf_X8_observe zSD zSc PX PY PC PN POX POY POW bH bW bT bM rS rSt rHo rE rEl rEh o zVX zVY zVC zVN zVOX zVOY zVOW zVH zVW zVT zVM zVS zVSt zVHo zVE zVEl zVEh t k).2.2.2.2.2.2.2.2.2.2.2.2.2.2.2.2.2.2.2.2.1)) := by
  obtain ⟨⟨hP, hB, hR⟩, -, -, -⟩ := id h
  obtain ⟨⟨b1, b2, b3⟩, ⟨b4, b5⟩, b6, b7, b8, b9, b10, b11⟩ := id hB
  rw [zf_X8_observe_e, zf_X9_observe_e]
  by_cases c1 : zf_X8_requireIndex t (nI bT) = 0
  · rw [if_pos c1, if_pos ((zqTt b4 (by omega)).mp c1)]
    obtain ⟨-, ht⟩ := zri c1 (by omega)
    have e2 : zf_X8_requireRange k (0 : Int32) (2 : Int32) = 0 ↔ zf_X9_within k.toInt64 (0 : Int64) (2 : Int64) = true := zqRW (by decide) (by decide)
    by_cases c2 : zf_X8_requireRange k (0 : Int32) (2 : Int32) = 0
    · rw [if_pos c2, if_pos (e2.mp c2)]
      obtain ⟨-, -, hk⟩ := zrr (u := 0) (v := 2) rfl rfl c2 (by decide) (by decide)
      obtain ⟨r, r1, r2, r3, r4, r5, r6⟩ := zobs hB ht (by omega : zi k < 3) o MThen
      rw [r5, r6]
      by_cases c3 : zmx r 8 0 0 = 0
      · rw [if_pos c3, if_pos c3]
        exact zOut_no (e := 3) rfl (by decide) rfl h
      · rw [if_neg c3, if_neg c3]
        by_cases c4 : zmx r 8 0 0 ≤ 1000000000000000
        · rw [if_pos c4, if_pos c4]
          obtain ⟨m1, m2, m3⟩ := zmx_ge r 8 0 0
          rw [zle64, show (1000000000000000 : Int64).toInt = 1000000000000000 by decide] at c4
          have hW : ∀ i, i < bH → zf_X1_takeWeights bH bW (zf_X1_reduce bH (zf_X1_multiply_w bH bW bM (zi t) (zi k) o)) i = r i := fun i hi => by
            rw [zf_X1_takeWeights_e, zcpy hi]; exact r1 i hi
          generalize hWe : zf_X1_takeWeights bH bW (zf_X1_reduce bH (zf_X1_multiply_w bH bW bM (zi t) (zi k) o)) = W at hW ⊢
          have hm := zmp4 W (bH - 1) 0 0 (by omega) (fun i hi => by omega) (fun i hi => by rw [show i = 0 by omega]; omega)
          generalize hme : zl_X1_mostProbable_4 W (bH - 1) 0 0 = m at hm
          obtain ⟨n1, n2, n3⟩ := hm
          have hmb : m < bH := by omega
          obtain ⟨i0, j1, j2, j3⟩ := m3.resolve_left c3
          have hi0 : i0 < bH := by
            rcases Nat.lt_or_ge i0 bH with q | q
            · exact q
            · exact absurd (j3.trans (r4 i0 q (by omega))) c3
          have hmm : r m = zmx r 8 0 0 := by
            apply Int64.toInt_inj.mp
            have q1 := n3 i0 (by omega)
            rw [hW i0 hi0, hW m hmb, ← j3] at q1
            have q2 := m2 m (by omega) (by omega)
            omega
          obtain ⟨o1, o2, o3⟩ := zob88 (v := MNow) MThen t k 8 (-1 : Int32) MNow
          rw [r6] at o1
          try dsimp only
          refine zOut_ok rfl ?_ (zRel_save h ⟨?_, ?_, ?_⟩)
          · rw [zf_X1_mostProbable_e, hme]
            rw [o1 m (by omega) (by rw [r2 m (by omega), hmm]) (fun i hi => by
              rw [r2 i (by omega), ← hmm]
              intro q
              have := n2 i hi
              rw [hW i (by omega), hW m hmb, q] at this
              omega)]
          · exact hP.congr (fun q hq => by rw [o3, if_neg (by omega)]) (fun _ _ => rfl) (fun _ _ => rfl) (fun _ _ => rfl) (fun _ _ => rfl) (fun _ _ => rfl) (fun _ _ => rfl)
          · refine ⟨⟨by rw [o3, if_neg (by omega)]; exact b1, b2, b3⟩, ⟨by rw [o3, if_neg (by omega)]; exact b4, b5⟩, fun i hi => ?_, fun i hi h8 => ?_, ⟨m, hmb, ?_⟩, fun t ht j hj => ?_, b10, fun q h1 h2 => ?_⟩
            · rw [o3, if_pos (by omega), Nat.add_sub_cancel_left, r2 i (by omega), hW i hi]
              have q1 := r3 i (by omega)
              have q2 := m2 i (by omega) (by omega)
              exact ⟨rfl, q1, by omega⟩
            · rw [o3, if_pos (by omega), Nat.add_sub_cancel_left, r2 i h8]
              exact r4 i hi h8
            · rw [hW m hmb, hmm]; exact c3
            · rw [o3, if_neg (by omega)]; exact b9 t ht j hj
            · rw [o3, if_neg (by omega)]; exact b11 q h1 h2
          · exact hR.congr (fun q h1 h2 => by rw [o3, if_neg (by omega)]) (fun _ _ => rfl) (fun _ _ => rfl) (fun _ _ => rfl) (fun _ _ => rfl)
        · rw [if_neg c4, if_neg c4]
          exact zOut_no (e := 4) rfl (by decide) rfl h
    · rw [if_neg c2, if_neg (fun q => c2 (e2.mpr q))]
      exact zOut_no (zk2 c2) (by decide) rfl h
  · rw [if_neg c1, if_neg (fun q => c1 ((zqTt b4 (by omega)).mpr q))]
    exact zOut_no (zk1 c1) (by decide) rfl h
