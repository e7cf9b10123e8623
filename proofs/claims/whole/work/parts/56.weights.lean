/-! Weights on both sides: setWeight, odds, observe -/
def zSm (f : Nat → Int) : Nat → Nat → Int
  | 0, _ => 0
  | n + 1, j => f j + zSm f n (j + 1)
theorem zSm_nn {f : Nat → Int} : ∀ n j, (∀ i, j ≤ i → i < j + n → 0 ≤ f i) → 0 ≤ zSm f n j := by
  intro n
  induction n with
  | zero => intro j _; exact Int.le_refl _
  | succ n ih =>
    intro j h
    have h1 := h j (by omega) (by omega)
    have h2 := ih (j + 1) (fun i a b => h i (by omega) (by omega))
    show 0 ≤ f j + zSm f n (j + 1)
    omega
theorem zSm_le {f : Nat → Int} {B : Int} : ∀ (n : Nat) j, (∀ i, j ≤ i → i < j + n → f i ≤ B) → zSm f n j ≤ n * B := by
  intro n
  induction n with
  | zero => intro j _; show (0 : Int) ≤ (0 : Nat) * B; simp
  | succ n ih =>
    intro j h
    have h1 := h j (by omega) (by omega)
    have h2 := ih (j + 1) (fun i a b => h i (by omega) (by omega))
    show f j + zSm f n (j + 1) ≤ ((n + 1 : Nat) : Int) * B
    have e : ((n + 1 : Nat) : Int) * B = n * B + B := by rw [Int.natCast_add, Int.add_mul]; simp
    omega
theorem zSm_ge {f : Nat → Int} : ∀ n j, (∀ i, j ≤ i → i < j + n → 0 ≤ f i) → ∀ i, j ≤ i → i < j + n → f i ≤ zSm f n j := by
  intro n
  induction n with
  | zero => intro j _ i a b; omega
  | succ n ih =>
    intro j h i a b
    have h1 := h j (by omega) (by omega)
    have hr : ∀ i, j + 1 ≤ i → i < j + 1 + n → 0 ≤ f i := fun i a b => h i (by omega) (by omega)
    have h2 := zSm_nn n (j + 1) hr
    show f i ≤ f j + zSm f n (j + 1)
    by_cases e : i = j
    · subst e; omega
    · have := ih (j + 1) hr i (by omega) (by omega)
      omega
theorem zSm_ge2 {f : Nat → Int} : ∀ n j, (∀ i, j ≤ i → i < j + n → 0 ≤ f i) → ∀ i k, i ≠ k → j ≤ i → i < j + n → j ≤ k → k < j + n → f i + f k ≤ zSm f n j := by
  intro n
  induction n with
  | zero => intro j _ i k _ a b; omega
  | succ n ih =>
    intro j h i k hik a b c d
    have h1 := h j (by omega) (by omega)
    have hr : ∀ i, j + 1 ≤ i → i < j + 1 + n → 0 ≤ f i := fun i a b => h i (by omega) (by omega)
    show f i + f k ≤ f j + zSm f n (j + 1)
    by_cases e : i = j
    · subst e
      have := zSm_ge n (i + 1) hr k (by omega) (by omega)
      omega
    · by_cases e2 : k = j
      · subst e2
        have := zSm_ge n (k + 1) hr i (by omega) (by omega)
        omega
      · have := ih (j + 1) hr i k hik (by omega) (by omega) (by omega) (by omega)
        omega
theorem zSm_0 {f : Nat → Int} : ∀ n j, (∀ i, j ≤ i → i < j + n → f i = 0) → zSm f n j = 0 := by
  intro n
  induction n with
  | zero => intro j _; rfl
  | succ n ih =>
    intro j h
    show f j + zSm f n (j + 1) = 0
    rw [h j (by omega) (by omega), ih (j + 1) (fun i a b => h i (by omega) (by omega))]
    rfl
theorem zSm_one {f : Nat → Int} : ∀ n j k, j ≤ k → k < j + n → (∀ i, j ≤ i → i < j + n → i ≠ k → f i = 0) → zSm f n j = f k := by
  intro n
  induction n with
  | zero => intro j k a b; omega
  | succ n ih =>
    intro j k a b h
    show f j + zSm f n (j + 1) = f k
    by_cases e : k = j
    · subst e
      rw [zSm_0 n (k + 1) (fun i a b => h i (by omega) (by omega) (by omega))]
      omega
    · rw [h j (by omega) (by omega) (fun q => e q.symm), ih (j + 1) k (by omega) (by omega) (fun i a b c => h i (by omega) (by omega) c)]
      omega
theorem zwsI {W : Nat → Int64} {H : Nat} (h8 : H ≤ 8) (hW : ∀ i, i < H → 0 ≤ (W i).toInt ∧ (W i).toInt ≤ 1000000000000000) : ∀ (n j : Nat) (s : Int64), j + n ≤ H → 0 ≤ s.toInt → s.toInt ≤ (j : Int) * 1000000000000000 → (zl_X1_weightSum_4 W n j s).toInt = s.toInt + zSm (fun i => (W i).toInt) n j := by
  intro n
  induction n with
  | zero => intro j s _ _ _; show s.toInt = s.toInt + 0; omega
  | succ n ih =>
    intro j s hj h1 h2
    have hw := hW j (by omega)
    have ha := zadd64 (a := s) (b := W j) (by omega) (by omega)
    rw [zl_X1_weightSum_4_s, ih (j + 1) _ (by omega) (by omega) (by omega), ha]
    show s.toInt + (W j).toInt + zSm (fun i => (W i).toInt) n (j + 1) = s.toInt + ((W j).toInt + zSm (fun i => (W i).toInt) n (j + 1))
    omega
theorem zwapp (v : Nat → Int64) : ∀ n m j s, zl_X9_weights_4 v (n + m) j s = zl_X9_weights_4 v m (j + n) (zl_X9_weights_4 v n j s) := by
  intro n
  induction n with
  | zero => intro m j s; rw [Nat.zero_add]; rfl
  | succ n ih =>
    intro m j s
    rw [show n + 1 + m = (n + m) + 1 by omega, zl_X9_weights_4_s, zl_X9_weights_4_s, ih, show j + 1 + n = j + (n + 1) by omega]
section ZWT
variable {v : Nat → Int64} {bH : Nat} {bW : Nat → Int64} {bT : Nat} {bM : Nat → Nat → Int32}
theorem zRB.w (h : zRB v bH bW bT bM) : ∀ i, i < bH → 0 ≤ (bW i).toInt ∧ (bW i).toInt ≤ 1000000000000000 := fun i hi => (h.2.2.1 i hi).2
theorem zwsum (h : zRB v bH bW bT bM) : zf_X1_weightSum bH bW = zf_X9_weights v ∧ (zf_X9_weights v).toInt = zSm (fun i => (bW i).toInt) bH 0 ∧ 0 < (zf_X9_weights v).toInt ∧ (zf_X9_weights v).toInt ≤ 8000000000000000 := by
  obtain ⟨⟨b1, b2, b3⟩, -, b6, b7, ⟨i0, j1, j2⟩, -⟩ := id h
  have e : zf_X1_weightSum bH bW = zf_X9_weights v := by
    rw [zf_X1_weightSum_e, zf_X9_weights_e]
    have e8 : (8 : Nat) = bH + (8 - bH) := by omega
    have t1 : ∀ m j s, bH ≤ j → j + m ≤ 8 → zl_X9_weights_4 v m j s = s := by
      intro m
      induction m with
      | zero => intro j s _ _; rfl
      | succ m ih =>
        intro j s hj hm
        rw [zl_X9_weights_4_s, b7 j hj (by omega), Int64.add_zero]
        exact ih (j + 1) s (by omega) (by omega)
    have t2 : ∀ n j s, j + n ≤ bH → zl_X1_weightSum_4 bW n j s = zl_X9_weights_4 v n j s := by
      intro n
      induction n with
      | zero => intro j s _; rfl
      | succ n ih =>
        intro j s hj
        rw [zl_X1_weightSum_4_s, zl_X9_weights_4_s, (b6 j (by omega)).1]
        exact ih (j + 1) _ (by omega)
    rw [e8, zwapp, t1 _ _ _ (by omega) (by omega)]
    exact t2 bH 0 0 (by omega)
  have hi := zwsI b3 h.w bH 0 0 (by omega) (by rw [z0I]; omega) (by rw [z0I]; omega)
  rw [← zf_X1_weightSum_e, e, z0I, Int.zero_add] at hi
  have hnn : ∀ i, 0 ≤ i → i < 0 + bH → 0 ≤ (fun i => (bW i).toInt) i := fun i _ hi => (h.w i (by omega)).1
  have h1 := zSm_ge bH 0 hnn i0 (by omega) (by omega)
  have h2 := zSm_le (B := 1000000000000000) bH 0 (fun i _ hi => (h.w i (by omega)).2)
  have h3 : ¬ (bW i0).toInt = 0 := fun q => j2 (zeq0.mpr q)
  have h4 := (h.w i0 j1).1
  refine ⟨e, hi, ?_, ?_⟩ <;> rw [hi] <;> omega
theorem zoth (W : Nat → Int64) (k : Nat) : ∀ n j, zl_X1_othersAreZero_2 W k n j = true ↔ ∀ i, j ≤ i → i < j + n → i ≠ k → W i = 0 := by
  intro n
  induction n with
  | zero => intro j; exact ⟨fun _ i a b => by omega, fun _ => rfl⟩
  | succ n ih =>
    intro j
    rw [zl_X1_othersAreZero_2_s]
    by_cases c : j = k
    · rw [if_pos c, ih]
      exact ⟨fun h i a b d => h i (by omega) (by omega) d, fun h i a b d => h i (by omega) (by omega) d⟩
    · rw [if_neg c]
      by_cases c2 : W j = 0
      · rw [if_pos c2, ih]
        refine ⟨fun h i a b d => ?_, fun h i a b d => h i (by omega) (by omega) d⟩
        by_cases q : i = j
        · subst q; exact c2
        · exact h i (by omega) (by omega) d
      · rw [if_neg c2]
        exact ⟨fun h => absurd h (by decide), fun h => absurd (h j (by omega) (by omega) c) c2⟩
theorem zothW (h : zRB v bH bW bT bM) {k : Nat} (hk : k < bH) : zf_X1_othersAreZero bH bW k = true ↔ zf_X9_weights v = v (35 + k) := by
  obtain ⟨e1, e2, e3, e4⟩ := zwsum h
  obtain ⟨⟨b1, b2, b3⟩, -, b6, b7, -⟩ := id h
  have hnn : ∀ i, 0 ≤ i → i < 0 + bH → 0 ≤ (fun i => (bW i).toInt) i := fun i _ hi => (h.w i (by omega)).1
  rw [zf_X1_othersAreZero_e, zoth, (b6 k hk).1]
  constructor
  · intro q
    apply Int64.toInt_inj.mp
    rw [e2]
    exact zSm_one bH 0 k (by omega) (by omega) (fun i a b c => by show (bW i).toInt = 0; rw [q i a b c]; rfl)
  · intro q i a b c
    have g1 := zSm_ge2 bH 0 hnn i k c (by omega) (by omega) (by omega) (by omega)
    have g2 : (bW i).toInt + (bW k).toInt ≤ zSm (fun i => (bW i).toInt) bH 0 := g1
    rw [← e2, q] at g2
    have g3 := (h.w i (by omega)).1
    exact zeq0.mpr (by omega)
theorem zRB_setW (h : zRB v bH bW bT bM) {k : Nat} (hk : k < bH) {x : Int32} (hx : 0 ≤ x.toInt ∧ x.toInt ≤ 1000000) (hne : ¬ x = 0 ∨ ¬ zf_X1_othersAreZero bH bW k = true) : zRB (vp_updL v (35 + k) x.toInt64) bH (vp_updL bW k x.toInt64) bT bM := by
  obtain ⟨⟨b1, b2, b3⟩, ⟨b4, b5⟩, b6, b7, b8, b9, b10, b11⟩ := id h
  have a0 : (0 : Int32).toInt = 0 := by decide
  refine ⟨⟨by rw [zuL_ne (by omega)]; exact b1, b2, b3⟩, ⟨by rw [zuL_ne (by omega)]; exact b4, b5⟩, fun i hi => ?_, fun i hi h8 => ?_, ?_, fun t ht j hj => ?_, b10, fun q h1 h2 => ?_⟩
  · by_cases q : i = k
    · subst q; rw [zuL_eq, zuL_eq, Int32.toInt_toInt64]; exact ⟨rfl, by omega, by omega⟩
    · rw [zuL_ne (by omega), zuL_ne q]; exact b6 i hi
  · rw [zuL_ne (by omega)]; exact b7 i hi h8
  · by_cases q : x = 0
    · have hn := hne.resolve_left (fun f => f q)
      rw [zf_X1_othersAreZero_e, zoth] at hn
      have : ∃ i, 0 ≤ i ∧ i < 0 + bH ∧ i ≠ k ∧ ¬ bW i = 0 := by
        refine Classical.byContradiction fun hc => hn fun i a b c => ?_
        exact Classical.byContradiction fun hd => hc ⟨i, a, b, c, hd⟩
      obtain ⟨i, -, a, b, c⟩ := this
      exact ⟨i, by omega, by rw [zuL_ne b]; exact c⟩
    · refine ⟨k, hk, ?_⟩
      rw [zuL_eq]
      intro e
      rw [zeq0, Int32.toInt_toInt64] at e
      exact q (Int32.toInt_inj.mp (by rw [e, a0]))
  · rw [zuL_ne (by omega)]; exact b9 t ht j hj
  · rw [zuL_ne (by omega)]; exact b11 q h1 h2
theorem zoddsH (h : zRB v bH bW bT bM) : ¬ zf_X9_weights v = -9223372036854775808 ∧ (∀ k, k < 8 → ¬ v (35 + k) = -9223372036854775808) ∧ ∀ k, k < 8 → ¬ zf_X9_divisor (v (35 + k)) (zf_X9_weights v) = 0 := by
  obtain ⟨e1, e2, e3, e4⟩ := zwsum h
  have hk : ∀ k, k < 8 → ¬ v (35 + k) = -9223372036854775808 := fun k hk => by
    by_cases q : k < bH
    · have := h.2.2.1 k q
      rw [this.1]
      exact zMINI (by omega)
    · rw [h.2.2.2.1 k (by omega) hk]; decide
  exact ⟨zMINI (by omega), hk, fun k h8 => zdiv_ne0 (hk k h8) e3⟩
end ZWT
theorem zp_setWeight {MNow MPast : Nat → Int64} {MSav : Nat} {PX : Nat → Int32} {PY : Nat → Int32} {PC : Nat → Int32} {PN : Nat} {POX : Nat → Int32} {POY : Nat → Int32} {POW : Nat → Int32} {bH : Nat} {bW : Nat → Int64} {bT : Nat} {bM : Nat → Nat → Int32} {rS : Nat} {rSt : Nat → Int32} {rHo : Nat → Int32} {rE : Nat} {rEl : Nat → Int32} {rEh : Nat → Int32} {zSc : Nat} {zVX : Nat → Nat → Int32} {zVY : Nat → Nat → Int32} {zVC : Nat → Nat → Int32} {zVN : Nat → Nat} {zVOX : Nat → Nat → Int32} {zVOY : Nat → Nat → Int32} {zVOW : Nat → Nat → Int32} {zVH : Nat → Nat} {zVW : Nat → Nat → Int64} {zVT : Nat → Nat} {zVM : Nat → Nat → Nat → Int32} {zVS : Nat → Nat} {zVSt : Nat → Nat → Int32} {zVHo : Nat → Nat → Int32} {zVE : Nat → Nat} {zVEl : Nat → Nat → Int32} {zVEh : Nat → Nat → Int32} (h : zRel MNow MPast MSav PX PY PC PN POX POY POW bH bW bT bM rS rSt rHo rE rEl rEh zSc zVX zVY zVC zVN zVOX zVOY zVOW zVH zVW zVT zVM zVS zVSt zVHo zVE zVEl zVEh) (zSD : Nat → Nat → Nat) (k : Int32) (x : Int32) : zOut ((zf_X8_setWeight zSD zSc PX PY PC PN POX POY POW bH bW bT bM rS rSt rHo rE rEl rEh zVX zVY zVC zVN zVOX zVOY zVOW zVH zVW zVT zVM zVS zVSt zVHo zVE zVEl zVEh k x).1) [1, 2, 3] ((zf_X9_setWeight MNow MPast MSav k x).2.1) (((zf_X8_setWeight zSD zSc PX PY PC PN POX POY POW bH bW bT bM rS rSt rHo rE rEl rEh zVX zVY zVC zVN zVOX zVOY zVOW zVH zVW zVT zVM zVS zVSt zVHo zVE zVEl zVEh k x).2.1)) (((zf_X9_setWeight MNow MPast MSav k x).1)) (zRel ((zf_X9_setWeight MNow MPast MSav k x).2.2.1) ((zf_X9_setWeight MNow MPast MSav k x).2.2.2.1) ((zf_X9_setWeight MNow MPast MSav k x).2.2.2.2) PX PY PC PN POX POY POW bH ((zf_X8_setWeight zSD zSc PX PY PC PN POX POY POW bH bW bT bM rS rSt rHo rE rEl rEh zVX zVY zVC zVN zVOX zVOY zVOW zVH zVW zVT zVM zVS zVSt zVHo zVE zVEl zVEh k x).2.2.2.2.2.2.2.2.2.2.2.2.2.2.2.2.2.2.2.2.2) bT bM rS rSt rHo rE rEl rEh ((zf_X8_setWeight zSD zSc PX PY PC PN POX POY POW bH bW bT bM rS rSt rHo rE rEl rEh zVX zVY zVC zVN zVOX zVOY zVOW zVH zVW zVT zVM zVS zVSt zVHo zVE zVEl zVEh k x).2.2.2.1) ((zf_X8_setWeight zSD zSc PX PY PC PN POX POY POW bH bW bT bM rS rSt rHo rE rEl rEh zVX zVY zVC zVN zVOX zVOY zVOW zVH zVW zVT zVM zVS zVSt zVHo zVE zVEl zVEh k x).2.2.2.2.1) ((zf_X8_setWeight zSD zSc PX PY PC PN POX POY POW bH bW bT bM rS rSt rHo rE rEl rEh zVX zVY zVC zVN zVOX zVOY zVOW zVH zVW zVT zVM zVS zVSt zVHo zVE zVEl zVEh k x).2.2.2.2.2.1) ((zf_X8_setWeight zSD zSc PX PY PC PN POX POY POW bH bW bT bM rS rSt rHo rE rEl rEh zVX zVY zVC zVN zVOX zVOY zVOW zVH zVW zVT zVM zVS zVSt zVHo zVE zVEl zVEh k x).2.2.2.2.2.2.1) ((zf_X8_setWeight zSD zSc PX PY PC PN POX POY POW bH bW bT bM rS rSt rHo rE rEl rEh zVX zVY zVC zVN zVOX zVOY zVOW zVH zVW zVT zVM zVS zVSt zVHo zVE zVEl zVEh k x).2.2.2.2.2.2.2.1) ((zf_X8_setWeight zSD zSc PX PY PC PN POX POY POW bH bW bT bM rS rSt rHo rE rEl rEh zVX zVY zVC zVN zVOX zVOY zVOW zVH zVW zVT zVM zVS zVSt zVHo zVE zVEl zVEh k x).2.2.2.2.2.2.2.2.1) ((zf_X8_setWeight zSD zSc PX PY PC PN POX POY POW bH bW bT bM rS rSt rHo rE rEl rEh zVX zVY zVC zVN zVOX zVOY zVOW zVH zVW zVT zVM zVS zVSt zVHo zVE zVEl zVEh k x).2.2.2.2.2.2.2.2.2.1) ((zf_X8_setWeight zSD zSc PX PY PC PN POX POY POW bH bW bT bM rS rSt rHo rE rEl rEh zVX zVY zVC zVN zVOX zVOY zVOW zVH zVW zVT zVM zVS zVSt zVHo zVE zVEl zVEh k x).2.2.2.2.2.2.2.2.2.2.1) ((zf_X8_setWeight zSD zSc PX PY PC PN POX POY POW bH bW bT bM rS rSt rHo rE rEl rEh zVX zVY zVC zVN zVOX zVOY zVOW zVH zVW zVT zVM zVS zVSt zVHo zVE zVEl zVEh k x).2.2.2.2.2.2.2.2.2.2.2.1) ((zf_X8_setWeight zSD zSc PX PY PC PN POX POY POW bH bW bT bM rS rSt rHo rE rEl rEh zVX zVY zVC zVN zVOX zVOY zVOW zVH zVW zVT zVM zVS zVSt zVHo zVE zVEl zVEh k x).2.2.2.2.2.2.2.2.2.2.2.2.1) ((zf_X8_setWeight zSD zSc PX PY PC PN POX POY POW bH bW bT bM rS rSt rHo rE rEl rEh zVX zVY zVC zVN zVOX zVOY zVOW zVH zVW zVT zVM zVS zVSt zVHo zVE zVEl zVEh k x).2.2.2.2.2.2.2.2.2.2.2.2.2.1) ((zf_X8_setWeight zSD zSc PX PY PC PN POX POY POW bH bW bT bM rS rSt rHo rE rEl rEh zVX zVY zVC zVN zVOX zVOY zVOW zVH zVW zVT zVM zVS zVSt zVHo zVE zVEl zVEh k x).2.2.2.2.2.2.2.2.2.2.2.2.2.2.1) ((zf_X8_setWeight zSD zSc PX PY PC PN POX POY POW bH bW bT bM rS rSt rHo rE rEl rEh zVX zVY zVC zVN zVOX zVOY zVOW zVH zVW zVT zVM zVS zVSt zVHo zVE zVEl zVEh k x).2.2.2.2.2.2.2.2.2.2.2.2.2.2.2.1) ((zf_X8_setWeight zSD zSc PX PY PC PN POX POY POW bH bW bT bM rS rSt rHo rE rEl rEh zVX zVY zVC zVN zVOX zVOY zVOW zVH zVW zVT zVM zVS zVSt zVHo zVE zVEl zVEh k x).2.2.2.2.2.2.2.2.2.2.2.2.2.2.2.2.1) ((zf_X8_setWeight zSD zSc PX PY PC PN POX POY POW bH bW bT bM rS rSt rHo rE rEl rEh zVX zVY zVC zVN zVOX zVOY zVOW zVH zVW zVT zVM zVS zVSt zVHo zVE zVEl zVEh k x).2.2.2.2.2.2.2.2.2.2.2.2.2.2.2.2.2.1) ((zf_X8_setWeight zSD zSc PX PY PC PN POX POY POW bH bW bT bM rS rSt rHo rE rEl rEh zVX zVY zVC zVN zVOX zVOY zVOW zVH zVW zVT zVM zVS zVSt zVHo zVE zVEl zVEh k x).2.2.2.2.2.2.2.2.2.2.2.2.2.2.2.2.2.2.1) ((zf_X8_setWeight zSD zSc PX PY PC PN POX POY POW bH bW bT bM rS rSt rHo rE rEl rEh zVX zVY zVC zVN zVOX zVOY zVOW zVH zVW zVT zVM zVS zVSt zVHo zVE zVEl zVEh k x).2.2.2.2.2.2.2.2.2.2.2.2.2.2.2.2.2.2.2.1) ((zf_X8_setWeight zSD zSc PX PY PC PN POX POY POW bH bW bT bM rS rSt rHo rE rEl rEh zVX zVY zVC zVN zVOX zVOY zVOW zVH zVW zVT zVM zVS zVSt zVHo zVE zVEl zVEh k x).2.2.2.2.2.2.2.2.2.2.2.2.2.2.2.2.2.2.2.2.1)) := by
  obtain ⟨⟨hP, hB, hR⟩, -, -, -⟩ := id h
  obtain ⟨⟨b1, b2, b3⟩, -⟩ := id hB
  have a0 : (0 : Int32).toInt = 0 := by decide
  have a1 : (1000000 : Int32).toInt = 1000000 := by decide
  rw [zf_X8_setWeight_e, zf_X9_setWeight_e]
  by_cases c1 : zf_X8_requireIndex k (nI bH) = 0
  · rw [if_pos c1, if_pos ((zqH b1 (by omega)).mp c1)]
    obtain ⟨-, hk⟩ := zri c1 (by omega)
    have e2 : zf_X8_requireRange x (0 : Int32) (1000000 : Int32) = 0 ↔ zf_X9_within x.toInt64 (0 : Int64) (1000000 : Int64) = true := zqRW (by decide) (by decide)
    by_cases c2 : zf_X8_requireRange x (0 : Int32) (1000000 : Int32) = 0
    · rw [if_pos c2, if_pos (e2.mp c2)]
      have hx := zqR.mp c2
      rw [a0, a1] at hx
      have fin : ∀ (hne : ¬ x = 0 ∨ ¬ zf_X1_othersAreZero bH bW (zi k) = true), zR1 (vp_updL MNow (35 + zi k) x.toInt64) PX PY PC PN POX POY POW bH (vp_updL bW (zi k) x.toInt64) bT bM rS rSt rHo rE rEl rEh := fun hne =>
        ⟨hP.congr (fun q hq => by rw [zuL_ne (by omega)]) (fun _ _ => rfl) (fun _ _ => rfl) (fun _ _ => rfl) (fun _ _ => rfl) (fun _ _ => rfl) (fun _ _ => rfl), zRB_setW hB hk hx hne, hR.congr (fun q h1 h2 => by rw [zuL_ne (by omega)]) (fun _ _ => rfl) (fun _ _ => rfl) (fun _ _ => rfl) (fun _ _ => rfl)⟩
      by_cases c3 : x = 0
      · rw [if_pos c3, if_pos c3]
        have e4 := zothW hB hk
        by_cases c4 : zf_X1_othersAreZero bH bW (zi k) = true
        · rw [if_pos c4, if_pos (e4.mp c4)]
          exact zOut_no (e := 3) rfl (by decide) rfl h
        · rw [if_neg c4, if_neg (fun q => c4 (e4.mpr q))]
          try dsimp only
          exact zOut_ok rfl (by rw [zf_X1_changeWeight_e, (hB.2.2.1 _ hk).1]) (zRel_save h (fin (.inr c4)))
      · rw [if_neg c3, if_neg c3]
        try dsimp only
        exact zOut_ok rfl (by rw [zf_X1_changeWeight_e, (hB.2.2.1 _ hk).1]) (zRel_save h (fin (.inl c3)))
    · rw [if_neg c2, if_neg (fun q => c2 (e2.mpr q))]
      exact zOut_no (zk2 c2) (by decide) rfl h
  · rw [if_neg c1, if_neg (fun q => c1 ((zqH b1 (by omega)).mpr q))]
    exact zOut_no (zk1 c1) (by decide) rfl h
theorem zp_odds {MNow MPast : Nat → Int64} {MSav : Nat} {PX : Nat → Int32} {PY : Nat → Int32} {PC : Nat → Int32} {PN : Nat} {POX : Nat → Int32} {POY : Nat → Int32} {POW : Nat → Int32} {bH : Nat} {bW : Nat → Int64} {bT : Nat} {bM : Nat → Nat → Int32} {rS : Nat} {rSt : Nat → Int32} {rHo : Nat → Int32} {rE : Nat} {rEl : Nat → Int32} {rEh : Nat → Int32} {zSc : Nat} {zVX : Nat → Nat → Int32} {zVY : Nat → Nat → Int32} {zVC : Nat → Nat → Int32} {zVN : Nat → Nat} {zVOX : Nat → Nat → Int32} {zVOY : Nat → Nat → Int32} {zVOW : Nat → Nat → Int32} {zVH : Nat → Nat} {zVW : Nat → Nat → Int64} {zVT : Nat → Nat} {zVM : Nat → Nat → Nat → Int32} {zVS : Nat → Nat} {zVSt : Nat → Nat → Int32} {zVHo : Nat → Nat → Int32} {zVE : Nat → Nat} {zVEl : Nat → Nat → Int32} {zVEh : Nat → Nat → Int32} (h : zRel MNow MPast MSav PX PY PC PN POX POY POW bH bW bT bM rS rSt rHo rE rEl rEh zSc zVX zVY zVC zVN zVOX zVOY zVOW zVH zVW zVT zVM zVS zVSt zVHo zVE zVEl zVEh) (k : Int32) (t : Int32) : zOut ((zf_X8_odds bH bW k t).1) [1, 2] ((zf_X9_odds MNow k t).2) (((zf_X8_odds bH bW k t).2)) (((zf_X9_odds MNow k t).1)) (True) := by
  obtain ⟨⟨hP, hB, hR⟩, -, -, -⟩ := id h
  obtain ⟨⟨b1, b2, b3⟩, -⟩ := id hB
  rw [zf_X8_odds_e, zf_X9_odds_e]
  by_cases c1 : zf_X8_requireIndex k (nI bH) = 0
  · rw [if_pos c1, if_pos ((zqH b1 (by omega)).mp c1)]
    obtain ⟨-, hk⟩ := zri c1 (by omega)
    by_cases c2 : zf_X8_requireRange t (0 : Int32) (1 : Int32) = 0
    · rw [if_pos c2, if_pos (zqT.mp c2)]
      refine zOut_ok rfl ?_ trivial
      obtain ⟨e1, e2, e3, e4⟩ := zwsum hB
      have hw := hB.w _ hk
      show zf_X2_partOf (bW (zi k)) (zf_X1_weightSum bH bW) t = zf_X9_partOf (MNow (35 + zi k)) (zf_X9_weights MNow) t
      rw [(hB.2.2.1 _ hk).1, e1, zpart_eq (zMINI (by omega)) e3]
    · rw [if_neg c2, if_neg (fun q => c2 (zqT.mpr q))]
      exact zOut_no (zk2 c2) (by decide) rfl trivial
  · rw [if_neg c1, if_neg (fun q => c1 ((zqH b1 (by omega)).mpr q))]
    exact zOut_no (zk1 c1) (by decide) rfl trivial
