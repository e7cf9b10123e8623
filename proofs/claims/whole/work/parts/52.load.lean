/-! The platform's sums on both sides. -/
def zsaI (X Y : Nat → Int32) (k : Nat) (x y : Int32) : Int := ((X ((k + 1) % 3)).toInt - x.toInt) * ((Y ((k + 2) % 3)).toInt - y.toInt) - ((X ((k + 2) % 3)).toInt - x.toInt) * ((Y ((k + 1) % 3)).toInt - y.toInt)
theorem zsa_b {X Y : Nat → Int32} (h : ∀ i, i < 3 → zpl (X i) ∧ zpl (Y i)) (k : Nat) {x y : Int32} (hx : zpl x) (hy : zpl y) : (zf_X4_signedArea X Y k x y).toInt = zsaI X Y k x y ∧ -80000 ≤ zsaI X Y k x y ∧ zsaI X Y k x y ≤ 80000 := by
  have h1 := h ((k + 1) % 3) (Nat.mod_lt _ (by decide))
  have h2 := h ((k + 2) % 3) (Nat.mod_lt _ (by decide))
  rw [zf_X4_signedArea_e]
  unfold zsaI
  generalize X ((k + 1) % 3) = a at h1 ⊢
  generalize Y ((k + 1) % 3) = b at h1 ⊢
  generalize X ((k + 2) % 3) = c at h2 ⊢
  generalize Y ((k + 2) % 3) = d at h2 ⊢
  have e1 : ((a - x).toInt64).toInt = a.toInt - x.toInt := by rw [Int32.toInt_toInt64, zsub32 h1.1 hx]
  have e2 : ((d - y).toInt64).toInt = d.toInt - y.toInt := by rw [Int32.toInt_toInt64, zsub32 h2.2 hy]
  have e3 : ((c - x).toInt64).toInt = c.toInt - x.toInt := by rw [Int32.toInt_toInt64, zsub32 h2.1 hx]
  have e4 : ((b - y).toInt64).toInt = b.toInt - y.toInt := by rw [Int32.toInt_toInt64, zsub32 h1.2 hy]
  unfold zpl at h1 h2 hx hy
  have b1 := zmulb (a := a.toInt - x.toInt) (b := d.toInt - y.toInt) (A := 200) (B := 200) (by omega) (by omega)
  have b2 := zmulb (a := c.toInt - x.toInt) (b := b.toInt - y.toInt) (A := 200) (B := 200) (by omega) (by omega)
  have m1 := zmul64 (a := (a - x).toInt64) (b := (d - y).toInt64) (by rw [e1, e2]; omega) (by rw [e1, e2]; omega)
  have m2 := zmul64 (a := (c - x).toInt64) (b := (b - y).toInt64) (by rw [e3, e4]; omega) (by rw [e3, e4]; omega)
  rw [e1, e2] at m1
  rw [e3, e4] at m2
  refine ⟨?_, by omega, by omega⟩
  rw [zsub64 (by rw [m1, m2]; omega) (by rw [m1, m2]; omega), m1, m2]
section ZLD
variable {v : Nat → Int64} {PX PY PC : Nat → Int32} {PN : Nat} {POX POY POW : Nat → Int32}
theorem zRP.pl (h : zRP v PX PY PC PN POX POY POW) : ∀ i, i < 3 → zpl (PX i) ∧ zpl (PY i) := fun i hi => ⟨(h.1 i hi).2.2.2.1, (h.1 i hi).2.2.2.2.1⟩
theorem zcx (h : zRP v PX PY PC PN POX POY POW) (k : Nat) : zf_X9_cellX v k = (PX (k % 3)).toInt64 ∧ zf_X9_cellY v k = (PY (k % 3)).toInt64 := by
  have := h.1 (k % 3) (Nat.mod_lt _ (by decide))
  rw [zf_X9_cellX_e, zf_X9_cellY_e, Nat.zero_add]
  exact ⟨this.1, this.2.1⟩
/-- the class's area of a place is the reference's share of a weight 1 there -/
theorem zshare (h : zRP v PX PY PC PN POX POY POW) (k : Nat) {x y : Int32} (hx : zpl x) (hy : zpl y) (w : Int64) : w * zf_X4_signedArea PX PY k x y = zf_X9_share v k w (w * x.toInt64) (w * y.toInt64) := by
  have h1 := h.pl ((k + 1) % 3) (Nat.mod_lt _ (by decide))
  have h2 := h.pl ((k + 2) % 3) (Nat.mod_lt _ (by decide))
  rw [zf_X4_signedArea_e, zf_X9_share_e, (zcx h (k + 1)).1, (zcx h (k + 1)).2, (zcx h (k + 2)).1, (zcx h (k + 2)).2, zsubL h1.1 hx, zsubL h2.2 hy, zsubL h2.1 hx, zsubL h1.2 hy]
  grind
theorem zarea (h : zRP v PX PY PC PN POX POY POW) : zf_X4_signedArea PX PY 0 (PX 0) (PY 0) = zf_X9_area v := by
  have h0 := h.pl 0 (by decide)
  have h1 := h.pl 1 (by decide)
  have h2 := h.pl 2 (by decide)
  rw [zf_X4_signedArea_e, zf_X9_area_e, (zcx h 0).1, (zcx h 0).2, (zcx h 1).1, (zcx h 1).2, (zcx h 2).1, (zcx h 2).2]
  show (PX 1 - PX 0).toInt64 * (PY 2 - PY 0).toInt64 - (PX 2 - PX 0).toInt64 * (PY 1 - PY 0).toInt64 = ((PX 1).toInt64 - (PX 0).toInt64) * ((PY 2).toInt64 - (PY 0).toInt64) - ((PX 2).toInt64 - (PX 0).toInt64) * ((PY 1).toInt64 - (PY 0).toInt64)
  rw [zsubL h1.1 h0.1, zsubL h2.2 h0.2, zsubL h2.1 h0.1, zsubL h1.2 h0.2]
theorem zareaI (h : zRP v PX PY PC PN POX POY POW) : (zf_X9_area v).toInt = zarI PX PY ∧ -80000 ≤ zarI PX PY ∧ zarI PX PY ≤ 80000 := by
  rw [← zarea h]
  exact zsa_b h.pl 0 (h.pl 0 (by decide)).1 (h.pl 0 (by decide)).2
theorem zsize (h : zRP v PX PY PC PN POX POY POW) : zf_X4_denominator PX PY = zf_X9_size v ∧ 0 < (zf_X9_size v).toInt ∧ (zf_X9_size v).toInt ≤ 80000 := by
  obtain ⟨e, b1, b2⟩ := zareaI h
  have hne := h.2.2.2
  have hM : ¬ zf_X9_area v = -9223372036854775808 := zMINI (by omega)
  have hn := zneg64 hM
  constructor
  · rw [zf_X4_denominator_e, zf_X4_share_e, zarea h, zf_X9_size_e]
  · rw [zf_X9_size_e]
    split
    · rename_i c; rw [zle0] at c; omega
    · rename_i c; rw [zle0] at c; omega
/-- the sums of both sides -/
theorem zloop (h : zRP v PX PY PC PN POX POY POW) (k : Nat) : ∀ n j x2 x4 x6, j + n = PN →
    ((0 : Int64) ≤ zf_X9_area v → zl_X4_numerator_5 PX PY POX POY POW k n j (zf_X9_share v k x2 x4 x6) = zf_X9_share v k (zl_X9_loadOf_12 v n j x2 x4 x6).1 (zl_X9_loadOf_12 v n j x2 x4 x6).2.1 (zl_X9_loadOf_12 v n j x2 x4 x6).2.2) ∧
    (¬ (0 : Int64) ≤ zf_X9_area v → zl_X4_numerator_5 PX PY POX POY POW k n j (-(zf_X9_share v k x2 x4 x6)) = -(zf_X9_share v k (zl_X9_loadOf_12 v n j x2 x4 x6).1 (zl_X9_loadOf_12 v n j x2 x4 x6).2.1 (zl_X9_loadOf_12 v n j x2 x4 x6).2.2)) := by
  intro n
  induction n with
  | zero => intro j x2 x4 x6 _; exact ⟨fun _ => rfl, fun _ => rfl⟩
  | succ n ih =>
    intro j x2 x4 x6 hj
    obtain ⟨o1, o2, o3, p1, p2, -⟩ := h.2.2.1 j (by omega)
    rw [zl_X4_numerator_5_s, zl_X4_numerator_5_s, zl_X9_loadOf_12_s, o1, o2, o3, zf_X4_share_e, zarea h]
    have hs := zshare h k p1 p2 (POW j).toInt64
    have hl : zf_X9_share v k (x2 + (POW j).toInt64) (x4 + (POW j).toInt64 * (POX j).toInt64) (x6 + (POW j).toInt64 * (POY j).toInt64) = zf_X9_share v k x2 x4 x6 + (POW j).toInt64 * zf_X4_signedArea PX PY k (POX j) (POY j) := by
      rw [hs, zf_X9_share_e, zf_X9_share_e, zf_X9_share_e]
      grind
    obtain ⟨i1, i2⟩ := ih (j + 1) (x2 + (POW j).toInt64) (x4 + (POW j).toInt64 * (POX j).toInt64) (x6 + (POW j).toInt64 * (POY j).toInt64) (by omega)
    rw [hl] at i1 i2
    refine ⟨fun c => ?_, fun c => ?_⟩
    · rw [if_pos c]; exact i1 c
    · rw [if_neg c, ← i2 c]
      congr 1
      generalize (POW j).toInt64 = w
      generalize zf_X4_signedArea PX PY k (POX j) (POY j) = a
      grind
theorem znum (h : zRP v PX PY PC PN POX POY POW) (k : Nat) : zf_X4_numerator PX PY PN POX POY POW k = zf_X9_loadOf v k := by
  have hN := h.2.1
  have ez : zc (v 9) = PN := by rw [hN.1]; unfold zc; rw [pk_lT (by omega)]; omega
  have h0 : zf_X9_share v k 0 0 0 = 0 := by rw [zf_X9_share_e]; grind
  obtain ⟨i1, i2⟩ := zloop h k PN 0 0 0 0 (by omega)
  rw [h0] at i1 i2
  rw [zf_X4_numerator_e, zf_X9_loadOf_e, ez]
  by_cases c : (0 : Int64) ≤ zf_X9_area v
  · rw [if_pos c]; exact i1 c
  · rw [if_neg c]
    have := i2 c
    rw [show -(0 : Int64) = 0 by decide] at this
    exact this
theorem zshI (h : zRP v PX PY PC PN POX POY POW) (k : Nat) {x y : Int32} (hx : zpl x) (hy : zpl y) : -80000 ≤ (zf_X4_share PX PY k x y).toInt ∧ (zf_X4_share PX PY k x y).toInt ≤ 80000 := by
  obtain ⟨e, b1, b2⟩ := zsa_b h.pl k hx hy
  rw [zf_X4_share_e]
  split
  · omega
  · rw [zneg64 (zMINI (by omega))]; omega
theorem znumI (h : zRP v PX PY PC PN POX POY POW) (k : Nat) : ∀ n j (x : Int64), j + n = PN → -(j * 80000000 : Int) ≤ x.toInt ∧ x.toInt ≤ (j * 80000000 : Int) → -640000000 ≤ (zl_X4_numerator_5 PX PY POX POY POW k n j x).toInt ∧ (zl_X4_numerator_5 PX PY POX POY POW k n j x).toInt ≤ 640000000 := by
  have hN := h.2.1.2
  intro n
  induction n with
  | zero => intro j x hj hx; show _ ≤ x.toInt ∧ x.toInt ≤ _; omega
  | succ n ih =>
    intro j x hj hx
    obtain ⟨-, -, -, p1, p2, w1, w2⟩ := h.2.2.1 j (by omega)
    rw [zl_X4_numerator_5_s]
    have hs := zshI h k p1 p2
    have hb := zmulb (a := (POW j).toInt) (b := (zf_X4_share PX PY k (POX j) (POY j)).toInt) (A := 1000) (B := 80000) (by omega) (by omega)
    have ew : ((POW j).toInt64).toInt = (POW j).toInt := Int32.toInt_toInt64 _
    have hm := zmul64 (a := (POW j).toInt64) (b := zf_X4_share PX PY k (POX j) (POY j)) (by rw [ew]; omega) (by rw [ew]; omega)
    rw [ew] at hm
    have ha := zadd64 (a := x) (b := (POW j).toInt64 * zf_X4_share PX PY k (POX j) (POY j)) (by rw [hm]; omega) (by rw [hm]; omega)
    refine ih (j + 1) _ (by omega) ?_
    rw [ha, hm]
    omega
theorem zloadI (h : zRP v PX PY PC PN POX POY POW) (k : Nat) : -640000000 ≤ (zf_X9_loadOf v k).toInt ∧ (zf_X9_loadOf v k).toInt ≤ 640000000 := by
  rw [← znum h k, zf_X4_numerator_e]
  exact znumI h k PN 0 0 (by omega) (by rw [z0I]; omega)
theorem zRP.ld (h : zRP v PX PY PC PN POX POY POW) : zLd v := by
  obtain ⟨-, s1, s2⟩ := zsize h
  refine ⟨zMINI (by omega), fun q => by rw [zeq0] at q; omega, fun k _ => ?_⟩
  have hl := zloadI h k
  exact ⟨zMINI (by omega), zdiv_ne0 (zMINI (by omega)) s1⟩
theorem zlpart (h : zRP v PX PY PC PN POX POY POW) (k : Nat) (t : Int32) : zf_X4_loadPart PX PY PN POX POY POW k t = zf_X9_partOf (zf_X9_loadOf v k) (zf_X9_size v) t := by
  obtain ⟨e, s1, s2⟩ := zsize h
  have hl := zloadI h k
  rw [zf_X4_loadPart_e, znum h, e, zpart_eq (zMINI (by omega)) s1]
theorem zstill (h : zRP v PX PY PC PN POX POY POW) : zf_X4_hasNoNegativeLoad PX PY PN POX POY POW = zf_X9_isStill v := by
  rw [zf_X4_hasNoNegativeLoad_e, zf_X9_isStill_e, zl_X4_hasNoNegativeLoad_2_s, zl_X4_hasNoNegativeLoad_2_s, zl_X4_hasNoNegativeLoad_2_s, zl_X4_hasNoNegativeLoad_2_z, znum h, znum h, znum h]
  have e : ∀ x : Int64, (x < 0) ↔ ¬ (0 ≤ x) := fun x => by rw [Int64.not_le]
  simp only [e, Nat.zero_add]
  by_cases c0 : (0 : Int64) ≤ zf_X9_loadOf v 0 <;> by_cases c1 : (0 : Int64) ≤ zf_X9_loadOf v 1 <;> by_cases c2 : (0 : Int64) ≤ zf_X9_loadOf v 2 <;> simp [c0, c1, c2]
theorem zcapI (h : zRP v PX PY PC PN POX POY POW) {k : Nat} (hk : k < 3) : zf_X9_capacity v k = (PC k).toInt64 * zf_X4_denominator PX PY ∧ (zf_X9_capacity v k).toInt = (PC k).toInt * (zf_X9_size v).toInt ∧ 0 ≤ (zf_X9_capacity v k).toInt ∧ (zf_X9_capacity v k).toInt ≤ 8000000000 := by
  obtain ⟨e, s1, s2⟩ := zsize h
  obtain ⟨-, -, c1, -, -, c2, c3⟩ := h.1 k hk
  have e0 : zf_X9_capacity v k = (PC k).toInt64 * zf_X9_size v := by
    rw [zf_X9_capacity_e, Nat.zero_add, c1]
  have ec : ((PC k).toInt64).toInt = (PC k).toInt := Int32.toInt_toInt64 _
  have hb := zmulb (a := (PC k).toInt) (b := (zf_X9_size v).toInt) (A := 100000) (B := 80000) (by omega) (by omega)
  have hp : 0 ≤ (PC k).toInt * (zf_X9_size v).toInt := Int.mul_nonneg (by omega) (by omega)
  have hm := zmul64 (a := (PC k).toInt64) (b := zf_X9_size v) (by rw [ec]; omega) (by rw [ec]; omega)
  rw [ec] at hm
  refine ⟨by rw [e0, e], ?_, ?_, ?_⟩ <;> rw [e0, hm] <;> omega
theorem zspare (h : zRP v PX PY PC PN POX POY POW) {k : Nat} (hk : k < 3) : zf_X4_spare PX PY PC PN POX POY POW k = zf_X9_capacity v k - zf_X9_loadOf v k ∧ (zf_X4_spare PX PY PC PN POX POY POW k).toInt = (zf_X9_capacity v k).toInt - (zf_X9_loadOf v k).toInt := by
  obtain ⟨c1, c2, c3, c4⟩ := zcapI h hk
  have hl := zloadI h k
  have e0 : zf_X4_spare PX PY PC PN POX POY POW k = zf_X9_capacity v k - zf_X9_loadOf v k := by rw [zf_X4_spare_e, znum h, c1]
  exact ⟨e0, by rw [e0, zsub64 (by omega) (by omega)]⟩
theorem zovers (h : zRP v PX PY PC PN POX POY POW) : zf_X4_overloadedCells PX PY PC PN POX POY POW = zf_X9_overs v := by
  have key : ∀ n j x, j + n = 3 → zl_X4_overloadedCells_4 PX PY PC PN POX POY POW n j x = zl_X9_overs_4 v n j x := by
    intro n
    induction n with
    | zero => intro j x _; rfl
    | succ n ih =>
      intro j x hj
      rw [zl_X4_overloadedCells_4_s, zl_X9_overs_4_s, ih _ _ (by omega), ih _ _ (by omega), Int32.or_zero]
      have hs := (zspare h (k := j) (by omega)).2
      have e : (0 : Int64) ≤ zf_X4_spare PX PY PC PN POX POY POW j ↔ zf_X9_loadOf v j ≤ zf_X9_capacity v j := by rw [zle0, hs, zle64]; omega
      by_cases c : zf_X9_loadOf v j ≤ zf_X9_capacity v j
      · rw [if_pos c, if_pos (e.mpr c)]
      · rw [if_neg c, if_neg (fun q => c (e.mp q))]
  rw [zf_X4_overloadedCells_e, zf_X9_overs_e]
  exact key 3 0 0 (by omega)
end ZLD
