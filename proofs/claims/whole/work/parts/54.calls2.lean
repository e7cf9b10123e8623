/-! reading and room on both sides -/
theorem zxorS {x y : Int64} (hy : 0 ≤ y.toInt) : 0 ≤ x ^^^ y ↔ 0 ≤ x.toInt := by
  have h1 := BitVec.msb_eq_toInt (x := (x ^^^ y).toBitVec)
  rw [Int64.toBitVec_xor, BitVec.msb_xor, BitVec.msb_eq_toInt, BitVec.msb_eq_toInt] at h1
  have e1 : x.toBitVec.toInt = x.toInt := rfl
  have e2 : y.toBitVec.toInt = y.toInt := rfl
  have e3 : (x.toBitVec ^^^ y.toBitVec).toInt = (x ^^^ y).toInt := rfl
  rw [e1, e2, e3] at h1
  rw [zle0]
  by_cases c : x.toInt < 0
  · rw [decide_eq_true c, decide_eq_false (by omega : ¬ y.toInt < 0)] at h1
    have := of_decide_eq_true h1.symm
    omega
  · rw [decide_eq_false c, decide_eq_false (by omega : ¬ y.toInt < 0)] at h1
    have := of_decide_eq_false h1.symm
    omega
theorem ztd (X Y : Int) (hY : 0 < Y) : X.tdiv Y * Y + X.tmod Y = X ∧ -Y < X.tmod Y ∧ X.tmod Y < Y ∧ (0 ≤ X → 0 ≤ X.tmod Y) ∧ (X < 0 → X.tmod Y ≤ 0) := by
  have e := Int.mul_tdiv_add_tmod X Y
  have b1 := Int.tmod_lt_of_pos X hY
  have b2 := Int.lt_tmod_of_pos X hY
  refine ⟨by rw [Int.mul_comm]; exact e, b2, b1, fun h => Int.tmod_nonneg Y h, fun h => ?_⟩
  have h2 : (-X).tmod Y = -(X.tmod Y) := Int.neg_tmod X Y
  have h3 := Int.tmod_nonneg (a := -X) Y (by omega)
  omega
theorem zquo {x y : Int64} (hx : ¬ x = -9223372036854775808) : (x / y).toInt = x.toInt.tdiv y.toInt := Int64.toInt_div_of_ne_left x y (fun q => hx q)
theorem zfloor {x y : Int64} (h1 : -1000000000000 ≤ x.toInt) (h2 : x.toInt ≤ 1000000000000) (h3 : 0 < y.toInt) (h4 : y.toInt ≤ 1000000000000) : zf_J9_floorDiv_f86c9 x y = zf_X9_floor x y := by
  have hq := zquo (y := y) (zMINI (x := x) (by omega))
  obtain ⟨e, b1, b2, b3, b4⟩ := ztd x.toInt y.toInt h3
  have hm : (x / y * y).toInt = x.toInt.tdiv y.toInt * y.toInt := by rw [zmul64 (by rw [hq]; omega) (by rw [hq]; omega), hq]
  have hr : (zremL x y).toInt = x.toInt.tmod y.toInt := by
    unfold zremL
    rw [zsub64 (by rw [hm]; omega) (by rw [hm]; omega), hm]
    omega
  rw [zf_J9_floorDiv_f86c9_e, zf_X9_floor_e]
  by_cases c : 0 ≤ x.toInt
  · rw [if_pos ((zxorS (by omega)).mpr c), if_pos (by rw [zle0, hr]; exact b3 c)]
  · rw [if_neg (fun q => c ((zxorS (by omega)).mp q))]
    by_cases d : x / y * y = x
    · have hm2 : x.toInt = x.toInt.tdiv y.toInt * y.toInt := by rw [← hm, d]
      rw [if_pos d, if_pos (by rw [zle0, hr]; omega)]
    · rw [if_neg d, if_neg]
      intro q
      rw [zle0, hr] at q
      have := b4 (by omega)
      exact d (Int64.toInt_inj.mp (by rw [hm]; omega))
theorem zunit {v : Nat → Int64} {PX PY PC : Nat → Int32} {PN : Nat} {POX POY POW : Nat → Int32} (h : zRP v PX PY PC PN POX POY POW) {t : Int32} (ht : 1 ≤ t.toInt ∧ t.toInt ≤ 100) : 0 < (zf_X9_size v * t.toInt64).toInt ∧ (zf_X9_size v * t.toInt64).toInt ≤ 8000000 := by
  obtain ⟨-, s1, s2⟩ := zsize h
  have et : t.toInt64.toInt = t.toInt := Int32.toInt_toInt64 _
  have hb := zmulb (a := (zf_X9_size v).toInt) (b := t.toInt) (A := 80000) (B := 100) (by omega) (by omega)
  have hp := Int.mul_pos s1 (show 0 < t.toInt by omega)
  rw [zmul64 (by rw [et]; omega) (by rw [et]; omega), et]
  omega
theorem zwt {t : Int32} (h : zf_X9_within t.toInt64 (1 : Int64) (100 : Int64) = true) : 1 ≤ t.toInt ∧ t.toInt ≤ 100 := by
  rw [zqW] at h
  have a1 : (1 : Int64).toInt = 1 := by decide
  have a2 : (100 : Int64).toInt = 100 := by decide
  omega
theorem zrdh {v : Nat → Int64} {PX PY PC : Nat → Int32} {PN : Nat} {POX POY POW : Nat → Int32} (h : zRP v PX PY PC PN POX POY POW) : ∀ t : Int32, zf_X9_within t.toInt64 (1 : Int64) (100 : Int64) = true → ¬ (zf_X9_size v) * t.toInt64 = 0 := fun t ht q => by
  have := zunit h (zwt ht)
  rw [zeq0] at q
  omega
theorem zp_reading {MNow MPast : Nat → Int64} {MSav : Nat} {PX : Nat → Int32} {PY : Nat → Int32} {PC : Nat → Int32} {PN : Nat} {POX : Nat → Int32} {POY : Nat → Int32} {POW : Nat → Int32} {bH : Nat} {bW : Nat → Int64} {bT : Nat} {bM : Nat → Nat → Int32} {rS : Nat} {rSt : Nat → Int32} {rHo : Nat → Int32} {rE : Nat} {rEl : Nat → Int32} {rEh : Nat → Int32} {zSc : Nat} {zVX : Nat → Nat → Int32} {zVY : Nat → Nat → Int32} {zVC : Nat → Nat → Int32} {zVN : Nat → Nat} {zVOX : Nat → Nat → Int32} {zVOY : Nat → Nat → Int32} {zVOW : Nat → Nat → Int32} {zVH : Nat → Nat} {zVW : Nat → Nat → Int64} {zVT : Nat → Nat} {zVM : Nat → Nat → Nat → Int32} {zVS : Nat → Nat} {zVSt : Nat → Nat → Int32} {zVHo : Nat → Nat → Int32} {zVE : Nat → Nat} {zVEl : Nat → Nat → Int32} {zVEh : Nat → Nat → Int32} (h : zRel MNow MPast MSav PX PY PC PN POX POY POW bH bW bT bM rS rSt rHo rE rEl rEh zSc zVX zVY zVC zVN zVOX zVOY zVOW zVH zVW zVT zVM zVS zVSt zVHo zVE zVEl zVEh) (k : Int32) (t : Int32) : zOut ((zf_X8_reading PX PY PN POX POY POW k t).1) [1, 2] ((zf_X9_reading MNow k t).2) ((((zf_X8_reading PX PY PN POX POY POW k t).2)).toInt64) ((((zf_X9_reading MNow k t).1)).toInt64) (True) := by
  obtain ⟨⟨hP, hB, hR⟩, -, -, -⟩ := id h
  rw [zf_X8_reading_e, zf_X9_reading_e]
  by_cases c1 : zf_X8_requireIndex k (3 : Int32) = 0
  · rw [if_pos c1, if_pos (zqC.mp c1)]
    have e2 : zf_X8_requireRange t (1 : Int32) (100 : Int32) = 0 ↔ zf_X9_within t.toInt64 (1 : Int64) (100 : Int64) = true := zqRW (by decide) (by decide)
    by_cases c2 : zf_X8_requireRange t (1 : Int32) (100 : Int32) = 0
    · rw [if_pos c2, if_pos (e2.mp c2)]
      refine zOut_ok rfl (congrArg Int32.toInt64 ?_) trivial
      have hu := zunit hP (zwt (e2.mp c2))
      have hl := zloadI hP (zi k)
      show zf_X4_shownLoad PX PY PN POX POY POW (zi k) t = _
      rw [zf_X4_shownLoad_e, (zsize hP).1, if_neg (zrdh hP t (e2.mp c2)), znum hP, zfloor (by omega) (by omega) (by omega) (by omega), Int64.toInt32_mul, Int32.toInt32_toInt64]
    · rw [if_neg c2, if_neg (fun q => c2 (e2.mpr q))]
      exact zOut_no (zk2 c2) (by decide) rfl trivial
  · rw [if_neg c1, if_neg (fun q => c1 (zqC.mpr q))]
    exact zOut_no (zk1 c1) (by decide) rfl trivial
/-! room: the two runs of least bounds -/
theorem zminI (a b : Int64) : (zminL a b).toInt ≤ a.toInt ∧ (zminL a b).toInt ≤ b.toInt ∧ ((zminL a b).toInt = a.toInt ∨ (zminL a b).toInt = b.toInt) := by
  unfold zminL
  split
  · rename_i h; rw [zlt64] at h; omega
  · rename_i h; rw [zlt64] at h; omega
def zstp (S L G m : Int64) : Int64 := if S ≤ 0 then (if 0 ≤ S then m else zminL m (L / (-S))) else zminL m (G / S)
theorem zstp_k (S L G : Int64) : (∀ m, zstp S L G m = m) ∨ ∃ Q : Int64, ∀ m, zstp S L G m = zminL m Q := by
  unfold zstp
  by_cases h1 : S ≤ 0
  · by_cases h2 : 0 ≤ S
    · exact .inl fun m => by rw [if_pos h1, if_pos h2]
    · exact .inr ⟨L / (-S), fun m => by rw [if_pos h1, if_neg h2]⟩
  · exact .inr ⟨G / S, fun m => by rw [if_neg h1]⟩
theorem zmin_if (x q : Int64) {α : Type} (f : Int64 → α) : (if x ≤ q then f x else f q) = f (zminL x q) := by
  unfold zminL
  by_cases h : x ≤ q
  · rw [if_pos h, if_neg (by rw [zlt64]; rw [zle64] at h; omega)]
  · rw [if_neg h, if_pos (by rw [zlt64]; rw [zle64] at h; omega)]
section ZRM
variable {v : Nat → Int64} {PX PY PC : Nat → Int32} {PN : Nat} {POX POY POW : Nat → Int32}
theorem zshM (h : zRP v PX PY PC PN POX POY POW) (k : Nat) {x y : Int32} (hx : zpl x) (hy : zpl y) : zf_X9_share v k (1 : Int64) x.toInt64 y.toInt64 = zf_X4_signedArea PX PY k x y := by
  have := zshare h k hx hy 1
  rw [Int64.one_mul, Int64.one_mul, Int64.one_mul] at this
  exact this.symm
theorem zrmC (h : zRP v PX PY PC PN POX POY POW) (x y : Int32) : ∀ n j m, j + n = 3 → zl_X4_greatestAddition_23 PX PY PC PN POX POY POW x y (n + 1) j m = zl_X4_greatestAddition_23 PX PY PC PN POX POY POW x y n (j + 1) (zstp (zf_X4_share PX PY j x y) (zf_X9_loadOf v j) (zf_X4_spare PX PY PC PN POX POY POW j) m) := by
  intro n j m _
  rw [zl_X4_greatestAddition_23_s, znum h]
  unfold zstp
  split <;> (try split) <;> rfl
theorem zrmM (h : zRP v PX PY PC PN POX POY POW) {x y : Int32} (hx : zpl x) (hy : zpl y) : ∀ n j m, j < 3 → zl_X9_room_45 v x y (n + 1) j m = zl_X9_room_45 v x y n (j + 1) (zstp (zf_X4_share PX PY j x y) (zf_X9_loadOf v j) (zf_X4_spare PX PY PC PN POX POY POW j) m) := by
  intro n j m hj
  rw [zl_X9_room_45_s, zshM h j hx hy, (zspare h hj).1, zf_X4_share_e, zarea h]
  unfold zstp
  by_cases c : (0 : Int64) ≤ zf_X9_area v
  · rw [if_pos c, if_pos c]
    generalize zf_X4_signedArea PX PY j x y = S
    by_cases c1 : S ≤ 0
    · rw [if_pos c1, if_pos c1]
      by_cases c2 : 0 ≤ S
      · rw [if_pos c2, if_pos c2, zmin_if m m (fun z => zl_X9_room_45 v x y n (j + 1) z)]
        congr 1
        unfold zminL
        split <;> rfl
      · rw [if_neg c2, if_neg c2, zmin_if m _ (fun z => zl_X9_room_45 v x y n (j + 1) z)]
    · rw [if_neg c1, if_neg c1, zmin_if m _ (fun z => zl_X9_room_45 v x y n (j + 1) z)]
  · rw [if_neg c, if_neg c]
    generalize -zf_X4_signedArea PX PY j x y = S
    by_cases c1 : S ≤ 0
    · rw [if_pos c1, if_pos c1]
      by_cases c2 : 0 ≤ S
      · rw [if_pos c2, if_pos c2, zmin_if m m (fun z => zl_X9_room_45 v x y n (j + 1) z)]
        congr 1
        unfold zminL
        split <;> rfl
      · rw [if_neg c2, if_neg c2, zmin_if m _ (fun z => zl_X9_room_45 v x y n (j + 1) z)]
    · rw [if_neg c1, if_neg c1, zmin_if m _ (fun z => zl_X9_room_45 v x y n (j + 1) z)]
theorem zshS (h : zRP v PX PY PC PN POX POY POW) {x y : Int32} (hx : zpl x) (hy : zpl y) : (zf_X4_share PX PY 0 x y).toInt + (zf_X4_share PX PY 1 x y).toInt + (zf_X4_share PX PY 2 x y).toInt = (zf_X9_size v).toInt := by
  obtain ⟨e, b1, b2⟩ := zareaI h
  obtain ⟨e0, p0, q0⟩ := zsa_b h.pl 0 hx hy
  obtain ⟨e1, p1, q1⟩ := zsa_b h.pl 1 hx hy
  obtain ⟨e2, p2, q2⟩ := zsa_b h.pl 2 hx hy
  have hs : zsaI PX PY 0 x y + zsaI PX PY 1 x y + zsaI PX PY 2 x y = zarI PX PY := by
    unfold zsaI zarI
    simp only [Nat.reduceAdd, Nat.reduceMod]
    grind
  rw [zf_X4_share_e, zf_X4_share_e, zf_X4_share_e, zf_X9_size_e, zarea h]
  by_cases c : (0 : Int64) ≤ zf_X9_area v
  · rw [if_pos c, if_pos c, if_pos c, if_pos c]; omega
  · rw [if_neg c, if_neg c, if_neg c, if_neg c, zneg64 (zMINI (by omega)), zneg64 (zMINI (by omega)), zneg64 (zMINI (by omega)), zneg64 (zMINI (by omega))]; omega
/-- a cell of a great share bounds the room -/
theorem zrmB (h : zRP v PX PY PC PN POX POY POW) {k : Nat} (hk : k < 3) {x y : Int32} (hx : zpl x) (hy : zpl y) (hL : 0 ≤ (zf_X9_loadOf v k).toInt) (hS : (zf_X9_size v).toInt ≤ 3 * (zf_X4_share PX PY k x y).toInt) : ∃ Q : Int64, Q.toInt ≤ 300000 ∧ ∀ m, zstp (zf_X4_share PX PY k x y) (zf_X9_loadOf v k) (zf_X4_spare PX PY PC PN POX POY POW k) m = zminL m Q := by
  obtain ⟨-, s1, s2⟩ := zsize h
  obtain ⟨-, c2, c3, c4⟩ := zcapI h hk
  obtain ⟨-, g2⟩ := zspare h hk
  have hl := zloadI h k
  have hsh := zshI h k hx hy
  obtain ⟨-, -, -, -, -, d2, d3⟩ := h.1 k hk
  generalize hSe : zf_X4_share PX PY k x y = S at hS hsh ⊢
  generalize hGe : zf_X4_spare PX PY PC PN POX POY POW k = G at g2 ⊢
  have hpos : 0 < S.toInt := by omega
  refine ⟨G / S, ?_, fun m => ?_⟩
  · rw [zquo (zMINI (by omega))]
    obtain ⟨e, b1, b2, -, -⟩ := ztd G.toInt S.toInt hpos
    have hc : (PC k).toInt * (zf_X9_size v).toInt ≤ 100000 * (3 * S.toInt) := by
      have a1 : (PC k).toInt * (zf_X9_size v).toInt ≤ 100000 * (zf_X9_size v).toInt := Int.mul_le_mul_of_nonneg_right d3 (by omega)
      omega
    rcases Int.lt_or_le 300000 (G.toInt.tdiv S.toInt) with q | q
    · exfalso
      have a2 : 300001 * S.toInt ≤ G.toInt.tdiv S.toInt * S.toInt := Int.mul_le_mul_of_nonneg_right (by omega) (by omega)
      omega
    · exact q
  · unfold zstp
    rw [if_neg (by rw [zle64, z0I]; omega)]
theorem zrmE {a b c : Int64 → Int64} {Q : Int64} (ha : (∀ m, a m = m) ∨ ∃ Q : Int64, ∀ m, a m = zminL m Q) (hb : (∀ m, b m = m) ∨ ∃ Q : Int64, ∀ m, b m = zminL m Q) (hc : (∀ m, c m = m) ∨ ∃ Q : Int64, ∀ m, c m = zminL m Q) (hQ : Q.toInt ≤ 300000) (hq : (∀ m, a m = zminL m Q) ∨ (∀ m, b m = zminL m Q) ∨ (∀ m, c m = zminL m Q)) : c (b (a 300000)) = c (b (a 1000000000000000)) := by
  have e1 : (300000 : Int64).toInt = 300000 := by decide
  have e2 : (1000000000000000 : Int64).toInt = 1000000000000000 := by decide
  have key : ∀ {f : Int64 → Int64}, ((∀ m, f m = m) ∨ ∃ Q : Int64, ∀ m, f m = zminL m Q) → ∀ x y : Int64, (x = y ∨ (300000 ≤ x.toInt ∧ 300000 ≤ y.toInt)) → (f x = f y ∨ (300000 ≤ (f x).toInt ∧ 300000 ≤ (f y).toInt)) := by
    intro f hf x y hxy
    rcases hxy with rfl | hxy
    · exact .inl rfl
    rcases hf with hf | ⟨P, hf⟩
    · rw [hf, hf]; exact .inr hxy
    · rw [hf, hf]
      have m1 := zminI x P
      have m2 := zminI y P
      by_cases q : P.toInt < 300000
      · exact .inl (Int64.toInt_inj.mp (by omega))
      · exact .inr (by omega)
  have kq : ∀ {f : Int64 → Int64}, (∀ m, f m = zminL m Q) → ∀ x y : Int64, (x = y ∨ (300000 ≤ x.toInt ∧ 300000 ≤ y.toInt)) → f x = f y := by
    intro f hf x y hxy
    rcases hxy with rfl | hxy
    · rfl
    · rw [hf, hf]
      have m1 := zminI x Q
      have m2 := zminI y Q
      exact Int64.toInt_inj.mp (by omega)
  have s0 : ((300000 : Int64) = 1000000000000000 ∨ (300000 ≤ (300000 : Int64).toInt ∧ 300000 ≤ (1000000000000000 : Int64).toInt)) := .inr (by rw [e1, e2]; omega)
  rcases hq with hq | hq | hq
  · rw [kq hq _ _ s0]
  · rw [kq hq _ _ (key ha _ _ s0)]
  · rw [kq hq _ _ (key hb _ _ (key ha _ _ s0))]
theorem zstL {v : Nat → Int64} (h : zf_X9_isStill v = true) : ∀ k, k < 3 → 0 ≤ (zf_X9_loadOf v k).toInt := by
  rw [zf_X9_isStill_e] at h
  split at h
  · exact absurd h (by decide)
  · split at h
    · exact absurd h (by decide)
    · split at h
      · exact absurd h (by decide)
      · rename_i h0 h1 h2
        rw [Int64.not_lt, zle0] at h0 h1 h2
        intro k hk
        rcases (show k = 0 ∨ k = 1 ∨ k = 2 by omega) with rfl | rfl | rfl
        · exact h0
        · exact h1
        · exact h2
theorem zroomE (h : zRP v PX PY PC PN POX POY POW) {x y : Int32} (hx : zpl x) (hy : zpl y) (hst : zf_X9_isStill v = true) : zl_X4_greatestAddition_23 PX PY PC PN POX POY POW x y 3 0 (300000 : Int64) = zl_X9_room_45 v x y 3 0 (1000000000000000 : Int64) := by
  have hL := zstL hst
  have hS := zshS h hx hy
  obtain ⟨-, s1, -⟩ := zsize h
  have c3 : ∀ m, zl_X4_greatestAddition_23 PX PY PC PN POX POY POW x y 3 0 m = zstp (zf_X4_share PX PY 2 x y) (zf_X9_loadOf v 2) (zf_X4_spare PX PY PC PN POX POY POW 2) (zstp (zf_X4_share PX PY 1 x y) (zf_X9_loadOf v 1) (zf_X4_spare PX PY PC PN POX POY POW 1) (zstp (zf_X4_share PX PY 0 x y) (zf_X9_loadOf v 0) (zf_X4_spare PX PY PC PN POX POY POW 0) m)) := fun m => by
    have e : ∀ n j m, zl_X4_greatestAddition_23 PX PY PC PN POX POY POW x y (n + 1) j m = zl_X4_greatestAddition_23 PX PY PC PN POX POY POW x y n (j + 1) (zstp (zf_X4_share PX PY j x y) (zf_X9_loadOf v j) (zf_X4_spare PX PY PC PN POX POY POW j) m) := by
      intro n j m
      rw [zl_X4_greatestAddition_23_s, znum h]
      unfold zstp
      split <;> (try split) <;> rfl
    rw [e, e, e]
    rfl
  have m3 : ∀ m, zl_X9_room_45 v x y 3 0 m = zstp (zf_X4_share PX PY 2 x y) (zf_X9_loadOf v 2) (zf_X4_spare PX PY PC PN POX POY POW 2) (zstp (zf_X4_share PX PY 1 x y) (zf_X9_loadOf v 1) (zf_X4_spare PX PY PC PN POX POY POW 1) (zstp (zf_X4_share PX PY 0 x y) (zf_X9_loadOf v 0) (zf_X4_spare PX PY PC PN POX POY POW 0) m)) := fun m => by
    rw [zrmM h hx hy 2 0 m (by decide), zrmM h hx hy 1 1 _ (by decide), zrmM h hx hy 0 2 _ (by decide)]
    rfl
  rw [c3, m3]
  rcases (show (zf_X9_size v).toInt ≤ 3 * (zf_X4_share PX PY 0 x y).toInt ∨ (zf_X9_size v).toInt ≤ 3 * (zf_X4_share PX PY 1 x y).toInt ∨ (zf_X9_size v).toInt ≤ 3 * (zf_X4_share PX PY 2 x y).toInt by omega) with q | q | q
  · obtain ⟨Q, hQ, hq⟩ := zrmB h (by decide) hx hy (hL 0 (by decide)) q
    exact zrmE (a := zstp _ _ _) (b := zstp _ _ _) (c := zstp _ _ _) (zstp_k _ _ _) (zstp_k _ _ _) (zstp_k _ _ _) hQ (.inl hq)
  · obtain ⟨Q, hQ, hq⟩ := zrmB h (by decide) hx hy (hL 1 (by decide)) q
    exact zrmE (a := zstp _ _ _) (b := zstp _ _ _) (c := zstp _ _ _) (zstp_k _ _ _) (zstp_k _ _ _) (zstp_k _ _ _) hQ (.inr (.inl hq))
  · obtain ⟨Q, hQ, hq⟩ := zrmB h (by decide) hx hy (hL 2 (by decide)) q
    exact zrmE (a := zstp _ _ _) (b := zstp _ _ _) (c := zstp _ _ _) (zstp_k _ _ _) (zstp_k _ _ _) (zstp_k _ _ _) hQ (.inr (.inr hq))
end ZRM
theorem zp_room {MNow MPast : Nat → Int64} {MSav : Nat} {PX : Nat → Int32} {PY : Nat → Int32} {PC : Nat → Int32} {PN : Nat} {POX : Nat → Int32} {POY : Nat → Int32} {POW : Nat → Int32} {bH : Nat} {bW : Nat → Int64} {bT : Nat} {bM : Nat → Nat → Int32} {rS : Nat} {rSt : Nat → Int32} {rHo : Nat → Int32} {rE : Nat} {rEl : Nat → Int32} {rEh : Nat → Int32} {zSc : Nat} {zVX : Nat → Nat → Int32} {zVY : Nat → Nat → Int32} {zVC : Nat → Nat → Int32} {zVN : Nat → Nat} {zVOX : Nat → Nat → Int32} {zVOY : Nat → Nat → Int32} {zVOW : Nat → Nat → Int32} {zVH : Nat → Nat} {zVW : Nat → Nat → Int64} {zVT : Nat → Nat} {zVM : Nat → Nat → Nat → Int32} {zVS : Nat → Nat} {zVSt : Nat → Nat → Int32} {zVHo : Nat → Nat → Int32} {zVE : Nat → Nat} {zVEl : Nat → Nat → Int32} {zVEh : Nat → Nat → Int32} (h : zRel MNow MPast MSav PX PY PC PN POX POY POW bH bW bT bM rS rSt rHo rE rEl rEh zSc zVX zVY zVC zVN zVOX zVOY zVOW zVH zVW zVT zVM zVS zVSt zVHo zVE zVEl zVEh) (x : Int32) (y : Int32) : zOut ((zf_X8_room PX PY PC PN POX POY POW x y).1) [2] ((zf_X9_room MNow x y).2) ((((zf_X8_room PX PY PC PN POX POY POW x y).2)).toInt64) ((((zf_X9_room MNow x y).1)).toInt64) (True) := by
  obtain ⟨⟨hP, hB, hR⟩, -, -, -⟩ := id h
  rw [zf_X8_room_e, zf_X9_room_e]
  by_cases c1 : zf_X8_requirePlace x y = 0
  · rw [if_pos c1, if_pos (zqP.mp c1)]
    obtain ⟨hx, hy⟩ := zqPl c1
    rw [zf_X4_greatestAddition_e, zstill hP, zovers hP]
    by_cases c2 : zf_X9_isStill MNow = true
    · rw [if_pos c2, if_pos c2]
      by_cases c3 : zf_X9_overs MNow = 0
      · rw [if_pos c3, if_pos c3, zroomE hP hx hy c2]
        exact zOut_ok rfl rfl trivial
      · rw [if_neg c3, if_neg c3]
        exact zOut_ok rfl rfl trivial
    · rw [if_neg c2, if_neg c2]
      exact zOut_ok rfl rfl trivial
  · rw [if_neg c1, if_neg (fun q => c1 (zqP.mpr q))]
    exact zOut_no (zk2p c1) (by decide) rfl trivial
