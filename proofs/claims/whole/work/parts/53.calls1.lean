/-! The platform's calls on both sides. -/
theorem zu_eq (f : Nat → Int32) (k : Nat) (x : Int32) : upd f k x k = x := if_pos rfl
theorem zu_ne {f : Nat → Int32} {k j : Nat} {x : Int32} (h : j ≠ k) : upd f k x j = f j := if_neg h
theorem zcN {x : Int64} {n : Nat} (h : x = lN n) (hn : n < 2 ^ 31) : zc x = n := by rw [h]; unfold zc; rw [pk_lT (by omega)]; omega
theorem zqR {x y z : Int32} : zf_X8_requireRange x y z = 0 ↔ y.toInt ≤ x.toInt ∧ x.toInt ≤ z.toInt := by
  constructor
  · exact zrqR
  · intro h
    rw [zf_X8_requireRange_e, if_neg (by rw [Int32.lt_iff_toInt_lt]; omega), if_pos (by rw [Int32.le_iff_toInt_le]; omega)]
theorem zqI {k : Int32} {n : Nat} (hn : n < 2 ^ 31) : zf_X8_requireIndex k (nI n) = 0 ↔ 0 ≤ k.toInt ∧ k.toInt < n := by
  constructor
  · intro h
    have := zrqI h
    rw [nI_toInt hn] at this
    exact this
  · intro h
    have e0 : (0 : Int32).toInt = 0 := by decide
    rw [zf_X8_requireIndex_e, if_neg (by rw [Int32.lt_iff_toInt_lt]; omega), if_pos (by rw [Int32.lt_iff_toInt_lt, nI_toInt hn]; omega)]
theorem zqW {x : Int32} {a b : Int64} : zf_X9_within x.toInt64 a b = true ↔ a.toInt ≤ x.toInt ∧ x.toInt ≤ b.toInt := by rw [zw_iff, zt64]
theorem zqRW {x y z : Int32} {a b : Int64} (ha : a.toInt = y.toInt) (hb : b.toInt = z.toInt) : zf_X8_requireRange x y z = 0 ↔ zf_X9_within x.toInt64 a b = true := by rw [zqR, zqW, ha, hb]
theorem zqIW {k : Int32} {n : Nat} (hn : n < 2 ^ 30) : zf_X8_requireIndex k (nI n) = 0 ↔ zf_X9_within k.toInt64 (0 : Int64) ((nI n - (1 : Int32)).toInt64) = true := by
  have e : (nI n - (1 : Int32)).toInt = (n : Int) - 1 := by
    rcases Nat.eq_zero_or_pos n with q | q
    · subst q; decide
    · rw [show (1 : Int32) = nI 1 from rfl, pk_sub q, nI_toInt (by omega)]; omega
  rw [zqI (by omega), zqW, z0I, Int32.toInt_toInt64, e]
  omega
theorem zqC {k : Int32} : zf_X8_requireIndex k (3 : Int32) = 0 ↔ zf_X9_isCell k = true := by
  rw [show (3 : Int32) = nI 3 from rfl, zqI (by decide), zf_X9_isCell_e, zqW, z0I, show ((2 : Int64).toInt) = 2 by decide]
  omega
theorem zqP {x y : Int32} : zf_X8_requirePlace x y = 0 ↔ zf_X9_isPlace x y = true := by
  have e1 : zf_X8_requireRange x (-100 : Int32) (100 : Int32) = 0 ↔ zf_X9_within x.toInt64 (-100 : Int64) (100 : Int64) = true := zqRW (by decide) (by decide)
  have e2 : zf_X8_requireRange y (-100 : Int32) (100 : Int32) = 0 ↔ zf_X9_within y.toInt64 (-100 : Int64) (100 : Int64) = true := zqRW (by decide) (by decide)
  rw [zf_X8_requirePlace_e, zf_X9_isPlace_e]
  by_cases c1 : zf_X8_requireRange x (-100 : Int32) (100 : Int32) = 0
  · rw [if_pos c1, if_pos (e1.mp c1)]
    by_cases c2 : zf_X8_requireRange y (-100 : Int32) (100 : Int32) = 0
    · rw [if_pos c2, if_pos (e2.mp c2)]; simp
    · rw [if_neg c2, if_neg (fun q => c2 (e2.mpr q))]; simp [c2]
  · rw [if_neg c1, if_neg (fun q => c1 (e1.mpr q))]; simp [c1]
theorem zqPl {x y : Int32} (h : zf_X8_requirePlace x y = 0) : zpl x ∧ zpl y := by
  rw [zf_X8_requirePlace_e] at h
  by_cases c1 : zf_X8_requireRange x (-100 : Int32) (100 : Int32) = 0
  · rw [if_pos c1] at h
    by_cases c2 : zf_X8_requireRange y (-100 : Int32) (100 : Int32) = 0
    · have e1 := zqR.mp c1
      have e2 := zqR.mp c2
      have a1 : (-100 : Int32).toInt = -100 := by decide
      have a2 : (100 : Int32).toInt = 100 := by decide
      unfold zpl
      omega
    · rw [if_neg c2] at h; exact absurd h c2
  · rw [if_neg c1] at h; exact absurd h c1
theorem zqS {n m : Nat} (hn : n ≤ m) (hm : m < 2 ^ 31) : zf_X8_requireSpace (nI n) (nI m) = 0 ↔ ¬ n = m := by
  rw [zf_X8_requireSpace_e]
  by_cases c : nI n < nI m
  · rw [if_pos c]
    rw [Int32.lt_iff_toInt_lt, nI_toInt (by omega), nI_toInt hm] at c
    simp
    omega
  · rw [if_neg c]
    rw [Int32.lt_iff_toInt_lt, nI_toInt (by omega), nI_toInt hm] at c
    simp
    omega
/-- the exceptions' numbers where a check fails -/
theorem zk1 {x y : Int32} (h : ¬ zf_X8_requireIndex x y = 0) : zf_X8_requireIndex x y = 1 := (zk_requireIndex x y).resolve_left h
theorem zk2 {x y z : Int32} (h : ¬ zf_X8_requireRange x y z = 0) : zf_X8_requireRange x y z = 2 := (zk_requireRange x y z).resolve_left h
theorem zk2p {x y : Int32} (h : ¬ zf_X8_requirePlace x y = 0) : zf_X8_requirePlace x y = 2 := (zk_requirePlace x y).resolve_left h
theorem zk3 {x y : Int32} (h : ¬ zf_X8_requireSpace x y = 0) : zf_X8_requireSpace x y = 3 := (zk_requireSpace x y).resolve_left h
theorem zk3t {x : Nat} (h : ¬ zf_X8_requireTests x = 0) : zf_X8_requireTests x = 3 := (zk_requireTests x).resolve_left h
theorem zp_place {MNow MPast : Nat → Int64} {MSav : Nat} {PX : Nat → Int32} {PY : Nat → Int32} {PC : Nat → Int32} {PN : Nat} {POX : Nat → Int32} {POY : Nat → Int32} {POW : Nat → Int32} {bH : Nat} {bW : Nat → Int64} {bT : Nat} {bM : Nat → Nat → Int32} {rS : Nat} {rSt : Nat → Int32} {rHo : Nat → Int32} {rE : Nat} {rEl : Nat → Int32} {rEh : Nat → Int32} {zSc : Nat} {zVX : Nat → Nat → Int32} {zVY : Nat → Nat → Int32} {zVC : Nat → Nat → Int32} {zVN : Nat → Nat} {zVOX : Nat → Nat → Int32} {zVOY : Nat → Nat → Int32} {zVOW : Nat → Nat → Int32} {zVH : Nat → Nat} {zVW : Nat → Nat → Int64} {zVT : Nat → Nat} {zVM : Nat → Nat → Nat → Int32} {zVS : Nat → Nat} {zVSt : Nat → Nat → Int32} {zVHo : Nat → Nat → Int32} {zVE : Nat → Nat} {zVEl : Nat → Nat → Int32} {zVEh : Nat → Nat → Int32} (h : zRel MNow MPast MSav PX PY PC PN POX POY POW bH bW bT bM rS rSt rHo rE rEl rEh zSc zVX zVY zVC zVN zVOX zVOY zVOW zVH zVW zVT zVM zVS zVSt zVHo zVE zVEl zVEh) (zSD : Nat → Nat → Nat) (x : Int32) (y : Int32) (w : Int32) : zOut ((zf_X8_place zSD zSc PX PY PC PN POX POY POW bH bW bT bM rS rSt rHo rE rEl rEh zVX zVY zVC zVN zVOX zVOY zVOW zVH zVW zVT zVM zVS zVSt zVHo zVE zVEl zVEh x y w).1) [2, 3] ((zf_X9_place MNow MPast MSav x y w).2.1) ((nI (((zf_X8_place zSD zSc PX PY PC PN POX POY POW bH bW bT bM rS rSt rHo rE rEl rEh zVX zVY zVC zVN zVOX zVOY zVOW zVH zVW zVT zVM zVS zVSt zVHo zVE zVEl zVEh x y w).2.1))).toInt64) ((nI (((zf_X9_place MNow MPast MSav x y w).1))).toInt64) (zRel ((zf_X9_place MNow MPast MSav x y w).2.2.1) ((zf_X9_place MNow MPast MSav x y w).2.2.2.1) ((zf_X9_place MNow MPast MSav x y w).2.2.2.2) PX PY PC ((zf_X8_place zSD zSc PX PY PC PN POX POY POW bH bW bT bM rS rSt rHo rE rEl rEh zVX zVY zVC zVN zVOX zVOY zVOW zVH zVW zVT zVM zVS zVSt zVHo zVE zVEl zVEh x y w).2.2.2.2.2.2.2.2.2.2.2.2.2.2.2.2.2.2.2.2.2.1) ((zf_X8_place zSD zSc PX PY PC PN POX POY POW bH bW bT bM rS rSt rHo rE rEl rEh zVX zVY zVC zVN zVOX zVOY zVOW zVH zVW zVT zVM zVS zVSt zVHo zVE zVEl zVEh x y w).2.2.2.2.2.2.2.2.2.2.2.2.2.2.2.2.2.2.2.2.2.2.1) ((zf_X8_place zSD zSc PX PY PC PN POX POY POW bH bW bT bM rS rSt rHo rE rEl rEh zVX zVY zVC zVN zVOX zVOY zVOW zVH zVW zVT zVM zVS zVSt zVHo zVE zVEl zVEh x y w).2.2.2.2.2.2.2.2.2.2.2.2.2.2.2.2.2.2.2.2.2.2.2.1) ((zf_X8_place zSD zSc PX PY PC PN POX POY POW bH bW bT bM rS rSt rHo rE rEl rEh zVX zVY zVC zVN zVOX zVOY zVOW zVH zVW zVT zVM zVS zVSt zVHo zVE zVEl zVEh x y w).2.2.2.2.2.2.2.2.2.2.2.2.2.2.2.2.2.2.2.2.2.2.2.2) bH bW bT bM rS rSt rHo rE rEl rEh ((zf_X8_place zSD zSc PX PY PC PN POX POY POW bH bW bT bM rS rSt rHo rE rEl rEh zVX zVY zVC zVN zVOX zVOY zVOW zVH zVW zVT zVM zVS zVSt zVHo zVE zVEl zVEh x y w).2.2.2.1) ((zf_X8_place zSD zSc PX PY PC PN POX POY POW bH bW bT bM rS rSt rHo rE rEl rEh zVX zVY zVC zVN zVOX zVOY zVOW zVH zVW zVT zVM zVS zVSt zVHo zVE zVEl zVEh x y w).2.2.2.2.1) ((zf_X8_place zSD zSc PX PY PC PN POX POY POW bH bW bT bM rS rSt rHo rE rEl rEh zVX zVY zVC zVN zVOX zVOY zVOW zVH zVW zVT zVM zVS zVSt zVHo zVE zVEl zVEh x y w).2.2.2.2.2.1) ((zf_X8_place zSD zSc PX PY PC PN POX POY POW bH bW bT bM rS rSt rHo rE rEl rEh zVX zVY zVC zVN zVOX zVOY zVOW zVH zVW zVT zVM zVS zVSt zVHo zVE zVEl zVEh x y w).2.2.2.2.2.2.1) ((zf_X8_place zSD zSc PX PY PC PN POX POY POW bH bW bT bM rS rSt rHo rE rEl rEh zVX zVY zVC zVN zVOX zVOY zVOW zVH zVW zVT zVM zVS zVSt zVHo zVE zVEl zVEh x y w).2.2.2.2.2.2.2.1) ((zf_X8_place zSD zSc PX PY PC PN POX POY POW bH bW bT bM rS rSt rHo rE rEl rEh zVX zVY zVC zVN zVOX zVOY zVOW zVH zVW zVT zVM zVS zVSt zVHo zVE zVEl zVEh x y w).2.2.2.2.2.2.2.2.1) ((zf_X8_place zSD zSc PX PY PC PN POX POY POW bH bW bT bM rS rSt rHo rE rEl rEh zVX zVY zVC zVN zVOX zVOY zVOW zVH zVW zVT zVM zVS zVSt zVHo zVE zVEl zVEh x y w).2.2.2.2.2.2.2.2.2.1) ((zf_X8_place zSD zSc PX PY PC PN POX POY POW bH bW bT bM rS rSt rHo rE rEl rEh zVX zVY zVC zVN zVOX zVOY zVOW zVH zVW zVT zVM zVS zVSt zVHo zVE zVEl zVEh x y w).2.2.2.2.2.2.2.2.2.2.1) ((zf_X8_place zSD zSc PX PY PC PN POX POY POW bH bW bT bM rS rSt rHo rE rEl rEh zVX zVY zVC zVN zVOX zVOY zVOW zVH zVW zVT zVM zVS zVSt zVHo zVE zVEl zVEh x y w).2.2.2.2.2.2.2.2.2.2.2.1) ((zf_X8_place zSD zSc PX PY PC PN POX POY POW bH bW bT bM rS rSt rHo rE rEl rEh zVX zVY zVC zVN zVOX zVOY zVOW zVH zVW zVT zVM zVS zVSt zVHo zVE zVEl zVEh x y w).2.2.2.2.2.2.2.2.2.2.2.2.1) ((zf_X8_place zSD zSc PX PY PC PN POX POY POW bH bW bT bM rS rSt rHo rE rEl rEh zVX zVY zVC zVN zVOX zVOY zVOW zVH zVW zVT zVM zVS zVSt zVHo zVE zVEl zVEh x y w).2.2.2.2.2.2.2.2.2.2.2.2.2.1) ((zf_X8_place zSD zSc PX PY PC PN POX POY POW bH bW bT bM rS rSt rHo rE rEl rEh zVX zVY zVC zVN zVOX zVOY zVOW zVH zVW zVT zVM zVS zVSt zVHo zVE zVEl zVEh x y w).2.2.2.2.2.2.2.2.2.2.2.2.2.2.1) ((zf_X8_place zSD zSc PX PY PC PN POX POY POW bH bW bT bM rS rSt rHo rE rEl rEh zVX zVY zVC zVN zVOX zVOY zVOW zVH zVW zVT zVM zVS zVSt zVHo zVE zVEl zVEh x y w).2.2.2.2.2.2.2.2.2.2.2.2.2.2.2.1) ((zf_X8_place zSD zSc PX PY PC PN POX POY POW bH bW bT bM rS rSt rHo rE rEl rEh zVX zVY zVC zVN zVOX zVOY zVOW zVH zVW zVT zVM zVS zVSt zVHo zVE zVEl zVEh x y w).2.2.2.2.2.2.2.2.2.2.2.2.2.2.2.2.1) ((zf_X8_place zSD zSc PX PY PC PN POX POY POW bH bW bT bM rS rSt rHo rE rEl rEh zVX zVY zVC zVN zVOX zVOY zVOW zVH zVW zVT zVM zVS zVSt zVHo zVE zVEl zVEh x y w).2.2.2.2.2.2.2.2.2.2.2.2.2.2.2.2.2.1) ((zf_X8_place zSD zSc PX PY PC PN POX POY POW bH bW bT bM rS rSt rHo rE rEl rEh zVX zVY zVC zVN zVOX zVOY zVOW zVH zVW zVT zVM zVS zVSt zVHo zVE zVEl zVEh x y w).2.2.2.2.2.2.2.2.2.2.2.2.2.2.2.2.2.2.1) ((zf_X8_place zSD zSc PX PY PC PN POX POY POW bH bW bT bM rS rSt rHo rE rEl rEh zVX zVY zVC zVN zVOX zVOY zVOW zVH zVW zVT zVM zVS zVSt zVHo zVE zVEl zVEh x y w).2.2.2.2.2.2.2.2.2.2.2.2.2.2.2.2.2.2.2.1) ((zf_X8_place zSD zSc PX PY PC PN POX POY POW bH bW bT bM rS rSt rHo rE rEl rEh zVX zVY zVC zVN zVOX zVOY zVOW zVH zVW zVT zVM zVS zVSt zVHo zVE zVEl zVEh x y w).2.2.2.2.2.2.2.2.2.2.2.2.2.2.2.2.2.2.2.2.1)) := by
  obtain ⟨⟨hP, hB, hR⟩, -, -, -⟩ := id h
  obtain ⟨pc, ⟨pn, p8⟩, po, pa⟩ := id hP
  have ez := zcN pn (by omega)
  rw [zf_X8_place_e, zf_X9_place_e]
  by_cases c1 : zf_X8_requirePlace x y = 0
  · rw [if_pos c1, if_pos (zqP.mp c1)]
    have e2 : zf_X8_requireRange w (1 : Int32) (1000 : Int32) = 0 ↔ zf_X9_within w.toInt64 (1 : Int64) (1000 : Int64) = true := zqRW (by decide) (by decide)
    by_cases c2 : zf_X8_requireRange w (1 : Int32) (1000 : Int32) = 0
    · rw [if_pos c2, if_pos (e2.mp c2)]
      by_cases c3 : zf_X8_requireSpace (nI PN) (8 : Int32) = 0
      · have hlt : ¬ PN = 8 := (zqS (n := PN) (m := 8) p8 (by decide)).mp c3
        rw [if_pos c3, if_neg (by rw [ez]; exact hlt)]
        simp only [ez]
        try dsimp only
        refine zOut_ok rfl (by rw [zf_X4_addObject_e, Nat.add_sub_cancel]) (zRel_save h ⟨?_, ?_, ?_⟩)
        · have hp := zqPl c1
          have hw := zqR.mp c2
          have a1 : (1 : Int32).toInt = 1 := by decide
          have a2 : (1000 : Int32).toInt = 1000 := by decide
          rw [zf_X4_addObject_e]
          refine ⟨fun i hi => ?_, ⟨?_, by show PN + 1 ≤ 8; omega⟩, fun i hi => ?_, pa⟩
          · rw [zuL_ne (by omega), zuL_ne (by omega), zuL_ne (by omega), zuL_ne (by omega), zuL_ne (by omega), zuL_ne (by omega), zuL_ne (by omega), zuL_ne (by omega), zuL_ne (by omega), zuL_ne (by omega), zuL_ne (by omega), zuL_ne (by omega)]
            exact pc i hi
          · rw [zuL_eq, zuL_ne (by omega), zuL_ne (by omega), zuL_ne (by omega), pn, zlN1]
          · have hi : i < PN + 1 := hi
            by_cases q : i = PN
            · subst q
              dsimp only
              rw [zu_eq, zu_eq, zu_eq]
              refine ⟨?_, ?_, ?_, hp.1, hp.2, by omega, by omega⟩
              · rw [zuL_ne (by omega), zuL_ne (by omega), zuL_ne (by omega), zuL_eq]
              · rw [zuL_ne (by omega), zuL_ne (by omega), zuL_eq]
              · rw [zuL_ne (by omega), zuL_eq]
            · dsimp only
              rw [zu_ne q, zu_ne q, zu_ne q, zuL_ne (by omega), zuL_ne (by omega), zuL_ne (by omega), zuL_ne (by omega), zuL_ne (by omega), zuL_ne (by omega), zuL_ne (by omega), zuL_ne (by omega), zuL_ne (by omega), zuL_ne (by omega), zuL_ne (by omega), zuL_ne (by omega)]
              exact po i (by omega)
        · exact hB.congr (fun k h1 h2 => by rw [zuL_ne (by omega), zuL_ne (by omega), zuL_ne (by omega), zuL_ne (by omega)]) (fun _ _ => rfl) (fun _ _ _ _ => rfl)
        · exact hR.congr (fun k h1 h2 => by rw [zuL_ne (by omega), zuL_ne (by omega), zuL_ne (by omega), zuL_ne (by omega)]) (fun _ _ => rfl) (fun _ _ => rfl) (fun _ _ => rfl) (fun _ _ => rfl)
      · have hlt : PN = 8 := Decidable.not_not.mp (fun q => c3 ((zqS (n := PN) (m := 8) p8 (by decide)).mpr q))
        rw [if_neg c3, if_pos (by rw [ez]; exact hlt)]
        exact zOut_no (zk3 c3) (by decide) rfl h
    · rw [if_neg c2, if_neg (fun q => c2 (e2.mpr q))]
      exact zOut_no (zk2 c2) (by decide) rfl h
  · rw [if_neg c1, if_neg (fun q => c1 (zqP.mpr q))]
    exact zOut_no (zk2p c1) (by decide) rfl h
/-! lift -/
theorem zrm11 (k : Nat) : ∀ n j o1 o2 o3 q, (zl_X4_removeObject_11 k n j o1 o2 o3).1 q = (if k + j ≤ q ∧ q < k + j + n then o1 (q + 1) else o1 q) ∧ (zl_X4_removeObject_11 k n j o1 o2 o3).2.1 q = (if k + j ≤ q ∧ q < k + j + n then o2 (q + 1) else o2 q) ∧ (zl_X4_removeObject_11 k n j o1 o2 o3).2.2 q = (if k + j ≤ q ∧ q < k + j + n then o3 (q + 1) else o3 q) := by
  have e1 : ∀ j, k + 1 + j - 1 = k + j := fun j => by omega
  have e2 : ∀ j, k + 1 + j = k + j + 1 := fun j => by omega
  intro n
  induction n with
  | zero => intro j o1 o2 o3 q; rw [if_neg (by omega), if_neg (by omega), if_neg (by omega)]; exact ⟨rfl, rfl, rfl⟩
  | succ n ih =>
    intro j o1 o2 o3 q
    obtain ⟨i1, i2, i3⟩ := ih (j + 1) (upd o1 (k + j) (o1 (k + j + 1))) (upd o2 (k + j) (o2 (k + j + 1))) (upd o3 (k + j) (o3 (k + j + 1))) q
    rw [zl_X4_removeObject_11_s, e1, e2, i1, i2, i3]
    by_cases h : k + (j + 1) ≤ q ∧ q < k + (j + 1) + n
    · simp only [if_pos h, if_pos (show k + j ≤ q ∧ q < k + j + (n + 1) by omega), zu_ne (show q + 1 ≠ k + j by omega)]
      exact ⟨trivial, trivial, trivial⟩
    · simp only [if_neg h]
      by_cases h2 : q = k + j
      · subst h2
        simp only [if_pos (show k + j ≤ k + j ∧ k + j < k + j + (n + 1) by omega), zu_eq]
        exact ⟨trivial, trivial, trivial⟩
      · simp only [if_neg (show ¬ (k + j ≤ q ∧ q < k + j + (n + 1)) by omega), zu_ne h2]
        exact ⟨trivial, trivial, trivial⟩
theorem zlf69 (k : Int32) : ∀ n j v q, zl_X9_lift_69 k n j v q = if 10 + 3 * zi k + j ≤ q ∧ q < 10 + 3 * zi k + j + n then v (q + 3) else v q := by
  intro n
  induction n with
  | zero => intro j v q; rw [if_neg (by omega)]; rfl
  | succ n ih =>
    intro j v q
    rw [zl_X9_lift_69_s, ih]
    by_cases h : 10 + 3 * zi k + (j + 1) ≤ q ∧ q < 10 + 3 * zi k + (j + 1) + n
    · rw [if_pos h, if_pos (by omega), zuL_ne (by omega)]
    · rw [if_neg h]
      by_cases h2 : q = 10 + 3 * zi k + j
      · subst h2; rw [zuL_eq, if_pos (by omega)]
      · rw [zuL_ne h2, if_neg (by omega)]
theorem zp_lift {MNow MPast : Nat → Int64} {MSav : Nat} {PX : Nat → Int32} {PY : Nat → Int32} {PC : Nat → Int32} {PN : Nat} {POX : Nat → Int32} {POY : Nat → Int32} {POW : Nat → Int32} {bH : Nat} {bW : Nat → Int64} {bT : Nat} {bM : Nat → Nat → Int32} {rS : Nat} {rSt : Nat → Int32} {rHo : Nat → Int32} {rE : Nat} {rEl : Nat → Int32} {rEh : Nat → Int32} {zSc : Nat} {zVX : Nat → Nat → Int32} {zVY : Nat → Nat → Int32} {zVC : Nat → Nat → Int32} {zVN : Nat → Nat} {zVOX : Nat → Nat → Int32} {zVOY : Nat → Nat → Int32} {zVOW : Nat → Nat → Int32} {zVH : Nat → Nat} {zVW : Nat → Nat → Int64} {zVT : Nat → Nat} {zVM : Nat → Nat → Nat → Int32} {zVS : Nat → Nat} {zVSt : Nat → Nat → Int32} {zVHo : Nat → Nat → Int32} {zVE : Nat → Nat} {zVEl : Nat → Nat → Int32} {zVEh : Nat → Nat → Int32} (h : zRel MNow MPast MSav PX PY PC PN POX POY POW bH bW bT bM rS rSt rHo rE rEl rEh zSc zVX zVY zVC zVN zVOX zVOY zVOW zVH zVW zVT zVM zVS zVSt zVHo zVE zVEl zVEh) (zSD : Nat → Nat → Nat) (k : Int32) : zOut ((zf_X8_lift zSD zSc PX PY PC PN POX POY POW bH bW bT bM rS rSt rHo rE rEl rEh zVX zVY zVC zVN zVOX zVOY zVOW zVH zVW zVT zVM zVS zVSt zVHo zVE zVEl zVEh k).1) [1] ((zf_X9_lift MNow MPast MSav k).2.1) ((((zf_X8_lift zSD zSc PX PY PC PN POX POY POW bH bW bT bM rS rSt rHo rE rEl rEh zVX zVY zVC zVN zVOX zVOY zVOW zVH zVW zVT zVM zVS zVSt zVHo zVE zVEl zVEh k).2.1)).toInt64) ((((zf_X9_lift MNow MPast MSav k).1)).toInt64) (zRel ((zf_X9_lift MNow MPast MSav k).2.2.1) ((zf_X9_lift MNow MPast MSav k).2.2.2.1) ((zf_X9_lift MNow MPast MSav k).2.2.2.2) PX PY PC ((zf_X8_lift zSD zSc PX PY PC PN POX POY POW bH bW bT bM rS rSt rHo rE rEl rEh zVX zVY zVC zVN zVOX zVOY zVOW zVH zVW zVT zVM zVS zVSt zVHo zVE zVEl zVEh k).2.2.2.2.2.2.2.2.2.2.2.2.2.2.2.2.2.2.2.2.2.1) ((zf_X8_lift zSD zSc PX PY PC PN POX POY POW bH bW bT bM rS rSt rHo rE rEl rEh zVX zVY zVC zVN zVOX zVOY zVOW zVH zVW zVT zVM zVS zVSt zVHo zVE zVEl zVEh k).2.2.2.2.2.2.2.2.2.2.2.2.2.2.2.2.2.2.2.2.2.2.1) ((zf_X8_lift zSD zSc PX PY PC PN POX POY POW bH bW bT bM rS rSt rHo rE rEl rEh zVX zVY zVC zVN zVOX zVOY zVOW zVH zVW zVT zVM zVS zVSt zVHo zVE zVEl zVEh k).2.2.2.2.2.2.2.2.2.2.2.2.2.2.2.2.2.2.2.2.2.2.2.1) ((zf_X8_lift zSD zSc PX PY PC PN POX POY POW bH bW bT bM rS rSt rHo rE rEl rEh zVX zVY zVC zVN zVOX zVOY zVOW zVH zVW zVT zVM zVS zVSt zVHo zVE zVEl zVEh k).2.2.2.2.2.2.2.2.2.2.2.2.2.2.2.2.2.2.2.2.2.2.2.2) bH bW bT bM rS rSt rHo rE rEl rEh ((zf_X8_lift zSD zSc PX PY PC PN POX POY POW bH bW bT bM rS rSt rHo rE rEl rEh zVX zVY zVC zVN zVOX zVOY zVOW zVH zVW zVT zVM zVS zVSt zVHo zVE zVEl zVEh k).2.2.2.1) ((zf_X8_lift zSD zSc PX PY PC PN POX POY POW bH bW bT bM rS rSt rHo rE rEl rEh zVX zVY zVC zVN zVOX zVOY zVOW zVH zVW zVT zVM zVS zVSt zVHo zVE zVEl zVEh k).2.2.2.2.1) ((zf_X8_lift zSD zSc PX PY PC PN POX POY POW bH bW bT bM rS rSt rHo rE rEl rEh zVX zVY zVC zVN zVOX zVOY zVOW zVH zVW zVT zVM zVS zVSt zVHo zVE zVEl zVEh k).2.2.2.2.2.1) ((zf_X8_lift zSD zSc PX PY PC PN POX POY POW bH bW bT bM rS rSt rHo rE rEl rEh zVX zVY zVC zVN zVOX zVOY zVOW zVH zVW zVT zVM zVS zVSt zVHo zVE zVEl zVEh k).2.2.2.2.2.2.1) ((zf_X8_lift zSD zSc PX PY PC PN POX POY POW bH bW bT bM rS rSt rHo rE rEl rEh zVX zVY zVC zVN zVOX zVOY zVOW zVH zVW zVT zVM zVS zVSt zVHo zVE zVEl zVEh k).2.2.2.2.2.2.2.1) ((zf_X8_lift zSD zSc PX PY PC PN POX POY POW bH bW bT bM rS rSt rHo rE rEl rEh zVX zVY zVC zVN zVOX zVOY zVOW zVH zVW zVT zVM zVS zVSt zVHo zVE zVEl zVEh k).2.2.2.2.2.2.2.2.1) ((zf_X8_lift zSD zSc PX PY PC PN POX POY POW bH bW bT bM rS rSt rHo rE rEl rEh zVX zVY zVC zVN zVOX zVOY zVOW zVH zVW zVT zVM zVS zVSt zVHo zVE zVEl zVEh k).2.2.2.2.2.2.2.2.2.1) ((zf_X8_lift zSD zSc PX PY PC PN POX POY POW bH bW bT bM rS rSt rHo rE rEl rEh zVX zVY zVC zVN zVOX zVOY zVOW zVH zVW zVT zVM zVS zVSt zVHo zVE zVEl zVEh k).2.2.2.2.2.2.2.2.2.2.1) ((zf_X8_lift zSD zSc PX PY PC PN POX POY POW bH bW bT bM rS rSt rHo rE rEl rEh zVX zVY zVC zVN zVOX zVOY zVOW zVH zVW zVT zVM zVS zVSt zVHo zVE zVEl zVEh k).2.2.2.2.2.2.2.2.2.2.2.1) ((zf_X8_lift zSD zSc PX PY PC PN POX POY POW bH bW bT bM rS rSt rHo rE rEl rEh zVX zVY zVC zVN zVOX zVOY zVOW zVH zVW zVT zVM zVS zVSt zVHo zVE zVEl zVEh k).2.2.2.2.2.2.2.2.2.2.2.2.1) ((zf_X8_lift zSD zSc PX PY PC PN POX POY POW bH bW bT bM rS rSt rHo rE rEl rEh zVX zVY zVC zVN zVOX zVOY zVOW zVH zVW zVT zVM zVS zVSt zVHo zVE zVEl zVEh k).2.2.2.2.2.2.2.2.2.2.2.2.2.1) ((zf_X8_lift zSD zSc PX PY PC PN POX POY POW bH bW bT bM rS rSt rHo rE rEl rEh zVX zVY zVC zVN zVOX zVOY zVOW zVH zVW zVT zVM zVS zVSt zVHo zVE zVEl zVEh k).2.2.2.2.2.2.2.2.2.2.2.2.2.2.1) ((zf_X8_lift zSD zSc PX PY PC PN POX POY POW bH bW bT bM rS rSt rHo rE rEl rEh zVX zVY zVC zVN zVOX zVOY zVOW zVH zVW zVT zVM zVS zVSt zVHo zVE zVEl zVEh k).2.2.2.2.2.2.2.2.2.2.2.2.2.2.2.1) ((zf_X8_lift zSD zSc PX PY PC PN POX POY POW bH bW bT bM rS rSt rHo rE rEl rEh zVX zVY zVC zVN zVOX zVOY zVOW zVH zVW zVT zVM zVS zVSt zVHo zVE zVEl zVEh k).2.2.2.2.2.2.2.2.2.2.2.2.2.2.2.2.1) ((zf_X8_lift zSD zSc PX PY PC PN POX POY POW bH bW bT bM rS rSt rHo rE rEl rEh zVX zVY zVC zVN zVOX zVOY zVOW zVH zVW zVT zVM zVS zVSt zVHo zVE zVEl zVEh k).2.2.2.2.2.2.2.2.2.2.2.2.2.2.2.2.2.1) ((zf_X8_lift zSD zSc PX PY PC PN POX POY POW bH bW bT bM rS rSt rHo rE rEl rEh zVX zVY zVC zVN zVOX zVOY zVOW zVH zVW zVT zVM zVS zVSt zVHo zVE zVEl zVEh k).2.2.2.2.2.2.2.2.2.2.2.2.2.2.2.2.2.2.1) ((zf_X8_lift zSD zSc PX PY PC PN POX POY POW bH bW bT bM rS rSt rHo rE rEl rEh zVX zVY zVC zVN zVOX zVOY zVOW zVH zVW zVT zVM zVS zVSt zVHo zVE zVEl zVEh k).2.2.2.2.2.2.2.2.2.2.2.2.2.2.2.2.2.2.2.1) ((zf_X8_lift zSD zSc PX PY PC PN POX POY POW bH bW bT bM rS rSt rHo rE rEl rEh zVX zVY zVC zVN zVOX zVOY zVOW zVH zVW zVT zVM zVS zVSt zVHo zVE zVEl zVEh k).2.2.2.2.2.2.2.2.2.2.2.2.2.2.2.2.2.2.2.2.1)) := by
  obtain ⟨⟨hP, hB, hR⟩, -, -, -⟩ := id h
  obtain ⟨pc, ⟨pn, p8⟩, po, pa⟩ := id hP
  have ez := zcN pn (by omega)
  rw [zf_X8_lift_e, zf_X9_lift_e]
  simp only [ez]
  by_cases c1 : zf_X8_requireIndex k (nI PN) = 0
  · rw [if_pos c1, if_pos ((zqIW (by omega)).mp c1)]
    obtain ⟨-, hk⟩ := zri c1 (by omega)
    obtain ⟨o1, o2, o3, -⟩ := po (zi k) hk
    try dsimp only
    refine zOut_ok rfl (by rw [zf_X4_removeObject_e, o3, Int32.toInt32_toInt64]) (zRel_save h ⟨?_, ?_, ?_⟩)
    · rw [zf_X4_removeObject_e]
      refine ⟨fun i hi => ?_, ⟨?_, by show PN - 1 ≤ 8; omega⟩, fun i hi => ?_, pa⟩
      · rw [zlf69, zlf69, zlf69, if_neg (by omega), if_neg (by omega), if_neg (by omega), zuL_ne (by omega), zuL_ne (by omega), zuL_ne (by omega)]
        exact pc i hi
      · rw [zlf69, if_neg (by omega), zuL_eq, pn, zlNm _ (by omega)]
      · have hi : i < PN - 1 := hi
        dsimp only
        rw [(zrm11 _ _ _ _ _ _ _).1, (zrm11 _ _ _ _ _ _ _).2.1, (zrm11 _ _ _ _ _ _ _).2.2, zlf69, zlf69, zlf69]
        by_cases q : zi k ≤ i
        · rw [if_pos (by omega), if_pos (by omega), if_pos (by omega), if_pos (by omega), if_pos (by omega), if_pos (by omega), zuL_ne (by omega), zuL_ne (by omega), zuL_ne (by omega)]
          exact po (i + 1) (by omega)
        · rw [if_neg (by omega), if_neg (by omega), if_neg (by omega), if_neg (by omega), if_neg (by omega), if_neg (by omega), zuL_ne (by omega), zuL_ne (by omega), zuL_ne (by omega)]
          exact po i (by omega)
    · exact hB.congr (fun q h1 h2 => by rw [zlf69, if_neg (by omega), zuL_ne (by omega)]) (fun _ _ => rfl) (fun _ _ _ _ => rfl)
    · exact hR.congr (fun q h1 h2 => by rw [zlf69, if_neg (by omega), zuL_ne (by omega)]) (fun _ _ => rfl) (fun _ _ => rfl) (fun _ _ => rfl) (fun _ _ => rfl)
  · rw [if_neg c1, if_neg (fun q => c1 ((zqIW (by omega)).mpr q))]
    exact zOut_no (zk1 c1) (by decide) rfl h
/-! setCell -/
theorem zrest (f : Nat → Int64) (a : Nat) (x y : Int64) : vp_updL (vp_updL (vp_updL (vp_updL f a x) (a + 1) y) a (f a)) (a + 1) (f (a + 1)) = f := funext fun q => by
  by_cases h1 : q = a + 1
  · subst h1; rw [zuL_eq]
  · rw [zuL_ne h1]
    by_cases h2 : q = a
    · subst h2; rw [zuL_eq]
    · rw [zuL_ne h2, zuL_ne h1, zuL_ne h2]
theorem zline {v : Nat → Int64} {PX PY PC : Nat → Int32} {PN : Nat} {POX POY POW : Nat → Int32} (h : zRP v PX PY PC PN POX POY POW) {k : Nat} (hk : k < 3) {x y : Int32} (hx : zpl x) (hy : zpl y) : zf_X4_signedArea PX PY k x y = zf_X9_area (vp_updL (vp_updL v (0 + (3 * k)) x.toInt64) ((0 + (3 * k)) + 1) y.toInt64) := by
  have h0 := h.pl 0 (by decide)
  have h1 := h.pl 1 (by decide)
  have h2 := h.pl 2 (by decide)
  have a0 : v 0 = (PX 0).toInt64 := (h.1 0 (by decide)).1
  have b0 : v 1 = (PY 0).toInt64 := (h.1 0 (by decide)).2.1
  have a1 : v 3 = (PX 1).toInt64 := (h.1 1 (by decide)).1
  have b1 : v 4 = (PY 1).toInt64 := (h.1 1 (by decide)).2.1
  have a2 : v 6 = (PX 2).toInt64 := (h.1 2 (by decide)).1
  have b2 : v 7 = (PY 2).toInt64 := (h.1 2 (by decide)).2.1
  rw [zf_X4_signedArea_e, zf_X9_area_e]
  simp only [zf_X9_cellX_e, zf_X9_cellY_e]
  rcases (show k = 0 ∨ k = 1 ∨ k = 2 by omega) with rfl | rfl | rfl
  · simp [vp_updL, zsubL h1.1 hx, zsubL h2.2 hy, zsubL h2.1 hx, zsubL h1.2 hy, a1, b1, a2, b2]
  · simp [vp_updL, zsubL h2.1 hx, zsubL h0.2 hy, zsubL h0.1 hx, zsubL h2.2 hy, a0, b0, a2, b2]
    grind
  · simp [vp_updL, zsubL h0.1 hx, zsubL h1.2 hy, zsubL h1.1 hx, zsubL h0.2 hy, a0, b0, a1, b1]
    grind
theorem zarU {X Y : Nat → Int32} {k : Nat} (hk : k < 3) (x y : Int32) : zarI (upd X k x) (upd Y k y) = zsaI X Y k x y := by
  unfold zarI zsaI
  rcases (show k = 0 ∨ k = 1 ∨ k = 2 by omega) with rfl | rfl | rfl
  · simp [upd]
  · simp [upd]; grind
  · simp [upd]; grind
theorem zp_setCell {MNow MPast : Nat → Int64} {MSav : Nat} {PX : Nat → Int32} {PY : Nat → Int32} {PC : Nat → Int32} {PN : Nat} {POX : Nat → Int32} {POY : Nat → Int32} {POW : Nat → Int32} {bH : Nat} {bW : Nat → Int64} {bT : Nat} {bM : Nat → Nat → Int32} {rS : Nat} {rSt : Nat → Int32} {rHo : Nat → Int32} {rE : Nat} {rEl : Nat → Int32} {rEh : Nat → Int32} {zSc : Nat} {zVX : Nat → Nat → Int32} {zVY : Nat → Nat → Int32} {zVC : Nat → Nat → Int32} {zVN : Nat → Nat} {zVOX : Nat → Nat → Int32} {zVOY : Nat → Nat → Int32} {zVOW : Nat → Nat → Int32} {zVH : Nat → Nat} {zVW : Nat → Nat → Int64} {zVT : Nat → Nat} {zVM : Nat → Nat → Nat → Int32} {zVS : Nat → Nat} {zVSt : Nat → Nat → Int32} {zVHo : Nat → Nat → Int32} {zVE : Nat → Nat} {zVEl : Nat → Nat → Int32} {zVEh : Nat → Nat → Int32} (h : zRel MNow MPast MSav PX PY PC PN POX POY POW bH bW bT bM rS rSt rHo rE rEl rEh zSc zVX zVY zVC zVN zVOX zVOY zVOW zVH zVW zVT zVM zVS zVSt zVHo zVE zVEl zVEh) (zSD : Nat → Nat → Nat) (k : Int32) (x : Int32) (y : Int32) (w : Int32) : zOut ((zf_X8_setCell zSD zSc PX PY PC PN POX POY POW bH bW bT bM rS rSt rHo rE rEl rEh zVX zVY zVC zVN zVOX zVOY zVOW zVH zVW zVT zVM zVS zVSt zVHo zVE zVEl zVEh k x y w).1) [1, 2] ((zf_X9_setCell MNow MPast MSav k x y w).2.1) ((((zf_X8_setCell zSD zSc PX PY PC PN POX POY POW bH bW bT bM rS rSt rHo rE rEl rEh zVX zVY zVC zVN zVOX zVOY zVOW zVH zVW zVT zVM zVS zVSt zVHo zVE zVEl zVEh k x y w).2.1)).toInt64) ((((zf_X9_setCell MNow MPast MSav k x y w).1)).toInt64) (zRel ((zf_X9_setCell MNow MPast MSav k x y w).2.2.1) ((zf_X9_setCell MNow MPast MSav k x y w).2.2.2.1) ((zf_X9_setCell MNow MPast MSav k x y w).2.2.2.2) ((zf_X8_setCell zSD zSc PX PY PC PN POX POY POW bH bW bT bM rS rSt rHo rE rEl rEh zVX zVY zVC zVN zVOX zVOY zVOW zVH zVW zVT zVM zVS zVSt zVHo zVE zVEl zVEh k x y w).2.2.2.2.2.2.2.2.2.2.2.2.2.2.2.2.2.2.2.2.2.1) ((zf_X8_setCell zSD zSc PX PY PC PN POX POY POW bH bW bT bM rS rSt rHo rE rEl rEh zVX zVY zVC zVN zVOX zVOY zVOW zVH zVW zVT zVM zVS zVSt zVHo zVE zVEl zVEh k x y w).2.2.2.2.2.2.2.2.2.2.2.2.2.2.2.2.2.2.2.2.2.2.1) ((zf_X8_setCell zSD zSc PX PY PC PN POX POY POW bH bW bT bM rS rSt rHo rE rEl rEh zVX zVY zVC zVN zVOX zVOY zVOW zVH zVW zVT zVM zVS zVSt zVHo zVE zVEl zVEh k x y w).2.2.2.2.2.2.2.2.2.2.2.2.2.2.2.2.2.2.2.2.2.2.2) PN POX POY POW bH bW bT bM rS rSt rHo rE rEl rEh ((zf_X8_setCell zSD zSc PX PY PC PN POX POY POW bH bW bT bM rS rSt rHo rE rEl rEh zVX zVY zVC zVN zVOX zVOY zVOW zVH zVW zVT zVM zVS zVSt zVHo zVE zVEl zVEh k x y w).2.2.2.1) ((zf_X8_setCell zSD zSc PX PY PC PN POX POY POW bH bW bT bM rS rSt rHo rE rEl rEh zVX zVY zVC zVN zVOX zVOY zVOW zVH zVW zVT zVM zVS zVSt zVHo zVE zVEl zVEh k x y w).2.2.2.2.1) ((zf_X8_setCell zSD zSc PX PY PC PN POX POY POW bH bW bT bM rS rSt rHo rE rEl rEh zVX zVY zVC zVN zVOX zVOY zVOW zVH zVW zVT zVM zVS zVSt zVHo zVE zVEl zVEh k x y w).2.2.2.2.2.1) ((zf_X8_setCell zSD zSc PX PY PC PN POX POY POW bH bW bT bM rS rSt rHo rE rEl rEh zVX zVY zVC zVN zVOX zVOY zVOW zVH zVW zVT zVM zVS zVSt zVHo zVE zVEl zVEh k x y w).2.2.2.2.2.2.1) ((zf_X8_setCell zSD zSc PX PY PC PN POX POY POW bH bW bT bM rS rSt rHo rE rEl rEh zVX zVY zVC zVN zVOX zVOY zVOW zVH zVW zVT zVM zVS zVSt zVHo zVE zVEl zVEh k x y w).2.2.2.2.2.2.2.1) ((zf_X8_setCell zSD zSc PX PY PC PN POX POY POW bH bW bT bM rS rSt rHo rE rEl rEh zVX zVY zVC zVN zVOX zVOY zVOW zVH zVW zVT zVM zVS zVSt zVHo zVE zVEl zVEh k x y w).2.2.2.2.2.2.2.2.1) ((zf_X8_setCell zSD zSc PX PY PC PN POX POY POW bH bW bT bM rS rSt rHo rE rEl rEh zVX zVY zVC zVN zVOX zVOY zVOW zVH zVW zVT zVM zVS zVSt zVHo zVE zVEl zVEh k x y w).2.2.2.2.2.2.2.2.2.1) ((zf_X8_setCell zSD zSc PX PY PC PN POX POY POW bH bW bT bM rS rSt rHo rE rEl rEh zVX zVY zVC zVN zVOX zVOY zVOW zVH zVW zVT zVM zVS zVSt zVHo zVE zVEl zVEh k x y w).2.2.2.2.2.2.2.2.2.2.1) ((zf_X8_setCell zSD zSc PX PY PC PN POX POY POW bH bW bT bM rS rSt rHo rE rEl rEh zVX zVY zVC zVN zVOX zVOY zVOW zVH zVW zVT zVM zVS zVSt zVHo zVE zVEl zVEh k x y w).2.2.2.2.2.2.2.2.2.2.2.1) ((zf_X8_setCell zSD zSc PX PY PC PN POX POY POW bH bW bT bM rS rSt rHo rE rEl rEh zVX zVY zVC zVN zVOX zVOY zVOW zVH zVW zVT zVM zVS zVSt zVHo zVE zVEl zVEh k x y w).2.2.2.2.2.2.2.2.2.2.2.2.1) ((zf_X8_setCell zSD zSc PX PY PC PN POX POY POW bH bW bT bM rS rSt rHo rE rEl rEh zVX zVY zVC zVN zVOX zVOY zVOW zVH zVW zVT zVM zVS zVSt zVHo zVE zVEl zVEh k x y w).2.2.2.2.2.2.2.2.2.2.2.2.2.1) ((zf_X8_setCell zSD zSc PX PY PC PN POX POY POW bH bW bT bM rS rSt rHo rE rEl rEh zVX zVY zVC zVN zVOX zVOY zVOW zVH zVW zVT zVM zVS zVSt zVHo zVE zVEl zVEh k x y w).2.2.2.2.2.2.2.2.2.2.2.2.2.2.1) ((zf_X8_setCell zSD zSc PX PY PC PN POX POY POW bH bW bT bM rS rSt rHo rE rEl rEh zVX zVY zVC zVN zVOX zVOY zVOW zVH zVW zVT zVM zVS zVSt zVHo zVE zVEl zVEh k x y w).2.2.2.2.2.2.2.2.2.2.2.2.2.2.2.1) ((zf_X8_setCell zSD zSc PX PY PC PN POX POY POW bH bW bT bM rS rSt rHo rE rEl rEh zVX zVY zVC zVN zVOX zVOY zVOW zVH zVW zVT zVM zVS zVSt zVHo zVE zVEl zVEh k x y w).2.2.2.2.2.2.2.2.2.2.2.2.2.2.2.2.1) ((zf_X8_setCell zSD zSc PX PY PC PN POX POY POW bH bW bT bM rS rSt rHo rE rEl rEh zVX zVY zVC zVN zVOX zVOY zVOW zVH zVW zVT zVM zVS zVSt zVHo zVE zVEl zVEh k x y w).2.2.2.2.2.2.2.2.2.2.2.2.2.2.2.2.2.1) ((zf_X8_setCell zSD zSc PX PY PC PN POX POY POW bH bW bT bM rS rSt rHo rE rEl rEh zVX zVY zVC zVN zVOX zVOY zVOW zVH zVW zVT zVM zVS zVSt zVHo zVE zVEl zVEh k x y w).2.2.2.2.2.2.2.2.2.2.2.2.2.2.2.2.2.2.1) ((zf_X8_setCell zSD zSc PX PY PC PN POX POY POW bH bW bT bM rS rSt rHo rE rEl rEh zVX zVY zVC zVN zVOX zVOY zVOW zVH zVW zVT zVM zVS zVSt zVHo zVE zVEl zVEh k x y w).2.2.2.2.2.2.2.2.2.2.2.2.2.2.2.2.2.2.2.1) ((zf_X8_setCell zSD zSc PX PY PC PN POX POY POW bH bW bT bM rS rSt rHo rE rEl rEh zVX zVY zVC zVN zVOX zVOY zVOW zVH zVW zVT zVM zVS zVSt zVHo zVE zVEl zVEh k x y w).2.2.2.2.2.2.2.2.2.2.2.2.2.2.2.2.2.2.2.2.1)) := by
  obtain ⟨⟨hP, hB, hR⟩, -, -, -⟩ := id h
  obtain ⟨pc, ⟨pn, p8⟩, po, pa⟩ := id hP
  rw [zf_X8_setCell_e, zf_X9_setCell_e]
  simp only [zrest]
  by_cases c1 : zf_X8_requireIndex k (3 : Int32) = 0
  · rw [if_pos c1, if_pos (zqC.mp c1)]
    obtain ⟨-, hk⟩ := zri3 c1
    by_cases c2 : zf_X8_requirePlace x y = 0
    · rw [if_pos c2, if_pos (zqP.mp c2)]
      obtain ⟨hx, hy⟩ := zqPl c2
      have e3 : zf_X8_requireRange w (1 : Int32) (100000 : Int32) = 0 ↔ zf_X9_within w.toInt64 (1 : Int64) (100000 : Int64) = true := zqRW (by decide) (by decide)
      by_cases c3 : zf_X8_requireRange w (1 : Int32) (100000 : Int32) = 0
      · rw [if_pos c3, if_pos (e3.mp c3)]
        have hl := zline hP hk hx hy
        have e4 : zf_X4_wouldLieOnOneLine PX PY (zi k) x y = true ↔ zf_X9_area (vp_updL (vp_updL MNow (0 + (3 * zi k)) x.toInt64) ((0 + (3 * zi k)) + 1) y.toInt64) = 0 := by
          rw [zf_X4_wouldLieOnOneLine_e, hl]
          by_cases q : zf_X9_area (vp_updL (vp_updL MNow (0 + (3 * zi k)) x.toInt64) ((0 + (3 * zi k)) + 1) y.toInt64) = 0
          · rw [if_pos q]; exact ⟨fun _ => q, fun _ => rfl⟩
          · rw [if_neg q]; exact ⟨fun h => absurd h (by decide), fun h => absurd h q⟩
        by_cases c4 : zf_X4_wouldLieOnOneLine PX PY (zi k) x y = true
        · rw [if_pos c4, if_pos (e4.mp c4)]
          exact zOut_no (e := 2) rfl (by decide) rfl h
        · rw [if_neg c4, if_neg (fun q => c4 (e4.mpr q))]
          obtain ⟨o1, o2, o3, -⟩ := pc (zi k) hk
          try dsimp only
          refine zOut_ok rfl (by rw [zf_X4_changeCell_e, Nat.zero_add, o3, Int32.toInt32_toInt64]) (zRel_save h ⟨?_, ?_, ?_⟩)
          · rw [zf_X4_changeCell_e]
            have hw := zqR.mp c3
            have a1 : (1 : Int32).toInt = 1 := by decide
            have a2 : (100000 : Int32).toInt = 100000 := by decide
            refine ⟨fun i hi => ?_, ⟨?_, p8⟩, fun i hi => ?_, ?_⟩
            · dsimp only
              by_cases q : i = zi k
              · subst q
                rw [zu_eq, zu_eq, zu_eq]
                refine ⟨?_, ?_, ?_, hx, hy, by omega, by omega⟩
                · rw [zuL_ne (by omega), zuL_ne (by omega), Nat.zero_add, zuL_eq]
                · rw [zuL_ne (by omega), Nat.zero_add, zuL_eq]
                · rw [Nat.zero_add, zuL_eq]
              · rw [zu_ne q, zu_ne q, zu_ne q, zuL_ne (by omega), zuL_ne (by omega), zuL_ne (by omega), zuL_ne (by omega), zuL_ne (by omega), zuL_ne (by omega), zuL_ne (by omega), zuL_ne (by omega), zuL_ne (by omega)]
                exact pc i hi
            · rw [zuL_ne (by omega), zuL_ne (by omega), zuL_ne (by omega)]; exact pn
            · rw [zuL_ne (by omega), zuL_ne (by omega), zuL_ne (by omega), zuL_ne (by omega), zuL_ne (by omega), zuL_ne (by omega), zuL_ne (by omega), zuL_ne (by omega), zuL_ne (by omega)]; exact po i hi
            · dsimp only
              rw [zarU hk, ← (zsa_b hP.pl (zi k) hx hy).1]
              intro q
              rw [← zeq0, hl] at q
              exact c4 (e4.mpr q)
          · exact hB.congr (fun q h1 h2 => by rw [zuL_ne (by omega), zuL_ne (by omega), zuL_ne (by omega)]) (fun _ _ => rfl) (fun _ _ _ _ => rfl)
          · exact hR.congr (fun q h1 h2 => by rw [zuL_ne (by omega), zuL_ne (by omega), zuL_ne (by omega)]) (fun _ _ => rfl) (fun _ _ => rfl) (fun _ _ => rfl) (fun _ _ => rfl)
      · rw [if_neg c3, if_neg (fun q => c3 (e3.mpr q))]
        exact zOut_no (zk2 c3) (by decide) rfl h
    · rw [if_neg c2, if_neg (fun q => c2 (zqP.mpr q))]
      exact zOut_no (zk2p c2) (by decide) rfl h
  · rw [if_neg c1, if_neg (fun q => c1 (zqC.mpr q))]
    exact zOut_no (zk1 c1) (by decide) rfl h
theorem zqT {t : Int32} : zf_X8_requireRange t (0 : Int32) (1 : Int32) = 0 ↔ zf_X9_isPart t = true := by
  rw [zqR, zf_X9_isPart_e]
  have a0 : (0 : Int32).toInt = 0 := by decide
  have a1 : (1 : Int32).toInt = 1 := by decide
  rw [a0, a1]
  constructor
  · intro hq
    by_cases c0 : t = 0
    · rw [if_pos c0]
    · rw [if_neg c0]
      by_cases c1 : t = 1
      · rw [if_pos c1]
      · exfalso
        have e0 : ¬ t.toInt = 0 := fun q => c0 (Int32.toInt_inj.mp (by rw [q, a0]))
        have e1 : ¬ t.toInt = 1 := fun q => c1 (Int32.toInt_inj.mp (by rw [q, a1]))
        omega
  · intro hq
    by_cases c0 : t = 0
    · subst c0; rw [a0]; omega
    · rw [if_neg c0] at hq
      by_cases c1 : t = 1
      · subst c1; rw [a1]; omega
      · rw [if_neg c1] at hq; exact absurd hq (by decide)
theorem zp_load {MNow MPast : Nat → Int64} {MSav : Nat} {PX : Nat → Int32} {PY : Nat → Int32} {PC : Nat → Int32} {PN : Nat} {POX : Nat → Int32} {POY : Nat → Int32} {POW : Nat → Int32} {bH : Nat} {bW : Nat → Int64} {bT : Nat} {bM : Nat → Nat → Int32} {rS : Nat} {rSt : Nat → Int32} {rHo : Nat → Int32} {rE : Nat} {rEl : Nat → Int32} {rEh : Nat → Int32} {zSc : Nat} {zVX : Nat → Nat → Int32} {zVY : Nat → Nat → Int32} {zVC : Nat → Nat → Int32} {zVN : Nat → Nat} {zVOX : Nat → Nat → Int32} {zVOY : Nat → Nat → Int32} {zVOW : Nat → Nat → Int32} {zVH : Nat → Nat} {zVW : Nat → Nat → Int64} {zVT : Nat → Nat} {zVM : Nat → Nat → Nat → Int32} {zVS : Nat → Nat} {zVSt : Nat → Nat → Int32} {zVHo : Nat → Nat → Int32} {zVE : Nat → Nat} {zVEl : Nat → Nat → Int32} {zVEh : Nat → Nat → Int32} (h : zRel MNow MPast MSav PX PY PC PN POX POY POW bH bW bT bM rS rSt rHo rE rEl rEh zSc zVX zVY zVC zVN zVOX zVOY zVOW zVH zVW zVT zVM zVS zVSt zVHo zVE zVEl zVEh) (k : Int32) (t : Int32) : zOut ((zf_X8_load PX PY PN POX POY POW k t).1) [1, 2] ((zf_X9_load MNow k t).2) (((zf_X8_load PX PY PN POX POY POW k t).2)) (((zf_X9_load MNow k t).1)) (True) := by
  obtain ⟨⟨hP, hB, hR⟩, -, -, -⟩ := id h
  rw [zf_X8_load_e, zf_X9_load_e]
  by_cases c1 : zf_X8_requireIndex k (3 : Int32) = 0
  · rw [if_pos c1, if_pos (zqC.mp c1)]
    by_cases c2 : zf_X8_requireRange t (0 : Int32) (1 : Int32) = 0
    · rw [if_pos c2, if_pos (zqT.mp c2)]
      exact zOut_ok rfl (zlpart hP (zi k) t) trivial
    · rw [if_neg c2, if_neg (fun q => c2 (zqT.mpr q))]
      exact zOut_no (zk2 c2) (by decide) rfl trivial
  · rw [if_neg c1, if_neg (fun q => c1 (zqC.mpr q))]
    exact zOut_no (zk1 c1) (by decide) rfl trivial
