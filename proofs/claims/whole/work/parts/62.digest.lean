/-! The digest on both sides -/
section ZDG
variable {v : Nat → Int64}
theorem zma_s (k n j : Nat) (h : Int64) : zl_X9_mixAll_2 v k (n + 1) j h = zl_X9_mixAll_2 v k n (j + 1) (zf_X8_mix h (v (k + j))) := by
  rw [zl_X9_mixAll_2_s]
  rfl
theorem zmz (k n j : Nat) (h : Int64) (hn : n = 0) : zl_X9_mixAll_2 v k n j h = h := by subst hn; rfl
theorem zdg5 {X Y C : Nat → Int32} {N : Nat} {OX OY OW : Nat → Int32} (h : zRP v X Y C N OX OY OW) : ∀ n j x, j + n = 3 → zl_X4_mixedInto_5 X Y C N OX OY OW n j x = zl_X9_digest_14 v n j x := by
  intro n
  induction n with
  | zero => intro j x _; rfl
  | succ n ih =>
    intro j x hj
    obtain ⟨a1, a2, a3, -⟩ := h.1 j (by omega)
    have e : zf_X9_mixAll v x (0 + 3 * j) 3 = zf_X8_mix (zf_X8_mix (zf_X8_mix x ((X j).toInt64)) ((Y j).toInt64)) ((C j).toInt64) := by
      rw [zf_X9_mixAll_e, zma_s, zma_s, zma_s, zmz _ _ _ _ rfl, show 0 + 3 * j + 0 = 3 * j by omega, show 0 + 3 * j + (0 + 1) = 3 * j + 1 by omega, show 0 + 3 * j + (0 + 1 + 1) = 3 * j + 2 by omega, a1, a2, a3]
    rw [zl_X4_mixedInto_5_s, zl_X9_digest_14_s, ih _ _ (by omega), e, zlpart h, zlpart h]
    rfl
theorem zdg120 {X Y C : Nat → Int32} {N : Nat} {OX OY OW : Nat → Int32} (h : zRP v X Y C N OX OY OW) : ∀ n j x, j + n = N → zl_X4_mixedInto_120 OX OY OW n j x = zl_X9_mixAll_2 v 9 (3 * n) (1 + 3 * j) x := by
  intro n
  induction n with
  | zero => intro j x _; rfl
  | succ n ih =>
    intro j x hj
    obtain ⟨a1, a2, a3, -⟩ := h.2.2.1 j (by omega)
    rw [zl_X4_mixedInto_120_s, ih _ _ (by omega), show 3 * (n + 1) = 3 * n + 1 + 1 + 1 by omega, zma_s, zma_s, zma_s, show 9 + (1 + 3 * j) = 10 + 3 * j by omega, show 9 + (1 + 3 * j + 1) = 10 + 3 * j + 1 by omega, show 9 + (1 + 3 * j + 1 + 1) = 10 + 3 * j + 2 by omega, a1, a2, a3, show 1 + 3 * j + 1 + 1 + 1 = 1 + 3 * (j + 1) by omega]
theorem zdg13 {H : Nat} {W : Nat → Int64} {T : Nat} {M : Nat → Nat → Int32} (h : zRB v H W T M) : ∀ n j x, j + n = H → zl_X1_mixedInto_13 W n j x = zl_X9_mixAll_2 v 34 n (1 + j) x := by
  intro n
  induction n with
  | zero => intro j x _; rfl
  | succ n ih =>
    intro j x hj
    obtain ⟨a1, -⟩ := h.2.2.1 j (by omega)
    rw [zl_X1_mixedInto_13_s, ih _ _ (by omega), zma_s, show 34 + (1 + j) = 35 + j by omega, a1, show 1 + j + 1 = 1 + (j + 1) by omega]
theorem zdg65 {H : Nat} {W : Nat → Int64} {T : Nat} {M : Nat → Nat → Int32} (h : zRB v H W T M) {t : Nat} (ht : t < T) : ∀ n j x, j + n ≤ 24 → zl_X1_mixedInto_65 M t n j x = zl_X9_mixAll_2 v (44 + 3 * (8 * t + 0)) n j x := by
  intro n
  induction n with
  | zero => intro j x _; rfl
  | succ n ih =>
    intro j x hj
    have a1 := h.2.2.2.2.2.1 t ht j (by omega)
    rw [zl_X1_mixedInto_65_s, ih _ _ (by omega), zma_s, show 44 + 3 * (8 * t + 0) + j = 44 + 24 * t + j by omega, a1]
theorem zdg53 {H : Nat} {W : Nat → Int64} {T : Nat} {M : Nat → Nat → Int32} (h : zRB v H W T M) : ∀ n j x, j + n = T → zl_X1_mixedInto_53 H M n j x = zl_X9_digest_137 v n j x := by
  have eH : zc (v 34) = H := zcN h.1.1 (by have := h.1.2.2; omega)
  have h8 := h.1.2.2
  intro n
  induction n with
  | zero => intro j x _; rfl
  | succ n ih =>
    intro j x hj
    rw [zl_X1_mixedInto_53_s, zl_X9_digest_137_s, ih _ _ (by omega), zdg65 h (by omega) _ _ _ (by omega), eH, zf_X9_mixAll_e, Nat.mul_comm H 3]
section ZDR
variable {S E : Nat} {St Ho El Eh : Nat → Int32}
theorem zdg14 (h : zRR v S St Ho E El Eh) : ∀ n j x, j + n = S → zl_X5_mixedInto_14 St Ho n j x = zl_X9_mixAll_2 v 284 (2 * n) (1 + 2 * j) x := by
  intro n
  induction n with
  | zero => intro j x _; rfl
  | succ n ih =>
    intro j x hj
    obtain ⟨a1, a2, -⟩ := h.2.2.1 j (by omega)
    rw [zl_X5_mixedInto_14_s, ih _ _ (by omega), show 2 * (n + 1) = 2 * n + 1 + 1 by omega, zma_s, zma_s, show 284 + (1 + 2 * j) = 285 + 2 * j by omega, show 284 + (1 + 2 * j + 1) = 285 + 2 * j + 1 by omega, a1, a2, show 1 + 2 * j + 1 + 1 = 1 + 2 * (j + 1) by omega]
theorem zdg74 (h : zRR v S St Ho E El Eh) (qM : Nat → Nat → Int32) (qT : Nat → Int32) : ∀ n j x m, j + n = E → zl_X5_mixedInto_74 El Eh (zf_X0_solve qM qT S St Ho E El Eh).2.1 n j x = (zl_X9_digest_203 v n j x m).1 := by
  intro n
  induction n with
  | zero => intro j x m _; rfl
  | succ n ih =>
    intro j x m hj
    obtain ⟨a1, a2, -⟩ := h.2.2.2 j (by omega)
    have e : zf_X9_mixAll v x (302 + 2 * j) 2 = zf_X8_mix (zf_X8_mix x ((El j).toInt64)) ((Eh j).toInt64) := by
      rw [zf_X9_mixAll_e, zma_s, zma_s, zmz _ _ _ _ rfl, show 302 + 2 * j + 0 = 302 + 2 * j by omega, show 302 + 2 * j + (0 + 1) = 302 + 2 * j + 1 by omega, a1, a2]
    rw [zl_X5_mixedInto_74_s, zl_X9_digest_203_s, ih _ _ (zf_X9_taker v m j).2 (by omega), e, ztaker h qM qT m (show j < E by omega)]
    rfl
end ZDR
end ZDG
theorem zp_digest {MNow MPast : Nat → Int64} {MSav : Nat} {PX : Nat → Int32} {PY : Nat → Int32} {PC : Nat → Int32} {PN : Nat} {POX : Nat → Int32} {POY : Nat → Int32} {POW : Nat → Int32} {bH : Nat} {bW : Nat → Int64} {bT : Nat} {bM : Nat → Nat → Int32} {rS : Nat} {rSt : Nat → Int32} {rHo : Nat → Int32} {rE : Nat} {rEl : Nat → Int32} {rEh : Nat → Int32} {zSc : Nat} {zVX : Nat → Nat → Int32} {zVY : Nat → Nat → Int32} {zVC : Nat → Nat → Int32} {zVN : Nat → Nat} {zVOX : Nat → Nat → Int32} {zVOY : Nat → Nat → Int32} {zVOW : Nat → Nat → Int32} {zVH : Nat → Nat} {zVW : Nat → Nat → Int64} {zVT : Nat → Nat} {zVM : Nat → Nat → Nat → Int32} {zVS : Nat → Nat} {zVSt : Nat → Nat → Int32} {zVHo : Nat → Nat → Int32} {zVE : Nat → Nat} {zVEl : Nat → Nat → Int32} {zVEh : Nat → Nat → Int32} (h : zRel MNow MPast MSav PX PY PC PN POX POY POW bH bW bT bM rS rSt rHo rE rEl rEh zSc zVX zVY zVC zVN zVOX zVOY zVOW zVH zVW zVT zVM zVS zVSt zVHo zVE zVEl zVEh) (MMost : Nat → Int32) (qM : Nat → Nat → Int32) (qT : Nat → Int32) : (zf_X8_digest zSc PX PY PC PN POX POY POW bH bW bT bM rS rSt rHo rE rEl rEh qM qT).1 = (zf_X9_digest MNow MSav MMost).1 := by
  obtain ⟨⟨hP, hB, hR⟩, ⟨hs, -⟩, -, -⟩ := h
  have eN : zc (MNow 9) = PN := zcN hP.2.1.1 (by have := hP.2.1.2; omega)
  have eH : zc (MNow 34) = bH := zcN hB.1.1 (by have := hB.1.2.2; omega)
  have eT : zc (MNow 43) = bT := zcN hB.2.1.1 (by have := hB.2.1.2; omega)
  have eS : zc (MNow 284) = rS := zcN hR.1.1 (by have := hR.1.2; omega)
  have eE : zc (MNow 301) = rE := zcN hR.2.1.1 (by have := hR.2.1.2; omega)
  have g9 : ∀ x, zl_X9_mixAll_2 MNow 9 (3 * PN) 1 (zf_X8_mix x (lN PN)) = zf_X9_mixAll MNow x 9 (1 + 3 * PN) := fun x => by
    rw [zf_X9_mixAll_e, Nat.add_comm 1 (3 * PN), zma_s, hP.2.1.1]
  have g34 : ∀ x, zl_X9_mixAll_2 MNow 34 bH 1 (zf_X8_mix x (lN bH)) = zf_X9_mixAll MNow x 34 (1 + bH) := fun x => by
    rw [zf_X9_mixAll_e, Nat.add_comm 1 bH, zma_s, hB.1.1]
  have g284 : ∀ x, zl_X9_mixAll_2 MNow 284 (2 * rS) 1 (zf_X8_mix x (lN rS)) = zf_X9_mixAll MNow x 284 (1 + 2 * rS) := fun x => by
    rw [zf_X9_mixAll_e, Nat.add_comm 1 (2 * rS), zma_s, hR.1.1]
  have key : ∀ b : Int64, zl_X4_mixedInto_120 POX POY POW PN 0 (zf_X8_mix (zf_X8_mix (zf_X8_mix (zl_X4_mixedInto_5 PX PY PC PN POX POY POW 3 0 2801) b) ((zf_X4_overloadedCells PX PY PC PN POX POY POW).toInt64)) (lN PN)) = zf_X9_mixAll MNow (zf_X9_mix (zf_X9_mix (zl_X9_digest_14 MNow 3 0 2801) b) ((zf_X9_overs MNow).toInt64)) 9 (1 + 3 * PN) := fun b => by
    rw [zdg120 hP PN 0 _ (by omega), zdg5 hP 3 0 _ (by omega), zovers hP]
    exact g9 _
  have key2 : ∀ x y, x = y → (zf_X8_mix (zf_X5_mixedInto rS rSt rHo rE rEl rEh (zf_X1_mixedInto bH bW bT bM x) ((zf_X0_solve qM qT rS rSt rHo rE rEl rEh).2.1)) (lN zSc)) = (zf_X9_mix ((zl_X9_digest_203 MNow rE 0 (zf_X9_mix (zf_X9_mixAll MNow (zl_X9_digest_137 MNow bT 0 (zf_X9_mix (zf_X9_mixAll MNow y 34 (1 + bH)) (lN bT))) 284 (1 + (2 * rS))) (lN rE)) MMost).1) (lN MSav)) := fun x y e => by
    subst e
    rw [zf_X5_mixedInto_e, zf_X1_mixedInto_e, zdg74 hR qM qT rE 0 _ MMost (by omega), zdg14 hR rS 0 _ (by omega), zdg53 hB bT 0 _ (by omega), zdg13 hB bH 0 _ (by omega), hs, g34, g284]
    rfl
  rw [zf_X8_digest_e, zf_X9_digest_e, zf_X4_mixedInto_e, zstill hP, eN, eH, eT, eS, eE]
  by_cases c : zf_X9_isStill MNow = true
  · rw [if_pos c, if_pos c]
    exact key2 _ _ (key _)
  · rw [if_neg c, if_neg c]
    exact key2 _ _ (key _)
