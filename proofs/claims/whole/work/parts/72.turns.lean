/-! The law's loop, turn by turn. -/
theorem zsubI {a b : Int32} (h1 : -2147483648 ≤ a.toInt - b.toInt) (h2 : a.toInt - b.toInt < 2147483648) : (a - b).toInt = a.toInt - b.toInt := by
  rw [Int32.toInt_sub, Int.bmod_def]
  omega
theorem zhead {L ix : Nat} (hL : L ≤ 2560) (hi : ix ≤ 2600) : (Int32.ofNat L - (5 : Int32) < nI ix) ↔ L < ix + 5 := by
  have e1 : (nI L).toInt = (L : Int) := nI_toInt (by omega)
  have e2 : (nI ix).toInt = (ix : Int) := nI_toInt (by omega)
  have e5 : (5 : Int32).toInt = 5 := by decide
  have e3 := zsubI (a := nI L) (b := 5) (by rw [e1, e5]; omega) (by rw [e1, e5]; omega)
  rw [e1, e5] at e3
  have e4 : Int32.ofNat L - (5 : Int32) = nI L - 5 := rfl
  rw [e4, Int32.lt_iff_toInt_lt, e3, e2]
  omega
section ZLT
variable {p : Program} {l : Launch} {e : Env} {s : State} {m : MethodId} {args : Array Value} {below : List Frame} {meth : Method} {c : Code} {Q : State → Prop}
variable {g : zG} {B : Nat} {A : Nat → Prop} {b L : Nat} {xs : Nat → Int32} {td ad pd qd md : Nat → Nat} {ow oa : Nat}
set_option maxHeartbeats 4000000 in
set_option maxRecDepth 100000 in
theorem zk_turn (hlt : l.stackTraces = false) (X : zX p s m args meth c g B RL cL_law 8 (some .boolean)) (S : zScr b L xs A s) (hL : L ≤ 2560) {ix : Nat} (hi : ix + 4 < L) {H : Heap} {locs : List Loc} {cells slots : Nat} {ls : Array Slot} (hw : zLw g B A s td ad pd qd ow md oa H locs) (hl : lv_has ls 8 (zL0 td md oa b ix)) (hc : cells + 6 ≤ 603072) (hs : slots + 36 ≤ 7198826)
    (kk : ∀ (H : Heap) (locs : List Loc) (ls : Array Slot), zLw g B A s td ad pd qd ow md oa H locs → lv_has ls 8 (zL0 td md oa b ix) → W p l e room_1 s m args below meth c H locs (cells + 6) (slots + 36) Q (F0 m 1561 ls [])) : W p l e room_1 s m args below meth c H locs cells slots Q (F0 m 32 ls []) := by
  obtain ⟨zSD, zSc, PX, PY, PC, PN, POX, POY, POW, bH, bW, bT, bM, rS, rSt, rHo, rE, rEl, rEh, f0, f1, f2, f3, qM, qT, qC, o, zVX, zVY, zVC, zVN, zVOX, zVOY, zVOW, zVH, zVW, zVT, zVM, zVS, zVSt, zVHo, zVE, zVEl, zVEh, MNow, MPast, MSav, MRef, MThen, MLev, MFst, MWay, MMost, MHash, oF, Z, h⟩ := hw
  have hx := X.1
  have hb := X.2.1
  have hw : zLw g B A s td ad pd qd ow md oa H locs := zLw.mk Z h
  have hl9 : lv_has ls 8 [(0, .ref b), (1, .ref (td 0)), (2, .ref (md 0)), (3, .ref oa), (4, .int (nI ix))] := hl
  refine lv_aload_n hx hb dL_law_32 rfl (lv_at hl9 0 rfl) ?_
  refine lv_iload hx hb dL_law_33 (lv_at hl9 4 rfl) ?_
  refine va_sld hx hb S.1 S.2.1 S.2.2 Z.1.2.2.1 (vp_in_nI (show ix < L by omega) (by omega)) dL_law_35 ?_
  refine lv_bipush (v := (31 : Int32)) hx hb dL_law_36 (by decide) ?_
  refine lv_iand hx hb dL_law_38 ?_
  obtain ⟨t, ht, et⟩ := pk_andE (xs (nI ix).toNatClampNeg) (m := (31 : Int32)) 5 (by decide)
  rw [et]
  have e9 : (nI t).toInt = (t : Int) := nI_toInt (by omega)
  by_cases h25 : 25 ≤ t
  · refine lv_tableOut (tgt := 1561) hx hb dL_law_39 (.inr (by rw [e9]; omega)) (by decide) ?_
    exact W.widen (k := cells + 6) (n := slots + 36) (by omega) (by omega) (kk H locs ls hw hl)
  have hcs : t = 0 ∨ t = 1 ∨ t = 2 ∨ t = 3 ∨ t = 4 ∨ t = 5 ∨ t = 6 ∨ t = 7 ∨ t = 8 ∨ t = 9 ∨ t = 10 ∨ t = 11 ∨ t = 12 ∨ t = 13 ∨ t = 14 ∨ t = 15 ∨ t = 16 ∨ t = 17 ∨ t = 18 ∨ t = 19 ∨ t = 20 ∨ t = 21 ∨ t = 22 ∨ t = 23 ∨ t = 24 := by omega
  rcases hcs with rfl | rfl | rfl | rfl | rfl | rfl | rfl | rfl | rfl | rfl | rfl | rfl | rfl | rfl | rfl | rfl | rfl | rfl | rfl | rfl | rfl | rfl | rfl | rfl | rfl
  · refine lv_tableIn (tgt := 152) hx hb dL_law_39 (by decide) (by decide) (by decide : _ = some (113 : Int)) (by decide) ?_
    exact zk_law_setCell hlt X S Z h hi hL hl hc hs kk
  · refine lv_tableIn (tgt := 244) hx hb dL_law_39 (by decide) (by decide) (by decide : _ = some (205 : Int)) (by decide) ?_
    exact zk_law_place hlt X S Z h hi hL hl hc hs kk
  · refine lv_tableIn (tgt := 324) hx hb dL_law_39 (by decide) (by decide) (by decide : _ = some (285 : Int)) (by decide) ?_
    exact zk_law_lift hlt X S Z h hi hL hl hc hs kk
  · refine lv_tableIn (tgt := 380) hx hb dL_law_39 (by decide) (by decide) (by decide : _ = some (341 : Int)) (by decide) ?_
    exact zk_law_load hlt X S Z h hi hL hl hc hs kk
  · refine lv_tableIn (tgt := 447) hx hb dL_law_39 (by decide) (by decide) (by decide : _ = some (408 : Int)) (by decide) ?_
    exact zk_law_reading hlt X S Z h hi hL hl hc hs kk
  · refine lv_tableIn (tgt := 515) hx hb dL_law_39 (by decide) (by decide) (by decide : _ = some (476 : Int)) (by decide) ?_
    exact zk_law_isStable hlt X S Z h hi hL hl hc hs kk
  · refine lv_tableIn (tgt := 528) hx hb dL_law_39 (by decide) (by decide) (by decide : _ = some (489 : Int)) (by decide) ?_
    exact zk_law_overloaded hlt X S Z h hi hL hl hc hs kk
  · refine lv_tableIn (tgt := 541) hx hb dL_law_39 (by decide) (by decide) (by decide : _ = some (502 : Int)) (by decide) ?_
    exact zk_law_room hlt X S Z h hi hL hl hc hs kk
  · refine lv_tableIn (tgt := 609) hx hb dL_law_39 (by decide) (by decide) (by decide : _ = some (570 : Int)) (by decide) ?_
    exact zk_law_setHypotheses hlt X S Z h hi hL hl hc hs kk
  · refine lv_tableIn (tgt := 665) hx hb dL_law_39 (by decide) (by decide) (by decide : _ = some (626 : Int)) (by decide) ?_
    exact zk_law_setWeight hlt X S Z h hi hL hl hc hs kk
  · refine lv_tableIn (tgt := 732) hx hb dL_law_39 (by decide) (by decide) (by decide : _ = some (693 : Int)) (by decide) ?_
    exact zk_law_addTest hlt X S Z h hi hL hl hc hs kk
  · refine lv_tableIn (tgt := 776) hx hb dL_law_39 (by decide) (by decide) (by decide : _ = some (737 : Int)) (by decide) ?_
    exact zk_law_setChances hlt X S Z h hi hL hl hc hs kk
  · refine lv_tableIn (tgt := 868) hx hb dL_law_39 (by decide) (by decide) (by decide : _ = some (829 : Int)) (by decide) ?_
    exact zk_law_observe hlt X S Z h hi hL hl hc hs kk
  · refine lv_tableIn (tgt := 936) hx hb dL_law_39 (by decide) (by decide) (by decide : _ = some (897 : Int)) (by decide) ?_
    exact zk_law_odds hlt X S Z h hi hL hl hc hs kk
  · refine lv_tableIn (tgt := 1003) hx hb dL_law_39 (by decide) (by decide) (by decide : _ = some (964 : Int)) (by decide) ?_
    exact zk_law_planValue hlt X S Z h hi hL hl hc hs kk
  · refine lv_tableIn (tgt := 1070) hx hb dL_law_39 (by decide) (by decide) (by decide : _ = some (1031 : Int)) (by decide) ?_
    exact zk_law_planFirst hlt X S Z h hi hL hl hc hs kk
  · refine lv_tableIn (tgt := 1126) hx hb dL_law_39 (by decide) (by decide) (by decide : _ = some (1087 : Int)) (by decide) ?_
    exact zk_law_tail hlt X S Z h hi hL hl hc hs kk
  · refine lv_tableIn (tgt := 1205) hx hb dL_law_39 (by decide) (by decide) (by decide : _ = some (1166 : Int)) (by decide) ?_
    exact zk_law_fewestTrials hlt X S Z h hi hL hl hc hs kk
  · refine lv_tableIn (tgt := 1285) hx hb dL_law_39 (by decide) (by decide) (by decide : _ = some (1246 : Int)) (by decide) ?_
    exact zk_law_addSupporter hlt X S Z h hi hL hl hc hs kk
  · refine lv_tableIn (tgt := 1353) hx hb dL_law_39 (by decide) (by decide) (by decide : _ = some (1314 : Int)) (by decide) ?_
    exact zk_law_addSession hlt X S Z h hi hL hl hc hs kk
  · refine lv_tableIn (tgt := 1421) hx hb dL_law_39 (by decide) (by decide) (by decide : _ = some (1382 : Int)) (by decide) ?_
    exact zk_law_clearSessions hlt X S Z h hi hL hl hc hs kk
  · refine lv_tableIn (tgt := 1434) hx hb dL_law_39 (by decide) (by decide) (by decide : _ = some (1395 : Int)) (by decide) ?_
    exact zk_law_covered hlt X S Z h hi hL hl hc hs kk
  · refine lv_tableIn (tgt := 1447) hx hb dL_law_39 (by decide) (by decide) (by decide : _ = some (1408 : Int)) (by decide) ?_
    exact zk_law_supporterOf hlt X S Z h hi hL hl hc hs kk
  · refine lv_tableIn (tgt := 1503) hx hb dL_law_39 (by decide) (by decide) (by decide : _ = some (1464 : Int)) (by decide) ?_
    exact zk_law_undo hlt X S Z h hi hL hl hc hs kk
  · refine lv_tableIn (tgt := 1547) hx hb dL_law_39 (by decide) (by decide) (by decide : _ = some (1508 : Int)) (by decide) ?_
    exact zk_law_digest hlt X S Z h hi hL hl hc hs kk
set_option maxHeartbeats 4000000 in
set_option maxRecDepth 100000 in
theorem zk_turns (hlt : l.stackTraces = false) (X : zX p s m args meth c g B RL cL_law 8 (some .boolean)) (S : zScr b L xs A s) (hL : L ≤ 2560)
    (fin : ∀ (H : Heap) (locs : List Loc) (cells slots : Nat) (ls : Array Slot), va_S A s.heap H locs → cells ≤ 603072 → slots ≤ 7198826 → W p l e room_1 s m args below meth c H locs cells slots Q (F0 m 1567 ls [])) : ∀ (n ix : Nat), L ≤ ix + 5 * n → ix ≤ 2600 → ∀ (H : Heap) (locs : List Loc) (cells slots : Nat) (ls : Array Slot), zLw g B A s td ad pd qd ow md oa H locs → lv_has ls 8 (zL0 td md oa b ix) → cells + 6 * n ≤ 603072 → slots + 36 * n ≤ 7198826 → W p l e room_1 s m args below meth c H locs cells slots Q (F0 m 23 ls []) := by
  have hx := X.1
  have hb := X.2.1
  intro n
  induction n with
  | zero =>
    intro ix hn hi H locs cells slots ls hw hl hc hs
    have hl9 : lv_has ls 8 [(0, .ref b), (1, .ref (td 0)), (2, .ref (md 0)), (3, .ref oa), (4, .int (nI ix))] := hl
    have hS : va_S A s.heap H locs := by obtain ⟨zSD, zSc, PX, PY, PC, PN, POX, POY, POW, bH, bW, bT, bM, rS, rSt, rHo, rE, rEl, rEh, f0, f1, f2, f3, qM, qT, qC, o, zVX, zVY, zVC, zVN, zVOX, zVOY, zVOW, zVH, zVW, zVT, zVM, zVS, zVSt, zVHo, zVE, zVEl, zVEh, MNow, MPast, MSav, MRef, MThen, MLev, MFst, MWay, MMost, MHash, oF, Z, h⟩ := hw; exact Z.1.2.2.1
    refine lv_iload hx hb dL_law_23 (lv_at hl9 4 rfl) ?_
    refine lv_aload_n hx hb dL_law_25 rfl (lv_at hl9 0 rfl) ?_
    refine va_slen hx hb S.1 S.2.1 S.2.2 hS dL_law_26 ?_
    refine lv_iconst (v := (5 : Int32)) hx hb dL_law_27 (by decide) ?_
    refine lv_isub hx hb dL_law_28 ?_
    refine lv_icmp_gt (tgt := 1567) hx hb dL_law_29 (by decide) (fun q => ?_) (fun q => ?_)
    · exact fin H locs cells slots ls hS (by omega) (by omega)
    · exact absurd ((zhead hL hi).mpr (by omega)) q
  | succ n ih =>
    intro ix hn hi H locs cells slots ls hw hl hc hs
    have hl9 : lv_has ls 8 [(0, .ref b), (1, .ref (td 0)), (2, .ref (md 0)), (3, .ref oa), (4, .int (nI ix))] := hl
    have hS : va_S A s.heap H locs := by obtain ⟨zSD, zSc, PX, PY, PC, PN, POX, POY, POW, bH, bW, bT, bM, rS, rSt, rHo, rE, rEl, rEh, f0, f1, f2, f3, qM, qT, qC, o, zVX, zVY, zVC, zVN, zVOX, zVOY, zVOW, zVH, zVW, zVT, zVM, zVS, zVSt, zVHo, zVE, zVEl, zVEh, MNow, MPast, MSav, MRef, MThen, MLev, MFst, MWay, MMost, MHash, oF, Z, h⟩ := hw; exact Z.1.2.2.1
    refine lv_iload hx hb dL_law_23 (lv_at hl9 4 rfl) ?_
    refine lv_aload_n hx hb dL_law_25 rfl (lv_at hl9 0 rfl) ?_
    refine va_slen hx hb S.1 S.2.1 S.2.2 hS dL_law_26 ?_
    refine lv_iconst (v := (5 : Int32)) hx hb dL_law_27 (by decide) ?_
    refine lv_isub hx hb dL_law_28 ?_
    refine lv_icmp_gt (tgt := 1567) hx hb dL_law_29 (by decide) (fun q => ?_) (fun q => ?_)
    · exact fin H locs cells slots ls hS (by omega) (by omega)
    have hi4 : ix + 4 < L := by have := Nat.not_lt.mp (fun z => q ((zhead hL hi).mpr z)); omega
    refine zk_turn hlt X S hL hi4 hw hl (by omega) (by omega) (fun H locs ls hw hl => ?_)
    have hl9 : lv_has ls 8 [(0, .ref b), (1, .ref (td 0)), (2, .ref (md 0)), (3, .ref oa), (4, .int (nI ix))] := hl
    refine lv_iinc (k := 4) (v := nI (ix + 5)) (lv' := [(4, .int (nI (ix + 5))), (0, .ref b), (1, .ref (td 0)), (2, .ref (md 0)), (3, .ref oa)]) hx hb dL_law_1561 hl9 rfl (nI_add ix 5) (by decide) rfl (fun ls hl => ?_)
    refine lv_goto (tgt := 23) hx hb dL_law_1564 (by decide) ?_
    exact ih (ix + 5) (by omega) (by omega) H locs (cells + 6) (slots + 36) ls hw (lv_sub hl [1, 2, 3, 4, 0] rfl) (by omega) (by omega)
end ZLT
