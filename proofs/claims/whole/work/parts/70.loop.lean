/-! The law's loop: what it keeps from turn to turn. -/
def zLw (g : zG) (B : Nat) (A : Nat → Prop) (s : State) (td ad pd qd : Nat → Nat) (ow : Nat) (md : Nat → Nat) (oa : Nat) (H : Heap) (locs : List Loc) : Prop := ∃ (zSD : Nat → Nat → Nat) (zSc : Nat) (PX : Nat → Int32) (PY : Nat → Int32) (PC : Nat → Int32) (PN : Nat) (POX : Nat → Int32) (POY : Nat → Int32) (POW : Nat → Int32) (bH : Nat) (bW : Nat → Int64) (bT : Nat) (bM : Nat → Nat → Int32) (rS : Nat) (rSt : Nat → Int32) (rHo : Nat → Int32) (rE : Nat) (rEl : Nat → Int32) (rEh : Nat → Int32) (f0 : Nat → Int64) (f1 : Nat → Int64) (f2 : Nat → Int64) (f3 : Nat → Int64) (qM : Nat → Nat → Int32) (qT : Nat → Int32) (qC : Int32) (o : Nat → Int64) (zVX : Nat → Nat → Int32) (zVY : Nat → Nat → Int32) (zVC : Nat → Nat → Int32) (zVN : Nat → Nat) (zVOX : Nat → Nat → Int32) (zVOY : Nat → Nat → Int32) (zVOW : Nat → Nat → Int32) (zVH : Nat → Nat) (zVW : Nat → Nat → Int64) (zVT : Nat → Nat) (zVM : Nat → Nat → Nat → Int32) (zVS : Nat → Nat) (zVSt : Nat → Nat → Int32) (zVHo : Nat → Nat → Int32) (zVE : Nat → Nat) (zVEl : Nat → Nat → Int32) (zVEh : Nat → Nat → Int32) (MNow : Nat → Int64) (MPast : Nat → Int64) (MSav : Nat) (MRef : Int32) (MThen : Nat → Int64) (MLev : Nat → Int64) (MFst : Int32) (MWay : Nat → Int64) (MMost : Nat → Int32) (MHash : Int64) (oF : Nat → Int64), zM g B A s [wTri g td (ad 0) (pd 0) (qd 0) ow (fun i => zSD i 0) zSc, wStc ad, wPlat g ad PX PY PC PN POX POY POW, wBel g ad bH bW bT bM, wRos g ad rS rSt rHo rE rEl rEh, wPln g pd, wLng g (pd 2) f0, wLng g (pd 3) f1, wLng g (pd 4) f2, wLng g (pd 5) f3, wAsg g qd qM qT qC, wLng g ow o, wSav g zSD zVX zVY zVC zVN zVOX zVOY zVOW zVH zVW zVT zVM zVS zVSt zVHo zVE zVEl zVEh, wMod g md MNow MPast MSav MRef MThen MLev MFst MWay MMost MHash, wOut g oa oF] H locs ∧ zRel MNow MPast MSav PX PY PC PN POX POY POW bH bW bT bM rS rSt rHo rE rEl rEh zSc zVX zVY zVC zVN zVOX zVOY zVOW zVH zVW zVT zVM zVS zVSt zVHo zVE zVEl zVEh
def zL0 (td md : Nat → Nat) (oa b ix : Nat) : List (Nat × Value) := [(0, .ref b), (1, .ref (td 0)), (2, .ref (md 0)), (3, .ref oa), (4, .int (nI ix))]
def zScr (b L : Nat) (xs : Nat → Int32) (A : Nat → Prop) (s : State) : Prop := va_X b L xs s s.heap ∧ b < s.heap.size ∧ ¬ A b
theorem zLw.mk {g : zG} {B : Nat} {A : Nat → Prop} {s : State} {H : Heap} {locs : List Loc} {td ad pd qd md : Nat → Nat} {ow oa : Nat} {oF : Nat → Int64} {zSD : Nat → Nat → Nat} {zSc : Nat} {PX : Nat → Int32} {PY : Nat → Int32} {PC : Nat → Int32} {PN : Nat} {POX : Nat → Int32} {POY : Nat → Int32} {POW : Nat → Int32} {bH : Nat} {bW : Nat → Int64} {bT : Nat} {bM : Nat → Nat → Int32} {rS : Nat} {rSt : Nat → Int32} {rHo : Nat → Int32} {rE : Nat} {rEl : Nat → Int32} {rEh : Nat → Int32} {f0 : Nat → Int64} {f1 : Nat → Int64} {f2 : Nat → Int64} {f3 : Nat → Int64} {qM : Nat → Nat → Int32} {qT : Nat → Int32} {qC : Int32} {o : Nat → Int64} {zVX : Nat → Nat → Int32} {zVY : Nat → Nat → Int32} {zVC : Nat → Nat → Int32} {zVN : Nat → Nat} {zVOX : Nat → Nat → Int32} {zVOY : Nat → Nat → Int32} {zVOW : Nat → Nat → Int32} {zVH : Nat → Nat} {zVW : Nat → Nat → Int64} {zVT : Nat → Nat} {zVM : Nat → Nat → Nat → Int32} {zVS : Nat → Nat} {zVSt : Nat → Nat → Int32} {zVHo : Nat → Nat → Int32} {zVE : Nat → Nat} {zVEl : Nat → Nat → Int32} {zVEh : Nat → Nat → Int32} {MNow : Nat → Int64} {MPast : Nat → Int64} {MSav : Nat} {MRef : Int32} {MThen : Nat → Int64} {MLev : Nat → Int64} {MFst : Int32} {MWay : Nat → Int64} {MMost : Nat → Int32} {MHash : Int64} (Z : zM g B A s [wTri g td (ad 0) (pd 0) (qd 0) ow (fun i => zSD i 0) zSc, wStc ad, wPlat g ad PX PY PC PN POX POY POW, wBel g ad bH bW bT bM, wRos g ad rS rSt rHo rE rEl rEh, wPln g pd, wLng g (pd 2) f0, wLng g (pd 3) f1, wLng g (pd 4) f2, wLng g (pd 5) f3, wAsg g qd qM qT qC, wLng g ow o, wSav g zSD zVX zVY zVC zVN zVOX zVOY zVOW zVH zVW zVT zVM zVS zVSt zVHo zVE zVEl zVEh, wMod g md MNow MPast MSav MRef MThen MLev MFst MWay MMost MHash, wOut g oa oF] H locs) (h : zRel MNow MPast MSav PX PY PC PN POX POY POW bH bW bT bM rS rSt rHo rE rEl rEh zSc zVX zVY zVC zVN zVOX zVOY zVOW zVH zVW zVT zVM zVS zVSt zVHo zVE zVEl zVEh) : zLw g B A s td ad pd qd ow md oa H locs := ⟨zSD, zSc, PX, PY, PC, PN, POX, POY, POW, bH, bW, bT, bM, rS, rSt, rHo, rE, rEl, rEh, f0, f1, f2, f3, qM, qT, qC, o, zVX, zVY, zVC, zVN, zVOX, zVOY, zVOW, zVH, zVW, zVT, zVM, zVS, zVSt, zVHo, zVE, zVEl, zVEh, MNow, MPast, MSav, MRef, MThen, MLev, MFst, MWay, MMost, MHash, oF, Z, h⟩
theorem zmap0 {ks : List Nat} {k : Nat} (hl : ks.length < 100) (h : zmap ks k = 0) : k = 0 := by
  unfold zmap at h
  split at h
  · assumption
  · have := List.idxOf_le_length (a := k) (l := ks)
    exact absurd h (nI_ne0 (by omega) (by omega))
theorem zout0 {k : Nat} {x : Int64} {o : Nat → Int64} (h : k = 0) : zout k x o 0 = x := by
  unfold zout
  rw [if_pos h]
  exact if_pos rfl
theorem zNow_of {v : Nat → Int64} {PX : Nat → Int32} {PY : Nat → Int32} {PC : Nat → Int32} {PN : Nat} {POX : Nat → Int32} {POY : Nat → Int32} {POW : Nat → Int32} {bH : Nat} {bW : Nat → Int64} {bT : Nat} {bM : Nat → Nat → Int32} {rS : Nat} {rSt : Nat → Int32} {rHo : Nat → Int32} {rE : Nat} {rEl : Nat → Int32} {rEh : Nat → Int32} (PP : zR1 v PX PY PC PN POX POY POW bH bW bT bM rS rSt rHo rE rEl rEh) : zNow v := by
  obtain ⟨hP, hB, hR⟩ := PP
  have eN := zcN hP.2.1.1 (by have := hP.2.1.2; omega)
  have eH := zcN hB.1.1 (by have := hB.1.2.2; omega)
  have eT := zcN hB.2.1.1 (by have := hB.2.1.2; omega)
  have eS := zcN hR.1.1 (by have := hR.1.2; omega)
  have eE := zcN hR.2.1.1 (by have := hR.2.1.2; omega)
  unfold zNow
  rw [eN, eH, eT, eS, eE]
  exact ⟨hP.2.1.1, hP.2.1.2, hB.1.1, hB.1.2.2, hB.2.1.1, hB.2.1.2, hR.1.1, hR.1.2, hR.2.1.1, hR.2.1.2⟩
section ZLH
variable {p : Program} {l : Launch} {e : Env} {R : Room} {s : State} {m : MethodId} {args : Array Value} {below : List Frame} {meth : Method} {c : Code} {H : Heap} {locs : List Loc} {cells slots : Nat} {Q : State → Prop}
variable {g : zG} {B : Nat} {A : Nat → Prop} {own : String} {cc : ByteArray} {nL : Nat} {ret : Option FieldType} {cs : List va_W} {pc : Nat} {ls : Array Slot} {rest : List Value} {b L i : Nat} {xs : Nat → Int32}
/-- one int of the script -/
theorem z_sld (X : zX p s m args meth c g B own cc nL ret) (S : zScr b L xs A s) (Z : zM g B A s cs H locs) (k : Nat) {v : Int32} (hv : v = nI k) (hi : i + k < L) (hL : L ≤ 2560) (hdg : decode cc pc = .ok (.iaload, 1))
    (kk : W p l e R s m args below meth c H locs cells slots Q (F0 m (pc + 1) ls (.int (xs (i + k)) :: rest))) : W p l e R s m args below meth c H locs cells slots Q (F0 m pc ls (.int (nI i + v) :: .ref b :: rest)) := by
  subst hv
  rw [nI_add]
  refine va_sld X.1 X.2.1 S.1 S.2.1 S.2.2 Z.1.2.2.1 (vp_in_nI hi (by omega)) hdg ?_
  rw [nI_clamp (by omega)]
  exact kk
end ZLH
