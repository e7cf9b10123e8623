/-! The class's own world: the row of saved states (V: four states by number), one of them taken out (X: the other three). -/
def zat {α : Type} (F : Nat → α) (i : Nat) (x : α) : Nat → α := fun j => if j = i then x else F j
def zrot {α : Type} (F : Nat → α) : Nat → α := fun i => if i = 0 then F 1 else if i = 1 then F 2 else if i = 2 then F 3 else if i = 3 then F 0 else F i
def zsvI (n : Nat) : Nat := if n = 4 then 3 else n
def zsvF {α : Type} (n : Nat) (F : Nat → α) : Nat → α := if n = 4 then zrot F else F
theorem zat_eq {α : Type} (F : Nat → α) (i : Nat) (x : α) : zat F i x i = x := if_pos rfl
theorem zat_ne {α : Type} {F : Nat → α} {i j : Nat} {x : α} (h : j ≠ i) : zat F i x j = F j := if_neg h
theorem zat_self {α : Type} (F : Nat → α) (i : Nat) : zat F i (F i) = F := funext fun j => by
  unfold zat
  split
  · rename_i h; rw [h]
  · rfl
def wSav (g : zG) (sd : Nat → Nat → Nat) (VX : Nat → Nat → Int32) (VY : Nat → Nat → Int32) (VC : Nat → Nat → Int32) (VN : Nat → Nat) (VOX : Nat → Nat → Int32) (VOY : Nat → Nat → Int32) (VOW : Nat → Nat → Int32) (VH : Nat → Nat) (VW : Nat → Nat → Int64) (VT : Nat → Nat) (VM : Nat → Nat → Nat → Int32) (VS : Nat → Nat) (VSt : Nat → Nat → Int32) (VHo : Nat → Nat → Int32) (VE : Nat → Nat) (VEl : Nat → Nat → Int32) (VEh : Nat → Nat → Int32) : va_W := (wStc (sd 0) ++ (wPlat g (sd 0) (VX 0) (VY 0) (VC 0) (VN 0) (VOX 0) (VOY 0) (VOW 0) ++ (wBel g (sd 0) (VH 0) (VW 0) (VT 0) (VM 0) ++ wRos g (sd 0) (VS 0) (VSt 0) (VHo 0) (VE 0) (VEl 0) (VEh 0)))) ++ ((wStc (sd 1) ++ (wPlat g (sd 1) (VX 1) (VY 1) (VC 1) (VN 1) (VOX 1) (VOY 1) (VOW 1) ++ (wBel g (sd 1) (VH 1) (VW 1) (VT 1) (VM 1) ++ wRos g (sd 1) (VS 1) (VSt 1) (VHo 1) (VE 1) (VEl 1) (VEh 1)))) ++ ((wStc (sd 2) ++ (wPlat g (sd 2) (VX 2) (VY 2) (VC 2) (VN 2) (VOX 2) (VOY 2) (VOW 2) ++ (wBel g (sd 2) (VH 2) (VW 2) (VT 2) (VM 2) ++ wRos g (sd 2) (VS 2) (VSt 2) (VHo 2) (VE 2) (VEl 2) (VEh 2)))) ++ (wStc (sd 3) ++ (wPlat g (sd 3) (VX 3) (VY 3) (VC 3) (VN 3) (VOX 3) (VOY 3) (VOW 3) ++ (wBel g (sd 3) (VH 3) (VW 3) (VT 3) (VM 3) ++ wRos g (sd 3) (VS 3) (VSt 3) (VHo 3) (VE 3) (VEl 3) (VEh 3))))))
def wSt1 (g : zG) (sd : Nat → Nat → Nat) (VX : Nat → Nat → Int32) (VY : Nat → Nat → Int32) (VC : Nat → Nat → Int32) (VN : Nat → Nat) (VOX : Nat → Nat → Int32) (VOY : Nat → Nat → Int32) (VOW : Nat → Nat → Int32) (VH : Nat → Nat) (VW : Nat → Nat → Int64) (VT : Nat → Nat) (VM : Nat → Nat → Nat → Int32) (VS : Nat → Nat) (VSt : Nat → Nat → Int32) (VHo : Nat → Nat → Int32) (VE : Nat → Nat) (VEl : Nat → Nat → Int32) (VEh : Nat → Nat → Int32) (i : Nat) : va_W := (wStc (sd i) ++ (wPlat g (sd i) (VX i) (VY i) (VC i) (VN i) (VOX i) (VOY i) (VOW i) ++ (wBel g (sd i) (VH i) (VW i) (VT i) (VM i) ++ wRos g (sd i) (VS i) (VSt i) (VHo i) (VE i) (VEl i) (VEh i))))
def wSvx (g : zG) (i : Nat) (sd : Nat → Nat → Nat) (VX : Nat → Nat → Int32) (VY : Nat → Nat → Int32) (VC : Nat → Nat → Int32) (VN : Nat → Nat) (VOX : Nat → Nat → Int32) (VOY : Nat → Nat → Int32) (VOW : Nat → Nat → Int32) (VH : Nat → Nat) (VW : Nat → Nat → Int64) (VT : Nat → Nat) (VM : Nat → Nat → Nat → Int32) (VS : Nat → Nat) (VSt : Nat → Nat → Int32) (VHo : Nat → Nat → Int32) (VE : Nat → Nat) (VEl : Nat → Nat → Int32) (VEh : Nat → Nat → Int32) : va_W := (if i = 0 then [] else wSt1 g sd VX VY VC VN VOX VOY VOW VH VW VT VM VS VSt VHo VE VEl VEh 0) ++ ((if i = 1 then [] else wSt1 g sd VX VY VC VN VOX VOY VOW VH VW VT VM VS VSt VHo VE VEl VEh 1) ++ ((if i = 2 then [] else wSt1 g sd VX VY VC VN VOX VOY VOW VH VW VT VM VS VSt VHo VE VEl VEh 2) ++ (if i = 3 then [] else wSt1 g sd VX VY VC VN VOX VOY VOW VH VW VT VM VS VSt VHo VE VEl VEh 3)))
theorem zSav_st (g : zG) (sd : Nat → Nat → Nat) (VX : Nat → Nat → Int32) (VY : Nat → Nat → Int32) (VC : Nat → Nat → Int32) (VN : Nat → Nat) (VOX : Nat → Nat → Int32) (VOY : Nat → Nat → Int32) (VOW : Nat → Nat → Int32) (VH : Nat → Nat) (VW : Nat → Nat → Int64) (VT : Nat → Nat) (VM : Nat → Nat → Nat → Int32) (VS : Nat → Nat) (VSt : Nat → Nat → Int32) (VHo : Nat → Nat → Int32) (VE : Nat → Nat) (VEl : Nat → Nat → Int32) (VEh : Nat → Nat → Int32) : wSav g sd VX VY VC VN VOX VOY VOW VH VW VT VM VS VSt VHo VE VEl VEh = wSt1 g sd VX VY VC VN VOX VOY VOW VH VW VT VM VS VSt VHo VE VEl VEh 0 ++ (wSt1 g sd VX VY VC VN VOX VOY VOW VH VW VT VM VS VSt VHo VE VEl VEh 1 ++ (wSt1 g sd VX VY VC VN VOX VOY VOW VH VW VT VM VS VSt VHo VE VEl VEh 2 ++ wSt1 g sd VX VY VC VN VOX VOY VOW VH VW VT VM VS VSt VHo VE VEl VEh 3)) := rfl
theorem zq1 {α : Type} (a b c : List α) : (a ++ (b ++ c)).Perm (b ++ (a ++ c)) := by
  rw [← List.append_assoc, ← List.append_assoc]
  exact List.perm_append_comm.append_right c
theorem zq2 {α : Type} (a b c d : List α) : (a ++ (b ++ (c ++ d))).Perm (c ++ (a ++ (b ++ d))) := ((zq1 b c d).append_left a).trans (zq1 a c (b ++ d))
theorem zq3 {α : Type} (a b c d : List α) : (a ++ (b ++ (c ++ d))).Perm (d ++ (a ++ (b ++ c))) := by
  have h : (a ++ (b ++ (c ++ d))) = (a ++ (b ++ c)) ++ d := by simp
  rw [h]
  exact List.perm_append_comm
theorem zV_perm (g : zG) (sd : Nat → Nat → Nat) (VX : Nat → Nat → Int32) (VY : Nat → Nat → Int32) (VC : Nat → Nat → Int32) (VN : Nat → Nat) (VOX : Nat → Nat → Int32) (VOY : Nat → Nat → Int32) (VOW : Nat → Nat → Int32) (VH : Nat → Nat) (VW : Nat → Nat → Int64) (VT : Nat → Nat) (VM : Nat → Nat → Nat → Int32) (VS : Nat → Nat) (VSt : Nat → Nat → Int32) (VHo : Nat → Nat → Int32) (VE : Nat → Nat) (VEl : Nat → Nat → Int32) (VEh : Nat → Nat → Int32) {i : Nat} (h : i < 4) : (wSav g sd VX VY VC VN VOX VOY VOW VH VW VT VM VS VSt VHo VE VEl VEh).Perm (wSt1 g sd VX VY VC VN VOX VOY VOW VH VW VT VM VS VSt VHo VE VEl VEh i ++ wSvx g i sd VX VY VC VN VOX VOY VOW VH VW VT VM VS VSt VHo VE VEl VEh) := by
  rw [zSav_st]
  unfold wSvx
  generalize wSt1 g sd VX VY VC VN VOX VOY VOW VH VW VT VM VS VSt VHo VE VEl VEh = f
  rcases (by omega : i = 0 ∨ i = 1 ∨ i = 2 ∨ i = 3) with rfl | rfl | rfl | rfl
  · simp
  · simp only [Nat.one_ne_zero, if_false, if_true, List.nil_append, Nat.reduceEqDiff, Nat.reduceBEq]
    exact zq1 _ _ _
  · simp only [if_false, if_true, List.nil_append, Nat.reduceEqDiff]
    exact zq2 _ _ _ _
  · simp only [if_false, if_true, List.append_nil, Nat.reduceEqDiff]
    exact zq3 _ _ _ _
theorem zSvx_set (g : zG) (sd : Nat → Nat → Nat) (VX : Nat → Nat → Int32) (VY : Nat → Nat → Int32) (VC : Nat → Nat → Int32) (VN : Nat → Nat) (VOX : Nat → Nat → Int32) (VOY : Nat → Nat → Int32) (VOW : Nat → Nat → Int32) (VH : Nat → Nat) (VW : Nat → Nat → Int64) (VT : Nat → Nat) (VM : Nat → Nat → Nat → Int32) (VS : Nat → Nat) (VSt : Nat → Nat → Int32) (VHo : Nat → Nat → Int32) (VE : Nat → Nat) (VEl : Nat → Nat → Int32) (VEh : Nat → Nat → Int32) (xX : Nat → Int32) (xY : Nat → Int32) (xC : Nat → Int32) (xN : Nat) (xOX : Nat → Int32) (xOY : Nat → Int32) (xOW : Nat → Int32) (xH : Nat) (xW : Nat → Int64) (xT : Nat) (xM : Nat → Nat → Int32) (xS : Nat) (xSt : Nat → Int32) (xHo : Nat → Int32) (xE : Nat) (xEl : Nat → Int32) (xEh : Nat → Int32) {i : Nat} : wSvx g i sd VX VY VC VN VOX VOY VOW VH VW VT VM VS VSt VHo VE VEl VEh = wSvx g i sd (zat VX i xX) (zat VY i xY) (zat VC i xC) (zat VN i xN) (zat VOX i xOX) (zat VOY i xOY) (zat VOW i xOW) (zat VH i xH) (zat VW i xW) (zat VT i xT) (zat VM i xM) (zat VS i xS) (zat VSt i xSt) (zat VHo i xHo) (zat VE i xE) (zat VEl i xEl) (zat VEh i xEh) := by
  have e : ∀ j, j ≠ i → wSt1 g sd VX VY VC VN VOX VOY VOW VH VW VT VM VS VSt VHo VE VEl VEh j = wSt1 g sd (zat VX i xX) (zat VY i xY) (zat VC i xC) (zat VN i xN) (zat VOX i xOX) (zat VOY i xOY) (zat VOW i xOW) (zat VH i xH) (zat VW i xW) (zat VT i xT) (zat VM i xM) (zat VS i xS) (zat VSt i xSt) (zat VHo i xHo) (zat VE i xE) (zat VEl i xEl) (zat VEh i xEh) j := fun j hj => by
    unfold wSt1
    rw [zat_ne hj, zat_ne hj, zat_ne hj, zat_ne hj, zat_ne hj, zat_ne hj, zat_ne hj, zat_ne hj, zat_ne hj, zat_ne hj, zat_ne hj, zat_ne hj, zat_ne hj, zat_ne hj, zat_ne hj, zat_ne hj, zat_ne hj]
  unfold wSvx
  congr 1
  · split
    · rfl
    · exact e 0 (by omega)
  congr 1
  · split
    · rfl
    · exact e 1 (by omega)
  congr 1
  · split
    · rfl
    · exact e 2 (by omega)
  · split
    · rfl
    · exact e 3 (by omega)
section ZV
variable {g : zG} {B : Nat} {A : Nat → Prop} {s : State} {H : Heap} {locs : List Loc} {cs : List va_W} {sd : Nat → Nat → Nat} {VX : Nat → Nat → Int32} {VY : Nat → Nat → Int32} {VC : Nat → Nat → Int32} {VN : Nat → Nat} {VOX : Nat → Nat → Int32} {VOY : Nat → Nat → Int32} {VOW : Nat → Nat → Int32} {VH : Nat → Nat} {VW : Nat → Nat → Int64} {VT : Nat → Nat} {VM : Nat → Nat → Nat → Int32} {VS : Nat → Nat} {VSt : Nat → Nat → Int32} {VHo : Nat → Nat → Int32} {VE : Nat → Nat} {VEl : Nat → Nat → Int32} {VEh : Nat → Nat → Int32}
theorem zM.perm {cs2 : List va_W} (Z : zM g B A s cs H locs) (h : cs.flatten.Perm cs2.flatten) : zM g B A s cs2 H locs := ⟨⟨zp_perm h Z.1.1, zd_perm h Z.1.2.1, Z.1.2.2⟩, Z.2⟩
theorem zV_open {i : Nat} (Z : zM g B A s (cs ++ [wSav g sd VX VY VC VN VOX VOY VOW VH VW VT VM VS VSt VHo VE VEl VEh]) H locs) (h : i < 4) : zM g B A s (cs ++ [wStc (sd i), wPlat g (sd i) (VX i) (VY i) (VC i) (VN i) (VOX i) (VOY i) (VOW i), wBel g (sd i) (VH i) (VW i) (VT i) (VM i), wRos g (sd i) (VS i) (VSt i) (VHo i) (VE i) (VEl i) (VEh i), wSvx g i sd VX VY VC VN VOX VOY VOW VH VW VT VM VS VSt VHo VE VEl VEh]) H locs := by
  refine Z.perm ?_
  rw [List.flatten_append, List.flatten_append]
  refine List.Perm.append_left _ ?_
  have := zV_perm g sd VX VY VC VN VOX VOY VOW VH VW VT VM VS VSt VHo VE VEl VEh h
  simpa [wSt1, List.append_assoc] using this
theorem zV_close {i : Nat} {xX : Nat → Int32} {xY : Nat → Int32} {xC : Nat → Int32} {xN : Nat} {xOX : Nat → Int32} {xOY : Nat → Int32} {xOW : Nat → Int32} {xH : Nat} {xW : Nat → Int64} {xT : Nat} {xM : Nat → Nat → Int32} {xS : Nat} {xSt : Nat → Int32} {xHo : Nat → Int32} {xE : Nat} {xEl : Nat → Int32} {xEh : Nat → Int32} (Z : zM g B A s (cs ++ [wStc (sd i), wPlat g (sd i) xX xY xC xN xOX xOY xOW, wBel g (sd i) xH xW xT xM, wRos g (sd i) xS xSt xHo xE xEl xEh, wSvx g i sd VX VY VC VN VOX VOY VOW VH VW VT VM VS VSt VHo VE VEl VEh]) H locs) (h : i < 4) : zM g B A s (cs ++ [wSav g sd (zat VX i xX) (zat VY i xY) (zat VC i xC) (zat VN i xN) (zat VOX i xOX) (zat VOY i xOY) (zat VOW i xOW) (zat VH i xH) (zat VW i xW) (zat VT i xT) (zat VM i xM) (zat VS i xS) (zat VSt i xSt) (zat VHo i xHo) (zat VE i xE) (zat VEl i xEl) (zat VEh i xEh)]) H locs := by
  refine Z.perm ?_
  rw [List.flatten_append, List.flatten_append]
  refine List.Perm.append_left _ ?_
  have := (zV_perm g sd (zat VX i xX) (zat VY i xY) (zat VC i xC) (zat VN i xN) (zat VOX i xOX) (zat VOY i xOY) (zat VOW i xOW) (zat VH i xH) (zat VW i xW) (zat VT i xT) (zat VM i xM) (zat VS i xS) (zat VSt i xSt) (zat VHo i xHo) (zat VE i xE) (zat VEl i xEl) (zat VEh i xEh) h).symm
  rw [← zSvx_set] at this
  simpa [wSt1, zat_eq, List.append_assoc] using this
theorem zV_close0 {i : Nat} (Z : zM g B A s (cs ++ [wStc (sd i), wPlat g (sd i) (VX i) (VY i) (VC i) (VN i) (VOX i) (VOY i) (VOW i), wBel g (sd i) (VH i) (VW i) (VT i) (VM i), wRos g (sd i) (VS i) (VSt i) (VHo i) (VE i) (VEl i) (VEh i), wSvx g i sd VX VY VC VN VOX VOY VOW VH VW VT VM VS VSt VHo VE VEl VEh]) H locs) (h : i < 4) : zM g B A s (cs ++ [wSav g sd VX VY VC VN VOX VOY VOW VH VW VT VM VS VSt VHo VE VEl VEh]) H locs := by
  refine Z.perm ?_
  rw [List.flatten_append, List.flatten_append]
  refine List.Perm.append_left _ ?_
  have := (zV_perm g sd VX VY VC VN VOX VOY VOW VH VW VT VM VS VSt VHo VE VEl VEh h).symm
  simpa [wSt1, List.append_assoc] using this
theorem zV_rot (Z : zM g B A s (cs ++ [wSav g sd VX VY VC VN VOX VOY VOW VH VW VT VM VS VSt VHo VE VEl VEh]) H locs) : zM g B A s (cs ++ [wSav g (zrot sd) (zrot VX) (zrot VY) (zrot VC) (zrot VN) (zrot VOX) (zrot VOY) (zrot VOW) (zrot VH) (zrot VW) (zrot VT) (zrot VM) (zrot VS) (zrot VSt) (zrot VHo) (zrot VE) (zrot VEl) (zrot VEh)]) H locs := by
  refine Z.perm ?_
  rw [List.flatten_append, List.flatten_append]
  refine List.Perm.append_left _ ?_
  rw [List.flatten_singleton, List.flatten_singleton, zSav_st, zSav_st]
  show (wSt1 g sd VX VY VC VN VOX VOY VOW VH VW VT VM VS VSt VHo VE VEl VEh 0 ++ (wSt1 g sd VX VY VC VN VOX VOY VOW VH VW VT VM VS VSt VHo VE VEl VEh 1 ++ (wSt1 g sd VX VY VC VN VOX VOY VOW VH VW VT VM VS VSt VHo VE VEl VEh 2 ++ wSt1 g sd VX VY VC VN VOX VOY VOW VH VW VT VM VS VSt VHo VE VEl VEh 3))).Perm (wSt1 g sd VX VY VC VN VOX VOY VOW VH VW VT VM VS VSt VHo VE VEl VEh 1 ++ (wSt1 g sd VX VY VC VN VOX VOY VOW VH VW VT VM VS VSt VHo VE VEl VEh 2 ++ (wSt1 g sd VX VY VC VN VOX VOY VOW VH VW VT VM VS VSt VHo VE VEl VEh 3 ++ wSt1 g sd VX VY VC VN VOX VOY VOW VH VW VT VM VS VSt VHo VE VEl VEh 0)))
  generalize wSt1 g sd VX VY VC VN VOX VOY VOW VH VW VT VM VS VSt VHo VE VEl VEh = f
  have h : f 1 ++ (f 2 ++ (f 3 ++ f 0)) = (f 1 ++ (f 2 ++ f 3)) ++ f 0 := by simp
  rw [h]
  exact List.perm_append_comm
end ZV
/-- a row of references gets one of them -/
def zNu (f : Nat → Nat) (j r : Nat) : Nat → Nat := fun i => if i = j then r else f i
theorem zNu_some (f : Nat → Nat) (j r : Nat) : va_up (fun i => some (f i)) j (some r) = fun i => some (zNu f j r i) := funext fun i => by
  unfold va_up zNu
  split <;> rfl
theorem zNu4 (sd : Nat → Nat → Nat) : zNu (zNu (zNu (zNu (fun i => sd i 0) 0 (sd 1 0)) 1 (sd 2 0)) 2 (sd 3 0)) 3 (sd 0 0) = fun i => (zrot sd) i 0 := funext fun i => by
  unfold zNu zrot
  by_cases h0 : i = 0
  · subst h0; rfl
  by_cases h1 : i = 1
  · subst h1; rfl
  by_cases h2 : i = 2
  · subst h2; rfl
  by_cases h3 : i = 3
  · subst h3; rfl
  simp [h0, h1, h2, h3]
section ZQ
variable {p : Program} {l : Launch} {e : Env} {R : Room} {s : State} {m : MethodId} {args : Array Value} {below : List Frame} {meth : Method} {c : Code} {H : Heap} {locs : List Loc} {cells slots : Nat} {Q : State → Prop}
variable {g : zG} {B : Nat} {A : Nat → Prop} {own : String} {cc : ByteArray} {nL : Nat} {ret : Option FieldType} {cs cs2 : List va_W} {pc : Nat} {ls : Array Slot} {rest : List Value} {a : Nat}
theorem z_aast (X : zX p s m args meth c g B own cc nL ret) (Z : zM g B A s cs H locs) (q0 t0 qk ci : Nat) {C : String} {T : u_T} {N n j r : Nat} {vs : List Value} {f : Nat → Nat} {i : Int32} (ha : cs.flatten[q0]? = some (a, .inl (g.2 t0, n, .inr (.inr (.inr (.inr (fun i => some (f i)))))))) (ht : (zTy g)[t0]? = some (g.2 t0, .object C)) (hv : cs.flatten[qk]? = some (r, .inr (ci, vs))) (hc : zCl[ci]? = some (C, T, N)) (hi : i = nI j) (hj : j < n) (hn : n < 2 ^ 31)
    (h2 : cs.flatten.set q0 (a, .inl (g.2 t0, n, .inr (.inr (.inr (.inr (fun i => some (zNu f j r i))))))) = cs2.flatten) (hdg : decode cc pc = .ok (.aastore, 1))
    (kk : ∀ (H : Heap) (locs : List Loc), zM g B A s cs2 H locs → W p l e R s m args below meth c H locs cells slots Q (F0 m (pc + 1) ls rest)) : W p l e R s m args below meth c H locs cells slots Q (F0 m pc ls (.ref r :: .int i :: .ref a :: rest)) := by
  subst hi
  refine va_astq X.1 X.2.1 X.2.2.2.2.2.2.2.1.1 Z.1.1 Z.1.2.1 Z.1.2.2.1 q0 t0 qk ci ha ht hv hc (vp_in_nI hj hn) hdg (fun H1 locs1 h3 h4 h5 => ?_)
  rw [nI_clamp (Nat.lt_trans hj hn), zNu_some, h2] at h3 h4
  exact kk H1 locs1 ⟨⟨h3, h4, h5, Z.1.2.2.2⟩, Z.2⟩
end ZQ
