def zabsI (x : Int32) : Int32 := if 0 ≤ x then x else 0 - x
theorem zdn (n : Nat) : nI n + Int32.ofInt (-1) = nI n - 1 := by
  show nI n + (-1) = nI n - 1
  rw [Int32.sub_eq_add_neg]
theorem zdp (n : Nat) : nI (n + 1) + Int32.ofInt (-1) = nI n := pk_m1 n
section ZR2
variable {p : Program} {l : Launch} {e : Env} {R : Room} {s : State} {m : MethodId} {args : Array Value} {below : List Frame} {meth : Method} {c : Code} {H : Heap} {locs : List Loc} {cells slots : Nat} {Q : State → Prop}
variable {g : zG} {B : Nat} {A : Nat → Prop} {own : String} {cc : ByteArray} {nL : Nat} {ret : Option FieldType} {cs cs2 : List va_W} {pc : Nat} {ls : Array Slot} {rest st st2 : List Value} {a : Nat}
theorem z_ifgeN (X : zX p s m args meth c g B own cc nL ret) {a : Nat} {x : Int32} (hx : x = nI a) (ha : a < 2 ^ 31) {off : Int} {tgt : Nat} (hdg : decode cc pc = .ok (.ifCond .ge off, 3)) (ht : (pc : Int) + off = (tgt : Int)) (kt : True → W p l e R s m args below meth c H locs cells slots Q (F0 m tgt ls rest)) (kf : False → W p l e R s m args below meth c H locs cells slots Q (F0 m (pc + 3) ls rest)) : W p l e R s m args below meth c H locs cells slots Q (F0 m pc ls (.int x :: rest)) := by
  subst hx
  exact lv_if_ge X.1 X.2.1 hdg ht (fun _ => kt trivial) (fun h => kf (h (nI_pos' ha)))
theorem z_ifltN (X : zX p s m args meth c g B own cc nL ret) {a : Nat} {x : Int32} (hx : x = nI a) (ha : a < 2 ^ 31) {off : Int} {tgt : Nat} (hdg : decode cc pc = .ok (.ifCond .lt off, 3)) (ht : (pc : Int) + off = (tgt : Int)) (kt : False → W p l e R s m args below meth c H locs cells slots Q (F0 m tgt ls rest)) (kf : True → W p l e R s m args below meth c H locs cells slots Q (F0 m (pc + 3) ls rest)) : W p l e R s m args below meth c H locs cells slots Q (F0 m pc ls (.int x :: rest)) := by
  subst hx
  exact lv_if_lt X.1 X.2.1 hdg ht (fun h => kt (nI_pos ha h)) (fun _ => kf trivial)
theorem z_ifleN (X : zX p s m args meth c g B own cc nL ret) {a : Nat} {x : Int32} (hx : x = nI a) (ha : a < 2 ^ 31) {off : Int} {tgt : Nat} (hdg : decode cc pc = .ok (.ifCond .le off, 3)) (ht : (pc : Int) + off = (tgt : Int)) (kt : a = 0 → W p l e R s m args below meth c H locs cells slots Q (F0 m tgt ls rest)) (kf : ¬ a = 0 → W p l e R s m args below meth c H locs cells slots Q (F0 m (pc + 3) ls rest)) : W p l e R s m args below meth c H locs cells slots Q (F0 m pc ls (.int x :: rest)) := by
  subst hx
  exact lv_if_le X.1 X.2.1 hdg ht (fun h => kt (by
    rcases Nat.eq_zero_or_pos a with q | q
    · exact q
    · exact absurd h (nI_nle q ha))) (fun h => kf (fun q => h (by subst q; decide)))
theorem z_ifgtN (X : zX p s m args meth c g B own cc nL ret) {a : Nat} {x : Int32} (hx : x = nI a) (ha : a < 2 ^ 31) {off : Int} {tgt : Nat} (hdg : decode cc pc = .ok (.ifCond .gt off, 3)) (ht : (pc : Int) + off = (tgt : Int)) (kt : ¬ a = 0 → W p l e R s m args below meth c H locs cells slots Q (F0 m tgt ls rest)) (kf : a = 0 → W p l e R s m args below meth c H locs cells slots Q (F0 m (pc + 3) ls rest)) : W p l e R s m args below meth c H locs cells slots Q (F0 m pc ls (.int x :: rest)) := by
  subst hx
  exact lv_if_gt X.1 X.2.1 hdg ht (fun h => kt (fun q => by subst q; exact absurd h (by decide))) (fun h => kf (by
    rcases Nat.eq_zero_or_pos a with q | q
    · exact q
    · exact absurd (nI_lt q ha) h))
theorem z_lremR (X : zX p s m args meth c g B own cc nL ret) {x y : Int64} (h : ¬ y = 0) (hdg : decode cc pc = .ok (.lrem, 1)) (k : W p l e R s m args below meth c H locs cells slots Q (F0 m (pc + 1) ls (.long (zremL x y) :: rest))) : W p l e R s m args below meth c H locs cells slots Q (F0 m pc ls (.long y :: .long x :: rest)) := lv_lrem X.1 X.2.1 hdg h k
theorem z_iremR (X : zX p s m args meth c g B own cc nL ret) {x y : Int32} (h : ¬ y = 0) (hdg : decode cc pc = .ok (.irem, 1)) (k : W p l e R s m args below meth c H locs cells slots Q (F0 m (pc + 1) ls (.int (zremI x y) :: rest))) : W p l e R s m args below meth c H locs cells slots Q (F0 m pc ls (.int y :: .int x :: rest)) := lv_irem X.1 X.2.1 hdg h k
theorem z_Mmaxint {index : Nat} (X : zX p s m args meth c g B own cc nL ret) (hsize : ls.size = nL) (u : Cond.methodLink own index Lib.Math.max.name ∈ zU) (hframes : 1 ≤ R.frames) (hlocals : (rest.map fun v => v.category).sum + 13 ≤ R.locals) (hc : cells ≤ R.cells) (hs : slots ≤ R.slots) {x y : Int32} (hdg : decode cc pc = .ok (.invokestatic index, 3)) (kk : W p l e R s m args below meth c H locs cells slots Q (F0 m (pc + 3) ls (.int (zmaxI x y) :: rest))) : W p l e R s m args below meth c H locs cells slots Q (F0 m pc ls (.int y :: .int x :: rest)) :=
  va_mmax X.1 X.2.1 (X.2.2.1.trans hsize.symm) X.2.2.2.1 (X.2.2.2.2.1 _ u) (X.2.2.2.2.1 _ zm_maxint_s) (X.2.2.2.2.1 _ wZ_J9) (X.2.2.2.2.1 _ zm_maxint_c) hframes hlocals hc hs hdg kk
theorem z_Mmaxlong {index : Nat} (X : zX p s m args meth c g B own cc nL ret) (hsize : ls.size = nL) (u : Cond.methodLink own index Lib.MathLoose.max_long.x ∈ zU) (hframes : 1 ≤ R.frames) (hlocals : (rest.map fun v => v.category).sum + 15 ≤ R.locals) (hc : cells ≤ R.cells) (hs : slots ≤ R.slots) {x y : Int64} (hdg : decode cc pc = .ok (.invokestatic index, 3)) (kk : W p l e R s m args below meth c H locs cells slots Q (F0 m (pc + 3) ls (.long (zmaxL x y) :: rest))) : W p l e R s m args below meth c H locs cells slots Q (F0 m pc ls (.long y :: .long x :: rest)) :=
  va_mmax_long X.1 X.2.1 (X.2.2.1.trans hsize.symm) X.2.2.2.1 (X.2.2.2.2.1 _ u) (X.2.2.2.2.1 _ zm_maxlong_s) (X.2.2.2.2.1 _ wZ_J9) (X.2.2.2.2.1 _ zm_maxlong_c) hframes hlocals hc hs hdg kk
theorem z_Mminlong {index : Nat} (X : zX p s m args meth c g B own cc nL ret) (hsize : ls.size = nL) (u : Cond.methodLink own index Lib.MathLoose.min_long.x ∈ zU) (hframes : 1 ≤ R.frames) (hlocals : (rest.map fun v => v.category).sum + 15 ≤ R.locals) (hc : cells ≤ R.cells) (hs : slots ≤ R.slots) {x y : Int64} (hdg : decode cc pc = .ok (.invokestatic index, 3)) (kk : W p l e R s m args below meth c H locs cells slots Q (F0 m (pc + 3) ls (.long (zminL x y) :: rest))) : W p l e R s m args below meth c H locs cells slots Q (F0 m pc ls (.long y :: .long x :: rest)) :=
  va_mmin_long X.1 X.2.1 (X.2.2.1.trans hsize.symm) X.2.2.2.1 (X.2.2.2.2.1 _ u) (X.2.2.2.2.1 _ zm_minlong_s) (X.2.2.2.2.1 _ wZ_J9) (X.2.2.2.2.1 _ zm_minlong_c) hframes hlocals hc hs hdg kk
theorem z_Mabslong {index : Nat} (X : zX p s m args meth c g B own cc nL ret) (hsize : ls.size = nL) (u : Cond.methodLink own index Lib.MathLoose.abs_long.x ∈ zU) (hframes : 1 ≤ R.frames) (hlocals : (rest.map fun v => v.category).sum + 13 ≤ R.locals) (hc : cells ≤ R.cells) (hs : slots ≤ R.slots) {x : Int64} (hdg : decode cc pc = .ok (.invokestatic index, 3)) (kk : W p l e R s m args below meth c H locs cells slots Q (F0 m (pc + 3) ls (.long (zabsL x) :: rest))) : W p l e R s m args below meth c H locs cells slots Q (F0 m pc ls (.long x :: rest)) :=
  va_mabs_long X.1 X.2.1 (X.2.2.1.trans hsize.symm) X.2.2.2.1 (X.2.2.2.2.1 _ u) (X.2.2.2.2.1 _ zm_abslong_s) (X.2.2.2.2.1 _ wZ_J9) (X.2.2.2.2.1 _ zm_abslong_c) hframes hlocals hc hs hdg kk
/-- System.arraycopy from places 0 to places 0 -/
theorem z_copyi {index : Nat} (X : zX p s m args meth c g B own cc nL ret) (Z : zM g B A s cs H locs) (q0 q1 : Nat) {a0 n0 n1 n : Nat} {f g9 : Nat → Int32} {x : Int32} (ha0 : cs.flatten[q0]? = some (a0, .inl (g.2 0, n0, .inl f))) (ha1 : cs.flatten[q1]? = some (a, .inl (g.2 0, n1, .inl g9))) (hsize : ls.size = nL) (hlink : Cond.methodLink own index arraycopyName ∈ zU) (hn : x = nI n) (h4 : n ≤ n0) (h5 : n ≤ n1) (b0 : n0 < 2 ^ 31) (b1 : n1 < 2 ^ 31)
    (hframes : 1 ≤ R.frames) (hlocals : (rest.map fun v => v.category).sum + (nativeFrameWords "java/lang/System" "arraycopy" 5 + 11) ≤ R.locals) (h2 : cs.flatten.set q1 (a, .inl (g.2 0, n1, .inl (va_cpy f g9 0 0 n))) = cs2.flatten) (hdg : decode cc pc = .ok (.invokestatic index, 3))
    (kk : ∀ (H : Heap) (locs : List Loc), zM g B A s cs2 H locs → W p l e R s m args below meth c H locs cells slots Q (F0 m (pc + 3) ls rest)) : W p l e R s m args below meth c H locs cells slots Q (F0 m pc ls (.int x :: .int (0 : Int32) :: .ref a :: .int (0 : Int32) :: .ref a0 :: rest)) := by
  subst hn
  have hnn : (nI n).toNatClampNeg = n := nI_clamp (by omega)
  refine va_copyi X.1 X.2.1 (X.2.2.1.trans hsize.symm) X.2.2.2.1 (X.2.2.2.2.1 _ hlink) (X.2.2.2.2.1 _ zm_copy_n) (X.2.2.2.2.1 _ zm_copy_s) (X.2.2.2.2.1 _ wZ_J10) X.2.2.2.2.2.2.2.1.1 Z.1.1 Z.1.2.1 Z.1.2.2.1 q0 q1 0 0 ha0 ha1 rfl rfl rfl (by decide) (by decide) (nI_pos (by omega)) (by rw [hnn]; simpa using h4) (by rw [hnn]; simpa using h5) (fun i _ => rfl) hframes hlocals hdg (fun H1 locs1 k1 k2 k3 => ?_)
  rw [hnn] at k1 k2
  exact kk H1 locs1 ⟨⟨h2 ▸ k1, h2 ▸ k2, k3, Z.1.2.2.2⟩, Z.2⟩
theorem z_copyl {index : Nat} (X : zX p s m args meth c g B own cc nL ret) (Z : zM g B A s cs H locs) (q0 q1 : Nat) {a0 n0 n1 n : Nat} {f g9 : Nat → Int64} {x : Int32} (ha0 : cs.flatten[q0]? = some (a0, .inl (g.2 1, n0, .inr (.inl f)))) (ha1 : cs.flatten[q1]? = some (a, .inl (g.2 1, n1, .inr (.inl g9)))) (hsize : ls.size = nL) (hlink : Cond.methodLink own index arraycopyName ∈ zU) (hn : x = nI n) (h4 : n ≤ n0) (h5 : n ≤ n1) (b0 : n0 < 2 ^ 31) (b1 : n1 < 2 ^ 31)
    (hframes : 1 ≤ R.frames) (hlocals : (rest.map fun v => v.category).sum + (nativeFrameWords "java/lang/System" "arraycopy" 5 + 11) ≤ R.locals) (h2 : cs.flatten.set q1 (a, .inl (g.2 1, n1, .inr (.inl (va_cpy f g9 0 0 n)))) = cs2.flatten) (hdg : decode cc pc = .ok (.invokestatic index, 3))
    (kk : ∀ (H : Heap) (locs : List Loc), zM g B A s cs2 H locs → W p l e R s m args below meth c H locs cells slots Q (F0 m (pc + 3) ls rest)) : W p l e R s m args below meth c H locs cells slots Q (F0 m pc ls (.int x :: .int (0 : Int32) :: .ref a :: .int (0 : Int32) :: .ref a0 :: rest)) := by
  subst hn
  have hnn : (nI n).toNatClampNeg = n := nI_clamp (by omega)
  refine va_copyl X.1 X.2.1 (X.2.2.1.trans hsize.symm) X.2.2.2.1 (X.2.2.2.2.1 _ hlink) (X.2.2.2.2.1 _ zm_copy_n) (X.2.2.2.2.1 _ zm_copy_s) (X.2.2.2.2.1 _ wZ_J10) X.2.2.2.2.2.2.2.1.1 Z.1.1 Z.1.2.1 Z.1.2.2.1 q0 q1 1 1 ha0 ha1 rfl rfl rfl (by decide) (by decide) (nI_pos (by omega)) (by rw [hnn]; simpa using h4) (by rw [hnn]; simpa using h5) (fun i _ => rfl) hframes hlocals hdg (fun H1 locs1 k1 k2 k3 => ?_)
  rw [hnn] at k1 k2
  exact kk H1 locs1 ⟨⟨h2 ▸ k1, h2 ▸ k2, k3, Z.1.2.2.2⟩, Z.2⟩
end ZR2
