/-! a throw of the class's own, over the world of chunks -/
def zNm : List String := ["java/lang/RuntimeException", "java/lang/Exception"]
section ZT
variable {p : Program} {l : Launch} {e : Env} {R : Room} {s : State} {m : MethodId} {args : Array Value} {below : List Frame} {meth : Method} {c : Code} {H : Heap} {locs : List Loc} {cells slots : Nat} {Q : State → Prop}
variable {g : zG} {B : Nat} {A : Nat → Prop} {own : String} {cc : ByteArray} {nL : Nat} {ret : Option FieldType} {cs cs0 : List va_W} {pc : Nat} {ls : Array Slot} {rest : List Value}
theorem z_throwS {post : Option Value → List va_W → Prop} {postx : String → List va_W → Prop} {mc ms : Nat} {cls text : String} {ik is ic : Nat} (X : zX p s m args meth c g B own cc nL ret) (Z : zM g B A s cs H locs)
    (hA : A = va_A cs0.flatten s.heap.size) (hQ : Q = vx_MQ below (zQn g cs0 s.heap.size post) (zQx g cs0 s.heap.size postx) args s mc ms (va_A cs0.flatten s.heap.size)) (hlt : l.stackTraces = false) (hnx : ∀ x ∈ c.exceptionTable.toList, False) (hls : ls.size = nL)
    (hstr : (own, is, text) ∈ zStr) (hcls : Bundle.fit cls = true) (u1 : Cond.classLink own ik cls ∈ zU) (u2 : Cond.initialized cls ∈ zU)
    (w1 : ((vx_atS own ic cls zNm).filter goodWord).all (fun w => zU.contains w) = true) (w2 : ((vx_atS own ic cls zNm).filter (fun w => !goodWord w)).all (fun w => zNw.contains w && w.onTables) = true)
    (w3 : (Cond.classLink own ik cls :: Cond.initialized cls :: vx_atS own ic cls zNm).all vx_ot = true)
    (d0 : decode cc pc = .ok (.new ik, 3)) (d3 : decode cc (pc + 3) = .ok (.dup, 1)) (d4 : decode cc (pc + 4) = .ok (.ldc is, 2)) (d6 : decode cc (pc + 6) = .ok (.invokespecial ic, 3)) (d9 : decode cc (pc + 9) = .ok (.athrow, 1))
    (hRf : 5 < R.frames) (hRl : (rest.map fun v => v.category).sum + 82 ≤ R.locals) (hRc : cells + 1 ≤ R.cells) (hRs : slots + 6 ≤ R.slots) (hc : cells + 1 ≤ mc) (hs : slots + 6 ≤ ms) (hp : postx cls cs) :
    W p l e R s m args below meth c H locs cells slots Q (F0 m pc ls rest) := by
  subst hA hQ
  obtain ⟨sa, hsa⟩ := X.2.2.2.2.2.2.2.1.2.2.1 _ hstr
  have hK := X.2.2.2.2.2.2.2.1.2.1
  have hts := X.2.2.2.2.1
  have hZ := X.2.2.2.2.2.2.2.2.1
  refine vx_throwS (own := own) (cls := cls) (text := text) (names := zNm) (ik := ik) (is := is) (ic := ic) (sa := sa) (A := va_A cs0.flatten s.heap.size) X.1 X.2.1 hlt X.2.2.2.1 hcls (by decide +kernel) (hts _ u1) (hts _ u2) hsa ?_ ?_ (hZ.1.narrow Z.2) (hZ.2.narrow Z.2) Z.1.2.2.1 (by rw [X.2.2.1]; exact hls) d0 d3 d4 d6 d9 (fun x hx => (hnx x hx).elim) hRf hRl hRc hRs X.2.2.2.2.2.2.1 ?_ Z.1.2.2.1.2.2 hc hs
  · refine vx_hat (B := (vx_atS own ic cls zNm).filter (fun w => !goodWord w)) (fun w hw => hts w ?_) (fun w hw => hw) (fun w hw => ?_)
    · have := List.all_eq_true.mp w1 w hw
      exact List.contains_iff_mem.mp this
    · have := List.all_eq_true.mp w2 w hw
      rw [Bool.and_eq_true] at this
      exact va_Nw.use this.2 (hK w (List.contains_iff_mem.mp this.1))
  · exact List.all_eq_true.mp w3
  · intro t _ hsz hq
    have hS := Z.1.2.2.1
    refine ⟨⟨cs, hp, Z.1.1.kept (fun k q hk => hq _ (vx_lt Z.1.1 hk)), Z.1.2.1⟩, Nat.le_trans hS.1 hsz, fun q h1 h2 => ?_⟩
    rw [hq q (Nat.lt_of_lt_of_le h1 hS.1)]
    exact hS.2.1 q h1 h2
theorem z_throwSW {post : Option Value → List va_W → Prop} {postx : String → List va_W → Prop} {mc ms : Nat} {cls text : String} {ik is ic : Nat} (X : zX p s m args meth c g B own cc nL ret) (Z : zM g B A s cs H locs)
    (hA : A = va_A cs0.flatten s.heap.size) (hQ : Q = vx_MQ below (zQn g cs0 s.heap.size post) (zQx g cs0 s.heap.size postx) args s mc ms (va_A cs0.flatten s.heap.size)) (hlt : l.stackTraces = false) (hnx : ∀ x ∈ c.exceptionTable.toList, False) (hls : ls.size = nL)
    (hstr : (own, is, text) ∈ zStr) (hcls : Bundle.fit cls = true) (u1 : Cond.classLink own ik cls ∈ zU) (u2 : Cond.initialized cls ∈ zU)
    (w1 : ((vx_atS own ic cls zNm).filter goodWord).all (fun w => zU.contains w) = true) (w2 : ((vx_atS own ic cls zNm).filter (fun w => !goodWord w)).all (fun w => zNw.contains w && w.onTables) = true)
    (w3 : (Cond.classLink own ik cls :: Cond.initialized cls :: vx_atS own ic cls zNm).all vx_ot = true)
    (d0 : decode cc pc = .ok (.new ik, 3)) (d3 : decode cc (pc + 3) = .ok (.dup, 1)) (d4 : decode cc (pc + 4) = .ok (.ldc_w is, 3)) (d7 : decode cc (pc + 7) = .ok (.invokespecial ic, 3)) (d10 : decode cc (pc + 10) = .ok (.athrow, 1))
    (hRf : 5 < R.frames) (hRl : (rest.map fun v => v.category).sum + 82 ≤ R.locals) (hRc : cells + 1 ≤ R.cells) (hRs : slots + 6 ≤ R.slots) (hc : cells + 1 ≤ mc) (hs : slots + 6 ≤ ms) (hp : postx cls cs) :
    W p l e R s m args below meth c H locs cells slots Q (F0 m pc ls rest) := by
  subst hA hQ
  obtain ⟨sa, hsa⟩ := X.2.2.2.2.2.2.2.1.2.2.1 _ hstr
  have hK := X.2.2.2.2.2.2.2.1.2.1
  have hts := X.2.2.2.2.1
  have hZ := X.2.2.2.2.2.2.2.2.1
  refine vx_throwSW (own := own) (cls := cls) (text := text) (names := zNm) (ik := ik) (is := is) (ic := ic) (sa := sa) (A := va_A cs0.flatten s.heap.size) X.1 X.2.1 hlt X.2.2.2.1 hcls (by decide +kernel) (hts _ u1) (hts _ u2) hsa ?_ ?_ (hZ.1.narrow Z.2) (hZ.2.narrow Z.2) Z.1.2.2.1 (by rw [X.2.2.1]; exact hls) d0 d3 d4 d7 d10 (fun x hx => (hnx x hx).elim) hRf hRl hRc hRs X.2.2.2.2.2.2.1 ?_ Z.1.2.2.1.2.2 hc hs
  · refine vx_hat (B := (vx_atS own ic cls zNm).filter (fun w => !goodWord w)) (fun w hw => hts w ?_) (fun w hw => hw) (fun w hw => ?_)
    · have := List.all_eq_true.mp w1 w hw
      exact List.contains_iff_mem.mp this
    · have := List.all_eq_true.mp w2 w hw
      rw [Bool.and_eq_true] at this
      exact va_Nw.use this.2 (hK w (List.contains_iff_mem.mp this.1))
  · exact List.all_eq_true.mp w3
  · intro t _ hsz hq
    have hS := Z.1.2.2.1
    refine ⟨⟨cs, hp, Z.1.1.kept (fun k q hk => hq _ (vx_lt Z.1.1 hk)), Z.1.2.1⟩, Nat.le_trans hS.1 hsz, fun q h1 h2 => ?_⟩
    rw [hq q (Nat.lt_of_lt_of_le h1 hS.1)]
    exact hS.2.1 q h1 h2
end ZT
