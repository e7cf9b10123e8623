/-! methods that throw: their ends and their calls -/
section ZX
variable {p : Program} {l : Launch} {e : Env} {R : Room} {s : State} {m : MethodId} {args : Array Value} {below : List Frame} {meth : Method} {c : Code} {H : Heap} {locs : List Loc} {cells slots : Nat} {Q : State → Prop}
variable {g : zG} {B : Nat} {A : Nat → Prop} {own : String} {cc : ByteArray} {nL : Nat} {ret : Option FieldType} {cs cs0 cs2 cs3 : List va_W} {pc : Nat} {ls : Array Slot} {rest st st2 : List Value} {a : Nat}
variable {y : MethodName} {bytes : ByteArray} {maxL fr lo mc ms mc0 ms0 index : Nat} {rt : Option FieldType} {As : List Value} {wc wr w2 wx : List va_W} {V : Option Value} {post : Option Value → List va_W → Prop} {postx : String → List va_W → Prop}
/-- how the method stands to its caller: the places that are its own, the ends -/
def zOwn (l : Launch) (s : State) (args : Array Value) (below : List Frame) (c : Code) (g : zG) (cs0 : List va_W) (mc0 ms0 : Nat) (post : Option Value → List va_W → Prop) (postx : String → List va_W → Prop) (A : Nat → Prop) (Q : State → Prop) : Prop :=
  A = va_A cs0.flatten s.heap.size ∧ Q = vx_MQ below (zQn g cs0 s.heap.size post) (zQx g cs0 s.heap.size postx) args s mc0 ms0 (va_A cs0.flatten s.heap.size) ∧ ∀ x ∈ c.exceptionTable.toList, False
theorem z_out {E : String} {ce : Cell} {q9 : Nat} (O : zOwn l s args below c g cs0 mc0 ms0 post postx A Q) (X : zX p s m args meth c g B own cc nL ret) (Z : zM g B A s cs H locs) (hce : H[q9]? = some ce) (hcv : ce.vm = .none) (hcl : s.vm.findClass E = some ce.cls) (hc : cells ≤ mc0) (hs : slots ≤ ms0) (hp : postx E cs) :
    vx_W p l e R s m args below meth c H locs cells slots Q (F0 m pc ls rest) q9 := by
  obtain ⟨hA, hQ, hnx⟩ := O
  subst hA hQ
  exact vx_out (fun x hx => (hnx x hx).elim) X.2.2.2.2.2.2.1 hce hcv hcl (fun t ht _ => ⟨⟨cs, hp, by rw [ht]; exact Z.1.1, Z.1.2.1⟩, Z.1.2.2.1.F ht⟩) Z.1.2.2.1.2.2 hc hs
/-- the classes of the exceptions, by number -/
def zEx : Nat → String
  | 1 => "java/lang/IndexOutOfBoundsException"
  | 2 => "java/lang/IllegalArgumentException"
  | 3 => "java/lang/IllegalStateException"
  | _ => "java/lang/ArithmeticException"
/-- an answer that is told, where the number is 0; else the exception of that number -/
def zDetC (k : Nat) (V : Option Value) (w2 : List va_W) : Option Value → List va_W → Prop := fun v cs2 => k = 0 ∧ v = V ∧ cs2 = w2
def zThr (k : Nat) (wx : List va_W) : String → List va_W → Prop := fun E cs2 => 0 < k ∧ E = zEx k ∧ cs2 = wx
theorem z_callSX {k : Nat} (O : zOwn l s args below c g cs0 mc0 ms0 post postx A Q) (X : zX p s m args meth c g B own cc nL ret) (Z : zM g B A s cs H locs) (isC isR isB : List Nat) (hM : zMetX l g B y bytes maxL rt fr lo mc ms As wc (zDetC k V w2) (zThr k wx)) (u1 : Cond.methodLink own index y ∈ zU) (u2 : Cond.static y ∈ zU) (u3 : Cond.code y bytes maxL rt ∈ zU) (u4 : Cond.initialized y.cls ∈ zU)
    (n nA nB : Nat) (hn : As.length = n) (hd : y.cls ≠ "java/lang/invoke/MethodHandle" ∧ y.cls ≠ "java/lang/invoke/VarHandle" ∧ (parseMethodDescriptor y.desc).map (fun d => d.parameters.length) = some n)
    (hlA : cs.length = nA) (hperm : (isC ++ isR).isPerm (List.range nA) = true) (eC : zPick cs isC = wc) (eR : zPick cs isR = wr) (hlB : (w2 ++ wr).length = nB) (hpermB : isB.isPerm (List.range nB) = true) (eB : zPick (w2 ++ wr) isB = cs2) (hlX : (wx ++ wr).length = nB) (eX : zPick (wx ++ wr) isB = cs3)
    (hsize : ls.size = nL) (hst : st = As.reverse ++ rest) (hst2 : V.toList ++ rest = st2) (hR : fr + 1 ≤ R.frames ∧ 8 + (maxL + 11) + lo ≤ R.locals) (hW : (rest.map fun v => v.category).sum ≤ 8) (hf : cells + mc ≤ R.cells ∧ slots + ms ≤ R.slots) (hf0 : cells + mc ≤ mc0 ∧ slots + ms ≤ ms0) (hdg : decode cc pc = .ok (.invokestatic index, 3))
    (kx : 0 < k → postx (zEx k) cs3)
    (kk : k = 0 → ∀ (H : Heap) (locs : List Loc), zM g B A s cs2 H locs → W p l e R s m args below meth c H locs (cells + mc) (slots + ms) Q (F0 m (pc + 3) ls st2)) : W p l e R s m args below meth c H locs cells slots Q (F0 m pc ls st) := by
  subst hn; subst hlA; subst hlB
  have Z1 := Z.cut isC isR hperm eC eR
  refine z_contX Z1 (vx_runS (As := As) (rest := rest) ⟨X.1, X.2.1, X.2.2.1, X.2.2.2.1, X.2.2.2.2.1⟩ (hM H.size) ⟨z_cb As.length X u1 u3 u4 hd hR, X.2.2.2.2.1 _ u2⟩ (z_preS X Z1) rfl rfl hsize hst (by simpa using hW) hdg hf) (fun E ce q9 w9 H1 locs1 hpx Z2 hce hcv hcl => ?_) (fun v w9 H1 locs1 hpv Z2 => ?_)
  · obtain ⟨h0, rfl, rfl⟩ := hpx
    exact z_out O X (Z2.re isB (by rw [hlX]; exact hpermB) eX) hce hcv hcl hf0.1 hf0.2 (kx h0)
  · obtain ⟨h0, rfl, rfl⟩ := hpv
    rw [hst2]
    exact kk h0 H1 locs1 (Z2.re isB hpermB eB)
theorem z_callVX {C : String} {T : u_T} {N : Nat} {fs : List Value} {k : Nat} (O : zOwn l s args below c g cs0 mc0 ms0 post postx A Q) (X : zX p s m args meth c g B own cc nL ret) (Z : zM g B A s cs H locs) (isC isR isB : List Nat) (q0 ci : Nat) (hM : zMetX l g B y bytes maxL rt fr lo mc ms (.ref a :: As) wc (zDetC k V w2) (zThr k wx)) (u1 : Cond.methodLink own index y ∈ zU) (u2 : Cond.instanceMethod y ∈ zU) (u5 : Cond.selects C y y ∈ zU) (u3 : Cond.code y bytes maxL rt ∈ zU) (u4 : Cond.initialized y.cls ∈ zU)
    (n nA nB : Nat) (hn : As.length = n) (hd : y.cls ≠ "java/lang/invoke/MethodHandle" ∧ y.cls ≠ "java/lang/invoke/VarHandle" ∧ (parseMethodDescriptor y.desc).map (fun d => d.parameters.length) = some n)
    (hlA : cs.length = nA) (hperm : (isC ++ isR).isPerm (List.range nA) = true) (eC : zPick cs isC = wc) (eR : zPick cs isR = wr) (hlB : (w2 ++ wr).length = nB) (hpermB : isB.isPerm (List.range nB) = true) (eB : zPick (w2 ++ wr) isB = cs2) (hlX : (wx ++ wr).length = nB) (eX : zPick (wx ++ wr) isB = cs3)
    (he : wc.flatten[q0]? = some (a, .inr (ci, fs))) (hc : zCl[ci]? = some (C, T, N))
    (hsize : ls.size = nL) (hst : st = As.reverse ++ .ref a :: rest) (hst2 : V.toList ++ rest = st2) (hR : fr + 1 ≤ R.frames ∧ 8 + (maxL + 11) + lo ≤ R.locals) (hW : (rest.map fun v => v.category).sum ≤ 8) (hf : cells + mc ≤ R.cells ∧ slots + ms ≤ R.slots) (hf0 : cells + mc ≤ mc0 ∧ slots + ms ≤ ms0) (hdg : decode cc pc = .ok (.invokevirtual index, 3))
    (kx : 0 < k → postx (zEx k) cs3)
    (kk : k = 0 → ∀ (H : Heap) (locs : List Loc), zM g B A s cs2 H locs → W p l e R s m args below meth c H locs (cells + mc) (slots + ms) Q (F0 m (pc + 3) ls st2)) : W p l e R s m args below meth c H locs cells slots Q (F0 m pc ls st) := by
  subst hn; subst hlA; subst hlB
  have Z1 := Z.cut isC isR hperm eC eR
  have hp := z_preS (av := .ref a :: As) X Z1
  refine z_contX Z1 (vx_runV (As := As) (rest := rest) (C := C) ⟨X.1, X.2.1, X.2.2.1, X.2.2.2.1, X.2.2.2.2.1⟩ (hM H.size) ⟨z_cb As.length X u1 u3 u4 hd hR, X.2.2.2.2.1 _ u2, X.2.2.2.2.1 _ u5⟩ ⟨hp.1, z_recv X Z1 he hc, hp.2⟩ rfl rfl hsize hst (by simpa using hW) hdg hf) (fun E ce q9 w9 H1 locs1 hpx Z2 hce hcv hcl => ?_) (fun v w9 H1 locs1 hpv Z2 => ?_)
  · obtain ⟨h0, rfl, rfl⟩ := hpx
    exact z_out O X (Z2.re isB (by rw [hlX]; exact hpermB) eX) hce hcv hcl hf0.1 hf0.2 (kx h0)
  · obtain ⟨h0, rfl, rfl⟩ := hpv
    rw [hst2]
    exact kk h0 H1 locs1 (Z2.re isB hpermB eB)
end ZX
