/-! Calls. The caller's chunks cs: the callee's by the places isC, the rest by isR; behind the call the callee's w2 and the rest, put by isB. -/
section ZC
variable {p : Program} {l : Launch} {e : Env} {R : Room} {s : State} {m : MethodId} {args : Array Value} {below : List Frame} {meth : Method} {c : Code} {H : Heap} {locs : List Loc} {cells slots : Nat} {Q : State → Prop}
variable {g : zG} {B : Nat} {A : Nat → Prop} {own : String} {cc : ByteArray} {nL : Nat} {ret : Option FieldType} {cs cs2 : List va_W} {pc : Nat} {ls : Array Slot} {rest st st2 : List Value} {a : Nat}
theorem zM.cut {wc wr : List va_W} (Z : zM g B A s cs H locs) (isC isR : List Nat) (hperm : (isC ++ isR).isPerm (List.range cs.length) = true) (eC : zPick cs isC = wc) (eR : zPick cs isR = wr) : zM g B A s (wc ++ wr) H locs :=
  Z.re (isC ++ isR) hperm (by unfold zPick at eC eR ⊢; rw [List.map_append, eC, eR])
theorem z_preS {own2 : String} {cc2 : ByteArray} {nL2 : Nat} {ret2 : Option FieldType} {wc wr : List va_W} {av : List Value} (X : zX p s m args meth c g B own2 cc2 nL2 ret2) (Z : zM g B A s (wc ++ wr) H locs) : PreS s H (zPc g B av wc H.size) av := by
  obtain ⟨hP, hD, hS, hA⟩ := Z.1
  rw [List.flatten_append] at hP hD
  refine ⟨zPc_blind, fun U hU hW => ⟨rfl, by rw [hU], Nat.le_trans X.2.2.2.2.2.2.2.2.2 hS.1, by rw [hU]; exact zp_left hP, zK.warm hW X.2.2.2.2.2.2.2.1, ?_, (zd_left hD).weaken (fun _ _ _ h => Z.2 _ h)⟩⟩
  have hZ := X.2.2.2.2.2.2.2.2.1
  rw [hU]
  have hk : ∀ q : Nat, q < s.heap.size → ¬ B ≤ q → H[q]? = s.heap[q]? := fun q h1 h2 => hS.2.1 q h1 (fun h => h2 (Z.2 q h))
  exact ⟨vx_Zq.moved hW.alike (hZ.1.kept hk), vx_Zq.moved hW.alike (hZ.2.kept hk)⟩
/-- behind a call -/
theorem z_cont {wc wr : List va_W} {mc ms : Nat} {av : Array Value} {post : Option Value → List va_W → Prop} (Z : zM g B A s (wc ++ wr) H locs)
    (hr : va_Run p l e R s m args below meth c H locs cells slots mc ms (F0 m pc ls st) rest (zQn g wc H.size post av) (va_A wc.flatten H.size))
    (kk : ∀ (v : Option Value) (w2 : List va_W) (H : Heap) (locs : List Loc), post v w2 → zM g B A s (w2 ++ wr) H locs → W p l e R s m args below meth c H locs (cells + mc) (slots + ms) Q (F0 m (pc + 3) ls (v.toList ++ rest))) : W p l e R s m args below meth c H locs cells slots Q (F0 m pc ls st) := by
  obtain ⟨⟨hP, hD, hS, hA⟩, hAB⟩ := Z
  rw [List.flatten_append] at hP hD
  have hf : ∀ q, va_A wc.flatten H.size q → A q := za_left hD hS hA
  intro T hT X
  obtain ⟨v, st₀, t, T', L, h0, X', hL, e1, e2, ⟨⟨v', w2, hv, hp, hP2, hD2⟩, hz, hk⟩, sp⟩ := hr T hT X
  cases hv
  rw [h0] at hz hk
  rw [← e1] at hz hk hP2
  obtain ⟨j1, j2⟩ := zp_join hP hD hk hf hP2 hD2
  obtain ⟨t2, a1, b1⟩ := kk v w2 T'.heap (locs ++ L) hp ⟨⟨by rw [List.flatten_append]; exact j1, by rw [List.flatten_append]; exact j2,
    ⟨Nat.le_trans hS.1 hz, fun q h1 h2 => by rw [hk q (Nat.lt_of_lt_of_le h1 hS.1) (fun z => h2 (hf q z))]; exact hS.2.1 q h1 h2, fun q hq => by
      rcases List.mem_append.mp hq with h | h
      · exact hS.2.2 q h
      · exact hf _ (hL q h)⟩, hA⟩, hAB⟩ T' rfl X'
  exact ⟨t2, sp t2 a1, b1⟩
/-- behind a call that may throw -/
theorem z_contX {wc wr : List va_W} {mc ms : Nat} {av : Array Value} {post : Option Value → List va_W → Prop} {postx : String → List va_W → Prop} (Z : zM g B A s (wc ++ wr) H locs)
    (hr : vx_Run p l e R s m args below meth c H locs cells slots mc ms (F0 m pc ls st) rest (zQn g wc H.size post av) (zQx g wc H.size postx) (va_A wc.flatten H.size))
    (kx : ∀ (E : String) (ce : Cell) (q9 : Addr) (w2 : List va_W) (H : Heap) (locs : List Loc), postx E w2 → zM g B A s (w2 ++ wr) H locs → H[q9]? = some ce → ce.vm = .none → s.vm.findClass E = some ce.cls → vx_W p l e R s m args below meth c H locs (cells + mc) (slots + ms) Q (F0 m pc ls rest) q9)
    (kk : ∀ (v : Option Value) (w2 : List va_W) (H : Heap) (locs : List Loc), post v w2 → zM g B A s (w2 ++ wr) H locs → W p l e R s m args below meth c H locs (cells + mc) (slots + ms) Q (F0 m (pc + 3) ls (v.toList ++ rest))) : W p l e R s m args below meth c H locs cells slots Q (F0 m pc ls st) := by
  obtain ⟨⟨hP, hD, hS, hA⟩, hAB⟩ := Z
  rw [List.flatten_append] at hP hD
  have hf : ∀ q, va_A wc.flatten H.size q → A q := za_left hD hS hA
  have kp : ∀ {st₀ t T' : State} {L : List Loc} {w2 : List va_W}, st₀.heap = H → T'.heap = t.heap → (∀ q ∈ L, va_A wc.flatten H.size q.base) → va_F (va_A wc.flatten H.size) st₀ t → va_P g.1 zCl w2.flatten t.heap → va_D (va_A wc.flatten H.size) w2.flatten → zM g B A s (w2 ++ wr) T'.heap (locs ++ L) := by
    intro st₀ t T' L w2 h0 e1 hL hF hP2 hD2
    obtain ⟨hz, hk⟩ := hF
    rw [h0] at hz hk
    rw [← e1] at hz hk hP2
    obtain ⟨j1, j2⟩ := zp_join hP hD hk hf hP2 hD2
    exact ⟨⟨by rw [List.flatten_append]; exact j1, by rw [List.flatten_append]; exact j2,
      ⟨Nat.le_trans hS.1 hz, fun q h1 h2 => by rw [hk q (Nat.lt_of_lt_of_le h1 hS.1) (fun z => h2 (hf q z))]; exact hS.2.1 q h1 h2, fun q hq => by
        rcases List.mem_append.mp hq with h | h
        · exact hS.2.2 q h
        · exact hf _ (hL q h)⟩, hA⟩, hAB⟩
  intro T hT X
  rcases hr T hT X with ⟨v, st₀, t, T', L, h0, X', hL, e1, e2, ⟨⟨v', w2, hv, hp, hP2, hD2⟩, hF⟩, sp⟩ | ⟨q9, st₀, t, T', L, E, ce, h0, X', hL, e1, e2, ⟨⟨w2, hp, hP2, hD2⟩, hF⟩, hce, hcv, hcl, sp⟩
  · cases hv
    obtain ⟨t2, a1, b1⟩ := kk v w2 T'.heap (locs ++ L) hp (kp h0 e1 hL hF hP2 hD2) T' rfl X'
    exact ⟨t2, sp t2 a1, b1⟩
  · obtain ⟨t2, a1, b1⟩ := kx E ce q9 w2 T'.heap (locs ++ L) hp (kp h0 e1 hL hF hP2 hD2) (by rw [e1]; exact hce) hcv hcl T' rfl X'
    exact ⟨t2, sp.trans a1, b1⟩
theorem z_cb {R : Room} {y : MethodName} {bytes : ByteArray} {maxL fr lo mc ms index : Nat} {rt : Option FieldType} (n : Nat) (X : zX p s m args meth c g B own cc nL ret) (u1 : Cond.methodLink own index y ∈ zU) (u3 : Cond.code y bytes maxL rt ∈ zU) (u4 : Cond.initialized y.cls ∈ zU)
    (hd : y.cls ≠ "java/lang/invoke/MethodHandle" ∧ y.cls ≠ "java/lang/invoke/VarHandle" ∧ (parseMethodDescriptor y.desc).map (fun d => d.parameters.length) = some n) (hR : fr + 1 ≤ R.frames ∧ 8 + (maxL + 11) + lo ≤ R.locals) :
    CallB R s args own index y bytes maxL rt (zWs y bytes maxL rt) ({ frames := fr, cells := mc, slots := ms, locals := lo }) mc ms n :=
  callB_of n X.2.2.2.2.1 (zGood u3) rfl rfl rfl (X.2.2.2.2.1 _ u4) (X.2.2.2.2.1 _ u1) hd hR
/-- a receiver among the callee's chunks -/
theorem z_recv {C : String} {T : u_T} {N ci q0 : Nat} {fs : List Value} {wc wr : List va_W} (X : zX p s m args meth c g B own cc nL ret) (Z : zM g B A s (wc ++ wr) H locs) (he : wc.flatten[q0]? = some (a, .inr (ci, fs))) (hc : zCl[ci]? = some (C, T, N)) : ∃ cell : Cell, H[a]? = some cell ∧ cell.vm.isStatics = false ∧ s.vm.findClass C = some cell.cls := by
  have hP := Z.1.1
  rw [List.flatten_append] at hP
  exact va_recv X.2.2.2.2.2.2.2.1.1 (zp_left hP) hc he
variable {y : MethodName} {bytes : ByteArray} {maxL fr lo mc ms index : Nat} {rt : Option FieldType} {As : List Value} {wc wr w2 : List va_W} {V : Option Value}
/-- invokestatic, an answer that is told -/
theorem z_callS (X : zX p s m args meth c g B own cc nL ret) (Z : zM g B A s cs H locs) (isC isR isB : List Nat) (hM : zMet l g B y bytes maxL rt fr lo mc ms As wc (zDet V w2)) (u1 : Cond.methodLink own index y ∈ zU) (u2 : Cond.static y ∈ zU) (u3 : Cond.code y bytes maxL rt ∈ zU) (u4 : Cond.initialized y.cls ∈ zU)
    (n nA nB : Nat) (hn : As.length = n) (hd : y.cls ≠ "java/lang/invoke/MethodHandle" ∧ y.cls ≠ "java/lang/invoke/VarHandle" ∧ (parseMethodDescriptor y.desc).map (fun d => d.parameters.length) = some n)
    (hlA : cs.length = nA) (hperm : (isC ++ isR).isPerm (List.range nA) = true) (eC : zPick cs isC = wc) (eR : zPick cs isR = wr) (hlB : (w2 ++ wr).length = nB) (hpermB : isB.isPerm (List.range nB) = true) (eB : zPick (w2 ++ wr) isB = cs2)
    (hsize : ls.size = nL) (hst : st = As.reverse ++ rest) (hst2 : V.toList ++ rest = st2) (hR : fr + 1 ≤ R.frames ∧ 8 + (maxL + 11) + lo ≤ R.locals) (hW : (rest.map fun v => v.category).sum ≤ 8) (hf : cells + mc ≤ R.cells ∧ slots + ms ≤ R.slots) (hdg : decode cc pc = .ok (.invokestatic index, 3))
    (kk : ∀ (H : Heap) (locs : List Loc), zM g B A s cs2 H locs → W p l e R s m args below meth c H locs (cells + mc) (slots + ms) Q (F0 m (pc + 3) ls st2)) : W p l e R s m args below meth c H locs cells slots Q (F0 m pc ls st) := by
  subst hn; subst hlA; subst hlB
  have Z1 := Z.cut isC isR hperm eC eR
  refine z_cont Z1 (va_runS (As := As) (rest := rest) ⟨X.1, X.2.1, X.2.2.1, X.2.2.2.1, X.2.2.2.2.1⟩ (hM H.size) ⟨z_cb As.length X u1 u3 u4 hd hR, X.2.2.2.2.1 _ u2⟩ (z_preS X Z1) rfl rfl hsize hst (by simpa using hW) hdg hf) (fun v w9 H1 locs1 hp Z2 => ?_)
  obtain ⟨rfl, rfl⟩ := hp
  rw [hst2]
  exact kk H1 locs1 (Z2.re isB hpermB eB)
/-- invokevirtual -/
theorem z_callV {C : String} {T : u_T} {N : Nat} {fs : List Value} (X : zX p s m args meth c g B own cc nL ret) (Z : zM g B A s cs H locs) (isC isR isB : List Nat) (q0 ci : Nat) (hM : zMet l g B y bytes maxL rt fr lo mc ms (.ref a :: As) wc (zDet V w2)) (u1 : Cond.methodLink own index y ∈ zU) (u2 : Cond.instanceMethod y ∈ zU) (u5 : Cond.selects C y y ∈ zU) (u3 : Cond.code y bytes maxL rt ∈ zU) (u4 : Cond.initialized y.cls ∈ zU)
    (n nA nB : Nat) (hn : As.length = n) (hd : y.cls ≠ "java/lang/invoke/MethodHandle" ∧ y.cls ≠ "java/lang/invoke/VarHandle" ∧ (parseMethodDescriptor y.desc).map (fun d => d.parameters.length) = some n)
    (hlA : cs.length = nA) (hperm : (isC ++ isR).isPerm (List.range nA) = true) (eC : zPick cs isC = wc) (eR : zPick cs isR = wr) (hlB : (w2 ++ wr).length = nB) (hpermB : isB.isPerm (List.range nB) = true) (eB : zPick (w2 ++ wr) isB = cs2)
    (he : wc.flatten[q0]? = some (a, .inr (ci, fs))) (hc : zCl[ci]? = some (C, T, N))
    (hsize : ls.size = nL) (hst : st = As.reverse ++ .ref a :: rest) (hst2 : V.toList ++ rest = st2) (hR : fr + 1 ≤ R.frames ∧ 8 + (maxL + 11) + lo ≤ R.locals) (hW : (rest.map fun v => v.category).sum ≤ 8) (hf : cells + mc ≤ R.cells ∧ slots + ms ≤ R.slots) (hdg : decode cc pc = .ok (.invokevirtual index, 3))
    (kk : ∀ (H : Heap) (locs : List Loc), zM g B A s cs2 H locs → W p l e R s m args below meth c H locs (cells + mc) (slots + ms) Q (F0 m (pc + 3) ls st2)) : W p l e R s m args below meth c H locs cells slots Q (F0 m pc ls st) := by
  subst hn; subst hlA; subst hlB
  have Z1 := Z.cut isC isR hperm eC eR
  have hp := z_preS (av := .ref a :: As) X Z1
  refine z_cont Z1 (va_runV (As := As) (rest := rest) (C := C) ⟨X.1, X.2.1, X.2.2.1, X.2.2.2.1, X.2.2.2.2.1⟩ (hM H.size) ⟨z_cb As.length X u1 u3 u4 hd hR, X.2.2.2.2.1 _ u2, X.2.2.2.2.1 _ u5⟩ ⟨hp.1, z_recv X Z1 he hc, hp.2⟩ rfl rfl hsize hst (by simpa using hW) hdg hf) (fun v w9 H1 locs1 hp Z2 => ?_)
  obtain ⟨rfl, rfl⟩ := hp
  rw [hst2]
  exact kk H1 locs1 (Z2.re isB hpermB eB)
/-- invokestatic of a nest mate's private method -/
theorem z_callSN {host : String} (X : zX p s m args meth c g B own cc nL ret) (Z : zM g B A s cs H locs) (isC isR isB : List Nat) (hM : zMet l g B y bytes maxL rt fr lo mc ms As wc (zDet V w2)) (u1 : Cond.methodLinkNest own index y host ∈ zNw) (u2 : Cond.static y ∈ zU) (u3 : Cond.code y bytes maxL rt ∈ zU) (u4 : Cond.initialized y.cls ∈ zU)
    (n nA nB : Nat) (hn : As.length = n) (hd : y.cls ≠ "java/lang/invoke/MethodHandle" ∧ y.cls ≠ "java/lang/invoke/VarHandle" ∧ (parseMethodDescriptor y.desc).map (fun d => d.parameters.length) = some n)
    (hlA : cs.length = nA) (hperm : (isC ++ isR).isPerm (List.range nA) = true) (eC : zPick cs isC = wc) (eR : zPick cs isR = wr) (hlB : (w2 ++ wr).length = nB) (hpermB : isB.isPerm (List.range nB) = true) (eB : zPick (w2 ++ wr) isB = cs2)
    (hsize : ls.size = nL) (hst : st = As.reverse ++ rest) (hst2 : V.toList ++ rest = st2) (hR : fr + 1 ≤ R.frames ∧ 8 + (maxL + 11) + lo ≤ R.locals) (hW : (rest.map fun v => v.category).sum ≤ 8) (hf : cells + mc ≤ R.cells ∧ slots + ms ≤ R.slots) (hdg : decode cc pc = .ok (.invokestatic index, 3))
    (kk : ∀ (H : Heap) (locs : List Loc), zM g B A s cs2 H locs → W p l e R s m args below meth c H locs (cells + mc) (slots + ms) Q (F0 m (pc + 3) ls st2)) : W p l e R s m args below meth c H locs cells slots Q (F0 m pc ls st) := by
  subst hn; subst hlA; subst hlB
  have Z1 := Z.cut isC isR hperm eC eR
  refine z_cont Z1 (va_runSN (As := As) (rest := rest) (host := host) ⟨X.1, X.2.1, X.2.2.1, X.2.2.2.1, X.2.2.2.2.1⟩ (hM H.size) ⟨va_cnB As.length X.2.2.2.2.1 (zGood u3) rfl rfl rfl (X.2.2.2.2.2.2.2.1.2.1 _ u1) (X.2.2.2.2.1 _ u4) hd hR, X.2.2.2.2.1 _ u2, trivial⟩ (z_preS X Z1) rfl rfl hsize hst (by simpa using hW) hdg hf) (fun v w9 H1 locs1 hp Z2 => ?_)
  obtain ⟨rfl, rfl⟩ := hp
  rw [hst2]
  exact kk H1 locs1 (Z2.re isB hpermB eB)
end ZC
