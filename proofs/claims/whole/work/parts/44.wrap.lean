/-! Methods with a table of exceptions: entry, calls whose throws are caught. -/
def zWw (y : MethodName) (cc : ByteArray) (maxL : Nat) (ret : Option FieldType) (hh : List (Nat × Nat × Nat × Nat)) : List Cond := .codeWith y cc maxL ret hh :: zU
theorem zGoodW {y : MethodName} {cc : ByteArray} {maxL : Nat} {ret : Option FieldType} {hh : List (Nat × Nat × Nat × Nat)} (h : Cond.codeWith y cc maxL ret hh ∈ zU) : GoodIn zU (zWw y cc maxL ret hh) := fun w hw => by
  rcases List.mem_cons.mp hw with rfl | h'
  · exact ⟨h, zU_good h⟩
  · exact ⟨h', zU_good h'⟩
def zMetW (l : Launch) (g : zG) (B : Nat) (y : MethodName) (cc : ByteArray) (maxL : Nat) (ret : Option FieldType) (hh : List (Nat × Nat × Nat × Nat)) (fr lo mc ms : Nat) (av : List Value) (cs : List va_W) (post : Option Value → List va_W → Prop) : Prop :=
  ∀ sz : Nat, Met l y (zWw y cc maxL ret hh) ({ frames := fr, cells := mc, slots := ms, locals := lo }) (zPc g B av cs sz) (zQn g cs sz post) mc ms (va_A cs.flatten sz)
theorem zMet_ofWH {l : Launch} {y : MethodName} {ws ws' : List Cond} {rm : Room} {Pc : Array Value → State → Prop} {Qc : Array Value → State → Outcome → State → Prop} {mc ms : Nat} {free : Addr → Prop} {cc : ByteArray} {maxL : Nat} {ret : Option FieldType} {hh : List (Nat × Nat × Nat × Nat)}
    (hy : plainName y.cls = true) (hw : ws = Cond.codeWith y cc maxL ret hh :: ws')
    (body : ∀ p e s m args below meth c s₁, BodyLoose p l y (headSpec ws rm) cc maxL ret e s m args below meth c s₁ → c.maxLocals = maxL → Pc args s →
      W p l e (headSpec ws rm).room s m args below meth c s.heap [] 0 0 (MQ below Qc args s mc ms free) (entryFrame m args maxL)) : Met l y ws rm Pc Qc mc ms free := by
  refine MetFree.of_bodyS (code := cc) (maxLocals := maxL) (ret := ret) hy ?_ ?_
  · intro args s m h hn
    obtain ⟨m9, meth, c, hn9, h1, h2, h3, h4, -, h5, h6, -⟩ := Cond.codeWith_spec (atoms_spec (ws := ws) h _ (by rw [hw]; exact List.mem_cons_self))
    cases hn.symm.trans hn9
    exact ⟨meth, c, h1, h2, h3, h4, h5, h6⟩
  · intro p e s m args below meth c s₁ B hml hP _
    have hh0 : s₁.heap = s.heap := by rw [B.state]; rfl
    obtain ⟨t, a1, o, b1, b2, b3⟩ := body p e s m args below meth c s₁ B hml hP s₁ hh0 (Stand.of_body B)
    exact ⟨t, o, a1, b1, b2, ⟨b3.1, b3.2⟩⟩
section ZW9
variable {p : Program} {l : Launch} {e : Env} {R : Room} {s : State} {m : MethodId} {args : Array Value} {below : List Frame} {meth : Method} {c : Code} {H : Heap} {locs : List Loc} {cells slots : Nat} {Q : State → Prop}
variable {g : zG} {B : Nat} {A : Nat → Prop} {own : String} {cc : ByteArray} {nL : Nat} {ret : Option FieldType} {cs cs2 cs3 : List va_W} {pc : Nat} {ls : Array Slot} {rest st st2 : List Value} {a : Nat}
theorem z_inW {y : MethodName} {maxL fr lo mc ms : Nat} {hh : List (Nat × Nat × Nat × Nat)} {av : List Value} {post : Option Value → List va_W → Prop} (hy : plainName y.cls = true) (hav : (lg_sl av).length ≤ maxL)
    (body : ∀ (p : Program) (e : Env) (R : Room) (s : State) (m : MethodId) (args : Array Value) (below : List Frame) (meth : Method) (c : Code) (A : Nat → Prop) (Q : State → Prop), R.frames = fr → R.locals = lo → R.cells = mc → R.slots = ms → zX p s m args meth c g B y.cls cc maxL ret → zM g B A s cs s.heap [] → c.exceptionTable.toList = tableOf hh → zEnd p l e R s m args below meth c g B A cc ret post Q → ∀ ls : Array Slot, lv_has ls maxL (lv_args 0 av) →
      W p l e R s m args below meth c s.heap [] 0 0 Q (F0 m 0 ls [])) :
    zMetW l g B y cc maxL ret hh fr lo mc ms av cs post := by
  intro sz
  refine zMet_ofWH (cc := cc) (maxL := maxL) (ret := ret) (hh := hh) hy rfl ?_
  intro p e s m args below meth c s₁ Bd hml hv
  obtain ⟨rfl, hsz, hB, hP, hK, hZ, hD⟩ := hv
  subst hsz
  have hts := atoms_spec (ws := zWw y cc maxL ret hh) Bd.pre
  have hl := lv_entry av (n := maxL) hav
  rw [lg_entry_eq]
  have X : zX p s m _ meth c g B y.cls cc maxL ret := ⟨Bd.exec, Bd.bytes, hml, findClass_of_methodNamed Bd.named, fun w h => hts w (List.mem_cons_of_mem _ h), Bd.returns, Bd.notSynchronized, hK, hZ, hB⟩
  refine body p e _ s m _ below meth c _ _ rfl rfl rfl rfl X
    ⟨⟨hP, hD.self, va_S.rf, fun q h => Or.inr h⟩, fun q h => ?_⟩ (vx_table (x := y) Bd (hts _ List.mem_cons_self)) (fun pc ls H locs cells slots cs2 Z2 hc hs => ⟨fun v ty hr hn hp hd => ?_, fun v hr hp hd => ?_, fun hr hp hd => ?_⟩) _ hl
  · rcases h with ⟨k, e9, h⟩ | h
    · exact hD.2 k _ h
    · exact Nat.le_trans hB h
  · subst hr; exact z_iret X Z2 hn hp hc hs hd
  · subst hr; exact z_lret X Z2 hp hc hs hd
  · subst hr; exact z_vret X Z2 hp hc hs hd
variable {y : MethodName} {bytes : ByteArray} {maxL fr lo mc ms index : Nat} {rt : Option FieldType} {As : List Value} {wc wr w2 wx : List va_W} {V : Option Value} {post : Option Value → List va_W → Prop} {postx : String → List va_W → Prop}
/-- a call of a method that may throw, the throw looked at here -/
theorem z_callVC {C : String} {T : u_T} {N : Nat} {fs : List Value} {k : Nat} (X : zX p s m args meth c g B own cc nL ret) (Z : zM g B A s cs H locs) (isC isR isB : List Nat) (q0 ci : Nat) (hM : zMetX l g B y bytes maxL rt fr lo mc ms (.ref a :: As) wc (zDetC k V w2) (zThr k w2)) (u1 : Cond.methodLink own index y ∈ zU) (u2 : Cond.instanceMethod y ∈ zU) (u5 : Cond.selects C y y ∈ zU) (u3 : Cond.code y bytes maxL rt ∈ zU) (u4 : Cond.initialized y.cls ∈ zU)
    (n nA nB : Nat) (hn : As.length = n) (hd : y.cls ≠ "java/lang/invoke/MethodHandle" ∧ y.cls ≠ "java/lang/invoke/VarHandle" ∧ (parseMethodDescriptor y.desc).map (fun d => d.parameters.length) = some n)
    (hlA : cs.length = nA) (hperm : (isC ++ isR).isPerm (List.range nA) = true) (eC : zPick cs isC = wc) (eR : zPick cs isR = wr) (hlB : (w2 ++ wr).length = nB) (hpermB : isB.isPerm (List.range nB) = true) (eB : zPick (w2 ++ wr) isB = cs2)
    (he : wc.flatten[q0]? = some (a, .inr (ci, fs))) (hc : zCl[ci]? = some (C, T, N))
    (hsize : ls.size = nL) (hst : st = As.reverse ++ .ref a :: rest) (hst2 : V.toList ++ rest = st2) (hR : fr + 1 ≤ R.frames ∧ 8 + (maxL + 11) + lo ≤ R.locals) (hW : (rest.map fun v => v.category).sum ≤ 8) (hf : cells + mc ≤ R.cells ∧ slots + ms ≤ R.slots) (hdg : decode cc pc = .ok (.invokevirtual index, 3))
    (kx : 0 < k → ∀ (ce : Cell) (q9 : Addr) (H : Heap) (locs : List Loc), zM g B A s cs2 H locs → H[q9]? = some ce → ce.vm = .none → s.vm.findClass (zEx k) = some ce.cls → vx_W p l e R s m args below meth c H locs (cells + mc) (slots + ms) Q (F0 m pc ls rest) q9)
    (kk : k = 0 → ∀ (H : Heap) (locs : List Loc), zM g B A s cs2 H locs → W p l e R s m args below meth c H locs (cells + mc) (slots + ms) Q (F0 m (pc + 3) ls st2)) : W p l e R s m args below meth c H locs cells slots Q (F0 m pc ls st) := by
  subst hn; subst hlA; subst hlB
  have Z1 := Z.cut isC isR hperm eC eR
  have hp := z_preS (av := .ref a :: As) X Z1
  refine z_contX Z1 (vx_runV (As := As) (rest := rest) (C := C) ⟨X.1, X.2.1, X.2.2.1, X.2.2.2.1, X.2.2.2.2.1⟩ (hM H.size) ⟨z_cb As.length X u1 u3 u4 hd hR, X.2.2.2.2.1 _ u2, X.2.2.2.2.1 _ u5⟩ ⟨hp.1, z_recv X Z1 he hc, hp.2⟩ rfl rfl hsize hst (by simpa using hW) hdg hf) (fun E ce q9 w9 H1 locs1 hpx Z2 hce hcv hcl => ?_) (fun v w9 H1 locs1 hpv Z2 => ?_)
  · obtain ⟨h0, rfl, rfl⟩ := hpx
    exact kx h0 ce q9 H1 locs1 (Z2.re isB hpermB eB) hce hcv hcl
  · obtain ⟨h0, rfl, rfl⟩ := hpv
    rw [hst2]
    exact kk h0 H1 locs1 (Z2.re isB hpermB eB)
theorem z_catch {E : String} {ce : Cell} {q9 : Addr} {pre suf : List (Nat × Nat × Nat × Nat)} {x : Nat × Nat × Nat × Nat} (X : zX p s m args meth c g B own cc nL ret) (ht : c.exceptionTable.toList = tableOf (pre ++ x :: suf)) (hpass : ∀ z ∈ pre, z.2.2.2 ≠ 0 ∧ ∃ nm, Cond.classLink own z.2.2.2 nm ∈ zU ∧ (E, nm) ∈ zNc)
    (hx : covers ⟨x.1, x.2.1, x.2.2.1, x.2.2.2⟩ pc = true) (h0 : x.2.2.2 ≠ 0) (hlink : Cond.classLink own x.2.2.2 E ∈ zU) (hcast : Cond.castable E E ∈ zNw) (hce : H[q9]? = some ce) (hcv : ce.vm = .none) (hcl : s.vm.findClass E = some ce.cls)
    (kk : W p l e R s m args below meth c H locs cells slots Q (F0 m x.2.2.1 ls [.ref q9])) : vx_W p l e R s m args below meth c H locs cells slots Q (F0 m pc ls rest) q9 := by
  have hts := X.2.2.2.2.1
  have hK := X.2.2.2.2.2.2.2.1
  refine vx_catch (own := own) (name := E) (E := E) X.2.2.2.1 (tableOf pre) ⟨x.1, x.2.1, x.2.2.1, x.2.2.2⟩ (tableOf suf) (by rw [ht]; simp [tableOf]) (fun z hz => ?_) hx h0 (hts _ hlink) (va_Nw.use (zNw_on _ hcast) (hK.2.1 _ hcast)) hce hcv hcl kk
  obtain ⟨y9, hy9, rfl⟩ := List.mem_map.mp hz
  obtain ⟨a9, nm, b9, c9⟩ := hpass y9 hy9
  exact Or.inr ⟨a9, nm, hts _ b9, hK.2.2.2 _ c9⟩
theorem z_cbW {R : Room} {hh : List (Nat × Nat × Nat × Nat)} (n : Nat) (X : zX p s m args meth c g B own cc nL ret) (u1 : Cond.methodLink own index y ∈ zU) (u2 : Cond.static y ∈ zU) (u3 : Cond.codeWith y bytes maxL rt hh ∈ zU) (u4 : Cond.initialized y.cls ∈ zU)
    (hd : y.cls ≠ "java/lang/invoke/MethodHandle" ∧ y.cls ≠ "java/lang/invoke/VarHandle" ∧ (parseMethodDescriptor y.desc).map (fun d => d.parameters.length) = some n) (hR : fr + 1 ≤ R.frames ∧ 8 + (maxL + 11) + lo ≤ R.locals) :
    vx_CSW R s args own index y bytes maxL rt hh (zWw y bytes maxL rt hh) ({ frames := fr, cells := mc, slots := ms, locals := lo }) mc ms n := by
  refine vx_cwSW (Ts := zU) n X.2.2.2.2.1 (fun w hw => ?_) rfl rfl rfl hd hR
  unfold va_wsS at hw
  rcases List.mem_append.mp hw with h | h
  · simp only [List.mem_cons, List.not_mem_nil, or_false] at h
    rcases h with rfl | rfl | rfl
    · exact ⟨u1, zU_good u1⟩
    · exact ⟨u2, zU_good u2⟩
    · exact ⟨u4, zU_good u4⟩
  · exact zGoodW u3 w h
/-- invokestatic of a method with a table -/
theorem z_callSW {hh : List (Nat × Nat × Nat × Nat)} (X : zX p s m args meth c g B own cc nL ret) (Z : zM g B A s cs H locs) (isC isR isB : List Nat) (hM : zMetW l g B y bytes maxL rt hh fr lo mc ms As wc (zDet V w2)) (u1 : Cond.methodLink own index y ∈ zU) (u2 : Cond.static y ∈ zU) (u3 : Cond.codeWith y bytes maxL rt hh ∈ zU) (u4 : Cond.initialized y.cls ∈ zU)
    (n nA nB : Nat) (hn : As.length = n) (hd : y.cls ≠ "java/lang/invoke/MethodHandle" ∧ y.cls ≠ "java/lang/invoke/VarHandle" ∧ (parseMethodDescriptor y.desc).map (fun d => d.parameters.length) = some n)
    (hlA : cs.length = nA) (hperm : (isC ++ isR).isPerm (List.range nA) = true) (eC : zPick cs isC = wc) (eR : zPick cs isR = wr) (hlB : (w2 ++ wr).length = nB) (hpermB : isB.isPerm (List.range nB) = true) (eB : zPick (w2 ++ wr) isB = cs2)
    (hsize : ls.size = nL) (hst : st = As.reverse ++ rest) (hst2 : V.toList ++ rest = st2) (hR : fr + 1 ≤ R.frames ∧ 8 + (maxL + 11) + lo ≤ R.locals) (hW : (rest.map fun v => v.category).sum ≤ 8) (hf : cells + mc ≤ R.cells ∧ slots + ms ≤ R.slots) (hdg : decode cc pc = .ok (.invokestatic index, 3))
    (kk : ∀ (H : Heap) (locs : List Loc), zM g B A s cs2 H locs → W p l e R s m args below meth c H locs (cells + mc) (slots + ms) Q (F0 m (pc + 3) ls st2)) : W p l e R s m args below meth c H locs cells slots Q (F0 m pc ls st) := by
  subst hn; subst hlA; subst hlB
  have Z1 := Z.cut isC isR hperm eC eR
  refine z_cont Z1 (vx_runSW (As := As) (rest := rest) ⟨X.1, X.2.1, X.2.2.1, X.2.2.2.1, X.2.2.2.2.1⟩ (hM H.size) (z_cbW As.length X u1 u2 u3 u4 hd hR) (z_preS X Z1) rfl rfl hsize hst (by simpa using hW) hdg hf) (fun v w9 H1 locs1 hp Z2 => ?_)
  obtain ⟨rfl, rfl⟩ := hp
  rw [hst2]
  exact kk H1 locs1 (Z2.re isB hpermB eB)
end ZW9
/-- the number of an exception among those that a wrapper catches; what it lays -/
def zmap (L : List Nat) (k : Nat) : Int32 := if k = 0 then 0 else nI (L.idxOf k + 1)
def zout (k : Nat) (x : Int64) (o : Nat → Int64) : Nat → Int64 := if k = 0 then vp_updL o 0 x else o
def wOut (g : zG) (oa : Nat) (o : Nat → Int64) : va_W := [(oa, .inl (g.2 1, 1, .inr (.inl o)))]
