/-! What a method may lean on besides its own world: the tables' facts that calls carry (zK), Throwable's two statics (zZ); a contract (zMet), its entry, its end, its calls. -/
def zK (g : zG) (s : State) : Prop := va_K g.1 zCl (zTy g) s ∧ (∀ w ∈ zNw, va_Nw w s) ∧ (∀ q ∈ zStr, ∃ a, vk_R q.1 q.2.1 q.2.2 a s) ∧ (∀ q ∈ zNc, va_Nc q.1 q.2 s)
theorem zNw_warm {s U : State} (hW : s.WarmedH U.vm) (h : ∀ w ∈ zNw, va_Nw w s) : ∀ w ∈ zNw, va_Nw w U := by
  unfold zNw at h ⊢
  simp only [List.forall_mem_cons] at h ⊢
  revert h
  repeat' first | (refine fun ⟨h1, h2⟩ => ⟨?_, ?_⟩; rotate_left; revert h2; rotate_right; first | exact va_Nw.warmM hW h1 | exact va_Nw.warmD hW h1 | exact va_Nw.warmC hW h1) | exact fun _ _ h => (by cases h)
theorem zK.warm {g : zG} {s U : State} (hW : s.WarmedH U.vm) (h : zK g s) : zK g U :=
  ⟨va_K.moved hW.alike h.1, zNw_warm hW h.2.1, fun q hq => by obtain ⟨a, ha⟩ := h.2.2.1 q hq; exact ⟨a, vk_R.warm hW ha⟩, fun q hq => va_Nc.moved hW.alike (h.2.2.2 q hq)⟩
def zZ (B : Nat) (U : State) (H : Heap) : Prop := vx_Zq Bundle.tN "UNASSIGNED_STACK" Bundle.steD (fun q => B ≤ q) U H ∧ vx_Zq Bundle.tN "SUPPRESSED_SENTINEL" Bundle.listD (fun q => B ≤ q) U H
def zPc (g : zG) (B : Nat) (av : List Value) (cs : List va_W) (sz : Nat) : Array Value → State → Prop := va_Pc av (fun U => U.heap.size = sz ∧ B ≤ sz ∧ va_P g.1 zCl cs.flatten U.heap ∧ zK g U ∧ zZ B U U.heap ∧ va_D (fun q => B ≤ q) cs.flatten)
theorem zPc_blind {g : zG} {B : Nat} {av : List Value} {cs : List va_W} {sz : Nat} : FrameBlind (zPc g B av cs sz) := fun a U g9 mk q => by
  obtain ⟨q0, q1, q2, q3, q4, q5, q6⟩ := q
  exact ⟨q0, q1, q2, q3, zK.warm (U := U.calling g9 mk a) (State.WarmedH.refl U) q4, ⟨vx_Zq.moved (U := U.calling g9 mk a) (Vm.Alike.refl U.vm) q5.1, vx_Zq.moved (U := U.calling g9 mk a) (Vm.Alike.refl U.vm) q5.2⟩, q6⟩
/-- a return: the answer and the chunks behind it -/
def zQn (g : zG) (cs : List va_W) (sz : Nat) (post : Option Value → List va_W → Prop) : Array Value → State → Outcome → State → Prop := fun _ st oc t =>
  (∃ (v : Option Value) (cs2 : List va_W), oc = .returned v ∧ post v cs2 ∧ va_P g.1 zCl cs2.flatten t.heap ∧ va_D (va_A cs.flatten sz) cs2.flatten) ∧ va_F (va_A cs.flatten sz) st t
def zDet (V : Option Value) (w2 : List va_W) : Option Value → List va_W → Prop := fun v cs2 => v = V ∧ cs2 = w2
/-- a throw: its class and the chunks behind it -/
def zQx (g : zG) (cs : List va_W) (sz : Nat) (postx : String → List va_W → Prop) : String → State → State → Prop := fun E st t =>
  (∃ cs2 : List va_W, postx E cs2 ∧ va_P g.1 zCl cs2.flatten t.heap ∧ va_D (va_A cs.flatten sz) cs2.flatten) ∧ va_F (va_A cs.flatten sz) st t
def zMet (l : Launch) (g : zG) (B : Nat) (y : MethodName) (cc : ByteArray) (maxL : Nat) (ret : Option FieldType) (fr lo mc ms : Nat) (av : List Value) (cs : List va_W) (post : Option Value → List va_W → Prop) : Prop :=
  ∀ sz : Nat, Met l y (zWs y cc maxL ret) ({ frames := fr, cells := mc, slots := ms, locals := lo }) (zPc g B av cs sz) (zQn g cs sz post) mc ms (va_A cs.flatten sz)
def zMetX (l : Launch) (g : zG) (B : Nat) (y : MethodName) (cc : ByteArray) (maxL : Nat) (ret : Option FieldType) (fr lo mc ms : Nat) (av : List Value) (cs : List va_W) (post : Option Value → List va_W → Prop) (postx : String → List va_W → Prop) : Prop :=
  ∀ sz : Nat, vx_Met l y (zWs y cc maxL ret) ({ frames := fr, cells := mc, slots := ms, locals := lo }) (zPc g B av cs sz) (zQn g cs sz post) (zQx g cs sz postx) mc ms (va_A cs.flatten sz)
/-- what holds all through a method's body -/
def zX (p : Program) (s : State) (m : MethodId) (args : Array Value) (meth : Method) (c : Code) (g : zG) (B : Nat) (own : String) (cc : ByteArray) (nL : Nat) (ret : Option FieldType) : Prop :=
  p.tables.exec = Jvm.exec ∧ c.code = cc ∧ c.maxLocals = nL ∧ s.vm.findClass own = some m.cls ∧ (∀ w ∈ zU, w.before args s = true) ∧ meth.sig.returnType = ret ∧ meth.locks = false ∧ zK g s ∧ zZ B s s.heap ∧ B ≤ s.heap.size
/-- the method's world now -/
def zM (g : zG) (B : Nat) (A : Nat → Prop) (s : State) (cs : List va_W) (H : Heap) (locs : List Loc) : Prop := zW g A s.heap cs H locs ∧ ∀ q, A q → B ≤ q
theorem zM.re {g : zG} {B : Nat} {A : Nat → Prop} {s : State} {H : Heap} {cs cs' : List va_W} {locs : List Loc} (Z : zM g B A s cs H locs) (is : List Nat) (h : is.isPerm (List.range cs.length) = true) (e : zPick cs is = cs') : zM g B A s cs' H locs := ⟨Z.1.re is h e, Z.2⟩
theorem zM.to {g : zG} {B : Nat} {A : Nat → Prop} {s : State} {H : Heap} {cs cs' : List va_W} {locs : List Loc} (Z : zM g B A s cs H locs) (e : cs.flatten = cs'.flatten) : zM g B A s cs' H locs := ⟨Z.1.to e, Z.2⟩
/-- a contract by its walk, where the class may have rows of the machine's own, but not for this method -/
theorem zMet_ofWF {l : Launch} {y : MethodName} {ws ws' : List Cond} {rm : Room} {Pc : Array Value → State → Prop} {Qc : Array Value → State → Outcome → State → Prop} {mc ms : Nat} {free : Addr → Prop} {cc : ByteArray} {maxL : Nat} {ret : Option FieldType}
    (hy : plainFor y = true) (hw : ws = Cond.code y cc maxL ret :: ws')
    (body : ∀ p e s m args below meth c s₁, BodyLoose p l y (headSpec ws rm) cc maxL ret e s m args below meth c s₁ → c.maxLocals = maxL → Pc args s →
      W p l e (headSpec ws rm).room s m args below meth c s.heap [] 0 0 (MQ below Qc args s mc ms free) (entryFrame m args maxL)) : Met l y ws rm Pc Qc mc ms free := by
  refine MetFree.of_bodySF (code := cc) (maxLocals := maxL) (ret := ret) hy ?_ ?_
  · intro args s m h hn
    obtain ⟨meth, c, h1, h2, h3, h4, h5, h6, -, -⟩ := Cond.code_spec hn (atoms_spec (ws := ws) h _ (by rw [hw]; exact List.mem_cons_self))
    exact ⟨meth, c, h1, h2, h3, h4, h5, h6⟩
  · intro p e s m args below meth c s₁ B hml hP _
    have hh0 : s₁.heap = s.heap := by rw [B.state]; rfl
    obtain ⟨t, a1, o, b1, b2, b3⟩ := body p e s m args below meth c s₁ B hml hP s₁ hh0 (Stand.of_body B)
    exact ⟨t, o, a1, b1, b2, ⟨b3.1, b3.2⟩⟩
section ZB
variable {p : Program} {l : Launch} {e : Env} {R : Room} {s : State} {m : MethodId} {args : Array Value} {below : List Frame} {meth : Method} {c : Code} {H : Heap} {locs : List Loc} {cells slots : Nat} {Q : State → Prop}
variable {g : zG} {B : Nat} {A : Nat → Prop} {own : String} {cc : ByteArray} {nL : Nat} {ret : Option FieldType} {cs : List va_W} {pc : Nat} {ls : Array Slot} {rest st : List Value}
/-- a method's entry -/
theorem z_enter {y : MethodName} {maxL fr lo mc ms : Nat} {av : List Value} {post : Option Value → List va_W → Prop} (hy : plainFor y = true) (hav : (lg_sl av).length ≤ maxL)
    (body : ∀ p e s m args below meth c, zX p s m args meth c g B y.cls cc maxL ret → zM g B (va_A cs.flatten s.heap.size) s cs s.heap [] → meth.name = y.name → ∀ ls : Array Slot, lv_has ls maxL (lv_args 0 av) →
      W p l e ({ frames := fr, cells := mc, slots := ms, locals := lo }) s m args below meth c s.heap [] 0 0 (MQ below (zQn g cs s.heap.size post) args s mc ms (va_A cs.flatten s.heap.size)) (F0 m 0 ls [])) :
    zMet l g B y cc maxL ret fr lo mc ms av cs post := by
  intro sz
  refine zMet_ofWF (cc := cc) (maxL := maxL) (ret := ret) hy rfl ?_
  intro p e s m args below meth c s₁ Bd hml hv
  obtain ⟨rfl, hsz, hB, hP, hK, hZ, hD⟩ := hv
  subst hsz
  have hts := atoms_spec (ws := zWs y cc maxL ret) Bd.pre
  have hl := lv_entry av (n := maxL) hav
  rw [lg_entry_eq]
  refine body p e s m _ below meth c ⟨Bd.exec, Bd.bytes, hml, findClass_of_methodNamed Bd.named, fun w h => hts w (List.mem_cons_of_mem _ h), Bd.returns, Bd.notSynchronized, hK, hZ, hB⟩
    ⟨⟨hP, hD.self, va_S.rf, fun q h => Or.inr h⟩, fun q h => ?_⟩ (name_of_methodNamed Bd.named Bd.method).1 _ hl
  rcases h with ⟨k, e9, h⟩ | h
  · exact hD.2 k _ h
  · exact Nat.le_trans hB h
theorem z_enterX {y : MethodName} {maxL fr lo mc ms : Nat} {av : List Value} {post : Option Value → List va_W → Prop} {postx : String → List va_W → Prop} (hy : plainName y.cls = true) (hav : (lg_sl av).length ≤ maxL)
    (body : ∀ p e s m args below meth c, zX p s m args meth c g B y.cls cc maxL ret → zM g B (va_A cs.flatten s.heap.size) s cs s.heap [] → (∀ x ∈ c.exceptionTable.toList, False) → ∀ ls : Array Slot, lv_has ls maxL (lv_args 0 av) →
      W p l e ({ frames := fr, cells := mc, slots := ms, locals := lo }) s m args below meth c s.heap [] 0 0 (vx_MQ below (zQn g cs s.heap.size post) (zQx g cs s.heap.size postx) args s mc ms (va_A cs.flatten s.heap.size)) (F0 m 0 ls [])) :
    zMetX l g B y cc maxL ret fr lo mc ms av cs post postx := by
  intro sz
  refine vx_ofW (cc := cc) (maxL := maxL) (ret := ret) hy rfl ?_
  intro p e s m args below meth c s₁ Bd hml hnx hv
  obtain ⟨rfl, hsz, hB, hP, hK, hZ, hD⟩ := hv
  subst hsz
  have hts := atoms_spec (ws := zWs y cc maxL ret) Bd.pre
  have hl := lv_entry av (n := maxL) hav
  rw [lg_entry_eq]
  refine body p e s m _ below meth c ⟨Bd.exec, Bd.bytes, hml, findClass_of_methodNamed Bd.named, fun w h => hts w (List.mem_cons_of_mem _ h), Bd.returns, Bd.notSynchronized, hK, hZ, hB⟩
    ⟨⟨hP, hD.self, va_S.rf, fun q h => Or.inr h⟩, fun q h => ?_⟩ hnx _ hl
  rcases h with ⟨k, e9, h⟩ | h
  · exact hD.2 k _ h
  · exact Nat.le_trans hB h
/-! returns -/
theorem z_end {cs0 : List va_W} {post : Option Value → List va_W → Prop} {v : Option Value} (Z : zM g B (va_A cs0.flatten s.heap.size) s cs H locs) (hp : post v cs) : ∀ t : State, t.heap = H → s.WarmedH t.vm → zQn g cs0 s.heap.size post args s (.returned v) t :=
  fun t ht _ => ⟨⟨v, cs, rfl, hp, by rw [ht]; exact Z.1.1, Z.1.2.1⟩, Z.1.2.2.1.F ht⟩
theorem z_iret {cs0 : List va_W} {post : Option Value → List va_W → Prop} {mc ms : Nat} {v : Int32} {ty : FieldType} (X : zX p s m args meth c g B own cc nL (some ty)) (Z : zM g B (va_A cs0.flatten s.heap.size) s cs H locs) (hn : narrow ty (.int v) = .int v) (hp : post (some (.int v)) cs) (hc : cells ≤ mc) (hs : slots ≤ ms) (hdg : decode cc pc = .ok (.ireturn, 1)) :
    W p l e R s m args below meth c H locs cells slots (MQ below (zQn g cs0 s.heap.size post) args s mc ms (va_A cs0.flatten s.heap.size)) (F0 m pc ls [.int v]) :=
  W.widen hc hs (W.zret X.1 X.2.1 X.2.2.2.2.2.1 hn (z_end Z hp) Z.1.2.2.1.2.2 hdg X.2.2.2.2.2.2.1)
theorem z_lret {cs0 : List va_W} {post : Option Value → List va_W → Prop} {mc ms : Nat} {v : Int64} (X : zX p s m args meth c g B own cc nL (some .long)) (Z : zM g B (va_A cs0.flatten s.heap.size) s cs H locs) (hp : post (some (.long v)) cs) (hc : cells ≤ mc) (hs : slots ≤ ms) (hdg : decode cc pc = .ok (.lreturn, 1)) :
    W p l e R s m args below meth c H locs cells slots (MQ below (zQn g cs0 s.heap.size post) args s mc ms (va_A cs0.flatten s.heap.size)) (F0 m pc ls [.long v]) :=
  W.widen hc hs (W.lret X.1 X.2.1 X.2.2.2.2.2.1 (z_end Z hp) Z.1.2.2.1.2.2 hdg X.2.2.2.2.2.2.1)
theorem z_vret {cs0 : List va_W} {post : Option Value → List va_W → Prop} {mc ms : Nat} (X : zX p s m args meth c g B own cc nL none) (Z : zM g B (va_A cs0.flatten s.heap.size) s cs H locs) (hp : post none cs) (hc : cells ≤ mc) (hs : slots ≤ ms) (hdg : decode cc pc = .ok (.return_, 1)) :
    W p l e R s m args below meth c H locs cells slots (MQ below (zQn g cs0 s.heap.size post) args s mc ms (va_A cs0.flatten s.heap.size)) (F0 m pc ls []) :=
  W.widen hc hs (W.vret X.1 X.2.1 X.2.2.2.2.2.1 (z_end Z hp) Z.1.2.2.1.2.2 hdg X.2.2.2.2.2.2.1)
end ZB
