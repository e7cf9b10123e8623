/-! A method's entry and ends, with all that a walk doesn't look at as variables. -/
section ZE
variable {p : Program} {l : Launch} {e : Env} {R : Room} {s : State} {m : MethodId} {args : Array Value} {below : List Frame} {meth : Method} {c : Code} {H : Heap} {locs : List Loc} {cells slots : Nat} {Q : State → Prop}
variable {g : zG} {B : Nat} {A : Nat → Prop} {own : String} {cc : ByteArray} {nL : Nat} {ret : Option FieldType} {cs cs2 : List va_W} {pc : Nat} {ls : Array Slot} {rest st st2 : List Value} {a : Nat}
/-- how the method may end: with which answers and chunks -/
def zEnd (p : Program) (l : Launch) (e : Env) (R : Room) (s : State) (m : MethodId) (args : Array Value) (below : List Frame) (meth : Method) (c : Code) (g : zG) (B : Nat) (A : Nat → Prop) (cc : ByteArray) (ret : Option FieldType) (post : Option Value → List va_W → Prop) (Q : State → Prop) : Prop :=
  ∀ (pc : Nat) (ls : Array Slot) (H : Heap) (locs : List Loc) (cells slots : Nat) (cs : List va_W), zM g B A s cs H locs → cells ≤ R.cells → slots ≤ R.slots →
    (∀ (v : Int32) (ty : FieldType), ret = some ty → narrow ty (.int v) = .int v → post (some (.int v)) cs → decode cc pc = .ok (.ireturn, 1) → W p l e R s m args below meth c H locs cells slots Q (F0 m pc ls [.int v])) ∧
    (∀ v : Int64, ret = some .long → post (some (.long v)) cs → decode cc pc = .ok (.lreturn, 1) → W p l e R s m args below meth c H locs cells slots Q (F0 m pc ls [.long v])) ∧
    (ret = none → post none cs → decode cc pc = .ok (.return_, 1) → W p l e R s m args below meth c H locs cells slots Q (F0 m pc ls []))
theorem z_in {y : MethodName} {maxL fr lo mc ms : Nat} {av : List Value} {post : Option Value → List va_W → Prop} (hy : plainFor y = true) (hav : (lg_sl av).length ≤ maxL)
    (body : ∀ (p : Program) (e : Env) (R : Room) (s : State) (m : MethodId) (args : Array Value) (below : List Frame) (meth : Method) (c : Code) (A : Nat → Prop) (Q : State → Prop), R.frames = fr → R.locals = lo → R.cells = mc → R.slots = ms → zX p s m args meth c g B y.cls cc maxL ret → zM g B A s cs s.heap [] → meth.name = y.name → zEnd p l e R s m args below meth c g B A cc ret post Q → ∀ ls : Array Slot, lv_has ls maxL (lv_args 0 av) →
      W p l e R s m args below meth c s.heap [] 0 0 Q (F0 m 0 ls [])) :
    zMet l g B y cc maxL ret fr lo mc ms av cs post := by
  refine z_enter hy hav (fun p e s m args below meth c X Z hnm ls hl => ?_)
  refine body p e _ s m args below meth c _ _ rfl rfl rfl rfl X Z hnm (fun pc ls H locs cells slots cs2 Z2 hc hs => ⟨fun v ty hr hn hp hd => ?_, fun v hr hp hd => ?_, fun hr hp hd => ?_⟩) ls hl
  · subst hr; exact z_iret X Z2 hn hp hc hs hd
  · subst hr; exact z_lret X Z2 hp hc hs hd
  · subst hr; exact z_vret X Z2 hp hc hs hd
theorem z_inX {y : MethodName} {maxL fr lo mc ms : Nat} {av : List Value} {post : Option Value → List va_W → Prop} {postx : String → List va_W → Prop} (hy : plainName y.cls = true) (hav : (lg_sl av).length ≤ maxL)
    (body : ∀ (p : Program) (e : Env) (R : Room) (s : State) (m : MethodId) (args : Array Value) (below : List Frame) (meth : Method) (c : Code) (A : Nat → Prop) (Q : State → Prop), R.frames = fr → R.locals = lo → R.cells = mc → R.slots = ms → zX p s m args meth c g B y.cls cc maxL ret → zM g B A s cs s.heap [] → (∀ x ∈ c.exceptionTable.toList, False) → zEnd p l e R s m args below meth c g B A cc ret post Q → A = va_A cs.flatten s.heap.size → Q = vx_MQ below (zQn g cs s.heap.size post) (zQx g cs s.heap.size postx) args s mc ms (va_A cs.flatten s.heap.size) → ∀ ls : Array Slot, lv_has ls maxL (lv_args 0 av) →
      W p l e R s m args below meth c s.heap [] 0 0 Q (F0 m 0 ls [])) :
    zMetX l g B y cc maxL ret fr lo mc ms av cs post postx := by
  refine z_enterX hy hav (fun p e s m args below meth c X Z hnx ls hl => ?_)
  refine body p e _ s m args below meth c _ _ rfl rfl rfl rfl X Z hnx (fun pc ls H locs cells slots cs2 Z2 hc hs => ⟨fun v ty hr hn hp hd => ?_, fun v hr hp hd => ?_, fun hr hp hd => ?_⟩) rfl rfl ls hl
  · subst hr; exact vx_ret (z_iret X Z2 hn hp hc hs hd)
  · subst hr; exact vx_ret (z_lret X Z2 hp hc hs hd)
  · subst hr; exact vx_ret (z_vret X Z2 hp hc hs hd)
theorem z_ri {post : Option Value → List va_W → Prop} {ty : FieldType} {v : Int32} (E : zEnd p l e R s m args below meth c g B A cc (some ty) post Q) (Z : zM g B A s cs H locs) (hn : narrow ty (.int v) = .int v) (hp : post (some (.int v)) cs) (hdg : decode cc pc = .ok (.ireturn, 1)) (hc : cells ≤ R.cells) (hs : slots ≤ R.slots) : W p l e R s m args below meth c H locs cells slots Q (F0 m pc ls [.int v]) := (E pc ls H locs cells slots cs Z hc hs).1 v ty rfl hn hp hdg
theorem z_rl {post : Option Value → List va_W → Prop} {v : Int64} (E : zEnd p l e R s m args below meth c g B A cc (some .long) post Q) (Z : zM g B A s cs H locs) (hp : post (some (.long v)) cs) (hdg : decode cc pc = .ok (.lreturn, 1)) (hc : cells ≤ R.cells) (hs : slots ≤ R.slots) : W p l e R s m args below meth c H locs cells slots Q (F0 m pc ls [.long v]) := (E pc ls H locs cells slots cs Z hc hs).2.1 v rfl hp hdg
theorem z_rv {post : Option Value → List va_W → Prop} (E : zEnd p l e R s m args below meth c g B A cc none post Q) (Z : zM g B A s cs H locs) (hp : post none cs) (hdg : decode cc pc = .ok (.return_, 1)) (hc : cells ≤ R.cells) (hs : slots ≤ R.slots) : W p l e R s m args below meth c H locs cells slots Q (F0 m pc ls []) := (E pc ls H locs cells slots cs Z hc hs).2.2 rfl hp hdg
theorem zBf {b : Bool} (h : b = false) : ¬ b = true := by rw [h]; decide
/-- a counter goes on by a step -/
theorem z_iinc {i k : Nat} {x : Int32} {a b st : Nat} {n : Int} {lv lv' : List (Nat × Value)} (X : zX p s m args meth c g B own cc nL ret) (hdg : decode cc pc = .ok (.iinc i n, 3)) (h : lv_has ls nL lv) (hk : lv[k]? = some (i, .int x)) (hx : x = nI a) (hn : Int32.ofInt n = nI st) (hab : b = a + st) (hi : i < nL) (hl : (i, Value.int (nI b)) :: lv.filter (fun q => !(q.1 == i) && !(q.1 + 1 == i && q.2.category == 2)) = lv')
    (kk : ∀ ls' : Array Slot, lv_has ls' nL lv' → W p l e R s m args below meth c H locs cells slots Q (F0 m (pc + 3) ls' rest)) : W p l e R s m args below meth c H locs cells slots Q (F0 m pc ls rest) :=
  lv_iinc X.1 X.2.1 hdg h hk (by rw [hx, hn, nI_add, hab]) hi hl kk
end ZE
