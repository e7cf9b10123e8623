/-! Constructors: making of objects and arrays over the world of chunks. -/
theorem zAOA.moved {ty : FieldType} {u U : State} (hvm : u.vm.Alike U.vm) (h : va_AOA ty u) : va_AOA ty U := by
  unfold va_AOA Cond.before Cond.holds at h ⊢
  simp only [Cond.value, beq_iff_eq] at h ⊢
  cases hc : u.vm.findClass (FieldType.array ty).toString with
  | none => simp [hc] at h
  | some comp =>
    simp only [hc, Option.bind_some, Option.bind_eq_some_iff, Option.map_eq_some_iff] at h
    obtain ⟨c, hi, k, hk, hb⟩ := h
    obtain ⟨k', hk', he⟩ := hvm.2.2 _ _ hk
    have hi2 : (U.vm.classes.findIdx? fun (x : Class) => match x.kind with | .array component _ => component == comp | _ => false) = some c := by
      have a1 := va_idx_bare U.vm comp
      have a2 := va_idx_bare u.vm comp
      first
        | (rw [hvm.bare_eq] at a2; exact (a1.symm.trans a2).trans hi)
        | (rw [← hvm.bare_eq] at a2; exact (a1.symm.trans a2).trans hi)
    have f1 : U.vm.findClass (FieldType.array ty).toString = some comp := by rw [hvm.findClass]; exact hc
    have f2 : U.vm.findClass ("[" ++ (FieldType.array ty).toString) = u.vm.findClass ("[" ++ (FieldType.array ty).toString) := by rw [hvm.findClass]
    rw [f1, Option.bind_some]
    refine (congrArg (fun o : Option Nat => (o.bind (fun c => (U.vm.classes[c]?).map fun (k : Class) => match k.kind with | .array _ ty_1 => decide (ty_1 = FieldType.array ty) && decide (U.vm.findClass ("[" ++ (FieldType.array ty).toString) = some c) | _ => false))) hi2).trans ?_
    have hkind : k'.kind = k.kind := by
      have h9 := congrArg Class.kind he
      exact h9
    simp only [Option.bind_some, hk', Option.map_some, hkind, f2]
    exact congrArg some hb
def zAO (U : State) : Prop := va_AOA .int U ∧ va_AOA .long U ∧ va_AO "TripodScale$State" U
theorem zAO.moved {u U : State} (hvm : u.vm.Alike U.vm) (h : zAO u) : zAO U := ⟨zAOA.moved hvm h.1, zAOA.moved hvm h.2.1, h.2.2.moved hvm⟩
def zPcI (g : zG) (B : Nat) (av : List Value) (cs : List va_W) (sz : Nat) : Array Value → State → Prop := fun a U => zPc g B av cs sz a U ∧ zAO U
theorem zPcI_blind {g : zG} {B : Nat} {av : List Value} {cs : List va_W} {sz : Nat} : FrameBlind (zPcI g B av cs sz) := fun a U g9 mk q => ⟨zPc_blind a U g9 mk q.1, zAO.moved (U := U.calling g9 mk a) (Vm.Alike.refl U.vm) q.2⟩
def zMetI (l : Launch) (g : zG) (B : Nat) (y : MethodName) (cc : ByteArray) (maxL : Nat) (fr lo mc ms : Nat) (av : List Value) (cs : List va_W) (post : List va_W → Prop) : Prop :=
  ∀ sz : Nat, Met l y (zWs y cc maxL none) ({ frames := fr, cells := mc, slots := ms, locals := lo }) (zPcI g B av cs sz) (zQn g cs sz (fun v w => v = none ∧ post w)) mc ms (va_A cs.flatten sz)
section ZI
variable {p : Program} {l : Launch} {e : Env} {R : Room} {s : State} {m : MethodId} {args : Array Value} {below : List Frame} {meth : Method} {c : Code} {H : Heap} {locs : List Loc} {cells slots : Nat} {Q : State → Prop}
variable {g : zG} {B : Nat} {A : Nat → Prop} {own : String} {cc : ByteArray} {nL : Nat} {ret : Option FieldType} {cs cs2 : List va_W} {pc : Nat} {ls : Array Slot} {rest st st2 : List Value} {a : Nat}
theorem z_inI {y : MethodName} {maxL fr lo mc ms : Nat} {av : List Value} {post : List va_W → Prop} (hy : plainFor y = true) (hav : (lg_sl av).length ≤ maxL)
    (body : ∀ (p : Program) (e : Env) (R : Room) (s : State) (m : MethodId) (args : Array Value) (below : List Frame) (meth : Method) (c : Code) (A : Nat → Prop) (Q : State → Prop), R.frames = fr → R.locals = lo → R.cells = mc → R.slots = ms → zX p s m args meth c g B y.cls cc maxL none → zM g B A s cs s.heap [] → zAO s → meth.name = y.name → zEnd p l e R s m args below meth c g B A cc none (fun v w => v = none ∧ post w) Q → ∀ ls : Array Slot, lv_has ls maxL (lv_args 0 av) →
      W p l e R s m args below meth c s.heap [] 0 0 Q (F0 m 0 ls [])) :
    zMetI l g B y cc maxL fr lo mc ms av cs post := by
  intro sz
  refine zMet_ofWF (cc := cc) (maxL := maxL) (ret := none) hy rfl ?_
  intro p e s m args below meth c s₁ Bd hml hv
  obtain ⟨⟨rfl, hsz, hB, hP, hK, hZ, hD⟩, hAO⟩ := hv
  subst hsz
  have hts := atoms_spec (ws := zWs y cc maxL none) Bd.pre
  have hl := lv_entry av (n := maxL) hav
  rw [lg_entry_eq]
  have X : zX p s m _ meth c g B y.cls cc maxL none := ⟨Bd.exec, Bd.bytes, hml, findClass_of_methodNamed Bd.named, fun w h => hts w (List.mem_cons_of_mem _ h), Bd.returns, Bd.notSynchronized, hK, hZ, hB⟩
  refine body p e _ s m _ below meth c _ _ rfl rfl rfl rfl X
    ⟨⟨hP, hD.self, va_S.rf, fun q h => Or.inr h⟩, fun q h => ?_⟩ hAO (name_of_methodNamed Bd.named Bd.method).1 (fun pc ls H locs cells slots cs2 Z2 hc hs => ⟨fun v ty hr hn hp hd => ?_, fun v hr hp hd => ?_, fun hr hp hd => ?_⟩) _ hl
  · rcases h with ⟨k, e9, h⟩ | h
    · exact hD.2 k _ h
    · exact Nat.le_trans hB h
  · cases hr
  · cases hr
  · exact z_vret X Z2 hp hc hs hd
/-- Object's own constructor -/
theorem z_obj {idx : Nat} (X : zX p s m args meth c g B own cc nL ret) (hsize : ls.size = nL) (u1 : Cond.methodLink own idx objectInit ∈ zU) (hdg : decode cc pc = .ok (.invokespecial idx, 3)) (hf : 1 ≤ R.frames) (hlo : (rest.map fun v => v.category).sum + 12 ≤ R.locals)
    (kk : W p l e R s m args below meth c H locs cells slots Q (F0 m (pc + 3) ls rest)) : W p l e R s m args below meth c H locs cells slots Q (F0 m pc ls (.ref a :: rest)) :=
  W.objInit X.1 X.2.1 X.2.2.2.1 (X.2.2.2.2.1 _ u1) (X.2.2.2.2.1 _ zm_obj_i) (X.2.2.2.2.1 _ zm_obj_c) rfl (hsize.trans X.2.2.1.symm) rfl hdg hf (by simpa [F0] using hlo) kk
theorem z_new {C : String} {T : u_T} {N ci index : Nat} {fs : List Value} (X : zX p s m args meth c g B own cc nL ret) (Z : zM g B A s cs H locs) (hc : zCl[ci]? = some (C, T, N)) (hin : ∀ w ∈ u_ws C T N, w ∈ zU) (ty0 : Nat → FieldType) (hty : ∀ k, k < N → parseFieldDescriptor (T k).2.2.1 = some (ty0 k)) (u1 : Cond.classLink own index C ∈ zU) (u2 : Cond.instantiable C N ∈ zU) (u3 : Cond.initialized C ∈ zU) (hfs : ∀ j, j < N → defaultValue (ty0 j) = vp_V fs j) (hcells : cells + 1 ≤ R.cells) (hslots : slots + N ≤ R.slots) (hdg : decode cc pc = .ok (.new index, 3))
    (kk : ∀ (q : Nat) (H : Heap), zM g B A s (cs ++ [[(q, .inr (ci, fs))]]) H locs → W p l e R s m args below meth c H locs (cells + 1) (slots + N) Q (F0 m (pc + 3) ls (.ref q :: rest))) : W p l e R s m args below meth c H locs cells slots Q (F0 m pc ls rest) := by
  have hts := X.2.2.2.2.1
  refine va_new X.1 X.2.1 hts hin ty0 hty X.2.2.2.1 (hts _ u1) (hts _ u2) (hts _ u3) X.2.2.2.2.2.2.2.1.1 Z.1.1 Z.1.2.1 Z.1.2.2.1 Z.1.2.2.2 hc hfs hcells hslots hdg (fun q H1 h3 h4 h5 => kk q H1 ⟨⟨?_, ?_, h5, Z.1.2.2.2⟩, Z.2⟩)
  · rw [List.flatten_append, List.flatten_singleton]; exact h3
  · rw [List.flatten_append, List.flatten_singleton]; exact h4
theorem zn_nn {N : Nat} (h : N < 2 ^ 31) : ¬ nI N < 0 := fun q => by
  rw [Int32.lt_iff_toInt_lt, nI_toInt h] at q
  have e0 : (0 : Int32).toInt = 0 := by decide
  omega
theorem zcls {tys : List (ClassId × FieldType)} {cA : ClassId} {ty : FieldType} {D : va_G} {cl : List vw_C} (h : va_K D cl (tys ++ [(cA, ty)]) s) : va_RA s cA ty := (h.2 tys.length (cA, ty) (by simp)).2
theorem z_newaI {N : Nat} {n : Int32} (X : zX p s m args meth c g B own cc nL ret) (Z : zM g B A s cs H locs) (hn : n = nI N) (hN : N < 100000) (hcells : cells + 1 ≤ R.cells) (hslots : slots + N ≤ R.slots) (hdg : decode cc pc = .ok (.newarray .int, 2))
    (kk : ∀ (q : Nat) (H : Heap), zM g B A s (cs ++ [[(q, .inl (g.2 0, N, .inl (fun _ => 0)))]]) H locs → W p l e R s m args below meth c H locs (cells + 1) (slots + N) Q (F0 m (pc + 2) ls (.ref q :: rest))) : W p l e R s m args below meth c H locs cells slots Q (F0 m pc ls (.int n :: rest)) := by
  have hK := X.2.2.2.2.2.2.2.1.1
  refine va_newa (atype := .int) (ty := .int) (N' := N) (a0 := (N, .inl (fun _ => 0))) X.1 X.2.1 (X.2.2.2.2.1 _ wA_int) rfl hK Z.1.1 Z.1.2.1 Z.1.2.2.1 Z.1.2.2.2 (fun cA => rfl) (by subst hn; exact zn_nn (by omega)) (by subst hn; exact nI_clamp (by omega)) (by show N * 4 ≤ 536870912; omega) hcells hslots hdg (fun q cA H1 hK2 h3 h4 h5 => ?_)
  have e1 : s.vm.findClass ("[" ++ FieldType.int.toString) = some cA := zcls hK2
  have e2 : s.vm.findClass ("[" ++ FieldType.int.toString) = some (g.2 0) := (hK.2 0 (g.2 0, .int) rfl).2
  have e3 : cA = g.2 0 := Option.some.inj (e1.symm.trans e2)
  subst e3
  refine kk q H1 ⟨⟨?_, ?_, h5, Z.1.2.2.2⟩, Z.2⟩
  · rw [List.flatten_append, List.flatten_singleton]; exact h3
  · rw [List.flatten_append, List.flatten_singleton]; exact h4
theorem z_newaL {N : Nat} {n : Int32} (X : zX p s m args meth c g B own cc nL ret) (Z : zM g B A s cs H locs) (hn : n = nI N) (hN : N < 50000) (hcells : cells + 1 ≤ R.cells) (hslots : slots + N ≤ R.slots) (hdg : decode cc pc = .ok (.newarray .long, 2))
    (kk : ∀ (q : Nat) (H : Heap), zM g B A s (cs ++ [[(q, .inl (g.2 1, N, .inr (.inl (fun _ => 0))))]]) H locs → W p l e R s m args below meth c H locs (cells + 1) (slots + N) Q (F0 m (pc + 2) ls (.ref q :: rest))) : W p l e R s m args below meth c H locs cells slots Q (F0 m pc ls (.int n :: rest)) := by
  have hK := X.2.2.2.2.2.2.2.1.1
  refine va_newa (atype := .long) (ty := .long) (N' := N) (a0 := (N, .inr (.inl (fun _ => 0)))) X.1 X.2.1 (X.2.2.2.2.1 _ wA_long) rfl hK Z.1.1 Z.1.2.1 Z.1.2.2.1 Z.1.2.2.2 (fun cA => rfl) (by subst hn; exact zn_nn (by omega)) (by subst hn; exact nI_clamp (by omega)) (by show N * 8 ≤ 536870912; omega) hcells hslots hdg (fun q cA H1 hK2 h3 h4 h5 => ?_)
  have e1 : s.vm.findClass ("[" ++ FieldType.long.toString) = some cA := zcls hK2
  have e2 : s.vm.findClass ("[" ++ FieldType.long.toString) = some (g.2 1) := (hK.2 1 (g.2 1, .long) rfl).2
  have e3 : cA = g.2 1 := Option.some.inj (e1.symm.trans e2)
  subst e3
  refine kk q H1 ⟨⟨?_, ?_, h5, Z.1.2.2.2⟩, Z.2⟩
  · rw [List.flatten_append, List.flatten_singleton]; exact h3
  · rw [List.flatten_append, List.flatten_singleton]; exact h4
theorem z_newqS {N index : Nat} {n : Int32} (X : zX p s m args meth c g B own cc nL ret) (Z : zM g B A s cs H locs) (hAO : zAO s) (u1 : Cond.classLink own index "TripodScale$State" ∈ zU) (hn : n = nI N) (hN : N < 100000) (hcells : cells + 1 ≤ R.cells) (hslots : slots + N ≤ R.slots) (hdg : decode cc pc = .ok (.anewarray index, 3))
    (kk : ∀ (q : Nat) (H : Heap), zM g B A s (cs ++ [[(q, .inl (g.2 4, N, .inr (.inr (.inr (.inr (fun _ => none))))))]]) H locs → W p l e R s m args below meth c H locs (cells + 1) (slots + N) Q (F0 m (pc + 3) ls (.ref q :: rest))) : W p l e R s m args below meth c H locs cells slots Q (F0 m pc ls (.int n :: rest)) := by
  have hK := X.2.2.2.2.2.2.2.1.1
  refine va_newq (N' := N) X.1 X.2.1 X.2.2.2.1 (X.2.2.2.2.1 _ u1) hAO.2.2 hK Z.1.1 Z.1.2.1 Z.1.2.2.1 Z.1.2.2.2 (by subst hn; exact zn_nn (by omega)) (by subst hn; exact nI_clamp (by omega)) (by omega) hcells hslots hdg (fun q cA H1 hK2 h3 h4 h5 => ?_)
  obtain ⟨-, -, -, -, -, e1⟩ := zcls hK2
  obtain ⟨-, -, -, -, -, e2⟩ := (hK.2 4 (g.2 4, .object "TripodScale$State") rfl).2
  have e3 : cA = g.2 4 := Option.some.inj (e1.symm.trans e2)
  subst e3
  refine kk q H1 ⟨⟨?_, ?_, h5, Z.1.2.2.2⟩, Z.2⟩
  · rw [List.flatten_append, List.flatten_singleton]; exact h3
  · rw [List.flatten_append, List.flatten_singleton]; exact h4
/-- a row's content by another function that is the same on its places -/
theorem zext {D : va_G} {cl : List vw_C} {q n : Nat} {cA : ClassId} {f f' : Nat → Option Nat} {H1 : Heap} (h : ∀ i, i < n → f i = f' i) (hv : va_at D cl (q, .inl (cA, n, .inr (.inr (.inr (.inr f))))) H1) : va_at D cl (q, .inl (cA, n, .inr (.inr (.inr (.inr f'))))) H1 := by
  have e : vp_cell cA (n, .inr (.inr (.inr (.inr f)))) = vp_cell cA (n, .inr (.inr (.inr (.inr f')))) := by
    rw [vp_cell_q, vp_cell_q]
    unfold arrV
    congr 2
    funext j
    show va_rf (f j.val) = va_rf (f' j.val)
    rw [h j.val j.isLt]
  show H1[q]? = some (vp_cell cA (n, .inr (.inr (.inr (.inr f')))))
  rw [← e]
  exact hv
theorem z_ext {q n : Nat} {cA : ClassId} {f f' : Nat → Option Nat} {wr : List va_W} (h : ∀ i, i < n → f i = f' i) (Z : zM g B A s ([(q, .inl (cA, n, .inr (.inr (.inr (.inr f)))))] :: wr) H locs) : zM g B A s ([(q, .inl (cA, n, .inr (.inr (.inr (.inr f')))))] :: wr) H locs := by
  obtain ⟨⟨hP, hD, hS, hA⟩, hB⟩ := Z
  rw [List.flatten_cons] at hP hD
  refine ⟨⟨?_, ?_, hS, hA⟩, hB⟩
  · rw [List.flatten_cons]
    refine zp_mem.mpr fun x hx => ?_
    rcases List.mem_append.mp hx with h1 | h1
    · rw [List.mem_singleton] at h1
      subst h1
      exact zext h (zp_mem.mp hP _ (List.mem_append_left _ (List.mem_singleton.mpr rfl)))
    · exact zp_mem.mp hP _ (List.mem_append_right _ h1)
  · rw [List.flatten_cons]
    have d := zd_mem.mp hD
    refine zd_mem.mpr ⟨by simpa using d.1, fun x hx => ?_⟩
    rcases List.mem_append.mp hx with h1 | h1
    · rw [List.mem_singleton] at h1
      subst h1
      exact d.2 (q, .inl (cA, n, .inr (.inr (.inr (.inr f))))) (List.mem_append_left _ (List.mem_singleton.mpr rfl))
    · exact d.2 _ (List.mem_append_right _ h1)
theorem z_mna0 {X0 : va_W} {N q : Nat} {cA cy : ClassId} {z : vp_A} {r : Nat → Nat} {f : Nat → va_E} {D : va_G} {cl : List vw_C} {H1 : Heap}
    (h : va_P D cl ((X0 ++ [(q, .inl (cA, N, .inr (.inr (.inr (.inr (fun i => if i < N then some (r i) else none))))))]) ++ va_pl ([] ++ (List.range N).map r) (vr_up f ((List.range N).map r) (.inl (cy, z)))) H1) :
    va_P D cl (X0 ++ ([(q, .inl (cA, N, .inr (.inr (.inr (.inr (fun i => some (r i)))))))] ++ (List.range N).map (fun i => (r i, .inl (cy, z))))) H1 := by
  have e : va_pl ([] ++ (List.range N).map r) (vr_up f ((List.range N).map r) (.inl (cy, z))) = (List.range N).map (fun i => ((r i, .inl (cy, z)) : Nat × va_E)) := by
    unfold va_pl
    rw [List.nil_append, List.map_map]
    refine List.map_congr_left fun i hi => ?_
    show (r i, vr_up f ((List.range N).map r) (.inl (cy, z)) (r i)) = _
    rw [vr_up_in (List.mem_map.mpr ⟨i, hi, rfl⟩)]
  rw [e] at h
  refine zp_mem.mpr fun x hx => ?_
  rcases List.mem_append.mp hx with h1 | h1
  · exact zp_mem.mp h _ (List.mem_append_left _ (List.mem_append_left _ h1))
  rcases List.mem_append.mp h1 with h2 | h2
  · rw [List.mem_singleton] at h2
    subst h2
    exact zext (fun i hi => if_pos hi) (zp_mem.mp h _ (List.mem_append_left _ (List.mem_append_right _ (List.mem_singleton.mpr rfl))))
  · exact zp_mem.mp h _ (List.mem_append_right _ h2)
theorem z_mnaD {X0 : va_W} {N q : Nat} {cA cy : ClassId} {z : vp_A} {r : Nat → Nat} {f : Nat → va_E} {A : Nat → Prop}
    (h : va_D A ((X0 ++ [(q, .inl (cA, N, .inr (.inr (.inr (.inr (fun i => if i < N then some (r i) else none))))))]) ++ va_pl ([] ++ (List.range N).map r) (vr_up f ((List.range N).map r) (.inl (cy, z))))) :
    va_D A (X0 ++ ([(q, .inl (cA, N, .inr (.inr (.inr (.inr (fun i => some (r i)))))))] ++ (List.range N).map (fun i => (r i, .inl (cy, z))))) := by
  have e : va_pl ([] ++ (List.range N).map r) (vr_up f ((List.range N).map r) (.inl (cy, z))) = (List.range N).map (fun i => ((r i, .inl (cy, z)) : Nat × va_E)) := by
    unfold va_pl
    rw [List.nil_append, List.map_map]
    refine List.map_congr_left fun i hi => ?_
    show (r i, vr_up f ((List.range N).map r) (.inl (cy, z)) (r i)) = _
    rw [vr_up_in (List.mem_map.mpr ⟨i, hi, rfl⟩)]
  rw [e, List.append_assoc] at h
  have d := zd_mem.mp h
  refine zd_mem.mpr ⟨by simpa using d.1, fun x hx => ?_⟩
  rcases List.mem_append.mp hx with h1 | h1
  · exact d.2 _ (List.mem_append_left _ h1)
  rcases List.mem_append.mp h1 with h2 | h2
  · rw [List.mem_singleton] at h2
    subst h2
    exact d.2 (q, .inl (cA, N, .inr (.inr (.inr (.inr (fun i => if i < N then some (r i) else none)))))) (List.mem_append_right _ (List.mem_append_left _ (List.mem_singleton.mpr rfl)))
  · exact d.2 _ (List.mem_append_right _ (List.mem_append_right _ h2))
theorem z_mnaI {N K index : Nat} {n k : Int32} (X : zX p s m args meth c g B own cc nL ret) (Z : zM g B A s cs H locs) (hAO : zAO s) (u1 : Cond.classLink own index "[[I" ∈ zU) (hn : n = nI N) (hN : N < 1000) (hk : k = nI K) (hK9 : K < 1000) (hcells : cells + (1 + N) ≤ R.cells) (hslots : slots + (N + N * K) ≤ R.slots) (hdg : decode cc pc = .ok (.multianewarray index 2, 4))
    (kk : ∀ (q : Nat) (r : Nat → Nat) (H : Heap), zM g B A s (cs ++ [[(q, .inl (g.2 2, N, .inr (.inr (.inr (.inr (fun i => some (r i)))))))], (List.range N).map (fun i => (r i, .inl (g.2 0, K, .inl (fun _ => 0))))]) H locs → W p l e R s m args below meth c H locs (cells + 1 + N) (slots + N + N * K) Q (F0 m (pc + 4) ls (.ref q :: rest))) : W p l e R s m args below meth c H locs cells slots Q (F0 m pc ls (.int k :: .int n :: rest)) := by
  have hK := X.2.2.2.2.2.2.2.1.1
  have e0 : s.vm.findClass (FieldType.array .int).toString = some (g.2 0) := (hK.2 0 (g.2 0, .int) rfl).2
  refine va_mna (X := cs.flatten) (L := []) (f := fun _ => .inl (g.2 0, 0, .inl (fun _ => 0))) (ty := .int) (cy := g.2 0) (N' := N) (K' := K) (z := (K, .inl (fun _ => 0))) X.1 X.2.1 X.2.2.2.1 (X.2.2.2.2.1 _ u1) hAO.1 (X.2.2.2.2.1 _ wA_int) e0 hK (by simpa [va_pl] using Z.1.1) (by simpa [va_pl] using Z.1.2.1) Z.1.2.2.1 Z.1.2.2.2 (by subst hn; exact zn_nn (by omega)) (by subst hk; exact zn_nn (by omega)) (by subst hn; exact nI_clamp (by omega)) (by subst hk; exact nI_clamp (by omega)) (by omega) (by show K * 4 ≤ 536870912; omega) (by omega) rfl rfl hcells hslots (fun c9 => by show ({ cls := c9, slots := Array.replicate K (.int 0), vm := .none } : Cell) = _; rw [arrV_new]; rfl) hdg (fun q r cA H1 hr1 hr2 hK2 h3 h4 h5 => ?_)
  have e1 : s.vm.findClass ("[" ++ (FieldType.array .int).toString) = some cA := zcls hK2
  have e2 : s.vm.findClass ("[" ++ (FieldType.array .int).toString) = some (g.2 2) := (hK.2 2 (g.2 2, .array .int) rfl).2
  have e3 : cA = g.2 2 := Option.some.inj (e1.symm.trans e2)
  subst e3
  refine kk q r H1 ⟨⟨?_, ?_, h5, Z.1.2.2.2⟩, Z.2⟩
  · rw [List.flatten_append, List.flatten_cons, List.flatten_singleton]; exact z_mna0 h3
  · rw [List.flatten_append, List.flatten_cons, List.flatten_singleton]; exact z_mnaD h4
theorem z_mnaL {N K index : Nat} {n k : Int32} (X : zX p s m args meth c g B own cc nL ret) (Z : zM g B A s cs H locs) (hAO : zAO s) (u1 : Cond.classLink own index "[[J" ∈ zU) (hn : n = nI N) (hN : N < 1000) (hk : k = nI K) (hK9 : K < 1000) (hcells : cells + (1 + N) ≤ R.cells) (hslots : slots + (N + N * K) ≤ R.slots) (hdg : decode cc pc = .ok (.multianewarray index 2, 4))
    (kk : ∀ (q : Nat) (r : Nat → Nat) (H : Heap), zM g B A s (cs ++ [[(q, .inl (g.2 3, N, .inr (.inr (.inr (.inr (fun i => some (r i)))))))], (List.range N).map (fun i => (r i, .inl (g.2 1, K, .inr (.inl (fun _ => 0)))))]) H locs → W p l e R s m args below meth c H locs (cells + 1 + N) (slots + N + N * K) Q (F0 m (pc + 4) ls (.ref q :: rest))) : W p l e R s m args below meth c H locs cells slots Q (F0 m pc ls (.int k :: .int n :: rest)) := by
  have hK := X.2.2.2.2.2.2.2.1.1
  have e0 : s.vm.findClass (FieldType.array .long).toString = some (g.2 1) := (hK.2 1 (g.2 1, .long) rfl).2
  refine va_mna (X := cs.flatten) (L := []) (f := fun _ => .inl (g.2 0, 0, .inl (fun _ => 0))) (ty := .long) (cy := g.2 1) (N' := N) (K' := K) (z := (K, .inr (.inl (fun _ => 0)))) X.1 X.2.1 X.2.2.2.1 (X.2.2.2.2.1 _ u1) hAO.2.1 (X.2.2.2.2.1 _ wA_long) e0 hK (by simpa [va_pl] using Z.1.1) (by simpa [va_pl] using Z.1.2.1) Z.1.2.2.1 Z.1.2.2.2 (by subst hn; exact zn_nn (by omega)) (by subst hk; exact zn_nn (by omega)) (by subst hn; exact nI_clamp (by omega)) (by subst hk; exact nI_clamp (by omega)) (by omega) (by show K * 8 ≤ 536870912; omega) (by omega) rfl rfl hcells hslots (fun c9 => by show ({ cls := c9, slots := Array.replicate K (.long 0), vm := .none } : Cell) = _; rw [arrV_new]; rfl) hdg (fun q r cA H1 hr1 hr2 hK2 h3 h4 h5 => ?_)
  have e1 : s.vm.findClass ("[" ++ (FieldType.array .long).toString) = some cA := zcls hK2
  have e2 : s.vm.findClass ("[" ++ (FieldType.array .long).toString) = some (g.2 3) := (hK.2 3 (g.2 3, .array .long) rfl).2
  have e3 : cA = g.2 3 := Option.some.inj (e1.symm.trans e2)
  subst e3
  refine kk q r H1 ⟨⟨?_, ?_, h5, Z.1.2.2.2⟩, Z.2⟩
  · rw [List.flatten_append, List.flatten_cons, List.flatten_singleton]; exact z_mna0 h3
  · rw [List.flatten_append, List.flatten_cons, List.flatten_singleton]; exact z_mnaD h4
theorem z_aastO (X : zX p s m args meth c g B own cc nL ret) (Z : zM g B A s cs H locs) (q0 t0 qk ci : Nat) {C : String} {T : u_T} {N n j r : Nat} {vs : List Value} {f : Nat → Option Nat} {i : Int32} (ha : cs.flatten[q0]? = some (a, .inl (g.2 t0, n, .inr (.inr (.inr (.inr f)))))) (ht : (zTy g)[t0]? = some (g.2 t0, .object C)) (hv : cs.flatten[qk]? = some (r, .inr (ci, vs))) (hc : zCl[ci]? = some (C, T, N)) (hi : i = nI j) (hj : j < n) (hn : n < 2 ^ 31)
    (h2 : cs.flatten.set q0 (a, .inl (g.2 t0, n, .inr (.inr (.inr (.inr (va_up f j (some r))))))) = cs2.flatten) (hdg : decode cc pc = .ok (.aastore, 1))
    (kk : ∀ (H : Heap) (locs : List Loc), zM g B A s cs2 H locs → W p l e R s m args below meth c H locs cells slots Q (F0 m (pc + 1) ls rest)) : W p l e R s m args below meth c H locs cells slots Q (F0 m pc ls (.ref r :: .int i :: .ref a :: rest)) := by
  subst hi
  refine va_astq X.1 X.2.1 X.2.2.2.2.2.2.2.1.1 Z.1.1 Z.1.2.1 Z.1.2.2.1 q0 t0 qk ci ha ht hv hc (vp_in_nI hj hn) hdg (fun H1 locs1 h3 h4 h5 => ?_)
  rw [nI_clamp (Nat.lt_trans hj hn), h2] at h3 h4
  exact kk H1 locs1 ⟨⟨h3, h4, h5, Z.1.2.2.2⟩, Z.2⟩
variable {y : MethodName} {bytes : ByteArray} {maxL fr lo mc ms index : Nat} {As : List Value} {wc wr : List va_W} {post : List va_W → Prop}
theorem z_preI {own2 : String} {cc2 : ByteArray} {nL2 : Nat} {ret2 : Option FieldType} {av : List Value} (X : zX p s m args meth c g B own2 cc2 nL2 ret2) (Z : zM g B A s (wc ++ wr) H locs) (hAO : zAO s) : PreS s H (zPcI g B av wc H.size) av :=
  ⟨zPcI_blind, fun U hU hW => ⟨(z_preS X Z).2 U hU hW, zAO.moved hW.alike hAO⟩⟩
/-- invokespecial of a constructor -/
theorem z_callI (X : zX p s m args meth c g B own cc nL ret) (Z : zM g B A s (wr ++ wc) H locs) (hAO : zAO s) (hM : zMetI l g B y bytes maxL fr lo mc ms [.ref a] wc post) (u1 : Cond.methodLink own index y ∈ zU) (u2 : Cond.instanceMethod y ∈ zU) (u3 : Cond.code y bytes maxL none ∈ zU) (u4 : Cond.initialized y.cls ∈ zU) (hy1 : y.name = "<init>")
    (hd : y.cls ≠ "java/lang/invoke/MethodHandle" ∧ y.cls ≠ "java/lang/invoke/VarHandle" ∧ (parseMethodDescriptor y.desc).map (fun d => d.parameters.length) = some 0)
    (hsize : ls.size = nL) (hR : fr + 1 ≤ R.frames ∧ 8 + (maxL + 11) + lo ≤ R.locals) (hW : (rest.map fun v => v.category).sum ≤ 8) (hf : cells + mc ≤ R.cells ∧ slots + ms ≤ R.slots) (hdg : decode cc pc = .ok (.invokespecial index, 3))
    (kk : ∀ (w2 : List va_W) (H : Heap) (locs : List Loc), post w2 → zM g B A s (wr ++ w2) H locs → W p l e R s m args below meth c H locs (cells + mc) (slots + ms) Q (F0 m (pc + 3) ls rest)) : W p l e R s m args below meth c H locs cells slots Q (F0 m pc ls (.ref a :: rest)) := by
  have Z1 : zM g B A s (wc ++ wr) H locs := Z.perm (by rw [List.flatten_append, List.flatten_append]; exact List.perm_append_comm)
  refine z_cont Z1 (va_runI (As := []) (rest := rest) ⟨X.1, X.2.1, X.2.2.1, X.2.2.2.1, X.2.2.2.2.1⟩ (hM H.size) ⟨z_cb 0 X u1 u3 u4 hd hR, hy1, X.2.2.2.2.1 _ u2⟩ (z_preI X Z1 hAO) rfl rfl hsize rfl (by simpa using hW) hdg hf) (fun v w9 H1 locs1 hp Z2 => ?_)
  obtain ⟨rfl, hp⟩ := hp
  exact kk w9 H1 locs1 hp (Z2.perm (by rw [List.flatten_append, List.flatten_append]; exact List.perm_append_comm))
theorem z_callIN {host : String} (X : zX p s m args meth c g B own cc nL ret) (Z : zM g B A s (wr ++ wc) H locs) (hAO : zAO s) (hM : zMetI l g B y bytes maxL fr lo mc ms [.ref a] wc post) (u1 : Cond.methodLinkNest own index y host ∈ zNw) (u2 : Cond.instanceMethod y ∈ zU) (u3 : Cond.code y bytes maxL none ∈ zU) (u4 : Cond.initialized y.cls ∈ zU) (hy1 : y.name = "<init>")
    (hd : y.cls ≠ "java/lang/invoke/MethodHandle" ∧ y.cls ≠ "java/lang/invoke/VarHandle" ∧ (parseMethodDescriptor y.desc).map (fun d => d.parameters.length) = some 0)
    (hsize : ls.size = nL) (hR : fr + 1 ≤ R.frames ∧ 8 + (maxL + 11) + lo ≤ R.locals) (hW : (rest.map fun v => v.category).sum ≤ 8) (hf : cells + mc ≤ R.cells ∧ slots + ms ≤ R.slots) (hdg : decode cc pc = .ok (.invokespecial index, 3))
    (kk : ∀ (w2 : List va_W) (H : Heap) (locs : List Loc), post w2 → zM g B A s (wr ++ w2) H locs → W p l e R s m args below meth c H locs (cells + mc) (slots + ms) Q (F0 m (pc + 3) ls rest)) : W p l e R s m args below meth c H locs cells slots Q (F0 m pc ls (.ref a :: rest)) := by
  have Z1 : zM g B A s (wc ++ wr) H locs := Z.perm (by rw [List.flatten_append, List.flatten_append]; exact List.perm_append_comm)
  refine z_cont Z1 (va_runIN (As := []) (rest := rest) (host := host) ⟨X.1, X.2.1, X.2.2.1, X.2.2.2.1, X.2.2.2.2.1⟩ (hM H.size) ⟨va_cnB 0 X.2.2.2.2.1 (zGood u3) rfl rfl rfl (X.2.2.2.2.2.2.2.1.2.1 _ u1) (X.2.2.2.2.1 _ u4) hd hR, hy1, X.2.2.2.2.1 _ u2⟩ (z_preI X Z1 hAO) rfl rfl hsize rfl (by simpa using hW) hdg hf) (fun v w9 H1 locs1 hp Z2 => ?_)
  obtain ⟨rfl, hp⟩ := hp
  exact kk w9 H1 locs1 hp (Z2.perm (by rw [List.flatten_append, List.flatten_append]; exact List.perm_append_comm))
end ZI
