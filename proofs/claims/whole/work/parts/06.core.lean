/-! The words that all methods share, the worlds as lists of chunks, contracts and their calls. -/
abbrev zG : Type := va_G × (Nat → ClassId)
abbrev zCl : List vw_C := [(RX0, TX0, 3), (RX1, TX1, 4), (RX3, TX3, 1), (RX4, TX4, 7), (RX5, TX5, 6), (RX6, TX6, 3), (RX8, TX8, 6), (RX9, TX9, 10)]
def zTy (g : zG) : List (ClassId × FieldType) := [(g.2 0, .int), (g.2 1, .long), (g.2 2, .array .int), (g.2 3, .array .long), (g.2 4, .object "TripodScale$State")]
def zU : List Cond := lw_tbl.filter goodWord
theorem zU_at (i : Nat) {w : Cond} (h : tables_1[i]? = some w) (hg : goodWord w = true) : w ∈ zU := List.mem_filter.mpr ⟨List.mem_append_right _ (List.mem_of_getElem? h), hg⟩
theorem zU_sel (i : Nat) {w : Cond} (h : (k2_sels lw_privs)[i]? = some w) (hg : goodWord w = true) : w ∈ zU := List.mem_filter.mpr ⟨List.mem_append_left _ (List.mem_of_getElem? h), hg⟩
theorem zU_good {w : Cond} (h : w ∈ zU) : (w.onTables && w.keeps) = true ∨ ∃ ty, w = .arrayClass ty := good_of_word (List.mem_filter.mp h).2
def zWs (y : MethodName) (cc : ByteArray) (maxL : Nat) (ret : Option FieldType) : List Cond := .code y cc maxL ret :: zU
theorem zGood {y : MethodName} {cc : ByteArray} {maxL : Nat} {ret : Option FieldType} (h : Cond.code y cc maxL ret ∈ zU) : GoodIn zU (zWs y cc maxL ret) := fun w hw => by
  rcases List.mem_cons.mp hw with rfl | h'
  · exact ⟨h, zU_good h⟩
  · exact ⟨h', zU_good h'⟩
/-! worlds by membership -/
theorem zp_mem {D : va_G} {cl : List vw_C} {ws : va_W} {H : Heap} : va_P D cl ws H ↔ ∀ q ∈ ws, va_at D cl q H :=
  ⟨fun h q hq => by obtain ⟨i, hi⟩ := List.getElem?_of_mem hq; exact h i q hi, fun h _ q hk => h q (List.mem_of_getElem? hk)⟩
theorem zd_mem {A : Nat → Prop} {ws : va_W} : va_D A ws ↔ (ws.map (fun q => q.1)).Nodup ∧ ∀ q ∈ ws, A q.1 := by
  constructor
  · intro h
    refine ⟨?_, fun q hq => by obtain ⟨i, hi⟩ := List.getElem?_of_mem hq; exact h.2 i q hi⟩
    refine List.pairwise_iff_getElem.mpr ?_
    intro i j hi hj hij he
    simp only [List.length_map] at hi hj
    simp only [List.getElem_map] at he
    have := h.1 i j _ _ (List.getElem?_eq_getElem hi) (List.getElem?_eq_getElem hj) he
    omega
  · rintro ⟨h1, h2⟩
    refine ⟨fun i j p q hp hq he => ?_, fun k q hk => h2 q (List.mem_of_getElem? hk)⟩
    obtain ⟨hi, rfl⟩ := List.getElem?_eq_some_iff.mp hp
    obtain ⟨hj, rfl⟩ := List.getElem?_eq_some_iff.mp hq
    have hw := List.pairwise_iff_getElem.mp h1
    rcases Nat.lt_trichotomy i j with h | h | h
    · exact absurd (by rw [List.getElem_map, List.getElem_map]; exact he) (hw i j (by simpa using hi) (by simpa using hj) h)
    · exact h
    · exact absurd (by rw [List.getElem_map, List.getElem_map]; exact he.symm) (hw j i (by simpa using hj) (by simpa using hi) h)
theorem zp_perm {D : va_G} {cl : List vw_C} {w1 w2 : va_W} {H : Heap} (hp : w1.Perm w2) (h : va_P D cl w1 H) : va_P D cl w2 H := zp_mem.mpr (fun q hq => zp_mem.mp h q (hp.mem_iff.mpr hq))
theorem zd_perm {A : Nat → Prop} {w1 w2 : va_W} (hp : w1.Perm w2) (h : va_D A w1) : va_D A w2 := zd_mem.mpr ⟨(hp.map _).nodup (zd_mem.mp h).1, fun q hq => (zd_mem.mp h).2 q (hp.mem_iff.mpr hq)⟩
/-! chunks by their places -/
def zPick (cs : List va_W) (is : List Nat) : List va_W := is.map (fun i => cs.getD i [])
theorem zPick_all (cs : List va_W) : zPick cs (List.range cs.length) = cs := by
  apply List.ext_getElem
  · simp [zPick]
  · intro i h1 h2
    simp [zPick, List.getD, h2]
theorem zPick_perm {cs : List va_W} {is : List Nat} (h : is.isPerm (List.range cs.length) = true) : (zPick cs is).flatten.Perm cs.flatten := by
  have h1 : (zPick cs is).Perm (zPick cs (List.range cs.length)) := (List.isPerm_iff.mp h).map _
  rw [zPick_all] at h1
  exact h1.flatten
/-- a method's world now: what the chunks hold, apart, what has stayed since H0 -/
def zW (g : zG) (A : Nat → Prop) (H0 : Heap) (cs : List va_W) (H : Heap) (locs : List Loc) : Prop := va_P g.1 zCl cs.flatten H ∧ va_D A cs.flatten ∧ va_S A H0 H locs ∧ ∀ q, H0.size ≤ q → A q
theorem zW.re {g : zG} {A : Nat → Prop} {H0 H : Heap} {cs cs' : List va_W} {locs : List Loc} (Z : zW g A H0 cs H locs) (is : List Nat) (h : is.isPerm (List.range cs.length) = true) (e : zPick cs is = cs') : zW g A H0 cs' H locs := by
  have hp := (zPick_perm h).symm
  rw [e] at hp
  exact ⟨zp_perm hp Z.1, zd_perm hp Z.2.1, Z.2.2⟩
theorem zW.to {g : zG} {A : Nat → Prop} {H0 H : Heap} {cs cs' : List va_W} {locs : List Loc} (Z : zW g A H0 cs H locs) (e : cs.flatten = cs'.flatten) : zW g A H0 cs' H locs := by
  unfold zW at Z ⊢
  rw [← e]
  exact Z
/-- behind a call on the part a, which left a2: the rest b as it was -/
theorem zp_join {A0 : Nat → Prop} {D : va_G} {cl : List vw_C} {a b a2 : va_W} {H H1 : Heap} (hP : va_P D cl (a ++ b) H) (hD : va_D A0 (a ++ b)) (hk : ∀ q : Nat, q < H.size → ¬ va_A a H.size q → H1[q]? = H[q]?) (hF : ∀ q, va_A a H.size q → A0 q) (hP1 : va_P D cl a2 H1) (hD1 : va_D (va_A a H.size) a2) : va_P D cl (a2 ++ b) H1 ∧ va_D A0 (a2 ++ b) := by
  have dd := zd_mem.mp hD
  rw [List.map_append, List.nodup_append] at dd
  have hb : ∀ q ∈ b, q.1 < H.size ∧ ¬ va_A a H.size q.1 := by
    intro q hq
    have hl := (zp_mem.mp hP q (List.mem_append_right _ hq)).lt
    refine ⟨hl, fun h => ?_⟩
    rcases h with ⟨k, e, h⟩ | h
    · exact dd.1.2.2 q.1 (List.mem_map.mpr ⟨_, List.mem_of_getElem? h, rfl⟩) q.1 (List.mem_map.mpr ⟨q, hq, rfl⟩) rfl
    · exact absurd hl (Nat.not_lt.mpr h)
  have d1 := zd_mem.mp hD1
  refine ⟨zp_mem.mpr fun q hq => ?_, zd_mem.mpr ⟨?_, fun q hq => ?_⟩⟩
  · rcases List.mem_append.mp hq with h | h
    · exact zp_mem.mp hP1 q h
    · exact (zp_mem.mp hP q (List.mem_append_right _ h)).kept (hk q.1 (hb q h).1 (hb q h).2)
  · rw [List.map_append, List.nodup_append]
    refine ⟨d1.1, dd.1.2.1, fun x hx y hy he => ?_⟩
    obtain ⟨q, hq, rfl⟩ := List.mem_map.mp hx
    obtain ⟨r, hr, rfl⟩ := List.mem_map.mp hy
    exact (hb r hr).2 (he ▸ d1.2 q hq)
  · rcases List.mem_append.mp hq with h | h
    · exact hF _ (d1.2 q h)
    · exact dd.2 q (List.mem_append_right _ h)
theorem zp_left {D : va_G} {cl : List vw_C} {a b : va_W} {H : Heap} (h : va_P D cl (a ++ b) H) : va_P D cl a H := zp_mem.mpr fun q hq => zp_mem.mp h q (List.mem_append_left _ hq)
theorem zd_left {A : Nat → Prop} {a b : va_W} (h : va_D A (a ++ b)) : va_D A a := by
  have d := zd_mem.mp h
  rw [List.map_append, List.nodup_append] at d
  exact zd_mem.mpr ⟨d.1.1, fun q hq => d.2 q (List.mem_append_left _ hq)⟩
theorem za_left {A : Nat → Prop} {a b : va_W} {H0 H : Heap} {locs : List Loc} (hD : va_D A (a ++ b)) (hS : va_S A H0 H locs) (hA : ∀ q, H0.size ≤ q → A q) : ∀ q, va_A a H.size q → A q := by
  intro q h
  rcases h with ⟨k, e, h⟩ | h
  · exact (zd_mem.mp hD).2 (q, e) (List.mem_append_left _ (List.mem_of_getElem? h))
  · exact hA q (Nat.le_trans hS.1 h)
