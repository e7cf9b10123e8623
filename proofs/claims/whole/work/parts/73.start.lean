/-! The start: the tables' facts, the two objects new, what holds of one another then. -/
theorem zStr_tbl : ∀ q ∈ zStr, Cond.stringRef q.1 q.2.1 q.2.2 ∈ lw_tbl := by decide +kernel
theorem zStr_own : ∀ q ∈ zStr, q.1 = RX8 := by decide +kernel
theorem zNc_in : ∀ q ∈ zNc, Cond.not (.castable q.1 q.2) ∈ flatC (Jvm.Cond.and given_1 narrow_1) := by decide +kernel
theorem zarr {s : State} {a : ClassId} {k : Class} {comp : ClassId} {ty : FieldType} (h1 : s.vm.classes[a]? = some k) (h2 : k.kind = .array comp ty) : ArrOfT s a ty := fun n z => ⟨fun k q => (by cases q), k, h1, comp, h2⟩
theorem zk_start {s : State} {args : Array Value} (hts : ∀ w ∈ lw_tbl, w.before args s = true) (hgv : (Jvm.Cond.and given_1 narrow_1).before args s = true) : ∃ g : zG, zK g s ∧ zZ s.heap.size s s.heap ∧ zAO s := by
  have hU : ∀ w ∈ zU, w.before args s = true := fun w hw => hts w (List.mem_filter.mp hw).1
  have hs := flat_of_before _ hgv
  obtain ⟨c0, i0, k0⟩ := u_known (C := RX0) (T := TX0) (N := 3) (n := 3) hU zU_X0 (hU _ wN_X0)
  obtain ⟨c1, i1, k1⟩ := u_known (C := RX1) (T := TX1) (N := 4) (n := 4) hU zU_X1 (hU _ wN_X1)
  obtain ⟨c2, i2, k2⟩ := u_known (C := RX3) (T := TX3) (N := 1) (n := 1) hU zU_X3 (hU _ wN_X3)
  obtain ⟨c3, i3, k3⟩ := u_known (C := RX4) (T := TX4) (N := 7) (n := 7) hU zU_X4 (hU _ wN_X4)
  obtain ⟨c4, i4, k4⟩ := u_known (C := RX5) (T := TX5) (N := 6) (n := 6) hU zU_X5 (hU _ wN_X5)
  obtain ⟨c5, i5, k5⟩ := u_known (C := RX6) (T := TX6) (N := 3) (n := 3) hU zU_X6 (hU _ wN_X6)
  obtain ⟨c6, i6, k6⟩ := u_known (C := RX8) (T := TX8) (N := 6) (n := 6) hU zU_X8 (hU _ wN_X8)
  obtain ⟨c7, i7, k7⟩ := u_known (C := RX9) (T := TX9) (N := 10) (n := 10) hU zU_X9 (hU _ wN_X9)
  obtain ⟨a0, kA0, p0, f0, h0, e0⟩ := Cond.arrayClass_spec (hU _ wA_int)
  obtain ⟨a1, kA1, p1, f1, h1, e1⟩ := Cond.arrayClass_spec (hU _ wA_long)
  obtain ⟨p2, a2, kA2, g2, h2, e2, f2⟩ := Cond.arrayOver_specA (hts (.arrayOver (.array .int)) (by decide +kernel))
  obtain ⟨p3, a3, kA3, g3, h3, e3, f3⟩ := Cond.arrayOver_specA (hts (.arrayOver (.array .long)) (by decide +kernel))
  obtain ⟨p4, a4, kA4, g4, -, h4, e4, f4⟩ := Cond.arrayOver_spec (hts (.arrayOver (.object "TripodScale$State")) (by decide +kernel))
  refine ⟨((fun k => [c0, c1, c2, c3, c4, c5, c6, c7].getD k c0, fun k => [i0, i1, i2, i3, i4, i5, i6, i7].getD k i0), fun k => [a0, a1, a2, a3, a4].getD k a0), ⟨⟨?_, ?_⟩, fun w hw => va_Nw.of (zNw_on w hw) (hts w (zNw_tbl w hw)), fun q hq => ?_, fun q hq => va_Nc.of (hs _ (zNc_in q hq))⟩, ⟨?_, ?_⟩, ?_⟩
  · intro k q hq
    match k, hq with
    | 0, hq => cases hq; exact k0
    | 1, hq => cases hq; exact k1
    | 2, hq => cases hq; exact k2
    | 3, hq => cases hq; exact k3
    | 4, hq => cases hq; exact k4
    | 5, hq => cases hq; exact k5
    | 6, hq => cases hq; exact k6
    | 7, hq => cases hq; exact k7
    | k + 8, hq => simp [zCl] at hq
  · intro k q hq
    match k, hq with
    | 0, hq => cases hq; exact ⟨zarr h0 e0, f0⟩
    | 1, hq => cases hq; exact ⟨zarr h1 e1, f1⟩
    | 2, hq => cases hq; exact ⟨zarr h2 e2, f2⟩
    | 3, hq => cases hq; exact ⟨zarr h3 e3, f3⟩
    | 4, hq => cases hq; exact ⟨zarr h4 e4, ⟨kA4, p4, h4, e4, g4, f4⟩⟩
    | k + 5, hq => simp [zTy] at hq
  · have w1 := hts _ (zStr_tbl q hq)
    have w2 : s.vm.findClass q.1 = some c6 := by rw [zStr_own q hq]; exact k6.2.1
    obtain ⟨-, -, -, a, -, -, -, -, -, w3⟩ := Cond.stringRef_spec w2 w1
    exact ⟨a, vk_R.of w1 w3⟩
  · exact vx_Zqof (hts (.laysStatic "java/lang/Throwable" "UNASSIGNED_STACK" "[Ljava/lang/StackTraceElement;") (by decide +kernel)) (hts (.initialized "java/lang/Throwable") (by decide +kernel)) (hs (.isRef (.static "java/lang/Throwable" "UNASSIGNED_STACK" "[Ljava/lang/StackTraceElement;")) (by decide +kernel)) (fun a ha q => absurd ha (Nat.not_lt.mpr q))
  · exact vx_Zqof (hts (.laysStatic "java/lang/Throwable" "SUPPRESSED_SENTINEL" "Ljava/util/List;") (by decide +kernel)) (hts (.initialized "java/lang/Throwable") (by decide +kernel)) (hs (.isRef (.static "java/lang/Throwable" "SUPPRESSED_SENTINEL" "Ljava/util/List;")) (by decide +kernel)) (fun a ha q => absurd ha (Nat.not_lt.mpr q))
  · exact ⟨va_AOA.of (hts (.arrayOver (.array .int)) (by decide +kernel)), va_AOA.of (hts (.arrayOver (.array .long)) (by decide +kernel)), va_AO.of (hts (.arrayOver (.object "TripodScale$State")) (by decide +kernel))⟩
theorem zRel_0 : zRel (zf_X9_laysHypotheses (vp_updL (vp_updL (vp_updL (vp_updL (vp_updL (vp_updL (fun _ => 0) 2 (5000 : Int64)) 3 (100 : Int64)) 5 (5000 : Int64)) 7 (100 : Int64)) 8 (5000 : Int64)) 34 (2 : Int64)) 2) (fun _ => (0 : Int64)) 0 zX0 zY0 zC0 0 (fun _ => (0 : Int32)) (fun _ => (0 : Int32)) (fun _ => (0 : Int32)) 2 zW0 0 (fun _ _ => (0 : Int32)) 0 (fun _ => (0 : Int32)) (fun _ => (0 : Int32)) 0 (fun _ => (0 : Int32)) (fun _ => (0 : Int32)) 0 (fun _ => zX0) (fun _ => zY0) (fun _ => zC0) (fun _ => 0) (fun _ => (fun _ => (0 : Int32))) (fun _ => (fun _ => (0 : Int32))) (fun _ => (fun _ => (0 : Int32))) (fun _ => 2) (fun _ => zW0) (fun _ => 0) (fun _ _ => (fun _ => (0 : Int32))) (fun _ => 0) (fun _ => (fun _ => (0 : Int32))) (fun _ => (fun _ => (0 : Int32))) (fun _ => 0) (fun _ => (fun _ => (0 : Int32))) (fun _ => (fun _ => (0 : Int32))) := by
  generalize hv : zf_X9_laysHypotheses (vp_updL (vp_updL (vp_updL (vp_updL (vp_updL (vp_updL (fun _ => 0) 2 (5000 : Int64)) 3 (100 : Int64)) 5 (5000 : Int64)) 7 (100 : Int64)) 8 (5000 : Int64)) 34 (2 : Int64)) 2 = v
  have hi : ∀ i, v i = if 35 ≤ i ∧ i < 43 then (if i - 35 ≥ 2 then 0 else 1) else if 44 ≤ i ∧ i < 284 then (zpt (i - 44)).toInt64 else (vp_updL (vp_updL (vp_updL (vp_updL (vp_updL (vp_updL (fun _ => 0) 2 (5000 : Int64)) 3 (100 : Int64)) 5 (5000 : Int64)) 7 (100 : Int64)) 8 (5000 : Int64)) 34 (2 : Int64)) i := fun i => by rw [← hv, zlh]
  have v0 : v 0 = 0 := by rw [hi]; decide
  have v1 : v 1 = 0 := by rw [hi]; decide
  have v2 : v 2 = 5000 := by rw [hi]; decide
  have v3 : v 3 = 100 := by rw [hi]; decide
  have v4 : v 4 = 0 := by rw [hi]; decide
  have v5 : v 5 = 5000 := by rw [hi]; decide
  have v6 : v 6 = 0 := by rw [hi]; decide
  have v7 : v 7 = 100 := by rw [hi]; decide
  have v8 : v 8 = 5000 := by rw [hi]; decide
  have v9 : v 9 = 0 := by rw [hi]; decide
  have v34 : v 34 = 2 := by rw [hi]; decide
  have v43 : v 43 = 0 := by rw [hi]; decide
  have v284 : v 284 = 0 := by rw [hi]; decide
  have v301 : v 301 = 0 := by rw [hi]; decide
  refine ⟨⟨⟨fun i h => ?_, ⟨v9, by omega⟩, fun i h => absurd h (by omega), by decide⟩, ⟨⟨v34, by omega, by omega⟩, ⟨v43, by omega⟩, fun i h => ?_, fun i h1 h2 => ?_, ⟨0, by omega, by decide⟩, fun t h => absurd h (by omega), fun t h => absurd h (by omega), fun q h1 h2 => ?_⟩, ⟨v284, by omega⟩, ⟨v301, by omega⟩, fun i h => absurd h (by omega), fun i h => absurd h (by omega)⟩, ⟨rfl, by omega⟩, fun i h => absurd h (by omega), fun i h => by show 0 ≤ 10; omega⟩
  · rcases (show i = 0 ∨ i = 1 ∨ i = 2 by omega) with rfl | rfl | rfl
    · exact ⟨v0, v1, v2, by unfold zpl; decide, by unfold zpl; decide, by decide, by decide⟩
    · exact ⟨v3, v4, v5, by unfold zpl; decide, by unfold zpl; decide, by decide, by decide⟩
    · exact ⟨v6, v7, v8, by unfold zpl; decide, by unfold zpl; decide, by decide, by decide⟩
  · rcases (show i = 0 ∨ i = 1 by omega) with rfl | rfl
    · exact ⟨by rw [hi]; decide, by decide, by decide⟩
    · exact ⟨by rw [hi]; decide, by decide, by decide⟩
  · rw [hi, if_pos (by omega), if_pos (by omega)]
  · rw [hi, if_neg (by omega), if_pos (by omega), Int32.toInt_toInt64]
    exact zptI _
