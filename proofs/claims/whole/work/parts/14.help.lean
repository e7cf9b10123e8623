/-! small facts that the walks ask for -/
theorem zB_get {g : zG} {ad : Nat → Nat} {H : Nat} {W : Nat → Int64} {T : Nat} {M : Nat → Nat → Int32} {post : List va_W} {t : Nat} (h : t < 10) : (wBel g ad H W T M :: post).flatten[3 + t]? = some (ad (11 + t), .inl (g.2 0, 24, .inl (M t))) := by
  rw [List.flatten_cons]
  unfold wBel
  rw [List.append_assoc]
  exact zrI_get (pre := [(ad 8, .inr (1, [.int (nI H), .ref (ad 9), .int (nI T), .ref (ad 10)])), (ad 9, .inl (g.2 1, 8, .inr (.inl W))), (ad 10, .inl (g.2 2, 10, .inr (.inr (.inr (.inr (fun i => some (ad (11 + i))))))))]) h
theorem zB_set {g : zG} {ad : Nat → Nat} {H : Nat} {W : Nat → Int64} {T : Nat} {M : Nat → Nat → Int32} {post : List va_W} {t : Nat} {f : Nat → Int32} (h : t < 10) : (wBel g ad H W T M :: post).flatten.set (3 + t) (ad (11 + t), .inl (g.2 0, 24, .inl f)) = (wBel g ad H W T (zupR M t f) :: post).flatten := by
  rw [List.flatten_cons, List.flatten_cons]
  unfold wBel
  rw [List.append_assoc, List.append_assoc]
  exact zrI_set (pre := [(ad 8, .inr (1, [.int (nI H), .ref (ad 9), .int (nI T), .ref (ad 10)])), (ad 9, .inl (g.2 1, 8, .inr (.inl W))), (ad 10, .inl (g.2 2, 10, .inr (.inr (.inr (.inr (fun i => some (ad (11 + i))))))))]) h
theorem zB_get1 {g : zG} {ad : Nat → Nat} {H : Nat} {W : Nat → Int64} {T : Nat} {M : Nat → Nat → Int32} {c0 : va_W} {post : List va_W} {t : Nat} (h : t < 10) : (c0 :: wBel g ad H W T M :: post).flatten[c0.length + (3 + t)]? = some (ad (11 + t), .inl (g.2 0, 24, .inl (M t))) := by
  rw [List.flatten_cons, List.getElem?_append_right (by omega), Nat.add_sub_cancel_left]
  exact zB_get h
theorem zA_get {g : zG} {ad : Nat → Nat} {M : Nat → Nat → Int32} {T : Nat → Int32} {C : Int32} {post : List va_W} {t : Nat} (h : t < 9) : (wAsg g ad M T C :: post).flatten[3 + t]? = some (ad (3 + t), .inl (g.2 0, 256, .inl (M t))) := by
  rw [List.flatten_cons]
  unfold wAsg
  rw [List.append_assoc]
  exact zrI_get (pre := [(ad 0, .inr (0, [.ref (ad 1), .ref (ad 2), .int C])), (ad 1, .inl (g.2 2, 9, .inr (.inr (.inr (.inr (fun i => some (ad (3 + i)))))))), (ad 2, .inl (g.2 0, 8, .inl T))]) h
theorem zA_set {g : zG} {ad : Nat → Nat} {M : Nat → Nat → Int32} {T : Nat → Int32} {C : Int32} {post : List va_W} {t : Nat} {f : Nat → Int32} (h : t < 9) : (wAsg g ad M T C :: post).flatten.set (3 + t) (ad (3 + t), .inl (g.2 0, 256, .inl f)) = (wAsg g ad (zupR M t f) T C :: post).flatten := by
  rw [List.flatten_cons, List.flatten_cons]
  unfold wAsg
  rw [List.append_assoc, List.append_assoc]
  exact zrI_set (pre := [(ad 0, .inr (0, [.ref (ad 1), .ref (ad 2), .int C])), (ad 1, .inl (g.2 2, 9, .inr (.inr (.inr (.inr (fun i => some (ad (3 + i)))))))), (ad 2, .inl (g.2 0, 8, .inl T))]) h
theorem zlN0 {a : Nat} (h0 : 0 < a) (h : a < 2 ^ 31) : ¬ lN a = 0 := fun q => by
  have := (lN_eq h (by decide : 0 < 2 ^ 31)).mp q
  omega
theorem zor (a b : Nat) : nI a ||| nI b = nI (a ||| b) := by
  apply Int32.toBitVec_inj.mp
  show BitVec.ofNat 32 a ||| BitVec.ofNat 32 b = BitVec.ofNat 32 (a ||| b)
  apply BitVec.eq_of_toNat_eq
  simp [Nat.or_mod_two_pow]
theorem zshl {a : Nat} (h : a < 31) : (1 : Int32) <<< (nI a &&& 31) = nI (2 ^ a) := by
  have : ∀ a, a < 31 → (1 : Int32) <<< (nI a &&& 31) = nI (2 ^ a) := by decide
  exact this a h
theorem zor1 {u a : Nat} (h : a < 31) : nI u ||| ((1 : Int32) <<< (nI a &&& 31)) = nI (u ||| 2 ^ a) := by rw [zshl h, zor]
theorem zorlt {u a : Nat} (hu : u < 256) (ha : a < 8) : u ||| 2 ^ a < 256 := by
  have h2 : 2 ^ a < 2 ^ 8 := Nat.pow_lt_pow_right (by decide) ha
  exact Nat.or_lt_two_pow (n := 8) hu h2
theorem zp8 {a : Nat} (h : a ≤ 8) : 2 ^ a ≤ 256 := Nat.pow_le_pow_right (by decide) h
