/-! What the cells of each object are, by the values that it holds. An object's addresses are ad 0, ad 1 ..: a State's own 26 (0 State, 1 Platform, 2-7 its rows, 8 Beliefs, 9 weights, 10 chances, 11-20 its rows, 21 Roster, 22-25 its rows). -/
abbrev zPl : Type := (Nat → Int32) × (Nat → Int32) × (Nat → Int32) × Nat × (Nat → Int32) × (Nat → Int32) × (Nat → Int32)
abbrev pX (P : zPl) : Nat → Int32 := P.1
abbrev pY (P : zPl) : Nat → Int32 := P.2.1
abbrev pC (P : zPl) : Nat → Int32 := P.2.2.1
abbrev pN (P : zPl) : Nat := P.2.2.2.1
abbrev pOX (P : zPl) : Nat → Int32 := P.2.2.2.2.1
abbrev pOY (P : zPl) : Nat → Int32 := P.2.2.2.2.2.1
abbrev pOW (P : zPl) : Nat → Int32 := P.2.2.2.2.2.2
def wPlat (g : zG) (ad : Nat → Nat) (P : zPl) : va_W := [(ad 1, .inr (3, [.ref (ad 2), .ref (ad 3), .ref (ad 4), .int (nI (pN P)), .ref (ad 5), .ref (ad 6), .ref (ad 7)])), (ad 2, .inl (g.2 0, 3, .inl (pX P))), (ad 3, .inl (g.2 0, 3, .inl (pY P))), (ad 4, .inl (g.2 0, 3, .inl (pC P))), (ad 5, .inl (g.2 0, 8, .inl (pOX P))), (ad 6, .inl (g.2 0, 8, .inl (pOY P))), (ad 7, .inl (g.2 0, 8, .inl (pOW P)))]
abbrev zBe : Type := Nat × (Nat → Int64) × Nat × (Nat → Nat → Int32)
abbrev bH (b : zBe) : Nat := b.1
abbrev bW (b : zBe) : Nat → Int64 := b.2.1
abbrev bT (b : zBe) : Nat := b.2.2.1
abbrev bM (b : zBe) : Nat → Nat → Int32 := b.2.2.2
def zrI (g : zG) (ad : Nat → Nat) (k n len : Nat) (M : Nat → Nat → Int32) : va_W := (List.range n).map (fun i => (ad (k + i), .inl (g.2 0, len, .inl (M i))))
def wBel (g : zG) (ad : Nat → Nat) (b : zBe) : va_W := [(ad 8, .inr (1, [.int (nI (bH b)), .ref (ad 9), .int (nI (bT b)), .ref (ad 10)])), (ad 9, .inl (g.2 1, 8, .inr (.inl (bW b)))), (ad 10, .inl (g.2 2, 10, .inr (.inr (.inr (.inr (fun i => some (ad (11 + i))))))))] ++ zrI g ad 11 10 24 (bM b)
abbrev zRo : Type := Nat × (Nat → Int32) × (Nat → Int32) × Nat × (Nat → Int32) × (Nat → Int32)
abbrev rS (r : zRo) : Nat := r.1
abbrev rSt (r : zRo) : Nat → Int32 := r.2.1
abbrev rHo (r : zRo) : Nat → Int32 := r.2.2.1
abbrev rE (r : zRo) : Nat := r.2.2.2.1
abbrev rEl (r : zRo) : Nat → Int32 := r.2.2.2.2.1
abbrev rEh (r : zRo) : Nat → Int32 := r.2.2.2.2.2
def wRos (g : zG) (ad : Nat → Nat) (r : zRo) : va_W := [(ad 21, .inr (4, [.int (nI (rS r)), .ref (ad 22), .ref (ad 23), .int (nI (rE r)), .ref (ad 24), .ref (ad 25)])), (ad 22, .inl (g.2 0, 8, .inl (rSt r))), (ad 23, .inl (g.2 0, 8, .inl (rHo r))), (ad 24, .inl (g.2 0, 8, .inl (rEl r))), (ad 25, .inl (g.2 0, 8, .inl (rEh r)))]
def wStc (ad : Nat → Nat) : va_W := [(ad 0, .inr (5, [.ref (ad 1), .ref (ad 8), .ref (ad 21)]))]
def wLng (g : zG) (a : Nat) (f : Nat → Int64) : va_W := [(a, .inl (g.2 1, 8, .inr (.inl f)))]
def wPln (g : zG) (pd : Nat → Nat) : va_W := [(pd 0, .inr (2, [.ref (pd 1)])), (pd 1, .inl (g.2 3, 4, .inr (.inr (.inr (.inr (fun i => some (pd (2 + i))))))))]
abbrev zAs : Type := (Nat → Nat → Int32) × (Nat → Int32) × Int32
abbrev aM (q : zAs) : Nat → Nat → Int32 := q.1
abbrev aT (q : zAs) : Nat → Int32 := q.2.1
abbrev aC (q : zAs) : Int32 := q.2.2
def wAsg (g : zG) (qd : Nat → Nat) (q : zAs) : va_W := [(qd 0, .inr (0, [.ref (qd 1), .ref (qd 2), .int (aC q)])), (qd 1, .inl (g.2 2, 9, .inr (.inr (.inr (.inr (fun i => some (qd (3 + i)))))))), (qd 2, .inl (g.2 0, 8, .inl (aT q)))] ++ zrI g qd 3 9 256 (aM q)
/-- the object itself, its row of saved states, its row of weights; sv i: the address of the i-th saved State -/
def wTri (g : zG) (td : Nat → Nat) (cur pl asg : Nat) (sv : Nat → Nat) (n : Nat) : va_W := [(td 0, .inr (6, [.ref cur, .ref (td 1), .int (nI n), .ref pl, .ref asg, .ref (td 2)])), (td 1, .inl (g.2 4, 4, .inr (.inr (.inr (.inr (fun i => some (sv i)))))))]
abbrev zMo : Type := (Nat → Int64) × (Nat → Int64) × Nat × Int32 × (Nat → Int64) × (Nat → Int64) × Int32 × (Nat → Int64) × (Nat → Int32) × Int64
abbrev mNow (M : zMo) : Nat → Int64 := M.1
abbrev mPast (M : zMo) : Nat → Int64 := M.2.1
abbrev mSav (M : zMo) : Nat := M.2.2.1
abbrev mRef (M : zMo) : Int32 := M.2.2.2.1
abbrev mThen (M : zMo) : Nat → Int64 := M.2.2.2.2.1
abbrev mLev (M : zMo) : Nat → Int64 := M.2.2.2.2.2.1
abbrev mFst (M : zMo) : Int32 := M.2.2.2.2.2.2.1
abbrev mWay (M : zMo) : Nat → Int64 := M.2.2.2.2.2.2.2.1
abbrev mMost (M : zMo) : Nat → Int32 := M.2.2.2.2.2.2.2.2.1
abbrev mHash (M : zMo) : Int64 := M.2.2.2.2.2.2.2.2.2
def wMod (g : zG) (md : Nat → Nat) (M : zMo) : va_W := [(md 0, .inr (7, [.ref (md 1), .ref (md 2), .int (nI (mSav M)), .int (mRef M), .ref (md 3), .ref (md 4), .int (mFst M), .ref (md 5), .ref (md 6), .long (mHash M)])), (md 1, .inl (g.2 1, 318, .inr (.inl (mNow M)))), (md 2, .inl (g.2 1, 1272, .inr (.inl (mPast M)))), (md 3, .inl (g.2 1, 8, .inr (.inl (mThen M)))), (md 4, .inl (g.2 1, 32, .inr (.inl (mLev M)))), (md 5, .inl (g.2 1, 17, .inr (.inl (mWay M)))), (md 6, .inl (g.2 0, 2304, .inl (mMost M)))]
def zc (x : Int64) : Nat := x.toInt.toNat
/-! rows of an array of arrays, by a place that is a variable -/
def zupR (M : Nat → Nat → Int32) (t : Nat) (f : Nat → Int32) : Nat → Nat → Int32 := fun i => if i = t then f else M i
theorem zrI_get {g : zG} {ad : Nat → Nat} {k n len : Nat} {M : Nat → Nat → Int32} {pre post : va_W} {t : Nat} (h : t < n) : (pre ++ (zrI g ad k n len M ++ post))[pre.length + t]? = some (ad (k + t), .inl (g.2 0, len, .inl (M t))) := by
  rw [List.getElem?_append_right (by omega), Nat.add_sub_cancel_left, List.getElem?_append_left (by simp [zrI]; omega)]
  simp [zrI, h]
theorem zrI_set {g : zG} {ad : Nat → Nat} {k n len : Nat} {M : Nat → Nat → Int32} {pre post : va_W} {t : Nat} {f : Nat → Int32} (h : t < n) : (pre ++ (zrI g ad k n len M ++ post)).set (pre.length + t) (ad (k + t), .inl (g.2 0, len, .inl f)) = pre ++ (zrI g ad k n len (zupR M t f) ++ post) := by
  rw [List.set_append_right _ _ (by omega), Nat.add_sub_cancel_left, List.set_append_left _ _ (by simp [zrI]; omega)]
  congr 2
  unfold zrI
  apply List.ext_getElem
  · simp
  · intro i h1 h2
    simp only [List.length_set, List.length_map, List.length_range] at h1
    rw [List.getElem_set]
    by_cases e : t = i
    · subst e; simp [zupR]
    · simp [e, zupR, Ne.symm e]
