/-! What the cells of each object are, by the values that it holds (each value a variable of its own). An object's addresses are ad 0, ad 1 ..: a State's own 26 (0 State, 1 Platform, 2-7 its rows, 8 Beliefs, 9 weights, 10 chances, 11-20 its rows, 21 Roster, 22-25 its rows). -/
def wPlat (g : zG) (ad : Nat → Nat) (X Y C : Nat → Int32) (N : Nat) (OX OY OW : Nat → Int32) : va_W := [(ad 1, .inr (3, [.ref (ad 2), .ref (ad 3), .ref (ad 4), .int (nI N), .ref (ad 5), .ref (ad 6), .ref (ad 7)])), (ad 2, .inl (g.2 0, 3, .inl X)), (ad 3, .inl (g.2 0, 3, .inl Y)), (ad 4, .inl (g.2 0, 3, .inl C)), (ad 5, .inl (g.2 0, 8, .inl OX)), (ad 6, .inl (g.2 0, 8, .inl OY)), (ad 7, .inl (g.2 0, 8, .inl OW))]
def zrI (g : zG) (ad : Nat → Nat) (k n len : Nat) (M : Nat → Nat → Int32) : va_W := (List.range n).map (fun i => (ad (k + i), .inl (g.2 0, len, .inl (M i))))
def wBel (g : zG) (ad : Nat → Nat) (H : Nat) (W : Nat → Int64) (T : Nat) (M : Nat → Nat → Int32) : va_W := [(ad 8, .inr (1, [.int (nI H), .ref (ad 9), .int (nI T), .ref (ad 10)])), (ad 9, .inl (g.2 1, 8, .inr (.inl W))), (ad 10, .inl (g.2 2, 10, .inr (.inr (.inr (.inr (fun i => some (ad (11 + i))))))))] ++ zrI g ad 11 10 24 M
def wRos (g : zG) (ad : Nat → Nat) (S : Nat) (St Ho : Nat → Int32) (E : Nat) (El Eh : Nat → Int32) : va_W := [(ad 21, .inr (4, [.int (nI S), .ref (ad 22), .ref (ad 23), .int (nI E), .ref (ad 24), .ref (ad 25)])), (ad 22, .inl (g.2 0, 8, .inl St)), (ad 23, .inl (g.2 0, 8, .inl Ho)), (ad 24, .inl (g.2 0, 8, .inl El)), (ad 25, .inl (g.2 0, 8, .inl Eh))]
def wStc (ad : Nat → Nat) : va_W := [(ad 0, .inr (5, [.ref (ad 1), .ref (ad 8), .ref (ad 21)]))]
def wLng (g : zG) (a : Nat) (f : Nat → Int64) : va_W := [(a, .inl (g.2 1, 8, .inr (.inl f)))]
def wPln (g : zG) (pd : Nat → Nat) : va_W := [(pd 0, .inr (2, [.ref (pd 1)])), (pd 1, .inl (g.2 3, 4, .inr (.inr (.inr (.inr (fun i => some (pd (2 + i))))))))]
def wAsg (g : zG) (qd : Nat → Nat) (M : Nat → Nat → Int32) (T : Nat → Int32) (C : Int32) : va_W := [(qd 0, .inr (0, [.ref (qd 1), .ref (qd 2), .int C])), (qd 1, .inl (g.2 2, 9, .inr (.inr (.inr (.inr (fun i => some (qd (3 + i)))))))), (qd 2, .inl (g.2 0, 8, .inl T))] ++ zrI g qd 3 9 256 M
/-- the object itself and its row of saved states; sv i: the address of the i-th saved State -/
def wTri (g : zG) (td : Nat → Nat) (cur pl asg ow : Nat) (sv : Nat → Nat) (n : Nat) : va_W := [(td 0, .inr (6, [.ref cur, .ref (td 1), .int (nI n), .ref pl, .ref asg, .ref ow])), (td 1, .inl (g.2 4, 4, .inr (.inr (.inr (.inr (fun i => some (sv i)))))))]
def wMod (g : zG) (md : Nat → Nat) (Now Past : Nat → Int64) (Sav : Nat) (Ref : Int32) (Then Lev : Nat → Int64) (Fst : Int32) (Way : Nat → Int64) (Most : Nat → Int32) (Hash : Int64) : va_W := [(md 0, .inr (7, [.ref (md 1), .ref (md 2), .int (nI Sav), .int Ref, .ref (md 3), .ref (md 4), .int Fst, .ref (md 5), .ref (md 6), .long Hash])), (md 1, .inl (g.2 1, 318, .inr (.inl Now))), (md 2, .inl (g.2 1, 1272, .inr (.inl Past))), (md 3, .inl (g.2 1, 8, .inr (.inl Then))), (md 4, .inl (g.2 1, 32, .inr (.inl Lev))), (md 5, .inl (g.2 1, 17, .inr (.inl Way))), (md 6, .inl (g.2 0, 2304, .inl Most))]
def zc (x : Int64) : Nat := x.toInt.toNat
/-! rows of an array of arrays, by a place that is a variable -/
def zupR (M : Nat → Nat → Int32) (t : Nat) (f : Nat → Int32) : Nat → Nat → Int32 := fun i => if i = t then f else M i
theorem zrI_get {g : zG} {ad : Nat → Nat} {k n len : Nat} {M : Nat → Nat → Int32} {pre post : va_W} {t : Nat} (h : t < n) : (pre ++ (zrI g ad k n len M ++ post))[pre.length + t]? = some (ad (k + t), .inl (g.2 0, len, .inl (M t))) := by
  rw [List.getElem?_append_right (by omega), Nat.add_sub_cancel_left, List.getElem?_append_left (by simp [zrI]; omega)]
  simp [zrI, h]
theorem zrI_set {g : zG} {ad : Nat → Nat} {k n len : Nat} {M : Nat → Nat → Int32} {pre post : va_W} {t : Nat} {f : Nat → Int32} (h : t < n) : (pre ++ (zrI g ad k n len M ++ post)).set (pre.length + t) (ad (k + t), .inl (g.2 0, len, .inl f)) = pre ++ (zrI g ad k n len (zupR M t f) ++ post) := by
  rw [List.set_append_right _ _ (by omega), Nat.add_sub_cancel_left, List.set_append_left _ _ (by simp [zrI]; omega)]
  congr 2
  unfold zrI
  apply List.ext_getElem
  · simp
  · intro i h1 h2
    simp only [List.length_set, List.length_map, List.length_range] at h1
    rw [List.getElem_set]
    by_cases e : t = i
    · subst e; simp [zupR]
    · simp [e, zupR, Ne.symm e]
