/-! The assignment on both sides -/
theorem zb32 (x : Int32) : x &&& 1 = 1 ↔ x.toBitVec.getLsbD 0 = true := by
  rw [← Int32.toBitVec_inj, Int32.toBitVec_and]
  show x.toBitVec &&& 1#32 = 1#32 ↔ _
  rw [BitVec.and_one_eq_setWidth_ofBool_getLsbD]
  cases x.toBitVec.getLsbD 0 <;> decide
theorem zb64 (x : Int64) : x &&& 1 = 1 ↔ x.toBitVec.getLsbD 0 = true := by
  rw [← Int64.toBitVec_inj, Int64.toBitVec_and]
  show x.toBitVec &&& 1#64 = 1#64 ↔ _
  rw [BitVec.and_one_eq_setWidth_ofBool_getLsbD]
  cases x.toBitVec.getLsbD 0 <;> decide
theorem zsh32 (x : Int32) {e : Nat} (he : e < 24) : (x >>> (nI e &&& 31)).toBitVec = x.toBitVec.sshiftRight e := by
  have h : ∀ e, e < 24 → ((nI e &&& 31).toBitVec.smod 32).toNat = e := by decide
  rw [Int32.toBitVec_shiftRight]
  unfold BitVec.sshiftRight'
  rw [h e he]
theorem zsh64 (x : Int64) {e : Nat} (he : e < 24) : (x >>> (lN e &&& 63)).toBitVec = x.toBitVec.sshiftRight e := by
  have h : ∀ e, e < 24 → ((lN e &&& 63).toBitVec.smod 64).toNat = e := by decide
  rw [Int64.toBitVec_shiftRight]
  unfold BitVec.sshiftRight'
  rw [h e he]
theorem zbit (x : Int32) {e : Nat} (he : e < 24) : (x >>> (nI e &&& 31)) &&& 1 = 1 ↔ (x.toInt64 >>> (lN e &&& 63)) &&& 1 = 1 := by
  rw [zb32, zb64, zsh32 x he, zsh64 _ he, BitVec.getLsbD_sshiftRight, BitVec.getLsbD_sshiftRight, Int32.toBitVec_toInt64, BitVec.getLsbD_signExtend]
  simp [show e < 32 by omega, show e < 64 by omega]
section ZAS
variable {v : Nat → Int64} {rS : Nat} {rSt rHo : Nat → Int32} {rE : Nat} {rEl rEh : Nat → Int32}
theorem zct (h : zRR v rS rSt rHo rE rEl rEh) {k t : Nat} (hk : k < rS) (ht : t < rE) : zf_X5_canTake rSt rHo rEl rEh k t = zf_X9_canTake v k t := by
  obtain ⟨-, -, r5, r6⟩ := h
  obtain ⟨a1, a2, a3⟩ := r5 k hk
  obtain ⟨b1, b2, b3, b4⟩ := r6 t ht
  have ee : rEh t = nI (zi (rEh t)) := zi_ok b3
  have hlt : zi (rEh t) < 24 := by unfold zi; omega
  have el : (rEh t).toInt64 = lN (zi (rEh t)) := by
    have : (nI (zi (rEh t))).toInt64 = lN (zi (rEh t)) := nI_l (by omega)
    rw [← ee] at this
    exact this
  have hb := zbit (rHo k) hlt
  rw [← ee, ← el] at hb
  have hc : rSt k < rEl t ↔ (rSt k).toInt64 < (rEl t).toInt64 := by rw [zlt64, Int32.lt_iff_toInt_lt, Int32.toInt_toInt64, Int32.toInt_toInt64]
  rw [zf_X5_canTake_e, zf_X9_canTake_e, a1, a2, b1, b2, Int32.toInt32_toInt64]
  by_cases c1 : (rHo k >>> (rEh t &&& 31)) &&& 1 = 1
  · rw [if_pos c1]
    by_cases c2 : rSt k < rEl t
    · rw [if_pos c2, if_pos (hc.mp c2)]
    · rw [if_neg c2, if_neg (fun q => c2 (hc.mpr q)), if_pos (hb.mp c1)]
  · rw [if_neg c1]
    by_cases c2 : (rSt k).toInt64 < (rEl t).toInt64
    · rw [if_pos c2]
    · rw [if_neg c2, if_neg (fun q => c1 (hb.mpr q))]
end ZAS
/-- the best by one supporter more -/
def zmfo (F : Nat → Int32) (c : Nat → Bool) : Nat → Nat → Int32 → Int32
  | 0, _, x => x
  | n + 1, k, x => zmfo F c n (k + 1) (if c k = true then zmaxI x (1 + F k) else x)
theorem zmfo_cg {F F' : Nat → Int32} {c c' : Nat → Bool} : ∀ n k x, (∀ i, k ≤ i → i < k + n → c i = c' i ∧ (c i = true → F i = F' i)) → zmfo F c n k x = zmfo F' c' n k x := by
  intro n
  induction n with
  | zero => intro k x _; rfl
  | succ n ih =>
    intro k x h
    obtain ⟨h1, h2⟩ := h k (by omega) (by omega)
    show zmfo F c n (k + 1) (if c k = true then zmaxI x (1 + F k) else x) = zmfo F' c' n (k + 1) (if c' k = true then zmaxI x (1 + F' k) else x)
    rw [← h1]
    by_cases q : c k = true
    · rw [if_pos q, if_pos q, h2 q]
      exact ih _ _ (fun i a b => h i (by omega) (by omega))
    · rw [if_neg q, if_neg q]
      exact ih _ _ (fun i a b => h i (by omega) (by omega))
theorem zadd32 {a b : Int32} (h1 : -2147483648 ≤ a.toInt + b.toInt) (h2 : a.toInt + b.toInt < 2147483648) : (a + b).toInt = a.toInt + b.toInt := by
  rw [Int32.toInt_add, Int.bmod_def]
  omega
theorem z1I : (1 : Int32).toInt = 1 := by decide
theorem zmaxI3 (a b : Int32) : (zmaxI a b = a ∧ b.toInt ≤ a.toInt) ∨ (zmaxI a b = b ∧ a.toInt ≤ b.toInt) := by
  unfold zmaxI
  split
  · rename_i h; rw [Int32.lt_iff_toInt_lt] at h; exact .inr ⟨rfl, by omega⟩
  · rename_i h; rw [Int32.lt_iff_toInt_lt] at h; exact .inl ⟨rfl, by omega⟩
theorem zmfo_b {F : Nat → Int32} {c : Nat → Bool} {B : Int} (hB : B ≤ 1000) : ∀ n k x, 0 ≤ x.toInt → x.toInt ≤ B → (∀ i, k ≤ i → i < k + n → 0 ≤ (F i).toInt ∧ (F i).toInt + 1 ≤ B) → 0 ≤ (zmfo F c n k x).toInt ∧ (zmfo F c n k x).toInt ≤ B := by
  intro n
  induction n with
  | zero => intro k x h1 h2 _; exact ⟨h1, h2⟩
  | succ n ih =>
    intro k x h1 h2 h
    obtain ⟨f1, f2⟩ := h k (by omega) (by omega)
    have ha := zadd32 (a := 1) (b := F k) (by rw [z1I]; omega) (by rw [z1I]; omega)
    rw [z1I] at ha
    show 0 ≤ (zmfo F c n (k + 1) (if c k = true then zmaxI x (1 + F k) else x)).toInt ∧ _
    refine ih _ _ ?_ ?_ (fun i a b => h i (by omega) (by omega))
    · split
      · rcases zmaxI3 x (1 + F k) with ⟨e, q⟩ | ⟨e, q⟩ <;> rw [e] <;> omega
      · exact h1
    · split
      · rcases zmaxI3 x (1 + F k) with ⟨e, q⟩ | ⟨e, q⟩ <;> rw [e] <;> omega
      · exact h2
/-- the most sessions from the r last ones that supporters outside u cover -/
def zms (ct : Nat → Nat → Bool) (S E : Nat) : Nat → Nat → Int32
  | 0, _ => 0
  | r + 1, u => zmfo (fun k => zms ct S E r (u ||| 2 ^ k)) (fun k => zf_X0_isFree u k && ct k (E - (r + 1))) S 0 (zms ct S E r u)
theorem zms_b (ct : Nat → Nat → Bool) (S E : Nat) : ∀ r, r ≤ 8 → ∀ u, 0 ≤ (zms ct S E r u).toInt ∧ (zms ct S E r u).toInt ≤ r := by
  intro r
  induction r with
  | zero => intro _ u; show 0 ≤ (0 : Int32).toInt ∧ (0 : Int32).toInt ≤ 0; decide
  | succ r ih =>
    intro hr u
    refine zmfo_b (by omega) S 0 _ (ih (by omega) u).1 ?_ (fun i _ _ => ?_)
    · have := (ih (by omega) u).2; omega
    · have := ih (by omega) (u ||| 2 ^ i); omega
section ZAC
variable {rS : Nat} {rSt rHo : Nat → Int32} {rE : Nat} {rEl rEh : Nat → Int32}
theorem zmf15 (qM : Nat → Nat → Int32) (t u : Nat) : ∀ n k x, zl_X0_mostFrom_15 qM rSt rHo rEl rEh t u n k x = zmfo (fun k => qM (t + 1) (u ||| 2 ^ k)) (fun k => zf_X0_isFree u k && zf_X5_canTake rSt rHo rEl rEh k t) n k x := by
  intro n
  induction n with
  | zero => intro k x; rfl
  | succ n ih =>
    intro k x
    rw [zl_X0_mostFrom_15_s, ih, ih]
    show _ = zmfo (fun k => qM (t + 1) (u ||| 2 ^ k)) (fun k => zf_X0_isFree u k && zf_X5_canTake rSt rHo rEl rEh k t) n (k + 1) (if (zf_X0_isFree u k && zf_X5_canTake rSt rHo rEl rEh k t) = true then zmaxI x (1 + qM (t + 1) (u ||| 2 ^ k)) else x)
    by_cases c1 : zf_X0_isFree u k = true
    · rw [if_pos c1]
      by_cases c2 : zf_X5_canTake rSt rHo rEl rEh k t = true
      · rw [if_pos c2, if_pos (by rw [c1, c2]; rfl)]
      · rw [if_neg c2, if_neg (by rw [c1, Bool.true_and]; exact c2)]
    · rw [if_neg c1, if_neg (by intro q; rw [Bool.and_eq_true] at q; exact c1 q.1)]
theorem zmf_row {M M' : Nat → Nat → Int32} {s : Nat} (h : M' (s + 1) = M (s + 1)) (q : Nat) : zf_X0_mostFrom M' rS rSt rHo rEl rEh s q = zf_X0_mostFrom M rS rSt rHo rEl rEh s q := by
  rw [zf_X0_mostFrom_e, zf_X0_mostFrom_e, zmf15, zmf15, h]
theorem zfl46 (s : Nat) : ∀ n j M t q, zl_X0_fill_46 rS rSt rHo rEl rEh s n j M t q = if t = s ∧ j ≤ q ∧ q < j + n then zf_X0_mostFrom M rS rSt rHo rEl rEh s q else M t q := by
  intro n
  induction n with
  | zero => intro j M t q; rw [if_neg (by omega)]; rfl
  | succ n ih =>
    intro j M t q
    rw [zl_X0_fill_46_s, ih]
    have hr : (zupR M s (upd (M s) j (zf_X0_mostFrom M rS rSt rHo rEl rEh s j))) (s + 1) = M (s + 1) := if_neg (by omega)
    by_cases h : t = s ∧ j + 1 ≤ q ∧ q < j + 1 + n
    · rw [if_pos h, if_pos (by omega), zmf_row hr]
    · rw [if_neg h]
      unfold zupR
      by_cases h1 : t = s
      · subst h1
        rw [if_pos rfl]
        by_cases h2 : q = j
        · subst h2; rw [zu_eq, if_pos (by omega)]
        · rw [zu_ne h2, if_neg (by omega)]
      · rw [if_neg h1, if_neg (by omega)]
theorem zfl9 : ∀ n j M t q, zl_X0_fill_9 rE n j M t q = if t = rE ∧ j ≤ q ∧ q < j + n then 0 else M t q := by
  intro n
  induction n with
  | zero => intro j M t q; rw [if_neg (by omega)]; rfl
  | succ n ih =>
    intro j M t q
    rw [zl_X0_fill_9_s, ih]
    by_cases h : t = rE ∧ j + 1 ≤ q ∧ q < j + 1 + n
    · rw [if_pos h, if_pos (by omega)]
    · rw [if_neg h]
      unfold zupR
      by_cases h1 : t = rE
      · subst h1
        rw [if_pos rfl]
        by_cases h2 : q = j
        · subst h2; rw [zu_eq, if_pos (by omega)]
        · rw [zu_ne h2, if_neg (by omega)]
      · rw [if_neg h1, if_neg (by omega)]
theorem zfl39 : ∀ n M, n ≤ rE → (∀ u, u < 2 ^ rS → M n u = zms (zf_X5_canTake rSt rHo rEl rEh) rS rE (rE - n) u) → (∀ t, n ≤ t → t ≤ rE → ∀ u, u < 2 ^ rS → M t u = zms (zf_X5_canTake rSt rHo rEl rEh) rS rE (rE - t) u) → ∀ t, t ≤ rE → ∀ u, u < 2 ^ rS → zl_X0_fill_39 rS rSt rHo rEl rEh n M t u = zms (zf_X5_canTake rSt rHo rEl rEh) rS rE (rE - t) u := by
  intro n
  induction n with
  | zero => intro M _ _ h t ht u hu; exact h t (by omega) ht u hu
  | succ n ih =>
    intro M hn h0 h t ht u hu
    rw [zl_X0_fill_39_s]
    have key : ∀ t, n ≤ t → t ≤ rE → ∀ u, u < 2 ^ rS → zl_X0_fill_46 rS rSt rHo rEl rEh n (2 ^ rS) 0 M t u = zms (zf_X5_canTake rSt rHo rEl rEh) rS rE (rE - t) u := by
      intro t h1 h2 u hu
      rw [zfl46]
      by_cases e : t = n
      · subst e
        rw [if_pos (by omega), zf_X0_mostFrom_e, zmf15, show rE - t = (rE - (t + 1)) + 1 by omega]
        show _ = zmfo (fun k => zms (zf_X5_canTake rSt rHo rEl rEh) rS rE (rE - (t + 1)) (u ||| 2 ^ k)) (fun k => zf_X0_isFree u k && zf_X5_canTake rSt rHo rEl rEh k (rE - (rE - (t + 1) + 1))) rS 0 (zms (zf_X5_canTake rSt rHo rEl rEh) rS rE (rE - (t + 1)) u)
        rw [h0 u hu, show rE - (rE - (t + 1) + 1) = t by omega]
        exact zmfo_cg _ _ _ (fun i _ hi => ⟨rfl, fun _ => h0 _ (Nat.or_lt_two_pow hu (Nat.pow_lt_pow_right (by decide) (by omega)))⟩)
      · rw [if_neg (by omega)]
        exact h t (by omega) h2 u hu
    exact ih _ (by omega) (key n (by omega) (by omega)) key t ht u hu
theorem zfill (qM : Nat → Nat → Int32) : ∀ t, t ≤ rE → ∀ u, u < 2 ^ rS → zf_X0_fill qM rS rSt rHo rE rEl rEh t u = zms (zf_X5_canTake rSt rHo rEl rEh) rS rE (rE - t) u := by
  rw [zf_X0_fill_e]
  have h0 : ∀ u, u < 2 ^ rS → zl_X0_fill_9 rE (2 ^ rS) 0 qM rE u = zms (zf_X5_canTake rSt rHo rEl rEh) rS rE (rE - rE) u := fun u hu => by
    rw [zfl9, if_pos (by omega), Nat.sub_self]
    rfl
  exact zfl39 rE _ (Nat.le_refl _) h0 (fun t h1 h2 u hu => by
    have : t = rE := by omega
    subst this
    exact h0 u hu)
end ZAC
/-! the reference's, over free sets -/
theorem zfr1 : ∀ f, f < 256 → ∀ k, k < 8 → (zf_X0_isFree (255 ^^^ f) k = true ↔ ((nI f >>> (nI k &&& 31)) &&& 1) = (1 : Int32)) := by decide +kernel
theorem zfr2 : ∀ f, f < 256 → ∀ k, k < 8 → zf_X0_isFree (255 ^^^ f) k = true → 255 ^^^ (f ^^^ 2 ^ k) = (255 ^^^ f) ||| 2 ^ k ∧ f ^^^ 2 ^ k < 256 := by decide +kernel
theorem zfr3 : ∀ f, f < 256 → 255 ^^^ f < 256 ∧ 255 ^^^ (255 ^^^ f) = f := by decide +kernel
section ZAM
variable {v : Nat → Int64} {rS : Nat} {rSt rHo : Nat → Int32} {rE : Nat} {rEl rEh : Nat → Int32}
theorem zl75 (s f : Nat) (hf : f < 256) (m : Nat → Int32) (hm : ∀ q, 0 ≤ (m (256 * (s + 1) + q)).toInt ∧ (m (256 * (s + 1) + q)).toInt ≤ 100 ∨ 256 ≤ q) : ∀ n k x, k + n ≤ 8 → 0 ≤ x.toInt → zl_X9_laysMost_75 v s f m n k x = zmfo (fun k => m (256 * (s + 1) + (f ^^^ 2 ^ k))) (fun k => zf_X0_isFree (255 ^^^ f) k && zf_X9_canTake v k s) n k x := by
  intro n
  induction n with
  | zero => intro k x _ _; rfl
  | succ n ih =>
    intro k x hk hx
    have e0 : (0 : Int32).toInt = 0 := by decide
    have hz : (if (0 : Int32) ≤ x then zl_X9_laysMost_75 v s f m n (k + 1) x else zl_X9_laysMost_75 v s f m n (k + 1) 0) = zl_X9_laysMost_75 v s f m n (k + 1) x := if_pos (by rw [Int32.le_iff_toInt_le]; omega)
    rw [zl_X9_laysMost_75_s, hz]
    show _ = zmfo (fun k => m (256 * (s + 1) + (f ^^^ 2 ^ k))) (fun k => zf_X0_isFree (255 ^^^ f) k && zf_X9_canTake v k s) n (k + 1) (if (zf_X0_isFree (255 ^^^ f) k && zf_X9_canTake v k s) = true then zmaxI x (1 + m (256 * (s + 1) + (f ^^^ 2 ^ k))) else x)
    have hfr := zfr1 f hf k (by omega)
    by_cases c1 : zf_X0_isFree (255 ^^^ f) k = true
    · rw [if_pos (hfr.mp c1)]
      by_cases c2 : zf_X9_canTake v k s = true
      · rw [if_pos c2, if_pos (show (zf_X0_isFree (255 ^^^ f) k && zf_X9_canTake v k s) = true by rw [c1, c2]; rfl)]
        have hlt := (zfr2 f hf k (by omega) c1).2
        have hb := (hm (f ^^^ 2 ^ k)).resolve_right (by omega)
        have ha := zadd32 (a := 1) (b := m (256 * (s + 1) + (f ^^^ 2 ^ k))) (by rw [z1I]; omega) (by rw [z1I]; omega)
        rw [z1I] at ha
        generalize 1 + m (256 * (s + 1) + (f ^^^ 2 ^ k)) = y at ha ⊢
        by_cases c3 : y ≤ x
        · have e : zmaxI x y = x := by
            unfold zmaxI
            rw [if_neg (by rw [Int32.lt_iff_toInt_lt]; rw [Int32.le_iff_toInt_le] at c3; omega)]
          rw [if_pos c3, e]
          exact ih _ _ (by omega) hx
        · have e : zmaxI x y = y := by
            unfold zmaxI
            rw [if_pos (by rw [Int32.lt_iff_toInt_lt]; rw [Int32.le_iff_toInt_le] at c3; omega)]
          rw [if_neg c3, e]
          exact ih _ _ (by omega) (by omega)
      · rw [if_neg c2, if_neg (show ¬ (zf_X0_isFree (255 ^^^ f) k && zf_X9_canTake v k s) = true by rw [c1, Bool.true_and]; exact c2)]
        exact ih _ _ (by omega) hx
    · rw [if_neg (fun q => c1 (hfr.mpr q)), if_neg (show ¬ (zf_X0_isFree (255 ^^^ f) k && zf_X9_canTake v k s) = true by intro q; rw [Bool.and_eq_true] at q; exact c1 q.1)]
      exact ih _ _ (by omega) hx
theorem zl50 (s : Nat) : ∀ n j m q, j + n ≤ 256 → zl_X9_laysMost_50 v s n j m q = if 256 * s + j ≤ q ∧ q < 256 * s + j + n then zl_X9_laysMost_75 v s (q - 256 * s) m (zc (v 284)) 0 (m (256 * (s + 1) + (q - 256 * s))) else m q := by
  have h75 : ∀ (f : Nat) (m m' : Nat → Int32), (∀ q, 256 * (s + 1) ≤ q → m' q = m q) → ∀ n k x, zl_X9_laysMost_75 v s f m' n k x = zl_X9_laysMost_75 v s f m n k x := by
    intro f m m' hm n
    induction n with
    | zero => intro k x; rfl
    | succ n ih => intro k x; rw [zl_X9_laysMost_75_s, zl_X9_laysMost_75_s, hm _ (by omega), ih, ih, ih]
  intro n
  induction n with
  | zero => intro j m q _; rw [if_neg (by omega)]; rfl
  | succ n ih =>
    intro j m q hj
    rw [zl_X9_laysMost_50_s, ih _ _ _ (by omega)]
    by_cases h : 256 * s + (j + 1) ≤ q ∧ q < 256 * s + (j + 1) + n
    · rw [if_pos h, if_pos (by omega), zu_ne (by omega)]
      exact h75 _ _ _ (fun q' hq' => zu_ne (by omega)) _ _ _
    · rw [if_neg h]
      by_cases h2 : q = 256 * s + j
      · subst h2; rw [zu_eq, if_pos (by omega), Nat.add_sub_cancel_left]
      · rw [zu_ne h2, if_neg (by omega)]
theorem zl2m : ∀ n j m q, zl_X9_laysMost_2 v n j m q = if 256 * zc (v 301) + j ≤ q ∧ q < 256 * zc (v 301) + j + n then 0 else m q := by
  intro n
  induction n with
  | zero => intro j m q; rw [if_neg (by omega)]; rfl
  | succ n ih =>
    intro j m q
    rw [zl_X9_laysMost_2_s, ih]
    by_cases h : 256 * zc (v 301) + (j + 1) ≤ q ∧ q < 256 * zc (v 301) + (j + 1) + n
    · rw [if_pos h, if_pos (by omega)]
    · rw [if_neg h]
      by_cases h2 : q = 256 * zc (v 301) + j
      · subst h2; rw [zu_eq, if_pos (by omega)]
      · rw [zu_ne h2, if_neg (by omega)]
theorem zl44 (h : zRR v rS rSt rHo rE rEl rEh) : ∀ n m, n ≤ rE → (∀ t, n ≤ t → t ≤ rE → ∀ f, f < 256 → m (256 * t + f) = zms (zf_X5_canTake rSt rHo rEl rEh) rS rE (rE - t) (255 ^^^ f)) → ∀ t, t ≤ rE → ∀ f, f < 256 → zl_X9_laysMost_44 v n m (256 * t + f) = zms (zf_X5_canTake rSt rHo rEl rEh) rS rE (rE - t) (255 ^^^ f) := by
  have hS8 := h.1.2
  have hE8 := h.2.1.2
  have eS := zcN h.1.1 (by omega)
  intro n
  induction n with
  | zero => intro m _ hm t ht f hf; exact hm t (by omega) ht f hf
  | succ n ih =>
    intro m hn hm t ht f hf
    rw [zl_X9_laysMost_44_s]
    refine ih _ (by omega) (fun t h1 h2 f hf => ?_) t ht f hf
    rw [zl50 _ _ _ _ _ (by omega), eS]
    by_cases e : t = n
    · subst e
      rw [if_pos (by omega), Nat.add_sub_cancel_left]
      have h0 : ∀ f, f < 256 → m (256 * (t + 1) + f) = zms (zf_X5_canTake rSt rHo rEl rEh) rS rE (rE - (t + 1)) (255 ^^^ f) := fun f hf => hm (t + 1) (by omega) (by omega) f hf
      have hb : ∀ q, 0 ≤ (m (256 * (t + 1) + q)).toInt ∧ (m (256 * (t + 1) + q)).toInt ≤ 100 ∨ 256 ≤ q := fun q => by
        rcases Nat.lt_or_ge q 256 with c | c
        · refine .inl ?_
          rw [h0 q c]
          have := zms_b (zf_X5_canTake rSt rHo rEl rEh) rS rE (rE - (t + 1)) (by omega) (255 ^^^ q)
          omega
        · exact .inr c
      rw [zl75 t f hf m hb rS 0 _ (by omega) (by
        rw [h0 f hf]
        exact (zms_b (zf_X5_canTake rSt rHo rEl rEh) rS rE (rE - (t + 1)) (by omega) _).1), show rE - t = (rE - (t + 1)) + 1 by omega]
      show _ = zmfo (fun k => zms (zf_X5_canTake rSt rHo rEl rEh) rS rE (rE - (t + 1)) ((255 ^^^ f) ||| 2 ^ k)) (fun k => zf_X0_isFree (255 ^^^ f) k && zf_X5_canTake rSt rHo rEl rEh k (rE - (rE - (t + 1) + 1))) rS 0 (zms (zf_X5_canTake rSt rHo rEl rEh) rS rE (rE - (t + 1)) (255 ^^^ f))
      rw [h0 f hf, show rE - (rE - (t + 1) + 1) = t by omega]
      refine zmfo_cg _ _ _ (fun i _ hi => ⟨by rw [zct h (by omega) (by omega)], fun hc => ?_⟩)
      rw [Bool.and_eq_true] at hc
      obtain ⟨z1, z2⟩ := zfr2 f hf i (by omega) hc.1
      rw [h0 _ z2, z1]
    · rw [if_neg (by omega)]
      exact hm t (by omega) h2 f hf
theorem zlays (h : zRR v rS rSt rHo rE rEl rEh) (W : Nat → Int32) : ∀ t, t ≤ rE → ∀ f, f < 256 → zf_X9_laysMost v W (256 * t + f) = zms (zf_X5_canTake rSt rHo rEl rEh) rS rE (rE - t) (255 ^^^ f) := by
  have eE := zcN h.2.1.1 (by have := h.2.1.2; omega)
  rw [zf_X9_laysMost_e, eE]
  refine zl44 h rE _ (Nat.le_refl _) (fun t h1 h2 f hf => ?_)
  have : t = rE := by omega
  subst this
  rw [zl2m, eE, if_pos (by omega), Nat.sub_self]
  rfl
/-! who takes which session -/
theorem zft3l (M : Nat → Nat → Int32) (t u : Nat) (P : Nat → Prop) (hP : ∀ k, P k ↔ zf_X0_isFree u k = true ∧ zf_X5_canTake rSt rHo rEl rEh k t = true ∧ 1 + M (t + 1) (u ||| 2 ^ k) = M t u) : ∀ n j, (∃ k, j ≤ k ∧ k < j + n ∧ P k ∧ (∀ i, j ≤ i → i < k → ¬ P i) ∧ zl_X0_firstTaker_3 M rSt rHo rEl rEh t u n j = nI k) ∨ ((∀ i, j ≤ i → i < j + n → ¬ P i) ∧ zl_X0_firstTaker_3 M rSt rHo rEl rEh t u n j = -1) := by
  intro n
  induction n with
  | zero => intro j; exact .inr ⟨fun i a b => by omega, rfl⟩
  | succ n ih =>
    intro j
    rw [zl_X0_firstTaker_3_s]
    by_cases c : P j
    · obtain ⟨a, b, d⟩ := (hP j).mp c
      rw [if_pos a, if_pos b, if_pos d]
      exact .inl ⟨j, by omega, by omega, c, fun i a b => by omega, rfl⟩
    · have e : ∀ {x y : Int32}, (if zf_X0_isFree u j = true then (if zf_X5_canTake rSt rHo rEl rEh j t = true then (if 1 + M (t + 1) (u ||| 2 ^ j) = M t u then x else y) else y) else y) = y := by
        intro x y
        by_cases a : zf_X0_isFree u j = true
        · rw [if_pos a]
          by_cases b : zf_X5_canTake rSt rHo rEl rEh j t = true
          · rw [if_pos b]
            by_cases d : 1 + M (t + 1) (u ||| 2 ^ j) = M t u
            · exact absurd ((hP j).mpr ⟨a, b, d⟩) c
            · rw [if_neg d]
          · rw [if_neg b]
        · rw [if_neg a]
      rw [e]
      rcases ih (j + 1) with ⟨k, k1, k2, k3, k4, k5⟩ | ⟨k1, k2⟩
      · refine .inl ⟨k, by omega, by omega, k3, fun i a b => ?_, k5⟩
        by_cases q : i = j
        · subst q; exact c
        · exact k4 i (by omega) b
      · refine .inr ⟨fun i a b => ?_, k2⟩
        by_cases q : i = j
        · subst q; exact c
        · exact k1 i (by omega) (by omega)
theorem zt32 (W : Nat → Int32) (t f : Nat) (P : Nat → Prop) : ∀ n y, (∀ k, k < n → (P k ↔ (((nI f) >>> ((nI k) &&& 31)) &&& (1 : Int32)) = 1 ∧ zf_X9_canTake v k t = true ∧ 1 + zf_X9_laysMost v W (256 * (t + 1) + (f ^^^ 2 ^ k)) = zf_X9_laysMost v W (256 * t + f))) → (∃ k, k < n ∧ P k ∧ (∀ i, i < k → ¬ P i) ∧ zl_X9_taker_32 v W t f n y = k + 1) ∨ ((∀ i, i < n → ¬ P i) ∧ zl_X9_taker_32 v W t f n y = y) := by
  intro n
  induction n with
  | zero => intro y _; exact .inr ⟨fun i a => by omega, rfl⟩
  | succ n ih =>
    intro y hP
    have hs : zl_X9_taker_32 v W t f (n + 1) y = zl_X9_taker_32 v W t f n (if (((nI f) >>> ((nI n) &&& 31)) &&& (1 : Int32)) = 1 ∧ zf_X9_canTake v n t = true ∧ 1 + zf_X9_laysMost v W (256 * (t + 1) + (f ^^^ 2 ^ n)) = zf_X9_laysMost v W (256 * t + f) then n + 1 else y) := by
      rw [zl_X9_taker_32_s]
      by_cases a : (((nI f) >>> ((nI n) &&& 31)) &&& (1 : Int32)) = 1
      · rw [if_pos a]
        by_cases b : zf_X9_canTake v n t = true
        · rw [if_pos b]
          by_cases d : 1 + zf_X9_laysMost v W (256 * (t + 1) + (f ^^^ 2 ^ n)) = zf_X9_laysMost v W (256 * t + f)
          · rw [if_pos d, if_pos ⟨a, b, d⟩]
          · rw [if_neg d, if_neg (fun q => d q.2.2)]
        · rw [if_neg b, if_neg (fun q => b q.2.1)]
      · rw [if_neg a, if_neg (fun q => a q.1)]
    rw [hs]
    rcases ih (if (((nI f) >>> ((nI n) &&& 31)) &&& (1 : Int32)) = 1 ∧ zf_X9_canTake v n t = true ∧ 1 + zf_X9_laysMost v W (256 * (t + 1) + (f ^^^ 2 ^ n)) = zf_X9_laysMost v W (256 * t + f) then n + 1 else y) (fun k hk => hP k (by omega)) with ⟨k, k1, k2, k3, k4⟩ | ⟨k1, k2⟩
    · exact .inl ⟨k, by omega, k2, k3, k4⟩
    · rw [k2]
      by_cases c : P n
      · rw [if_pos ((hP n (by omega)).mp c)]
        exact .inl ⟨n, by omega, c, k1, rfl⟩
      · rw [if_neg (fun q => c ((hP n (by omega)).mpr q))]
        refine .inr ⟨fun i a => ?_, rfl⟩
        by_cases q : i = n
        · subst q; exact c
        · exact k1 i (by omega)
/-- one session's supporter on both sides -/
theorem ztk1 (h : zRR v rS rSt rHo rE rEl rEh) (qM : Nat → Nat → Int32) (W : Nat → Int32) {t u : Nat} (ht : t < rE) (hu : u < 2 ^ rS) : zf_X0_firstTaker (zf_X0_fill qM rS rSt rHo rE rEl rEh) rS rSt rHo rEl rEh t u = nI (zl_X9_taker_32 v W t (255 ^^^ u) rS 0) - 1 ∧ zl_X9_taker_32 v W t (255 ^^^ u) rS 0 ≤ rS ∧ (0 < zl_X9_taker_32 v W t (255 ^^^ u) rS 0 → (255 ^^^ u) ^^^ 2 ^ (zl_X9_taker_32 v W t (255 ^^^ u) rS 0 - 1) = 255 ^^^ (u ||| 2 ^ (zl_X9_taker_32 v W t (255 ^^^ u) rS 0 - 1)) ∧ zf_X0_firstTaker (zf_X0_fill qM rS rSt rHo rE rEl rEh) rS rSt rHo rEl rEh t u = nI (zl_X9_taker_32 v W t (255 ^^^ u) rS 0 - 1)) := by
  have hS8 := h.1.2
  have h8 := zp8 hS8
  have hu2 : u < 256 := by omega
  obtain ⟨f1, f2⟩ := zfr3 u hu2
  generalize hfe : 255 ^^^ u = f at f1 f2
  have hM := zfill (rS := rS) (rSt := rSt) (rHo := rHo) (rE := rE) (rEl := rEl) (rEh := rEh) qM
  have hL := zlays h W
  have hP2 : ∀ k, k < rS → ((zf_X0_isFree u k = true ∧ zf_X5_canTake rSt rHo rEl rEh k t = true ∧ 1 + (zf_X0_fill qM rS rSt rHo rE rEl rEh) (t + 1) (u ||| 2 ^ k) = (zf_X0_fill qM rS rSt rHo rE rEl rEh) t u) ↔ (((nI f) >>> ((nI k) &&& 31)) &&& (1 : Int32)) = 1 ∧ zf_X9_canTake v k t = true ∧ 1 + zf_X9_laysMost v W (256 * (t + 1) + (f ^^^ 2 ^ k)) = zf_X9_laysMost v W (256 * t + f)) := fun k hk => by
    have q1 := zfr1 f f1 k (by omega)
    rw [f2] at q1
    have q2 := zct h hk ht
    have q3 : zf_X0_isFree u k = true → (1 + (zf_X0_fill qM rS rSt rHo rE rEl rEh) (t + 1) (u ||| 2 ^ k) = (zf_X0_fill qM rS rSt rHo rE rEl rEh) t u ↔ 1 + zf_X9_laysMost v W (256 * (t + 1) + (f ^^^ 2 ^ k)) = zf_X9_laysMost v W (256 * t + f)) := fun hc => by
      obtain ⟨z1, z2⟩ := zfr2 f f1 k (by omega) (by rw [f2]; exact hc)
      rw [hM (t + 1) (by omega) _ (Nat.or_lt_two_pow hu (Nat.pow_lt_pow_right (by decide) (by omega))), hM t (by omega) u hu, hL (t + 1) (by omega) _ z2, hL t (by omega) f f1, z1, f2]
    rw [q2]
    exact ⟨fun ⟨a, b, d⟩ => ⟨q1.mp a, b, (q3 a).mp d⟩, fun ⟨a, b, d⟩ => ⟨q1.mpr a, b, (q3 (q1.mpr a)).mpr d⟩⟩
  have A := zft3l (rSt := rSt) (rHo := rHo) (rEl := rEl) (rEh := rEh) (zf_X0_fill qM rS rSt rHo rE rEl rEh) t u (fun k => zf_X0_isFree u k = true ∧ zf_X5_canTake rSt rHo rEl rEh k t = true ∧ 1 + (zf_X0_fill qM rS rSt rHo rE rEl rEh) (t + 1) (u ||| 2 ^ k) = (zf_X0_fill qM rS rSt rHo rE rEl rEh) t u) (fun k => Iff.rfl) rS 0
  have Bq := zt32 (v := v) W t f (fun k => zf_X0_isFree u k = true ∧ zf_X5_canTake rSt rHo rEl rEh k t = true ∧ 1 + (zf_X0_fill qM rS rSt rHo rE rEl rEh) (t + 1) (u ||| 2 ^ k) = (zf_X0_fill qM rS rSt rHo rE rEl rEh) t u) rS 0 hP2
  rw [zf_X0_firstTaker_e]
  rcases A with ⟨k, -, k2, k3, k4, k5⟩ | ⟨k1, k2⟩
  · rcases Bq with ⟨m, m1, m2, m3, m4⟩ | ⟨m1, m2⟩
    · have hkm : k = m := by
        rcases Nat.lt_trichotomy k m with q | q | q
        · exact absurd k3 (m3 k q)
        · exact q
        · exact absurd m2 (k4 m (by omega) q)
      subst hkm
      rw [m4, k5, zDN, Nat.add_sub_cancel]
      refine ⟨rfl, by omega, fun _ => ⟨?_, rfl⟩⟩
      obtain ⟨z1, z2⟩ := zfr2 f f1 k (by omega) (by rw [f2]; exact k3.1)
      rw [f2] at z1
      rw [← z1, (zfr3 _ z2).2]
    · exact absurd k3 (m1 k (by omega))
  · rcases Bq with ⟨m, m1, m2, m3, m4⟩ | ⟨m1, m2⟩
    · exact absurd m2 (k1 m (by omega) (by omega))
    · rw [m2, k2, zDK]
      exact ⟨rfl, by omega, fun q => absurd q (by omega)⟩
def zus (FT : Nat → Nat → Int32) : Nat → Nat
  | 0 => 0
  | j + 1 => if FT j (zus FT j) = -1 then zus FT j else zus FT j ||| 2 ^ (zi (FT j (zus FT j)))
theorem zsl21 (qM : Nat → Nat → Int32) : ∀ n j V i, (zl_X0_solve_21 qM rS rSt rHo rE rEl rEh n j (zus (fun t u => zf_X0_firstTaker (zf_X0_fill qM rS rSt rHo rE rEl rEh) rS rSt rHo rEl rEh t u) j) V).2 i = if j ≤ i ∧ i < j + n then zf_X0_firstTaker (zf_X0_fill qM rS rSt rHo rE rEl rEh) rS rSt rHo rEl rEh i (zus (fun t u => zf_X0_firstTaker (zf_X0_fill qM rS rSt rHo rE rEl rEh) rS rSt rHo rEl rEh t u) i) else V i := by
  generalize hFT : (fun t u => zf_X0_firstTaker (zf_X0_fill qM rS rSt rHo rE rEl rEh) rS rSt rHo rEl rEh t u) = FT
  have hft : ∀ t u, zf_X0_firstTaker (zf_X0_fill qM rS rSt rHo rE rEl rEh) rS rSt rHo rEl rEh t u = FT t u := fun t u => by rw [← hFT]
  intro n
  induction n with
  | zero => intro j V i; rw [if_neg (by omega)]; rfl
  | succ n ih =>
    intro j V i
    have e : zl_X0_solve_21 qM rS rSt rHo rE rEl rEh (n + 1) j (zus FT j) V = zl_X0_solve_21 qM rS rSt rHo rE rEl rEh n (j + 1) (zus FT (j + 1)) (upd V j (FT j (zus FT j))) := by
      rw [zl_X0_solve_21_s, hft, zu_eq]
      show _ = zl_X0_solve_21 qM rS rSt rHo rE rEl rEh n (j + 1) (if FT j (zus FT j) = -1 then zus FT j else zus FT j ||| 2 ^ (zi (FT j (zus FT j)))) (upd V j (FT j (zus FT j)))
      by_cases c : FT j (zus FT j) = -1
      · rw [if_pos c, if_pos c]
      · rw [if_neg c, if_neg c]
    rw [e, ih, hft]
    by_cases h : j + 1 ≤ i ∧ i < j + 1 + n
    · rw [if_pos h, if_pos (by omega)]
    · rw [if_neg h]
      by_cases h2 : i = j
      · subst h2; rw [zu_eq, if_pos (by omega)]
      · rw [zu_ne h2, if_neg (by omega)]
theorem ztk13 (h : zRR v rS rSt rHo rE rEl rEh) (qM : Nat → Nat → Int32) (W : Nat → Int32) : ∀ n j x, j + n ≤ rE → zus (fun t u => zf_X0_firstTaker (zf_X0_fill qM rS rSt rHo rE rEl rEh) rS rSt rHo rEl rEh t u) j < 2 ^ rS → 0 < n → nI (zl_X9_taker_13 v W n j (255 ^^^ zus (fun t u => zf_X0_firstTaker (zf_X0_fill qM rS rSt rHo rE rEl rEh) rS rSt rHo rEl rEh t u) j) x).2 - 1 = zf_X0_firstTaker (zf_X0_fill qM rS rSt rHo rE rEl rEh) rS rSt rHo rEl rEh (j + n - 1) (zus (fun t u => zf_X0_firstTaker (zf_X0_fill qM rS rSt rHo rE rEl rEh) rS rSt rHo rEl rEh t u) (j + n - 1)) := by
  have hS8 := h.1.2
  have h8 := zp8 hS8
  have eS := zcN h.1.1 (by omega)
  have k1 := fun {t u : Nat} (ht : t < rE) (hu : u < 2 ^ rS) => ztk1 h qM W ht hu
  generalize hFT : (fun t u => zf_X0_firstTaker (zf_X0_fill qM rS rSt rHo rE rEl rEh) rS rSt rHo rEl rEh t u) = FT
  have hft : ∀ t u, zf_X0_firstTaker (zf_X0_fill qM rS rSt rHo rE rEl rEh) rS rSt rHo rEl rEh t u = FT t u := fun t u => by rw [← hFT]
  simp only [hft] at k1
  simp only [hft]
  intro n
  induction n with
  | zero => intro j x _ _ h0; omega
  | succ n ih =>
    intro j x hj hu _
    obtain ⟨a1, a2, a3⟩ := k1 (t := j) (u := zus FT j) (by omega) hu
    have hs : zus FT (j + 1) < 2 ^ rS ∧ zl_X9_taker_13 v W (n + 1) j (255 ^^^ zus FT j) x = zl_X9_taker_13 v W n (j + 1) (255 ^^^ zus FT (j + 1)) (zl_X9_taker_32 v W j (255 ^^^ zus FT j) rS 0) := by
      rw [zl_X9_taker_13_s, eS]
      have eu : zus FT (j + 1) = if FT j (zus FT j) = -1 then zus FT j else zus FT j ||| 2 ^ (zi (FT j (zus FT j))) := rfl
      rw [eu]
      generalize hy : zl_X9_taker_32 v W j (255 ^^^ zus FT j) rS 0 = y at a1 a2 a3 ⊢
      by_cases c : FT j (zus FT j) = -1
      · rw [if_pos c, if_pos (show nI y - 1 = -1 by rw [← a1]; exact c)]
        exact ⟨hu, rfl⟩
      · rw [if_neg c, if_neg (show ¬ nI y - 1 = -1 by rw [← a1]; exact c)]
        have hy0 : 0 < y := zDne (by rw [← a1]; exact c)
        obtain ⟨b1, b2⟩ := a3 hy0
        have b3 : zi (FT j (zus FT j)) = y - 1 := by rw [b2]; exact zi_nI (by omega)
        rw [b3, b1]
        exact ⟨Nat.or_lt_two_pow hu (Nat.pow_lt_pow_right (by decide) (by omega)), rfl⟩
    obtain ⟨s1, s2⟩ := hs
    rw [s2]
    rcases Nat.eq_zero_or_pos n with q | q
    · subst q
      show nI (zl_X9_taker_32 v W j (255 ^^^ zus FT j) rS 0) - 1 = _
      rw [← a1]
      rfl
    · rw [ih (j + 1) _ (by omega) s1 q, show j + 1 + n - 1 = j + (n + 1) - 1 by omega]
theorem ztaker (h : zRR v rS rSt rHo rE rEl rEh) (qM : Nat → Nat → Int32) (qT W : Nat → Int32) {k : Nat} (hk : k < rE) : (zf_X0_solve qM qT rS rSt rHo rE rEl rEh).2.1 k = (zf_X9_taker v W k).1 := by
  rw [zf_X0_solve_e, zf_X9_taker_e]
  have h1 := zsl21 (rS := rS) (rSt := rSt) (rHo := rHo) (rE := rE) (rEl := rEl) (rEh := rEh) qM rE 0 qT k
  have h2 := ztk13 h qM W (k + 1) 0 0 (by omega) (Nat.two_pow_pos _) (by omega)
  rw [if_pos (by omega)] at h1
  show (zl_X0_solve_21 qM rS rSt rHo rE rEl rEh rE 0 0 qT).2 k = nI (zl_X9_taker_13 v W (k + 1) 0 255 0).2 - 1
  have e0 : ∀ FT : Nat → Nat → Int32, zus FT 0 = 0 := fun _ => rfl
  rw [e0] at h1 h2
  rw [show 255 ^^^ 0 = 255 by decide, show 0 + (k + 1) - 1 = k by omega] at h2
  rw [h1, h2]
theorem zcov (h : zRR v rS rSt rHo rE rEl rEh) (qM : Nat → Nat → Int32) (qT W : Nat → Int32) : (zf_X0_solve qM qT rS rSt rHo rE rEl rEh).2.2 = zf_X9_laysMost v W 255 := by
  rw [zf_X0_solve_e]
  show zf_X0_fill qM rS rSt rHo rE rEl rEh 0 0 = _
  rw [zfill qM 0 (Nat.zero_le _) 0 (Nat.two_pow_pos _)]
  exact (zlays h W 0 (Nat.zero_le _) 255 (by decide)).symm
end ZAM
theorem zp_supporterOf {MNow MPast : Nat → Int64} {MSav : Nat} {PX : Nat → Int32} {PY : Nat → Int32} {PC : Nat → Int32} {PN : Nat} {POX : Nat → Int32} {POY : Nat → Int32} {POW : Nat → Int32} {bH : Nat} {bW : Nat → Int64} {bT : Nat} {bM : Nat → Nat → Int32} {rS : Nat} {rSt : Nat → Int32} {rHo : Nat → Int32} {rE : Nat} {rEl : Nat → Int32} {rEh : Nat → Int32} {zSc : Nat} {zVX : Nat → Nat → Int32} {zVY : Nat → Nat → Int32} {zVC : Nat → Nat → Int32} {zVN : Nat → Nat} {zVOX : Nat → Nat → Int32} {zVOY : Nat → Nat → Int32} {zVOW : Nat → Nat → Int32} {zVH : Nat → Nat} {zVW : Nat → Nat → Int64} {zVT : Nat → Nat} {zVM : Nat → Nat → Nat → Int32} {zVS : Nat → Nat} {zVSt : Nat → Nat → Int32} {zVHo : Nat → Nat → Int32} {zVE : Nat → Nat} {zVEl : Nat → Nat → Int32} {zVEh : Nat → Nat → Int32} (h : zRel MNow MPast MSav PX PY PC PN POX POY POW bH bW bT bM rS rSt rHo rE rEl rEh zSc zVX zVY zVC zVN zVOX zVOY zVOW zVH zVW zVT zVM zVS zVSt zVHo zVE zVEl zVEh) (qM : Nat → Nat → Int32) (qT : Nat → Int32) (qC : Int32) (k : Int32) (MMost : Nat → Int32) : zOut ((zf_X8_supporterOf rS rSt rHo rE rEl rEh qM qT qC k).1) [1] ((zf_X9_supporterOf MNow MMost k).2.1) ((((zf_X8_supporterOf rS rSt rHo rE rEl rEh qM qT qC k).2.1)).toInt64) ((((zf_X9_supporterOf MNow MMost k).1)).toInt64) (True) := by
  obtain ⟨⟨hP, hB, hR⟩, -, -, -⟩ := id h
  obtain ⟨⟨r1, r2⟩, ⟨r3, r4⟩, -⟩ := id hR
  have ez := zcN r3 (by omega)
  rw [zf_X8_supporterOf_e, zf_X9_supporterOf_e, ez]
  by_cases c1 : zf_X8_requireIndex k (nI rE) = 0
  · rw [if_pos c1, if_pos ((zqIW (by omega)).mp c1)]
    obtain ⟨-, hk⟩ := zri c1 (by omega)
    exact zOut_ok rfl (congrArg Int32.toInt64 (ztaker hR qM qT MMost hk)) trivial
  · rw [if_neg c1, if_neg (fun q => c1 ((zqIW (by omega)).mpr q))]
    exact zOut_no (zk1 c1) (by decide) rfl trivial
