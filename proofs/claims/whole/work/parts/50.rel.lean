/-! What class and reference hold of one another: one state (zRP, zRB, zRR), all of it with what is saved (zRel). -/
def zpl (x : Int32) : Prop := -100 ≤ x.toInt ∧ x.toInt ≤ 100
def zarI (X Y : Nat → Int32) : Int := ((X 1).toInt - (X 0).toInt) * ((Y 2).toInt - (Y 0).toInt) - ((X 2).toInt - (X 0).toInt) * ((Y 1).toInt - (Y 0).toInt)
def zRP (v : Nat → Int64) (X Y C : Nat → Int32) (N : Nat) (OX OY OW : Nat → Int32) : Prop :=
  (∀ i, i < 3 → v (3 * i) = (X i).toInt64 ∧ v (3 * i + 1) = (Y i).toInt64 ∧ v (3 * i + 2) = (C i).toInt64 ∧ zpl (X i) ∧ zpl (Y i) ∧ 1 ≤ (C i).toInt ∧ (C i).toInt ≤ 100000) ∧ (v 9 = lN N ∧ N ≤ 8) ∧
  (∀ i, i < N → v (10 + 3 * i) = (OX i).toInt64 ∧ v (10 + 3 * i + 1) = (OY i).toInt64 ∧ v (10 + 3 * i + 2) = (OW i).toInt64 ∧ zpl (OX i) ∧ zpl (OY i) ∧ 1 ≤ (OW i).toInt ∧ (OW i).toInt ≤ 1000) ∧ zarI X Y ≠ 0
def zRB (v : Nat → Int64) (H : Nat) (W : Nat → Int64) (T : Nat) (M : Nat → Nat → Int32) : Prop :=
  (v 34 = lN H ∧ 1 ≤ H ∧ H ≤ 8) ∧ (v 43 = lN T ∧ T ≤ 10) ∧ (∀ i, i < H → v (35 + i) = W i ∧ 0 ≤ (W i).toInt ∧ (W i).toInt ≤ 1000000000000000) ∧ (∀ i, H ≤ i → i < 8 → v (35 + i) = 0) ∧ (∃ i, i < H ∧ W i ≠ 0) ∧
  (∀ t, t < T → ∀ j, j < 24 → v (44 + 24 * t + j) = (M t j).toInt64) ∧
  (∀ t, t < T → ∀ h, h < 8 → 0 ≤ (M t (3 * h)).toInt ∧ 0 ≤ (M t (3 * h + 1)).toInt ∧ 0 ≤ (M t (3 * h + 2)).toInt ∧ (M t (3 * h)).toInt + (M t (3 * h + 1)).toInt + (M t (3 * h + 2)).toInt = 10) ∧
  (∀ q, 44 ≤ q → q < 284 → 0 ≤ (v q).toInt ∧ (v q).toInt ≤ 10)
def zRR (v : Nat → Int64) (S : Nat) (St Ho : Nat → Int32) (E : Nat) (El Eh : Nat → Int32) : Prop :=
  (v 284 = lN S ∧ S ≤ 8) ∧ (v 301 = lN E ∧ E ≤ 8) ∧ (∀ i, i < S → v (285 + 2 * i) = (St i).toInt64 ∧ v (285 + 2 * i + 1) = (Ho i).toInt64 ∧ 0 ≤ (Ho i).toInt) ∧
  (∀ i, i < E → v (302 + 2 * i) = (El i).toInt64 ∧ v (302 + 2 * i + 1) = (Eh i).toInt64 ∧ 0 ≤ (Eh i).toInt ∧ (Eh i).toInt ≤ 23)
theorem zRP.congr {v v' : Nat → Int64} {X Y C X' Y' C' : Nat → Int32} {N : Nat} {OX OY OW OX' OY' OW' : Nat → Int32} (h : zRP v X Y C N OX OY OW) (hv : ∀ k, k < 34 → v' k = v k) (h1 : ∀ i, i < 3 → X' i = X i) (h2 : ∀ i, i < 3 → Y' i = Y i) (h3 : ∀ i, i < 3 → C' i = C i) (h4 : ∀ i, i < N → OX' i = OX i) (h5 : ∀ i, i < N → OY' i = OY i) (h6 : ∀ i, i < N → OW' i = OW i) : zRP v' X' Y' C' N OX' OY' OW' := by
  obtain ⟨a, ⟨b1, b2⟩, c, d⟩ := h
  refine ⟨fun i hi => ?_, ⟨by rw [hv _ (by omega)]; exact b1, b2⟩, fun i hi => ?_, ?_⟩
  · rw [hv _ (by omega), hv _ (by omega), hv _ (by omega), h1 i hi, h2 i hi, h3 i hi]; exact a i hi
  · rw [hv _ (by omega), hv _ (by omega), hv _ (by omega), h4 i hi, h5 i hi, h6 i hi]; exact c i hi
  · unfold zarI at d ⊢
    rw [h1 0 (by omega), h1 1 (by omega), h1 2 (by omega), h2 0 (by omega), h2 1 (by omega), h2 2 (by omega)]; exact d
theorem zRB.congr {v v' : Nat → Int64} {H T : Nat} {W W' : Nat → Int64} {M M' : Nat → Nat → Int32} (h : zRB v H W T M) (hv : ∀ k, 34 ≤ k → k < 284 → v' k = v k) (h1 : ∀ i, i < H → W' i = W i) (h2 : ∀ t, t < T → ∀ j, j < 24 → M' t j = M t j) : zRB v' H W' T M' := by
  obtain ⟨⟨a1, a2, a3⟩, ⟨b1, b2⟩, c, d, ⟨i0, e1, e2⟩, f, g, g2⟩ := h
  refine ⟨⟨by rw [hv _ (by omega) (by omega)]; exact a1, a2, a3⟩, ⟨by rw [hv _ (by omega) (by omega)]; exact b1, b2⟩, fun i hi => ?_, fun i hi h8 => ?_, ⟨i0, e1, by rw [h1 _ e1]; exact e2⟩, fun t ht j hj => ?_, fun t ht q hq => ?_, fun q h1 h2 => by rw [hv _ (by omega) (by omega)]; exact g2 q h1 h2⟩
  · rw [hv _ (by omega) (by omega), h1 i hi]; exact c i hi
  · rw [hv _ (by omega) (by omega)]; exact d i hi h8
  · rw [hv _ (by omega) (by omega), h2 t ht j hj]; exact f t ht j hj
  · rw [h2 t ht _ (by omega), h2 t ht _ (by omega), h2 t ht _ (by omega)]; exact g t ht q hq
theorem zRR.congr {v v' : Nat → Int64} {S E : Nat} {St Ho El Eh St' Ho' El' Eh' : Nat → Int32} (h : zRR v S St Ho E El Eh) (hv : ∀ k, 284 ≤ k → k < 318 → v' k = v k) (h1 : ∀ i, i < S → St' i = St i) (h2 : ∀ i, i < S → Ho' i = Ho i) (h3 : ∀ i, i < E → El' i = El i) (h4 : ∀ i, i < E → Eh' i = Eh i) : zRR v' S St' Ho' E El' Eh' := by
  obtain ⟨⟨a1, a2⟩, ⟨b1, b2⟩, c, d⟩ := h
  refine ⟨⟨by rw [hv _ (by omega) (by omega)]; exact a1, a2⟩, ⟨by rw [hv _ (by omega) (by omega)]; exact b1, b2⟩, fun i hi => ?_, fun i hi => ?_⟩
  · rw [hv _ (by omega) (by omega), hv _ (by omega) (by omega), h1 i hi, h2 i hi]; exact c i hi
  · rw [hv _ (by omega) (by omega), hv _ (by omega) (by omega), h3 i hi, h4 i hi]; exact d i hi
def zR1 (v : Nat → Int64) (PX : Nat → Int32) (PY : Nat → Int32) (PC : Nat → Int32) (PN : Nat) (POX : Nat → Int32) (POY : Nat → Int32) (POW : Nat → Int32) (bH : Nat) (bW : Nat → Int64) (bT : Nat) (bM : Nat → Nat → Int32) (rS : Nat) (rSt : Nat → Int32) (rHo : Nat → Int32) (rE : Nat) (rEl : Nat → Int32) (rEh : Nat → Int32) : Prop := zRP v PX PY PC PN POX POY POW ∧ zRB v bH bW bT bM ∧ zRR v rS rSt rHo rE rEl rEh
def zRel (MNow MPast : Nat → Int64) (MSav : Nat) (PX : Nat → Int32) (PY : Nat → Int32) (PC : Nat → Int32) (PN : Nat) (POX : Nat → Int32) (POY : Nat → Int32) (POW : Nat → Int32) (bH : Nat) (bW : Nat → Int64) (bT : Nat) (bM : Nat → Nat → Int32) (rS : Nat) (rSt : Nat → Int32) (rHo : Nat → Int32) (rE : Nat) (rEl : Nat → Int32) (rEh : Nat → Int32) (zSc : Nat) (zVX : Nat → Nat → Int32) (zVY : Nat → Nat → Int32) (zVC : Nat → Nat → Int32) (zVN : Nat → Nat) (zVOX : Nat → Nat → Int32) (zVOY : Nat → Nat → Int32) (zVOW : Nat → Nat → Int32) (zVH : Nat → Nat) (zVW : Nat → Nat → Int64) (zVT : Nat → Nat) (zVM : Nat → Nat → Nat → Int32) (zVS : Nat → Nat) (zVSt : Nat → Nat → Int32) (zVHo : Nat → Nat → Int32) (zVE : Nat → Nat) (zVEl : Nat → Nat → Int32) (zVEh : Nat → Nat → Int32) : Prop :=
  zR1 MNow PX PY PC PN POX POY POW bH bW bT bM rS rSt rHo rE rEl rEh ∧ (MSav = zSc ∧ zSc ≤ 4) ∧ (∀ i, i < zSc → zR1 (fun k => MPast (318 * i + k)) (zVX i) (zVY i) (zVC i) (zVN i) (zVOX i) (zVOY i) (zVOW i) (zVH i) (zVW i) (zVT i) (zVM i) (zVS i) (zVSt i) (zVHo i) (zVE i) (zVEl i) (zVEh i)) ∧ ∀ i, i < 4 → zVT i ≤ 10
theorem zcpy {α : Type} {f g : Nat → α} {n i : Nat} (h : i < n) : va_cpy f g 0 0 n i = f i := by
  unfold va_cpy
  rw [if_pos ⟨Nat.zero_le _, by omega⟩]
  simp
theorem zcpM (b2M : Nat → Nat → Int32) : ∀ n j M1 t k, k < 24 → zl_X1_copyFrom_33 b2M n j M1 t k = if j ≤ t ∧ t < j + n then b2M t k else M1 t k := by
  intro n
  induction n with
  | zero => intro j M1 t k hk; rw [if_neg (by omega)]; rfl
  | succ n ih =>
    intro j M1 t k hk
    rw [zl_X1_copyFrom_33_s, ih _ _ _ _ hk]
    by_cases h : j + 1 ≤ t ∧ t < j + 1 + n
    · rw [if_pos h, if_pos (by omega)]
    · rw [if_neg h]
      by_cases h2 : t = j
      · subst h2
        rw [if_pos (by omega)]
        unfold zupR
        rw [if_pos rfl, zcpy hk]
      · rw [if_neg (by omega)]
        unfold zupR
        rw [if_neg h2]
theorem zsv51 (N : Nat → Int64) (s : Nat) : ∀ n j p q, zl_X9_saves_51 N s n j p q = if 318 * s + j ≤ q ∧ q < 318 * s + j + n then N (q - 318 * s) else p q := by
  intro n
  induction n with
  | zero => intro j p q; rw [if_neg (by omega)]; rfl
  | succ n ih =>
    intro j p q
    rw [zl_X9_saves_51_s, ih]
    by_cases h : 318 * s + (j + 1) ≤ q ∧ q < 318 * s + (j + 1) + n
    · rw [if_pos h, if_pos (by omega)]
    · rw [if_neg h]
      by_cases h2 : q = 318 * s + j
      · subst h2; rw [zuL_eq, if_pos (by omega), Nat.add_sub_cancel_left]
      · rw [zuL_ne h2, if_neg (by omega)]
theorem zsv52 (N : Nat → Int64) (s : Nat) : ∀ n j p q, zl_X9_saves_51_2 N s n j p q = if 318 * (s - 1) + j ≤ q ∧ q < 318 * (s - 1) + j + n then N (q - 318 * (s - 1)) else p q := by
  intro n
  induction n with
  | zero => intro j p q; rw [if_neg (by omega)]; rfl
  | succ n ih =>
    intro j p q
    rw [zl_X9_saves_51_2_s, ih]
    by_cases h : 318 * (s - 1) + (j + 1) ≤ q ∧ q < 318 * (s - 1) + (j + 1) + n
    · rw [if_pos h, if_pos (by omega)]
    · rw [if_neg h]
      by_cases h2 : q = 318 * (s - 1) + j
      · subst h2; rw [zuL_eq, if_pos (by omega), Nat.add_sub_cancel_left]
      · rw [zuL_ne h2, if_neg (by omega)]
theorem zsv10 : ∀ n j p q, zl_X9_saves_10 n j p q = if j ≤ q ∧ q < j + n then p (q + 318) else p q := by
  intro n
  induction n with
  | zero => intro j p q; rw [if_neg (by omega)]; rfl
  | succ n ih =>
    intro j p q
    rw [zl_X9_saves_10_s, ih]
    by_cases h : j + 1 ≤ q ∧ q < j + 1 + n
    · rw [if_pos h, if_pos (by omega), zuL_ne (by omega)]
    · rw [if_neg h]
      by_cases h2 : q = j
      · subst h2; rw [zuL_eq, if_pos (by omega)]
      · rw [zuL_ne h2, if_neg (by omega)]
theorem zun33 (P : Nat → Int64) (s : Nat) : ∀ n j v q, zl_X9_undo_33 P s n j v q = if j ≤ q ∧ q < j + n then P (318 * (s - 1) + q) else v q := by
  intro n
  induction n with
  | zero => intro j p q; rw [if_neg (by omega)]; rfl
  | succ n ih =>
    intro j p q
    rw [zl_X9_undo_33_s, ih]
    by_cases h : j + 1 ≤ q ∧ q < j + 1 + n
    · rw [if_pos h, if_pos (by omega)]
    · rw [if_neg h]
      by_cases h2 : q = j
      · subst h2; rw [zuL_eq, if_pos (by omega)]
      · rw [zuL_ne h2, if_neg (by omega)]
/-- another content that is the same where it counts -/
theorem zR1.congr {v v' : Nat → Int64} {PX : Nat → Int32} {PY : Nat → Int32} {PC : Nat → Int32} {PN : Nat} {POX : Nat → Int32} {POY : Nat → Int32} {POW : Nat → Int32} {bH : Nat} {bW : Nat → Int64} {bT : Nat} {bM : Nat → Nat → Int32} {rS : Nat} {rSt : Nat → Int32} {rHo : Nat → Int32} {rE : Nat} {rEl : Nat → Int32} {rEh : Nat → Int32} {PX' : Nat → Int32} {PY' : Nat → Int32} {PC' : Nat → Int32} {POX' : Nat → Int32} {POY' : Nat → Int32} {POW' : Nat → Int32} {bW' : Nat → Int64} {bM' : Nat → Nat → Int32} {rSt' : Nat → Int32} {rHo' : Nat → Int32} {rEl' : Nat → Int32} {rEh' : Nat → Int32} (h : zR1 v PX PY PC PN POX POY POW bH bW bT bM rS rSt rHo rE rEl rEh) (hv : ∀ k, k < 318 → v' k = v k) (hX : ∀ i, i < 3 → PX' i = PX i) (hY : ∀ i, i < 3 → PY' i = PY i) (hC : ∀ i, i < 3 → PC' i = PC i) (hOX : ∀ i, i < PN → POX' i = POX i) (hOY : ∀ i, i < PN → POY' i = POY i) (hOW : ∀ i, i < PN → POW' i = POW i) (hW : ∀ i, i < bH → bW' i = bW i) (hM : ∀ t, t < bT → ∀ j, j < 24 → bM' t j = bM t j) (hSt : ∀ i, i < rS → rSt' i = rSt i) (hHo : ∀ i, i < rS → rHo' i = rHo i) (hEl : ∀ i, i < rE → rEl' i = rEl i) (hEh : ∀ i, i < rE → rEh' i = rEh i) : zR1 v' PX' PY' PC' PN POX' POY' POW' bH bW' bT bM' rS rSt' rHo' rE rEl' rEh' := by
  obtain ⟨h1, h2, h3⟩ := h
  exact ⟨h1.congr (fun k hk => hv k (by omega)) hX hY hC hOX hOY hOW, h2.congr (fun k _ hk => hv k (by omega)) hW hM, h3.congr (fun k _ hk => hv k (by omega)) hSt hHo hEl hEh⟩
theorem zR1_cpy {v v' : Nat → Int64} {PX : Nat → Int32} {PY : Nat → Int32} {PC : Nat → Int32} {PN : Nat} {POX : Nat → Int32} {POY : Nat → Int32} {POW : Nat → Int32} {bH : Nat} {bW : Nat → Int64} {bT : Nat} {bM : Nat → Nat → Int32} {rS : Nat} {rSt : Nat → Int32} {rHo : Nat → Int32} {rE : Nat} {rEl : Nat → Int32} {rEh : Nat → Int32} {dPX : Nat → Int32} {dPY : Nat → Int32} {dPC : Nat → Int32} {dPOX : Nat → Int32} {dPOY : Nat → Int32} {dPOW : Nat → Int32} {dbW : Nat → Int64} {dbM : Nat → Nat → Int32} {drSt : Nat → Int32} {drHo : Nat → Int32} {drEl : Nat → Int32} {drEh : Nat → Int32} (h : zR1 v PX PY PC PN POX POY POW bH bW bT bM rS rSt rHo rE rEl rEh) (hv : ∀ k, k < 318 → v' k = v k) : zR1 v' (va_cpy PX dPX 0 0 3) (va_cpy PY dPY 0 0 3) (va_cpy PC dPC 0 0 3) PN (va_cpy POX dPOX 0 0 8) (va_cpy POY dPOY 0 0 8) (va_cpy POW dPOW 0 0 8) bH (va_cpy bW dbW 0 0 8) bT (zl_X1_copyFrom_33 bM bT 0 dbM) rS (va_cpy rSt drSt 0 0 8) (va_cpy rHo drHo 0 0 8) rE (va_cpy rEl drEl 0 0 8) (va_cpy rEh drEh 0 0 8) := by
  have hN := h.1.2.1.2
  have hH := h.2.1.1.2.2
  have hS := h.2.2.1.2
  have hE := h.2.2.2.1.2
  exact zR1.congr h hv (fun i hi => zcpy hi) (fun i hi => zcpy hi) (fun i hi => zcpy hi) (fun i hi => zcpy (by omega)) (fun i hi => zcpy (by omega)) (fun i hi => zcpy (by omega)) (fun i hi => zcpy (by omega)) (fun t ht j hj => by rw [zcpM _ _ _ _ _ _ hj, if_pos (by omega)]) (fun i hi => zcpy (by omega)) (fun i hi => zcpy (by omega)) (fun i hi => zcpy (by omega)) (fun i hi => zcpy (by omega))
theorem zRel_save {MNow MPast : Nat → Int64} {MSav : Nat} {PX : Nat → Int32} {PY : Nat → Int32} {PC : Nat → Int32} {PN : Nat} {POX : Nat → Int32} {POY : Nat → Int32} {POW : Nat → Int32} {bH : Nat} {bW : Nat → Int64} {bT : Nat} {bM : Nat → Nat → Int32} {rS : Nat} {rSt : Nat → Int32} {rHo : Nat → Int32} {rE : Nat} {rEl : Nat → Int32} {rEh : Nat → Int32} {zSc : Nat} {zVX : Nat → Nat → Int32} {zVY : Nat → Nat → Int32} {zVC : Nat → Nat → Int32} {zVN : Nat → Nat} {zVOX : Nat → Nat → Int32} {zVOY : Nat → Nat → Int32} {zVOW : Nat → Nat → Int32} {zVH : Nat → Nat} {zVW : Nat → Nat → Int64} {zVT : Nat → Nat} {zVM : Nat → Nat → Nat → Int32} {zVS : Nat → Nat} {zVSt : Nat → Nat → Int32} {zVHo : Nat → Nat → Int32} {zVE : Nat → Nat} {zVEl : Nat → Nat → Int32} {zVEh : Nat → Nat → Int32} (h : zRel MNow MPast MSav PX PY PC PN POX POY POW bH bW bT bM rS rSt rHo rE rEl rEh zSc zVX zVY zVC zVN zVOX zVOY zVOW zVH zVW zVT zVM zVS zVSt zVHo zVE zVEl zVEh) {v' : Nat → Int64} {PX' : Nat → Int32} {PY' : Nat → Int32} {PC' : Nat → Int32} {POX' : Nat → Int32} {POY' : Nat → Int32} {POW' : Nat → Int32} {bW' : Nat → Int64} {bM' : Nat → Nat → Int32} {rSt' : Nat → Int32} {rHo' : Nat → Int32} {rEl' : Nat → Int32} {rEh' : Nat → Int32} {PN' : Nat} {bH' : Nat} {bT' : Nat} {rS' : Nat} {rE' : Nat} (h' : zR1 v' PX' PY' PC' PN' POX' POY' POW' bH' bW' bT' bM' rS' rSt' rHo' rE' rEl' rEh') :
    zRel v' (zf_X9_saves MNow MPast MSav).1 (zf_X9_saves MNow MPast MSav).2 PX' PY' PC' PN' POX' POY' POW' bH' bW' bT' bM' rS' rSt' rHo' rE' rEl' rEh' (zsvI zSc + 1) (zat (zsvF zSc zVX) (zsvI zSc) (va_cpy PX (zsvF zSc zVX (zsvI zSc)) 0 0 3)) (zat (zsvF zSc zVY) (zsvI zSc) (va_cpy PY (zsvF zSc zVY (zsvI zSc)) 0 0 3)) (zat (zsvF zSc zVC) (zsvI zSc) (va_cpy PC (zsvF zSc zVC (zsvI zSc)) 0 0 3)) (zat (zsvF zSc zVN) (zsvI zSc) PN) (zat (zsvF zSc zVOX) (zsvI zSc) (va_cpy POX (zsvF zSc zVOX (zsvI zSc)) 0 0 8)) (zat (zsvF zSc zVOY) (zsvI zSc) (va_cpy POY (zsvF zSc zVOY (zsvI zSc)) 0 0 8)) (zat (zsvF zSc zVOW) (zsvI zSc) (va_cpy POW (zsvF zSc zVOW (zsvI zSc)) 0 0 8)) (zat (zsvF zSc zVH) (zsvI zSc) bH) (zat (zsvF zSc zVW) (zsvI zSc) (va_cpy bW (zsvF zSc zVW (zsvI zSc)) 0 0 8)) (zat (zsvF zSc zVT) (zsvI zSc) bT) (zat (zsvF zSc zVM) (zsvI zSc) (zl_X1_copyFrom_33 bM bT 0 (zsvF zSc zVM (zsvI zSc)))) (zat (zsvF zSc zVS) (zsvI zSc) rS) (zat (zsvF zSc zVSt) (zsvI zSc) (va_cpy rSt (zsvF zSc zVSt (zsvI zSc)) 0 0 8)) (zat (zsvF zSc zVHo) (zsvI zSc) (va_cpy rHo (zsvF zSc zVHo (zsvI zSc)) 0 0 8)) (zat (zsvF zSc zVE) (zsvI zSc) rE) (zat (zsvF zSc zVEl) (zsvI zSc) (va_cpy rEl (zsvF zSc zVEl (zsvI zSc)) 0 0 8)) (zat (zsvF zSc zVEh) (zsvI zSc) (va_cpy rEh (zsvF zSc zVEh (zsvI zSc)) 0 0 8)) := by
  obtain ⟨h1, ⟨rfl, h4⟩, hs, hT⟩ := h
  rw [zf_X9_saves_e]
  by_cases c : MSav = 4
  · subst c
    rw [if_pos rfl]
    have e1 : zsvI 4 = 3 := rfl
    refine ⟨h', ⟨rfl, by decide⟩, fun i hi => ?_, fun i hi => ?_⟩
    · rw [e1] at hi ⊢
      rcases (show i = 3 ∨ i = 0 ∨ i = 1 ∨ i = 2 by omega) with rfl | rfl | rfl | rfl
      · simp only [zat_eq]
        exact zR1_cpy h1 (fun k hk => by rw [zsv52, if_pos (by omega), Nat.add_sub_cancel_left])
      · simp only [zat_ne (show (0 : Nat) ≠ 3 by omega)]
        exact zR1.congr (hs 1 (by omega)) (fun k hk => by rw [zsv52, if_neg (by omega), zsv10, if_pos (by omega)]; exact congrArg MPast (by omega)) (fun i _ => rfl) (fun i _ => rfl) (fun i _ => rfl) (fun i _ => rfl) (fun i _ => rfl) (fun i _ => rfl) (fun i _ => rfl) (fun t _ j _ => rfl) (fun i _ => rfl) (fun i _ => rfl) (fun i _ => rfl) (fun i _ => rfl)
      · simp only [zat_ne (show (1 : Nat) ≠ 3 by omega)]
        exact zR1.congr (hs 2 (by omega)) (fun k hk => by rw [zsv52, if_neg (by omega), zsv10, if_pos (by omega)]; exact congrArg MPast (by omega)) (fun i _ => rfl) (fun i _ => rfl) (fun i _ => rfl) (fun i _ => rfl) (fun i _ => rfl) (fun i _ => rfl) (fun i _ => rfl) (fun t _ j _ => rfl) (fun i _ => rfl) (fun i _ => rfl) (fun i _ => rfl) (fun i _ => rfl)
      · simp only [zat_ne (show (2 : Nat) ≠ 3 by omega)]
        exact zR1.congr (hs 3 (by omega)) (fun k hk => by rw [zsv52, if_neg (by omega), zsv10, if_pos (by omega)]; exact congrArg MPast (by omega)) (fun i _ => rfl) (fun i _ => rfl) (fun i _ => rfl) (fun i _ => rfl) (fun i _ => rfl) (fun i _ => rfl) (fun i _ => rfl) (fun t _ j _ => rfl) (fun i _ => rfl) (fun i _ => rfl) (fun i _ => rfl) (fun i _ => rfl)
    · rw [e1]
      rcases (show i = 3 ∨ i = 0 ∨ i = 1 ∨ i = 2 by omega) with rfl | rfl | rfl | rfl
      · rw [zat_eq]; exact h1.2.1.2.1.2
      · rw [zat_ne (by omega)]; exact hT 1 (by omega)
      · rw [zat_ne (by omega)]; exact hT 2 (by omega)
      · rw [zat_ne (by omega)]; exact hT 3 (by omega)
  · rw [if_neg c]
    have e1 : zsvI MSav = MSav := if_neg c
    have e2 : ∀ {α : Type} (F : Nat → α), zsvF MSav F = F := fun F => if_neg c
    rw [e1]
    simp only [e2]
    refine ⟨h', ⟨rfl, by omega⟩, fun i hi => ?_, fun i hi => ?_⟩
    · by_cases q : i = MSav
      · subst q
        simp only [zat_eq]
        exact zR1_cpy h1 (fun k hk => by rw [zsv51, if_pos (by omega), Nat.add_sub_cancel_left])
      · simp only [zat_ne q]
        exact zR1.congr (hs i (by omega)) (fun k hk => by rw [zsv51, if_neg (by omega)]) (fun i _ => rfl) (fun i _ => rfl) (fun i _ => rfl) (fun i _ => rfl) (fun i _ => rfl) (fun i _ => rfl) (fun i _ => rfl) (fun t _ j _ => rfl) (fun i _ => rfl) (fun i _ => rfl) (fun i _ => rfl) (fun i _ => rfl)
    · by_cases q : i = MSav
      · subst q; rw [zat_eq]; exact h1.2.1.2.1.2
      · rw [zat_ne q]; exact hT i hi
theorem zRel_undo {MNow MPast : Nat → Int64} {MSav : Nat} {PX : Nat → Int32} {PY : Nat → Int32} {PC : Nat → Int32} {PN : Nat} {POX : Nat → Int32} {POY : Nat → Int32} {POW : Nat → Int32} {bH : Nat} {bW : Nat → Int64} {bT : Nat} {bM : Nat → Nat → Int32} {rS : Nat} {rSt : Nat → Int32} {rHo : Nat → Int32} {rE : Nat} {rEl : Nat → Int32} {rEh : Nat → Int32} {zSc : Nat} {zVX : Nat → Nat → Int32} {zVY : Nat → Nat → Int32} {zVC : Nat → Nat → Int32} {zVN : Nat → Nat} {zVOX : Nat → Nat → Int32} {zVOY : Nat → Nat → Int32} {zVOW : Nat → Nat → Int32} {zVH : Nat → Nat} {zVW : Nat → Nat → Int64} {zVT : Nat → Nat} {zVM : Nat → Nat → Nat → Int32} {zVS : Nat → Nat} {zVSt : Nat → Nat → Int32} {zVHo : Nat → Nat → Int32} {zVE : Nat → Nat} {zVEl : Nat → Nat → Int32} {zVEh : Nat → Nat → Int32} (h : zRel MNow MPast MSav PX PY PC PN POX POY POW bH bW bT bM rS rSt rHo rE rEl rEh zSc zVX zVY zVC zVN zVOX zVOY zVOW zVH zVW zVT zVM zVS zVSt zVHo zVE zVEl zVEh) (h0 : ¬ zSc = 0) : zRel (zl_X9_undo_33 MPast MSav 318 0 MNow) MPast (MSav - 1) (va_cpy (zVX (zSc - 1)) PX 0 0 3) (va_cpy (zVY (zSc - 1)) PY 0 0 3) (va_cpy (zVC (zSc - 1)) PC 0 0 3) (zVN (zSc - 1)) (va_cpy (zVOX (zSc - 1)) POX 0 0 8) (va_cpy (zVOY (zSc - 1)) POY 0 0 8) (va_cpy (zVOW (zSc - 1)) POW 0 0 8) (zVH (zSc - 1)) (va_cpy (zVW (zSc - 1)) bW 0 0 8) (zVT (zSc - 1)) (zl_X1_copyFrom_33 (zVM (zSc - 1)) (zVT (zSc - 1)) 0 bM) (zVS (zSc - 1)) (va_cpy (zVSt (zSc - 1)) rSt 0 0 8) (va_cpy (zVHo (zSc - 1)) rHo 0 0 8) (zVE (zSc - 1)) (va_cpy (zVEl (zSc - 1)) rEl 0 0 8) (va_cpy (zVEh (zSc - 1)) rEh 0 0 8) (zSc - 1) zVX zVY zVC zVN zVOX zVOY zVOW zVH zVW zVT zVM zVS zVSt zVHo zVE zVEl zVEh := by
  obtain ⟨h1, ⟨rfl, h4⟩, hs, hT⟩ := h
  exact ⟨zR1_cpy (hs (MSav - 1) (by omega)) (fun k hk => by rw [zun33, if_pos (by omega)]), ⟨rfl, by omega⟩, fun i hi => hs i (by omega), hT⟩
/-- what a call answers on both sides: the exception's number; where there is none, the value; the states behind it -/
def zOut (K : Nat) (exs : List Nat) (Ref : Int32) (cv mv : Int64) (R' : Prop) : Prop := Ref = zmap exs K ∧ (K = 0 → cv = mv) ∧ R'
theorem zOut_no {K e : Nat} {exs : List Nat} {Ref : Int32} {cv mv : Int64} {R' : Prop} (hK : K = e) (he : ¬ e = 0) (hr : Ref = zmap exs e) (hR : R') : zOut K exs Ref cv mv R' := by
  subst hK
  exact ⟨hr, fun h => absurd h he, hR⟩
theorem zOut_ok {exs : List Nat} {Ref : Int32} {cv mv : Int64} {R' : Prop} (hr : Ref = 0) (hv : cv = mv) (hR : R') : zOut 0 exs Ref cv mv R' := ⟨hr, fun _ => hv, hR⟩
