theorem zft_l (qM : Nat → Nat → Int32) (rSt rHo rEl rEh : Nat → Int32) (t u : Nat) : ∀ n j, zl_X0_firstTaker_3 qM rSt rHo rEl rEh t u n j = (-1 : Int32) ∨ ∃ v, v < j + n ∧ zl_X0_firstTaker_3 qM rSt rHo rEl rEh t u n j = nI v := by
  intro n
  induction n with
  | zero => intro j; exact .inl rfl
  | succ n ih =>
    intro j
    rw [zl_X0_firstTaker_3_s]
    have h := ih (j + 1)
    have h2 : zl_X0_firstTaker_3 qM rSt rHo rEl rEh t u n (j + 1) = (-1 : Int32) ∨ ∃ v, v < j + (n + 1) ∧ zl_X0_firstTaker_3 qM rSt rHo rEl rEh t u n (j + 1) = nI v := by
      rcases h with h | ⟨v, hv, h⟩
      · exact .inl h
      · exact .inr ⟨v, by omega, h⟩
    split
    · split
      · split
        · exact .inr ⟨j, by omega, rfl⟩
        · exact h2
      · exact h2
    · exact h2
theorem zi_nI {v : Nat} (h : v < 2 ^ 31) : zi (nI v) = v := by
  unfold zi
  rw [nI_toInt h]
  exact Int.toNat_natCast v
theorem zft {qM : Nat → Nat → Int32} {rS : Nat} {rSt rHo rEl rEh : Nat → Int32} {t u : Nat} (hs : rS ≤ 8) (h : ¬ zf_X0_firstTaker qM rS rSt rHo rEl rEh t u = (-1 : Int32)) : zf_X0_firstTaker qM rS rSt rHo rEl rEh t u = nI (zi (zf_X0_firstTaker qM rS rSt rHo rEl rEh t u)) ∧ zi (zf_X0_firstTaker qM rS rSt rHo rEl rEh t u) < 8 := by
  rw [zf_X0_firstTaker_e] at h ⊢
  rcases zft_l qM rSt rHo rEl rEh t u rS 0 with q | ⟨v, hv, q⟩
  · exact absurd q h
  · rw [q, zi_nI (by omega)]
    exact ⟨rfl, by omega⟩
theorem zft2 {qM : Nat → Nat → Int32} {rS : Nat} {rSt rHo rEl rEh f : Nat → Int32} {t u j : Nat} (hs : rS ≤ 8) (h : ¬ (upd f j (zf_X0_firstTaker qM rS rSt rHo rEl rEh t u)) j = (-1 : Int32)) : (1 : Int32) <<< (((upd f j (zf_X0_firstTaker qM rS rSt rHo rEl rEh t u)) j) &&& 31) = nI (2 ^ zi (zf_X0_firstTaker qM rS rSt rHo rEl rEh t u)) := by
  have e : upd f j (zf_X0_firstTaker qM rS rSt rHo rEl rEh t u) j = zf_X0_firstTaker qM rS rSt rHo rEl rEh t u := if_pos rfl
  rw [e] at h ⊢
  obtain ⟨a, b⟩ := zft hs h
  have := zshl (a := zi (zf_X0_firstTaker qM rS rSt rHo rEl rEh t u)) (by omega)
  rw [← a] at this
  exact this
theorem zft3 {qM : Nat → Nat → Int32} {rS : Nat} {rSt rHo rEl rEh f : Nat → Int32} {t u j : Nat} (hs : rS ≤ 8) (h : ¬ (upd f j (zf_X0_firstTaker qM rS rSt rHo rEl rEh t u)) j = (-1 : Int32)) : zi (zf_X0_firstTaker qM rS rSt rHo rEl rEh t u) < 8 := by
  have e : upd f j (zf_X0_firstTaker qM rS rSt rHo rEl rEh t u) j = zf_X0_firstTaker qM rS rSt rHo rEl rEh t u := if_pos rfl
  rw [e] at h
  exact (zft hs h).2
def zl_X0_solve_21 (qM : Nat → Nat → Int32) (rS : Nat) (rSt : Nat → Int32) (rHo : Nat → Int32) (rE : Nat) (rEl : Nat → Int32) (rEh : Nat → Int32) : Nat → Nat → Nat → (Nat → Int32) → Nat × (Nat → Int32)
  | 0, _, x2, v1 => (x2, v1)
  | n21 + 1, j21, x2, v1 => (if ((upd v1 j21 (zf_X0_firstTaker (zf_X0_fill qM rS rSt rHo rE rEl rEh) rS rSt rHo rEl rEh j21 x2)) j21) = (-1 : Int32) then zl_X0_solve_21 qM rS rSt rHo rE rEl rEh n21 (j21 + 1) x2 (upd v1 j21 (zf_X0_firstTaker (zf_X0_fill qM rS rSt rHo rE rEl rEh) rS rSt rHo rEl rEh j21 x2)) else zl_X0_solve_21 qM rS rSt rHo rE rEl rEh n21 (j21 + 1) (x2 ||| (2 ^ (zi (zf_X0_firstTaker (zf_X0_fill qM rS rSt rHo rE rEl rEh) rS rSt rHo rEl rEh j21 x2)))) (upd v1 j21 (zf_X0_firstTaker (zf_X0_fill qM rS rSt rHo rE rEl rEh) rS rSt rHo rEl rEh j21 x2)))
theorem zl_X0_solve_21_s (qM : Nat → Nat → Int32) (rS : Nat) (rSt : Nat → Int32) (rHo : Nat → Int32) (rE : Nat) (rEl : Nat → Int32) (rEh : Nat → Int32) (n21 : Nat) (j21 : Nat) (x2 : Nat) (v1 : Nat → Int32) : zl_X0_solve_21 qM rS rSt rHo rE rEl rEh (n21 + 1) j21 x2 v1 = (if ((upd v1 j21 (zf_X0_firstTaker (zf_X0_fill qM rS rSt rHo rE rEl rEh) rS rSt rHo rEl rEh j21 x2)) j21) = (-1 : Int32) then zl_X0_solve_21 qM rS rSt rHo rE rEl rEh n21 (j21 + 1) x2 (upd v1 j21 (zf_X0_firstTaker (zf_X0_fill qM rS rSt rHo rE rEl rEh) rS rSt rHo rEl rEh j21 x2)) else zl_X0_solve_21 qM rS rSt rHo rE rEl rEh n21 (j21 + 1) (x2 ||| (2 ^ (zi (zf_X0_firstTaker (zf_X0_fill qM rS rSt rHo rE rEl rEh) rS rSt rHo rEl rEh j21 x2)))) (upd v1 j21 (zf_X0_firstTaker (zf_X0_fill qM rS rSt rHo rE rEl rEh) rS rSt rHo rEl rEh j21 x2))) := rfl
def zf_X0_solve (qM : Nat → Nat → Int32) (qT : Nat → Int32) (rS : Nat) (rSt : Nat → Int32) (rHo : Nat → Int32) (rE : Nat) (rEl : Nat → Int32) (rEh : Nat → Int32) : (Nat → Nat → Int32) × (Nat → Int32) × Int32 := ((zf_X0_fill qM rS rSt rHo rE rEl rEh), ((zl_X0_solve_21 qM rS rSt rHo rE rEl rEh rE 0 0 qT).2), ((zf_X0_fill qM rS rSt rHo rE rEl rEh) 0 0))
theorem zf_X0_solve_e (qM : Nat → Nat → Int32) (qT : Nat → Int32) (rS : Nat) (rSt : Nat → Int32) (rHo : Nat → Int32) (rE : Nat) (rEl : Nat → Int32) (rEh : Nat → Int32) : zf_X0_solve qM qT rS rSt rHo rE rEl rEh = ((zf_X0_fill qM rS rSt rHo rE rEl rEh), ((zl_X0_solve_21 qM rS rSt rHo rE rEl rEh rE 0 0 qT).2), ((zf_X0_fill qM rS rSt rHo rE rEl rEh) 0 0)) := rfl
set_option maxHeartbeats 4000000 in
set_option maxRecDepth 100000 in
theorem zc_X0_solve (l : Launch) (g : zG) (B : Nat) (ad : Nat → Nat) (qM : Nat → Nat → Int32) (qT : Nat → Int32) (qC : Int32) (rd : Nat → Nat) (rS : Nat) (rSt : Nat → Int32) (rHo : Nat → Int32) (rE : Nat) (rEl : Nat → Int32) (rEh : Nat → Int32) (hs : rS ≤ 8) (he : rE ≤ 8) : zMet l g B yX0_solve cX0_solve 4 none 4 200 0 0 [.ref (ad 0), .ref (rd 21)] [wAsg g ad qM qT qC, wRos g rd rS rSt rHo rE rEl rEh] (zDet (none) [wAsg g ad ((zf_X0_solve qM qT rS rSt rHo rE rEl rEh).1) ((zf_X0_solve qM qT rS rSt rHo rE rEl rEh).2.1) ((zf_X0_solve qM qT rS rSt rHo rE rEl rEh).2.2), wRos g rd rS rSt rHo rE rEl rEh]) := by
  refine z_in (plainFor_of_name (by decide)) (Nat.le_of_ble_eq_true rfl) (fun p e R s m args below meth c A Q hRf hRl hRc hRs X Z hnm E ls hl => ?_)
  have hx := X.1
  have hb := X.2.1
  have hown := X.2.2.2.1
  have hts := X.2.2.2.2.1
  have hl : lv_has ls 4 [(0, .ref (ad 0)), (1, .ref (rd 21))] := hl
  refine lv_aload_n hx hb dX0_solve_0 rfl (lv_at hl 0 rfl) ?_
  refine lv_aload_n hx hb dX0_solve_1 rfl (lv_at hl 1 rfl) ?_
  refine z_callV (mc := 0) (ms := 0) (As := [.ref (rd 21)]) (rest := []) (st2 := []) (cs2 := [wAsg g ad (zf_X0_fill qM rS rSt rHo rE rEl rEh) qT qC, wRos g rd rS rSt rHo rE rEl rEh]) X Z [0, 1] [] [0, 1] 0 0 (zc_X0_fill l g B ad qM qT qC rd rS rSt rHo rE rEl rEh (by first | assumption | omega | decide) (by first | assumption | omega | decide)) wM_X0_20 wS_X0_fill wV_X0_fill wK_X0_fill wZ_X0 1 2 2 rfl (by decide +kernel) rfl (by decide) rfl rfl rfl (by decide) rfl rfl (rfl : zCl[0]? = some (RX0, TX0, 3)) hl.1 rfl rfl (by rw [hRf, hRl]; exact ⟨Nat.le_of_ble_eq_true rfl, Nat.le_of_ble_eq_true rfl⟩) (Nat.le_of_ble_eq_true rfl) ⟨Nat.zero_le _, Nat.zero_le _⟩ dX0_solve_2 (fun H locs Z => ?_)
  refine lv_aload_n hx hb dX0_solve_5 rfl (lv_at hl 0 rfl) ?_
  refine lv_aload_n hx hb dX0_solve_6 rfl (lv_at hl 0 rfl) ?_
  refine z_get X Z 0 rfl (rfl : zCl[0]? = some (RX0, TX0, 3)) zU_X0 0 (by decide) wF_X0_11 rfl rfl dX0_solve_7 ?_
  refine lv_iconst (v := (0 : Int32)) hx hb dX0_solve_10 (by decide) ?_
  refine z_aald (j := 0) (r := (ad (3 + 0))) X Z 1 2 rfl rfl rfl rfl (by omega) (by decide) rfl dX0_solve_11 ?_
  refine lv_iconst (v := (0 : Int32)) hx hb dX0_solve_12 (by decide) ?_
  refine z_iald (j := 0) (f := (zf_X0_fill qM rS rSt rHo rE rEl rEh) 0) X Z _ (zA_get (by omega)) rfl (by omega) (by decide) dX0_solve_13 ?_
  refine z_put (cs2 := [wAsg g ad (zf_X0_fill qM rS rSt rHo rE rEl rEh) qT ((zf_X0_fill qM rS rSt rHo rE rEl rEh) 0 0), wRos g rd rS rSt rHo rE rEl rEh]) (v := .int ((zf_X0_fill qM rS rSt rHo rE rEl rEh) 0 0)) X Z 0 rfl (rfl : zCl[0]? = some (RX0, TX0, 3)) zU_X0 tyX0 tyX0_ok nmX0 2 (by decide) wF_X0_24 rfl rfl rfl rfl (Nat.le_of_ble_eq_true rfl) rfl dX0_solve_14 (fun H locs Z => ?_)
  refine lv_iconst (v := (0 : Int32)) hx hb dX0_solve_17 (by decide) ?_
  refine lv_istore_n (lv' := [(2, .int (0 : Int32)), (0, .ref (ad 0)), (1, .ref (rd 21))]) hx hb dX0_solve_18 rfl hl (by decide) rfl (fun ls hl => ?_)
  refine lv_iconst (v := (0 : Int32)) hx hb dX0_solve_19 (by decide) ?_
  refine lv_istore_n (lv' := [(3, .int (0 : Int32)), (2, .int (0 : Int32)), (0, .ref (ad 0)), (1, .ref (rd 21))]) hx hb dX0_solve_20 rfl hl (by decide) rfl (fun ls hl => ?_)
  have loop_21 : ∀ (n21 j21 : Nat) (x2 : Nat) (v1 : Nat → Int32), j21 + n21 = rE → zl_X0_solve_21 qM rS rSt rHo rE rEl rEh n21 j21 x2 v1 = (zl_X0_solve_21 qM rS rSt rHo rE rEl rEh rE 0 0 qT) → (x2 < 256) → ∀ (H : Heap) (locs : List Loc), zM g B A s [wAsg g ad (zf_X0_fill qM rS rSt rHo rE rEl rEh) v1 ((zf_X0_fill qM rS rSt rHo rE rEl rEh) 0 0), wRos g rd rS rSt rHo rE rEl rEh] H locs → ∀ ls : Array Slot, lv_has ls 4 [(3, .int (nI j21)), (2, .int (nI x2)), (0, .ref (ad 0)), (1, .ref (rd 21))] → W p l e R s m args below meth c H locs 0 0 Q (F0 m 21 ls []) := by
    intro n21
    induction n21 with
    | zero =>
      intro j21 x2 v1 hin21 hR21 i1 H locs Z ls hl
      have e_x2 : (zl_X0_solve_21 qM rS rSt rHo rE rEl rEh rE 0 0 qT).1 = x2 := (by rw [← hR21]; rfl)
      have e_v1 : (zl_X0_solve_21 qM rS rSt rHo rE rEl rEh rE 0 0 qT).2 = v1 := (by rw [← hR21]; rfl)
      subst e_x2
      subst e_v1
      refine lv_iload_n hx hb dX0_solve_21 rfl (lv_at hl 0 rfl) ?_
      refine lv_aload_n hx hb dX0_solve_22 rfl (lv_at hl 3 rfl) ?_
      refine z_get X Z 12 rfl (rfl : zCl[4]? = some (RX5, TX5, 6)) zU_X5 3 (by decide) wF_X0_28 rfl rfl dX0_solve_23 ?_
      refine z_icmp_ge (a := j21) (b := rE) (tgt := 69) X rfl rfl (by omega) (by omega) dX0_solve_26 (by decide) (fun c_1 => ?_) (fun c_1 => ?_)
      · exact z_rv E Z (by rw [zf_X0_solve_e]; dsimp only; exact ⟨rfl, rfl⟩) dX0_solve_69 (Nat.zero_le _) (Nat.zero_le _)
      · (exfalso; omega)
    | succ n21 ih21 =>
      intro j21 x2 v1 hin21 hR21 i1 H locs Z ls hl
      refine lv_iload_n hx hb dX0_solve_21 rfl (lv_at hl 0 rfl) ?_
      refine lv_aload_n hx hb dX0_solve_22 rfl (lv_at hl 3 rfl) ?_
      refine z_get X Z 12 rfl (rfl : zCl[4]? = some (RX5, TX5, 6)) zU_X5 3 (by decide) wF_X0_28 rfl rfl dX0_solve_23 ?_
      refine z_icmp_ge (a := j21) (b := rE) (tgt := 69) X rfl rfl (by omega) (by omega) dX0_solve_26 (by decide) (fun c_2 => ?_) (fun c_2 => ?_)
      · (exfalso; omega)
      · refine lv_aload_n hx hb dX0_solve_29 rfl (lv_at hl 2 rfl) ?_
        refine z_get X Z 0 rfl (rfl : zCl[0]? = some (RX0, TX0, 3)) zU_X0 1 (by decide) wF_X0_16 rfl rfl dX0_solve_30 ?_
        refine lv_iload_n hx hb dX0_solve_33 rfl (lv_at hl 0 rfl) ?_
        refine lv_aload_n hx hb dX0_solve_34 rfl (lv_at hl 2 rfl) ?_
        refine lv_aload_n hx hb dX0_solve_35 rfl (lv_at hl 3 rfl) ?_
        refine lv_iload_n hx hb dX0_solve_36 rfl (lv_at hl 0 rfl) ?_
        refine lv_iload_n hx hb dX0_solve_37 rfl (lv_at hl 1 rfl) ?_
        refine z_callV (mc := 0) (ms := 0) (As := [.ref (rd 21), .int (nI j21), .int (nI x2)]) (rest := [.int (nI j21), .ref (ad 2)]) (st2 := [.int (zf_X0_firstTaker (zf_X0_fill qM rS rSt rHo rE rEl rEh) rS rSt rHo rEl rEh j21 x2), .int (nI j21), .ref (ad 2)]) (cs2 := [wAsg g ad (zf_X0_fill qM rS rSt rHo rE rEl rEh) v1 ((zf_X0_fill qM rS rSt rHo rE rEl rEh) 0 0), wRos g rd rS rSt rHo rE rEl rEh]) X Z [0, 1] [] [0, 1] 0 0 (zc_X0_firstTaker l g B ad (zf_X0_fill qM rS rSt rHo rE rEl rEh) v1 ((zf_X0_fill qM rS rSt rHo rE rEl rEh) 0 0) rd rS rSt rHo rE rEl rEh j21 x2 (by first | assumption | omega | decide) (by first | assumption | omega | decide) (by first | assumption | omega | decide)) wM_X0_33 wS_X0_firstTaker wV_X0_firstTaker wK_X0_firstTaker wZ_X0 3 2 2 rfl (by decide +kernel) rfl (by decide) rfl rfl rfl (by decide) rfl rfl (rfl : zCl[0]? = some (RX0, TX0, 3)) hl.1 rfl rfl (by rw [hRf, hRl]; exact ⟨Nat.le_of_ble_eq_true rfl, Nat.le_of_ble_eq_true rfl⟩) (Nat.le_of_ble_eq_true rfl) ⟨Nat.zero_le _, Nat.zero_le _⟩ dX0_solve_38 (fun H locs Z => ?_)
        refine z_iast (cs2 := [wAsg g ad (zf_X0_fill qM rS rSt rHo rE rEl rEh) (upd v1 j21 (zf_X0_firstTaker (zf_X0_fill qM rS rSt rHo rE rEl rEh) rS rSt rHo rEl rEh j21 x2)) ((zf_X0_fill qM rS rSt rHo rE rEl rEh) 0 0), wRos g rd rS rSt rHo rE rEl rEh]) (j := j21) (x := (zf_X0_firstTaker (zf_X0_fill qM rS rSt rHo rE rEl rEh) rS rSt rHo rEl rEh j21 x2)) X Z 2 rfl rfl (by omega) (by decide) rfl dX0_solve_41 (fun H locs Z => ?_)
        refine lv_aload_n hx hb dX0_solve_42 rfl (lv_at hl 2 rfl) ?_
        refine z_get X Z 0 rfl (rfl : zCl[0]? = some (RX0, TX0, 3)) zU_X0 1 (by decide) wF_X0_16 rfl rfl dX0_solve_43 ?_
        refine lv_iload_n hx hb dX0_solve_46 rfl (lv_at hl 0 rfl) ?_
        refine z_iald (j := j21) X Z 2 rfl rfl (by omega) (by decide) dX0_solve_47 ?_
        refine lv_iconst (v := (-1 : Int32)) hx hb dX0_solve_48 (by decide) ?_
        refine lv_icmp_eq (tgt := 63) hx hb dX0_solve_49 (by decide) (fun c_3 => ?_) (fun c_3 => ?_)
        · refine z_iinc (b := (j21 + 1)) (st := 1) (lv' := [(3, .int (nI (j21 + 1))), (2, .int (nI x2)), (0, .ref (ad 0)), (1, .ref (rd 21))]) X dX0_solve_63 hl (k := 0) rfl rfl (by decide) (by omega) (by decide) rfl (fun ls hl => ?_)
          refine lv_goto (tgt := 21) hx hb dX0_solve_66 (by decide) ?_
          exact ih21 (j21 + 1) x2 (upd v1 j21 (zf_X0_firstTaker (zf_X0_fill qM rS rSt rHo rE rEl rEh) rS rSt rHo rEl rEh j21 x2)) (by omega) (by have h9 := hR21; rw [zl_X0_solve_21_s, if_pos c_3] at h9; exact h9) (by first | exact i1 | exact zorlt i1 (zft3 hs (by assumption))) _ _ Z ls (lv_sub hl [0, 1, 2, 3] rfl)
        · refine lv_iload_n hx hb dX0_solve_52 rfl (lv_at hl 1 rfl) ?_
          refine lv_iconst (v := (1 : Int32)) hx hb dX0_solve_53 (by decide) ?_
          refine lv_aload_n hx hb dX0_solve_54 rfl (lv_at hl 2 rfl) ?_
          refine z_get X Z 0 rfl (rfl : zCl[0]? = some (RX0, TX0, 3)) zU_X0 1 (by decide) wF_X0_16 rfl rfl dX0_solve_55 ?_
          refine lv_iload_n hx hb dX0_solve_58 rfl (lv_at hl 0 rfl) ?_
          refine z_iald (j := j21) X Z 2 rfl rfl (by omega) (by decide) dX0_solve_59 ?_
          refine lv_ishl hx hb dX0_solve_60 ?_
          refine lv_topi (fun z9 e9 => ?_)
          have e9 : z9 = (nI (2 ^ (zi (zf_X0_firstTaker (zf_X0_fill qM rS rSt rHo rE rEl rEh) rS rSt rHo rEl rEh j21 x2)))) := e9.trans (zft2 hs c_3)
          subst e9
          refine lv_ior hx hb dX0_solve_61 ?_
          refine lv_topi (fun z9 e9 => ?_)
          have e9 : z9 = (nI (x2 ||| (2 ^ (zi (zf_X0_firstTaker (zf_X0_fill qM rS rSt rHo rE rEl rEh) rS rSt rHo rEl rEh j21 x2))))) := e9.trans (zor _ _)
          subst e9
          refine lv_istore_n (lv' := [(2, .int (nI (x2 ||| (2 ^ (zi (zf_X0_firstTaker (zf_X0_fill qM rS rSt rHo rE rEl rEh) rS rSt rHo rEl rEh j21 x2)))))), (3, .int (nI j21)), (0, .ref (ad 0)), (1, .ref (rd 21))]) hx hb dX0_solve_62 rfl hl (by decide) rfl (fun ls hl => ?_)
          refine z_iinc (b := (j21 + 1)) (st := 1) (lv' := [(3, .int (nI (j21 + 1))), (2, .int (nI (x2 ||| (2 ^ (zi (zf_X0_firstTaker (zf_X0_fill qM rS rSt rHo rE rEl rEh) rS rSt rHo rEl rEh j21 x2)))))), (0, .ref (ad 0)), (1, .ref (rd 21))]) X dX0_solve_63 hl (k := 1) rfl rfl (by decide) (by omega) (by decide) rfl (fun ls hl => ?_)
          refine lv_goto (tgt := 21) hx hb dX0_solve_66 (by decide) ?_
          exact ih21 (j21 + 1) (x2 ||| (2 ^ (zi (zf_X0_firstTaker (zf_X0_fill qM rS rSt rHo rE rEl rEh) rS rSt rHo rEl rEh j21 x2)))) (upd v1 j21 (zf_X0_firstTaker (zf_X0_fill qM rS rSt rHo rE rEl rEh) rS rSt rHo rEl rEh j21 x2)) (by omega) (by have h9 := hR21; rw [zl_X0_solve_21_s, if_neg c_3] at h9; exact h9) (by first | exact i1 | exact zorlt i1 (zft3 hs (by assumption))) _ _ Z ls (lv_sub hl [0, 1, 2, 3] rfl)
  exact loop_21 rE 0 0 qT (by omega) rfl (by decide) _ _ Z ls (lv_sub hl [0, 1, 2, 3] rfl)
