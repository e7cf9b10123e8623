def zf_X0_isFree (u : Nat) (k : Nat) : Bool := (if (((nI u) >>> ((nI k) &&& 31)) &&& (1 : Int32)) = 0 then true else false)
theorem zf_X0_isFree_e (u : Nat) (k : Nat) : zf_X0_isFree u k = (if (((nI u) >>> ((nI k) &&& 31)) &&& (1 : Int32)) = 0 then true else false) := rfl
set_option maxHeartbeats 4000000 in
set_option maxRecDepth 100000 in
theorem zc_X0_isFree (l : Launch) (g : zG) (B : Nat) (u : Nat) (k : Nat) : zMet l g B yX0_isFree cX0_isFree 2 (some .boolean) 1 60 0 0 [.int (nI u), .int (nI k)] [] (zDet (some (.int (zB (zf_X0_isFree u k)))) []) := by
  refine z_in (plainFor_of_name (by decide)) (Nat.le_of_ble_eq_true rfl) (fun p e R s m args below meth c A Q hRf hRl hRc hRs X Z hnm E ls hl => ?_)
  have hx := X.1
  have hb := X.2.1
  have hown := X.2.2.2.1
  have hts := X.2.2.2.2.1
  have hl : lv_has ls 2 [(0, .int (nI u)), (1, .int (nI k))] := hl
  refine lv_iload_n hx hb dX0_isFree_0 rfl (lv_at hl 0 rfl) ?_
  refine lv_iload_n hx hb dX0_isFree_1 rfl (lv_at hl 1 rfl) ?_
  refine lv_ishr hx hb dX0_isFree_2 ?_
  refine lv_iconst (v := (1 : Int32)) hx hb dX0_isFree_3 (by decide) ?_
  refine lv_iand hx hb dX0_isFree_4 ?_
  refine lv_if_ne (tgt := 12) hx hb dX0_isFree_5 (by decide) (fun c_1 => ?_) (fun c_1 => ?_)
  · refine lv_iconst (v := (0 : Int32)) hx hb dX0_isFree_12 (by decide) ?_
    exact z_ri (v := zB false) E Z (zB_narrow _) (by rw [zf_X0_isFree_e, if_neg c_1]; exact ⟨rfl, rfl⟩) dX0_isFree_13 (Nat.zero_le _) (Nat.zero_le _)
  · refine lv_iconst (v := (1 : Int32)) hx hb dX0_isFree_8 (by decide) ?_
    refine lv_goto (tgt := 13) hx hb dX0_isFree_9 (by decide) ?_
    exact z_ri (v := zB true) E Z (zB_narrow _) (by rw [zf_X0_isFree_e, if_pos c_1]; exact ⟨rfl, rfl⟩) dX0_isFree_13 (Nat.zero_le _) (Nat.zero_le _)
def zl_X0_mostFrom_15 (qM : Nat → Nat → Int32) (rSt : Nat → Int32) (rHo : Nat → Int32) (rEl : Nat → Int32) (rEh : Nat → Int32) (t : Nat) (u : Nat) : Nat → Nat → Int32 → Int32
  | 0, _, x4 => x4
  | n15 + 1, j15, x4 => (if (zf_X0_isFree u j15) = true then (if (zf_X5_canTake rSt rHo rEl rEh j15 t) = true then zl_X0_mostFrom_15 qM rSt rHo rEl rEh t u n15 (j15 + 1) (zmaxI x4 ((1 : Int32) + (qM (t + 1) (u ||| (2 ^ j15))))) else zl_X0_mostFrom_15 qM rSt rHo rEl rEh t u n15 (j15 + 1) x4) else zl_X0_mostFrom_15 qM rSt rHo rEl rEh t u n15 (j15 + 1) x4)
theorem zl_X0_mostFrom_15_s (qM : Nat → Nat → Int32) (rSt : Nat → Int32) (rHo : Nat → Int32) (rEl : Nat → Int32) (rEh : Nat → Int32) (t : Nat) (u : Nat) (n15 : Nat) (j15 : Nat) (x4 : Int32) : zl_X0_mostFrom_15 qM rSt rHo rEl rEh t u (n15 + 1) j15 x4 = (if (zf_X0_isFree u j15) = true then (if (zf_X5_canTake rSt rHo rEl rEh j15 t) = true then zl_X0_mostFrom_15 qM rSt rHo rEl rEh t u n15 (j15 + 1) (zmaxI x4 ((1 : Int32) + (qM (t + 1) (u ||| (2 ^ j15))))) else zl_X0_mostFrom_15 qM rSt rHo rEl rEh t u n15 (j15 + 1) x4) else zl_X0_mostFrom_15 qM rSt rHo rEl rEh t u n15 (j15 + 1) x4) := rfl
def zf_X0_mostFrom (qM : Nat → Nat → Int32) (rS : Nat) (rSt : Nat → Int32) (rHo : Nat → Int32) (rEl : Nat → Int32) (rEh : Nat → Int32) (t : Nat) (u : Nat) : Int32 := (zl_X0_mostFrom_15 qM rSt rHo rEl rEh t u rS 0 (qM (t + 1) u))
theorem zf_X0_mostFrom_e (qM : Nat → Nat → Int32) (rS : Nat) (rSt : Nat → Int32) (rHo : Nat → Int32) (rEl : Nat → Int32) (rEh : Nat → Int32) (t : Nat) (u : Nat) : zf_X0_mostFrom qM rS rSt rHo rEl rEh t u = (zl_X0_mostFrom_15 qM rSt rHo rEl rEh t u rS 0 (qM (t + 1) u)) := rfl
set_option maxHeartbeats 4000000 in
set_option maxRecDepth 100000 in
theorem zc_X0_mostFrom (l : Launch) (g : zG) (B : Nat) (ad : Nat → Nat) (qM : Nat → Nat → Int32) (qT : Nat → Int32) (qC : Int32) (rd : Nat → Nat) (rS : Nat) (rSt : Nat → Int32) (rHo : Nat → Int32) (rE : Nat) (rEl : Nat → Int32) (rEh : Nat → Int32) (t : Nat) (u : Nat) (ht : t < 8) (hu : u < 256) (hs : rS ≤ 8) : zMet l g B yX0_mostFrom cX0_mostFrom 6 (some .int) 2 100 0 0 [.ref (ad 0), .ref (rd 21), .int (nI t), .int (nI u)] [wAsg g ad qM qT qC, wRos g rd rS rSt rHo rE rEl rEh] (zDet (some (.int (zf_X0_mostFrom qM rS rSt rHo rEl rEh t u))) [wAsg g ad qM qT qC, wRos g rd rS rSt rHo rE rEl rEh]) := by
  refine z_in (plainFor_of_name (by decide)) (Nat.le_of_ble_eq_true rfl) (fun p e R s m args below meth c A Q hRf hRl hRc hRs X Z hnm E ls hl => ?_)
  have hx := X.1
  have hb := X.2.1
  have hown := X.2.2.2.1
  have hts := X.2.2.2.2.1
  have hl : lv_has ls 6 [(0, .ref (ad 0)), (1, .ref (rd 21)), (2, .int (nI t)), (3, .int (nI u))] := hl
  refine lv_aload_n hx hb dX0_mostFrom_0 rfl (lv_at hl 0 rfl) ?_
  refine z_get X Z 0 rfl (rfl : zCl[0]? = some (RX0, TX0, 3)) zU_X0 0 (by decide) wF_X0_11 rfl rfl dX0_mostFrom_1 ?_
  refine lv_iload_n hx hb dX0_mostFrom_4 rfl (lv_at hl 2 rfl) ?_
  refine lv_iconst (v := (1 : Int32)) hx hb dX0_mostFrom_5 (by decide) ?_
  refine z_iadd (a := t) (b := 1) X rfl rfl dX0_mostFrom_6 ?_
  refine z_aald (j := (t + 1)) (r := (ad (3 + (t + 1)))) X Z 1 2 rfl rfl rfl rfl (by omega) (by decide) rfl dX0_mostFrom_7 ?_
  refine lv_iload_n hx hb dX0_mostFrom_8 rfl (lv_at hl 3 rfl) ?_
  refine z_iald (j := u) (f := qM (t + 1)) X Z _ (zA_get (by omega)) rfl (by omega) (by decide) dX0_mostFrom_9 ?_
  refine lv_istore (lv' := [(4, .int (qM (t + 1) u)), (0, .ref (ad 0)), (1, .ref (rd 21)), (2, .int (nI t)), (3, .int (nI u))]) hx hb dX0_mostFrom_10 hl (by decide) rfl (fun ls hl => ?_)
  refine lv_iconst (v := (0 : Int32)) hx hb dX0_mostFrom_12 (by decide) ?_
  refine lv_istore (lv' := [(5, .int (0 : Int32)), (4, .int (qM (t + 1) u)), (0, .ref (ad 0)), (1, .ref (rd 21)), (2, .int (nI t)), (3, .int (nI u))]) hx hb dX0_mostFrom_13 hl (by decide) rfl (fun ls hl => ?_)
  have loop_15 : ∀ (n15 j15 : Nat) (x4 : Int32), j15 + n15 = rS → zl_X0_mostFrom_15 qM rSt rHo rEl rEh t u n15 j15 x4 = (zl_X0_mostFrom_15 qM rSt rHo rEl rEh t u rS 0 (qM (t + 1) u)) → ∀ (H : Heap) (locs : List Loc), zM g B A s [wAsg g ad qM qT qC, wRos g rd rS rSt rHo rE rEl rEh] H locs → ∀ ls : Array Slot, lv_has ls 6 [(5, .int (nI j15)), (4, .int x4), (0, .ref (ad 0)), (1, .ref (rd 21)), (2, .int (nI t)), (3, .int (nI u))] → W p l e R s m args below meth c H locs 0 0 Q (F0 m 15 ls []) := by
    intro n15
    induction n15 with
    | zero =>
      intro j15 x4 hin15 hR15 H locs Z ls hl
      have e_x4 : (zl_X0_mostFrom_15 qM rSt rHo rEl rEh t u rS 0 (qM (t + 1) u)) = x4 := hR15.symm
      subst e_x4
      refine lv_iload hx hb dX0_mostFrom_15 (lv_at hl 0 rfl) ?_
      refine lv_aload_n hx hb dX0_mostFrom_17 rfl (lv_at hl 3 rfl) ?_
      refine z_get X Z 12 rfl (rfl : zCl[4]? = some (RX5, TX5, 6)) zU_X5 0 (by decide) wF_X0_37 rfl rfl dX0_mostFrom_18 ?_
      refine z_icmp_ge (a := j15) (b := rS) (tgt := 73) X rfl rfl (by omega) (by omega) dX0_mostFrom_21 (by decide) (fun c_1 => ?_) (fun c_1 => ?_)
      · refine lv_iload hx hb dX0_mostFrom_73 (lv_at hl 1 rfl) ?_
        exact z_ri (v := (zl_X0_mostFrom_15 qM rSt rHo rEl rEh t u rS 0 (qM (t + 1) u))) E Z rfl (by rw [zf_X0_mostFrom_e]; exact ⟨rfl, rfl⟩) dX0_mostFrom_75 (Nat.zero_le _) (Nat.zero_le _)
      · (exfalso; omega)
    | succ n15 ih15 =>
      intro j15 x4 hin15 hR15 H locs Z ls hl
      refine lv_iload hx hb dX0_mostFrom_15 (lv_at hl 0 rfl) ?_
      refine lv_aload_n hx hb dX0_mostFrom_17 rfl (lv_at hl 3 rfl) ?_
      refine z_get X Z 12 rfl (rfl : zCl[4]? = some (RX5, TX5, 6)) zU_X5 0 (by decide) wF_X0_37 rfl rfl dX0_mostFrom_18 ?_
      refine z_icmp_ge (a := j15) (b := rS) (tgt := 73) X rfl rfl (by omega) (by omega) dX0_mostFrom_21 (by decide) (fun c_2 => ?_) (fun c_2 => ?_)
      · (exfalso; omega)
      · refine lv_iload_n hx hb dX0_mostFrom_24 rfl (lv_at hl 5 rfl) ?_
        refine lv_iload hx hb dX0_mostFrom_25 (lv_at hl 0 rfl) ?_
        refine z_callS (mc := 0) (ms := 0) (As := [.int (nI u), .int (nI j15)]) (rest := []) (st2 := [.int (zB (zf_X0_isFree u j15))]) (cs2 := [wAsg g ad qM qT qC, wRos g rd rS rSt rHo rE rEl rEh]) X Z [] [0, 1] [0, 1] (zc_X0_isFree l g B u j15) wM_X0_43 wS_X0_isFree wK_X0_isFree wZ_X0 2 2 2 rfl (by decide +kernel) rfl (by decide) rfl rfl rfl (by decide) rfl hl.1 rfl rfl (by rw [hRf, hRl]; exact ⟨Nat.le_of_ble_eq_true rfl, Nat.le_of_ble_eq_true rfl⟩) (Nat.le_of_ble_eq_true rfl) ⟨Nat.zero_le _, Nat.zero_le _⟩ dX0_mostFrom_27 (fun H locs Z => ?_)
        refine z_ifeqB (b := (zf_X0_isFree u j15)) (tgt := 67) X dX0_mostFrom_30 (by decide) (fun c_3 => ?_) (fun c_3 => ?_)
        · refine z_iinc (b := (j15 + 1)) (st := 1) (lv' := [(5, .int (nI (j15 + 1))), (4, .int x4), (0, .ref (ad 0)), (1, .ref (rd 21)), (2, .int (nI t)), (3, .int (nI u))]) X dX0_mostFrom_67 hl (k := 0) rfl rfl (by decide) (by omega) (by decide) rfl (fun ls hl => ?_)
          refine lv_goto (tgt := 15) hx hb dX0_mostFrom_70 (by decide) ?_
          exact ih15 (j15 + 1) x4 (by omega) (by have h9 := hR15; rw [zl_X0_mostFrom_15_s, if_neg (zBf c_3)] at h9; exact h9) _ _ Z ls (lv_sub hl [0, 1, 2, 3, 4, 5] rfl)
        · refine lv_aload_n hx hb dX0_mostFrom_33 rfl (lv_at hl 3 rfl) ?_
          refine lv_iload hx hb dX0_mostFrom_34 (lv_at hl 0 rfl) ?_
          refine lv_iload_n hx hb dX0_mostFrom_36 rfl (lv_at hl 4 rfl) ?_
          refine z_callV (mc := 0) (ms := 0) (As := [.int (nI j15), .int (nI t)]) (rest := []) (st2 := [.int (zB (zf_X5_canTake rSt rHo rEl rEh j15 t))]) (cs2 := [wAsg g ad qM qT qC, wRos g rd rS rSt rHo rE rEl rEh]) X Z [1] [0] [1, 0] 0 4 (zc_X5_canTake l g B rd rS rSt rHo rE rEl rEh j15 t (by first | assumption | omega | decide) (by first | assumption | omega | decide)) wM_X0_47 wS_X5_canTake wV_X5_canTake wK_X5_canTake wZ_X5 2 2 2 rfl (by decide +kernel) rfl (by decide) rfl rfl rfl (by decide) rfl rfl (rfl : zCl[4]? = some (RX5, TX5, 6)) hl.1 rfl rfl (by rw [hRf, hRl]; exact ⟨Nat.le_of_ble_eq_true rfl, Nat.le_of_ble_eq_true rfl⟩) (Nat.le_of_ble_eq_true rfl) ⟨Nat.zero_le _, Nat.zero_le _⟩ dX0_mostFrom_37 (fun H locs Z => ?_)
          refine z_ifeqB (b := (zf_X5_canTake rSt rHo rEl rEh j15 t)) (tgt := 67) X dX0_mostFrom_40 (by decide) (fun c_4 => ?_) (fun c_4 => ?_)
          · refine z_iinc (b := (j15 + 1)) (st := 1) (lv' := [(5, .int (nI (j15 + 1))), (4, .int x4), (0, .ref (ad 0)), (1, .ref (rd 21)), (2, .int (nI t)), (3, .int (nI u))]) X dX0_mostFrom_67 hl (k := 0) rfl rfl (by decide) (by omega) (by decide) rfl (fun ls hl => ?_)
            refine lv_goto (tgt := 15) hx hb dX0_mostFrom_70 (by decide) ?_
            exact ih15 (j15 + 1) x4 (by omega) (by have h9 := hR15; rw [zl_X0_mostFrom_15_s, if_pos c_3, if_neg (zBf c_4)] at h9; exact h9) _ _ Z ls (lv_sub hl [0, 1, 2, 3, 4, 5] rfl)
          · refine lv_iload hx hb dX0_mostFrom_43 (lv_at hl 1 rfl) ?_
            refine lv_iconst (v := (1 : Int32)) hx hb dX0_mostFrom_45 (by decide) ?_
            refine lv_aload_n hx hb dX0_mostFrom_46 rfl (lv_at hl 2 rfl) ?_
            refine z_get X Z 0 rfl (rfl : zCl[0]? = some (RX0, TX0, 3)) zU_X0 0 (by decide) wF_X0_11 rfl rfl dX0_mostFrom_47 ?_
            refine lv_iload_n hx hb dX0_mostFrom_50 rfl (lv_at hl 4 rfl) ?_
            refine lv_iconst (v := (1 : Int32)) hx hb dX0_mostFrom_51 (by decide) ?_
            refine z_iadd (a := t) (b := 1) X rfl rfl dX0_mostFrom_52 ?_
            refine z_aald (j := (t + 1)) (r := (ad (3 + (t + 1)))) X Z 1 2 rfl rfl rfl rfl (by omega) (by decide) rfl dX0_mostFrom_53 ?_
            refine lv_iload_n hx hb dX0_mostFrom_54 rfl (lv_at hl 5 rfl) ?_
            refine lv_iconst (v := (1 : Int32)) hx hb dX0_mostFrom_55 (by decide) ?_
            refine lv_iload hx hb dX0_mostFrom_56 (lv_at hl 0 rfl) ?_
            refine lv_ishl hx hb dX0_mostFrom_58 ?_
            refine lv_topi (fun z9 e9 => ?_)
            have e9 : z9 = (nI (2 ^ j15)) := e9.trans (zshl (by omega))
            subst e9
            refine lv_ior hx hb dX0_mostFrom_59 ?_
            refine lv_topi (fun z9 e9 => ?_)
            have e9 : z9 = (nI (u ||| (2 ^ j15))) := e9.trans (zor _ _)
            subst e9
            refine z_iald (j := (u ||| (2 ^ j15))) (f := qM (t + 1)) X Z _ (zA_get (by omega)) rfl (by have := zorlt (u := u) (a := j15) (by omega) (by omega); omega) (by decide) dX0_mostFrom_60 ?_
            refine lv_iadd hx hb dX0_mostFrom_61 ?_
            refine z_Mmaxint X hl.1 wM_X0_50 (by rw [hRf]; decide) (by rw [hRl]; exact Nat.le_of_ble_eq_true rfl) (Nat.zero_le _) (Nat.zero_le _) dX0_mostFrom_62 ?_
            refine lv_istore (lv' := [(4, .int (zmaxI x4 ((1 : Int32) + (qM (t + 1) (u ||| (2 ^ j15)))))), (5, .int (nI j15)), (0, .ref (ad 0)), (1, .ref (rd 21)), (2, .int (nI t)), (3, .int (nI u))]) hx hb dX0_mostFrom_65 hl (by decide) rfl (fun ls hl => ?_)
            refine z_iinc (b := (j15 + 1)) (st := 1) (lv' := [(5, .int (nI (j15 + 1))), (4, .int (zmaxI x4 ((1 : Int32) + (qM (t + 1) (u ||| (2 ^ j15)))))), (0, .ref (ad 0)), (1, .ref (rd 21)), (2, .int (nI t)), (3, .int (nI u))]) X dX0_mostFrom_67 hl (k := 1) rfl rfl (by decide) (by omega) (by decide) rfl (fun ls hl => ?_)
            refine lv_goto (tgt := 15) hx hb dX0_mostFrom_70 (by decide) ?_
            exact ih15 (j15 + 1) (zmaxI x4 ((1 : Int32) + (qM (t + 1) (u ||| (2 ^ j15))))) (by omega) (by have h9 := hR15; rw [zl_X0_mostFrom_15_s, if_pos c_3, if_pos c_4] at h9; exact h9) _ _ Z ls (lv_sub hl [0, 1, 2, 3, 4, 5] rfl)
  exact loop_15 rS 0 (qM (t + 1) u) (by omega) rfl _ _ Z ls (lv_sub hl [0, 1, 2, 3, 4, 5] rfl)
def zl_X0_firstTaker_3 (qM : Nat → Nat → Int32) (rSt : Nat → Int32) (rHo : Nat → Int32) (rEl : Nat → Int32) (rEh : Nat → Int32) (t : Nat) (u : Nat) : Nat → Nat → Int32
  | 0, j3 => (-1 : Int32)
  | n3 + 1, j3 => (if (zf_X0_isFree u j3) = true then (if (zf_X5_canTake rSt rHo rEl rEh j3 t) = true then (if ((1 : Int32) + (qM (t + 1) (u ||| (2 ^ j3)))) = (qM t u) then (nI j3) else zl_X0_firstTaker_3 qM rSt rHo rEl rEh t u n3 (j3 + 1)) else zl_X0_firstTaker_3 qM rSt rHo rEl rEh t u n3 (j3 + 1)) else zl_X0_firstTaker_3 qM rSt rHo rEl rEh t u n3 (j3 + 1))
theorem zl_X0_firstTaker_3_s (qM : Nat → Nat → Int32) (rSt : Nat → Int32) (rHo : Nat → Int32) (rEl : Nat → Int32) (rEh : Nat → Int32) (t : Nat) (u : Nat) (n3 : Nat) (j3 : Nat) : zl_X0_firstTaker_3 qM rSt rHo rEl rEh t u (n3 + 1) j3 = (if (zf_X0_isFree u j3) = true then (if (zf_X5_canTake rSt rHo rEl rEh j3 t) = true then (if ((1 : Int32) + (qM (t + 1) (u ||| (2 ^ j3)))) = (qM t u) then (nI j3) else zl_X0_firstTaker_3 qM rSt rHo rEl rEh t u n3 (j3 + 1)) else zl_X0_firstTaker_3 qM rSt rHo rEl rEh t u n3 (j3 + 1)) else zl_X0_firstTaker_3 qM rSt rHo rEl rEh t u n3 (j3 + 1)) := rfl
theorem zl_X0_firstTaker_3_z (qM : Nat → Nat → Int32) (rSt : Nat → Int32) (rHo : Nat → Int32) (rEl : Nat → Int32) (rEh : Nat → Int32) (t : Nat) (u : Nat) (j3 : Nat) : zl_X0_firstTaker_3 qM rSt rHo rEl rEh t u 0 j3 = (-1 : Int32) := rfl
def zf_X0_firstTaker (qM : Nat → Nat → Int32) (rS : Nat) (rSt : Nat → Int32) (rHo : Nat → Int32) (rEl : Nat → Int32) (rEh : Nat → Int32) (t : Nat) (u : Nat) : Int32 := (zl_X0_firstTaker_3 qM rSt rHo rEl rEh t u rS 0)
theorem zf_X0_firstTaker_e (qM : Nat → Nat → Int32) (rS : Nat) (rSt : Nat → Int32) (rHo : Nat → Int32) (rEl : Nat → Int32) (rEh : Nat → Int32) (t : Nat) (u : Nat) : zf_X0_firstTaker qM rS rSt rHo rEl rEh t u = (zl_X0_firstTaker_3 qM rSt rHo rEl rEh t u rS 0) := rfl
set_option maxHeartbeats 4000000 in
set_option maxRecDepth 100000 in
theorem zc_X0_firstTaker (l : Launch) (g : zG) (B : Nat) (ad : Nat → Nat) (qM : Nat → Nat → Int32) (qT : Nat → Int32) (qC : Int32) (rd : Nat → Nat) (rS : Nat) (rSt : Nat → Int32) (rHo : Nat → Int32) (rE : Nat) (rEl : Nat → Int32) (rEh : Nat → Int32) (t : Nat) (u : Nat) (ht : t < 8) (hu : u < 256) (hs : rS ≤ 8) : zMet l g B yX0_firstTaker cX0_firstTaker 5 (some .int) 2 100 0 0 [.ref (ad 0), .ref (rd 21), .int (nI t), .int (nI u)] [wAsg g ad qM qT qC, wRos g rd rS rSt rHo rE rEl rEh] (zDet (some (.int (zf_X0_firstTaker qM rS rSt rHo rEl rEh t u))) [wAsg g ad qM qT qC, wRos g rd rS rSt rHo rE rEl rEh]) := by
  refine z_in (plainFor_of_name (by decide)) (Nat.le_of_ble_eq_true rfl) (fun p e R s m args below meth c A Q hRf hRl hRc hRs X Z hnm E ls hl => ?_)
  have hx := X.1
  have hb := X.2.1
  have hown := X.2.2.2.1
  have hts := X.2.2.2.2.1
  have hl : lv_has ls 5 [(0, .ref (ad 0)), (1, .ref (rd 21)), (2, .int (nI t)), (3, .int (nI u))] := hl
  refine lv_iconst (v := (0 : Int32)) hx hb dX0_firstTaker_0 (by decide) ?_
  refine lv_istore (lv' := [(4, .int (0 : Int32)), (0, .ref (ad 0)), (1, .ref (rd 21)), (2, .int (nI t)), (3, .int (nI u))]) hx hb dX0_firstTaker_1 hl (by decide) rfl (fun ls hl => ?_)
  have loop_3 : ∀ (n3 j3 : Nat), j3 + n3 = rS → zl_X0_firstTaker_3 qM rSt rHo rEl rEh t u n3 j3 = (zf_X0_firstTaker qM rS rSt rHo rEl rEh t u) → ∀ (H : Heap) (locs : List Loc), zM g B A s [wAsg g ad qM qT qC, wRos g rd rS rSt rHo rE rEl rEh] H locs → ∀ ls : Array Slot, lv_has ls 5 [(4, .int (nI j3)), (0, .ref (ad 0)), (1, .ref (rd 21)), (2, .int (nI t)), (3, .int (nI u))] → W p l e R s m args below meth c H locs 0 0 Q (F0 m 3 ls []) := by
    intro n3
    induction n3 with
    | zero =>
      intro j3  hin3 hR3 H locs Z ls hl
      refine lv_iload hx hb dX0_firstTaker_3 (lv_at hl 0 rfl) ?_
      refine lv_aload_n hx hb dX0_firstTaker_5 rfl (lv_at hl 2 rfl) ?_
      refine z_get X Z 12 rfl (rfl : zCl[4]? = some (RX5, TX5, 6)) zU_X5 0 (by decide) wF_X0_37 rfl rfl dX0_firstTaker_6 ?_
      refine z_icmp_ge (a := j3) (b := rS) (tgt := 68) X rfl rfl (by omega) (by omega) dX0_firstTaker_9 (by decide) (fun c_1 => ?_) (fun c_1 => ?_)
      · refine lv_iconst (v := (-1 : Int32)) hx hb dX0_firstTaker_68 (by decide) ?_
        exact z_ri (v := (-1 : Int32)) E Z rfl (by rw [← hR3, zl_X0_firstTaker_3_z]; exact ⟨rfl, rfl⟩) dX0_firstTaker_69 (Nat.zero_le _) (Nat.zero_le _)
      · (exfalso; omega)
    | succ n3 ih3 =>
      intro j3  hin3 hR3 H locs Z ls hl
      refine lv_iload hx hb dX0_firstTaker_3 (lv_at hl 0 rfl) ?_
      refine lv_aload_n hx hb dX0_firstTaker_5 rfl (lv_at hl 2 rfl) ?_
      refine z_get X Z 12 rfl (rfl : zCl[4]? = some (RX5, TX5, 6)) zU_X5 0 (by decide) wF_X0_37 rfl rfl dX0_firstTaker_6 ?_
      refine z_icmp_ge (a := j3) (b := rS) (tgt := 68) X rfl rfl (by omega) (by omega) dX0_firstTaker_9 (by decide) (fun c_2 => ?_) (fun c_2 => ?_)
      · (exfalso; omega)
      · refine lv_iload_n hx hb dX0_firstTaker_12 rfl (lv_at hl 4 rfl) ?_
        refine lv_iload hx hb dX0_firstTaker_13 (lv_at hl 0 rfl) ?_
        refine z_callS (mc := 0) (ms := 0) (As := [.int (nI u), .int (nI j3)]) (rest := []) (st2 := [.int (zB (zf_X0_isFree u j3))]) (cs2 := [wAsg g ad qM qT qC, wRos g rd rS rSt rHo rE rEl rEh]) X Z [] [0, 1] [0, 1] (zc_X0_isFree l g B u j3) wM_X0_43 wS_X0_isFree wK_X0_isFree wZ_X0 2 2 2 rfl (by decide +kernel) rfl (by decide) rfl rfl rfl (by decide) rfl hl.1 rfl rfl (by rw [hRf, hRl]; exact ⟨Nat.le_of_ble_eq_true rfl, Nat.le_of_ble_eq_true rfl⟩) (Nat.le_of_ble_eq_true rfl) ⟨Nat.zero_le _, Nat.zero_le _⟩ dX0_firstTaker_15 (fun H locs Z => ?_)
        refine z_ifeqB (b := (zf_X0_isFree u j3)) (tgt := 62) X dX0_firstTaker_18 (by decide) (fun c_3 => ?_) (fun c_3 => ?_)
        · refine z_iinc (b := (j3 + 1)) (st := 1) (lv' := [(4, .int (nI (j3 + 1))), (0, .ref (ad 0)), (1, .ref (rd 21)), (2, .int (nI t)), (3, .int (nI u))]) X dX0_firstTaker_62 hl (k := 0) rfl rfl (by decide) (by omega) (by decide) rfl (fun ls hl => ?_)
          refine lv_goto (tgt := 3) hx hb dX0_firstTaker_65 (by decide) ?_
          exact ih3 (j3 + 1)  (by omega) (by have h9 := hR3; rw [zl_X0_firstTaker_3_s, if_neg (zBf c_3)] at h9; exact h9) _ _ Z ls (lv_sub hl [0, 1, 2, 3, 4] rfl)
        · refine lv_aload_n hx hb dX0_firstTaker_21 rfl (lv_at hl 2 rfl) ?_
          refine lv_iload hx hb dX0_firstTaker_22 (lv_at hl 0 rfl) ?_
          refine lv_iload_n hx hb dX0_firstTaker_24 rfl (lv_at hl 3 rfl) ?_
          refine z_callV (mc := 0) (ms := 0) (As := [.int (nI j3), .int (nI t)]) (rest := []) (st2 := [.int (zB (zf_X5_canTake rSt rHo rEl rEh j3 t))]) (cs2 := [wAsg g ad qM qT qC, wRos g rd rS rSt rHo rE rEl rEh]) X Z [1] [0] [1, 0] 0 4 (zc_X5_canTake l g B rd rS rSt rHo rE rEl rEh j3 t (by first | assumption | omega | decide) (by first | assumption | omega | decide)) wM_X0_47 wS_X5_canTake wV_X5_canTake wK_X5_canTake wZ_X5 2 2 2 rfl (by decide +kernel) rfl (by decide) rfl rfl rfl (by decide) rfl rfl (rfl : zCl[4]? = some (RX5, TX5, 6)) hl.1 rfl rfl (by rw [hRf, hRl]; exact ⟨Nat.le_of_ble_eq_true rfl, Nat.le_of_ble_eq_true rfl⟩) (Nat.le_of_ble_eq_true rfl) ⟨Nat.zero_le _, Nat.zero_le _⟩ dX0_firstTaker_25 (fun H locs Z => ?_)
          refine z_ifeqB (b := (zf_X5_canTake rSt rHo rEl rEh j3 t)) (tgt := 62) X dX0_firstTaker_28 (by decide) (fun c_4 => ?_) (fun c_4 => ?_)
          · refine z_iinc (b := (j3 + 1)) (st := 1) (lv' := [(4, .int (nI (j3 + 1))), (0, .ref (ad 0)), (1, .ref (rd 21)), (2, .int (nI t)), (3, .int (nI u))]) X dX0_firstTaker_62 hl (k := 0) rfl rfl (by decide) (by omega) (by decide) rfl (fun ls hl => ?_)
            refine lv_goto (tgt := 3) hx hb dX0_firstTaker_65 (by decide) ?_
            exact ih3 (j3 + 1)  (by omega) (by have h9 := hR3; rw [zl_X0_firstTaker_3_s, if_pos c_3, if_neg (zBf c_4)] at h9; exact h9) _ _ Z ls (lv_sub hl [0, 1, 2, 3, 4] rfl)
          · refine lv_iconst (v := (1 : Int32)) hx hb dX0_firstTaker_31 (by decide) ?_
            refine lv_aload_n hx hb dX0_firstTaker_32 rfl (lv_at hl 1 rfl) ?_
            refine z_get X Z 0 rfl (rfl : zCl[0]? = some (RX0, TX0, 3)) zU_X0 0 (by decide) wF_X0_11 rfl rfl dX0_firstTaker_33 ?_
            refine lv_iload_n hx hb dX0_firstTaker_36 rfl (lv_at hl 3 rfl) ?_
            refine lv_iconst (v := (1 : Int32)) hx hb dX0_firstTaker_37 (by decide) ?_
            refine z_iadd (a := t) (b := 1) X rfl rfl dX0_firstTaker_38 ?_
            refine z_aald (j := (t + 1)) (r := (ad (3 + (t + 1)))) X Z 1 2 rfl rfl rfl rfl (by omega) (by decide) rfl dX0_firstTaker_39 ?_
            refine lv_iload_n hx hb dX0_firstTaker_40 rfl (lv_at hl 4 rfl) ?_
            refine lv_iconst (v := (1 : Int32)) hx hb dX0_firstTaker_41 (by decide) ?_
            refine lv_iload hx hb dX0_firstTaker_42 (lv_at hl 0 rfl) ?_
            refine lv_ishl hx hb dX0_firstTaker_44 ?_
            refine lv_topi (fun z9 e9 => ?_)
            have e9 : z9 = (nI (2 ^ j3)) := e9.trans (zshl (by omega))
            subst e9
            refine lv_ior hx hb dX0_firstTaker_45 ?_
            refine lv_topi (fun z9 e9 => ?_)
            have e9 : z9 = (nI (u ||| (2 ^ j3))) := e9.trans (zor _ _)
            subst e9
            refine z_iald (j := (u ||| (2 ^ j3))) (f := qM (t + 1)) X Z _ (zA_get (by omega)) rfl (by have := zorlt (u := u) (a := j3) (by omega) (by omega); omega) (by decide) dX0_firstTaker_46 ?_
            refine lv_iadd hx hb dX0_firstTaker_47 ?_
            refine lv_aload_n hx hb dX0_firstTaker_48 rfl (lv_at hl 1 rfl) ?_
            refine z_get X Z 0 rfl (rfl : zCl[0]? = some (RX0, TX0, 3)) zU_X0 0 (by decide) wF_X0_11 rfl rfl dX0_firstTaker_49 ?_
            refine lv_iload_n hx hb dX0_firstTaker_52 rfl (lv_at hl 3 rfl) ?_
            refine z_aald (j := t) (r := (ad (3 + t))) X Z 1 2 rfl rfl rfl rfl (by omega) (by decide) rfl dX0_firstTaker_53 ?_
            refine lv_iload_n hx hb dX0_firstTaker_54 rfl (lv_at hl 4 rfl) ?_
            refine z_iald (j := u) (f := qM t) X Z _ (zA_get (by omega)) rfl (by omega) (by decide) dX0_firstTaker_55 ?_
            refine lv_icmp_ne (tgt := 62) hx hb dX0_firstTaker_56 (by decide) (fun c_5 => ?_) (fun c_5 => ?_)
            · refine z_iinc (b := (j3 + 1)) (st := 1) (lv' := [(4, .int (nI (j3 + 1))), (0, .ref (ad 0)), (1, .ref (rd 21)), (2, .int (nI t)), (3, .int (nI u))]) X dX0_firstTaker_62 hl (k := 0) rfl rfl (by decide) (by omega) (by decide) rfl (fun ls hl => ?_)
              refine lv_goto (tgt := 3) hx hb dX0_firstTaker_65 (by decide) ?_
              exact ih3 (j3 + 1)  (by omega) (by have h9 := hR3; rw [zl_X0_firstTaker_3_s, if_pos c_3, if_pos c_4, if_neg c_5] at h9; exact h9) _ _ Z ls (lv_sub hl [0, 1, 2, 3, 4] rfl)
            · refine lv_iload hx hb dX0_firstTaker_59 (lv_at hl 0 rfl) ?_
              exact z_ri (v := (nI j3)) E Z rfl (by rw [← hR3, zl_X0_firstTaker_3_s, if_pos c_3, if_pos c_4, if_pos c_5]; exact ⟨rfl, rfl⟩) dX0_firstTaker_61 (Nat.zero_le _) (Nat.zero_le _)
  exact loop_3 rS 0 (by omega) (by rw [zf_X0_firstTaker_e]) _ _ Z ls (lv_sub hl [0, 1, 2, 3, 4] rfl)
def zl_X0_fill_46 (rS : Nat) (rSt : Nat → Int32) (rHo : Nat → Int32) (rEl : Nat → Int32) (rEh : Nat → Int32) (n39 : Nat) : Nat → Nat → (Nat → Nat → Int32) → (Nat → Nat → Int32)
  | 0, _, M3 => M3
  | n46 + 1, j46, M3 => zl_X0_fill_46 rS rSt rHo rEl rEh n39 n46 (j46 + 1) (zupR M3 n39 (upd (M3 n39) j46 (zf_X0_mostFrom M3 rS rSt rHo rEl rEh n39 j46)))
theorem zl_X0_fill_46_s (rS : Nat) (rSt : Nat → Int32) (rHo : Nat → Int32) (rEl : Nat → Int32) (rEh : Nat → Int32) (n39 : Nat) (n46 : Nat) (j46 : Nat) (M3 : Nat → Nat → Int32) : zl_X0_fill_46 rS rSt rHo rEl rEh n39 (n46 + 1) j46 M3 = zl_X0_fill_46 rS rSt rHo rEl rEh n39 n46 (j46 + 1) (zupR M3 n39 (upd (M3 n39) j46 (zf_X0_mostFrom M3 rS rSt rHo rEl rEh n39 j46))) := rfl
def zl_X0_fill_39 (rS : Nat) (rSt : Nat → Int32) (rHo : Nat → Int32) (rEl : Nat → Int32) (rEh : Nat → Int32) : Nat → (Nat → Nat → Int32) → (Nat → Nat → Int32)
  | 0, M2 => M2
  | n39 + 1, M2 => zl_X0_fill_39 rS rSt rHo rEl rEh n39 (zl_X0_fill_46 rS rSt rHo rEl rEh n39 (2 ^ rS) 0 M2)
theorem zl_X0_fill_39_s (rS : Nat) (rSt : Nat → Int32) (rHo : Nat → Int32) (rEl : Nat → Int32) (rEh : Nat → Int32) (n39 : Nat) (M2 : Nat → Nat → Int32) : zl_X0_fill_39 rS rSt rHo rEl rEh (n39 + 1) M2 = zl_X0_fill_39 rS rSt rHo rEl rEh n39 (zl_X0_fill_46 rS rSt rHo rEl rEh n39 (2 ^ rS) 0 M2) := rfl
def zl_X0_fill_9 (rE : Nat) : Nat → Nat → (Nat → Nat → Int32) → (Nat → Nat → Int32)
  | 0, _, M1 => M1
  | n9 + 1, j9, M1 => zl_X0_fill_9 rE n9 (j9 + 1) (zupR M1 rE (upd (M1 rE) j9 (0 : Int32)))
theorem zl_X0_fill_9_s (rE : Nat) (n9 : Nat) (j9 : Nat) (M1 : Nat → Nat → Int32) : zl_X0_fill_9 rE (n9 + 1) j9 M1 = zl_X0_fill_9 rE n9 (j9 + 1) (zupR M1 rE (upd (M1 rE) j9 (0 : Int32))) := rfl
def zf_X0_fill (qM : Nat → Nat → Int32) (rS : Nat) (rSt : Nat → Int32) (rHo : Nat → Int32) (rE : Nat) (rEl : Nat → Int32) (rEh : Nat → Int32) : (Nat → Nat → Int32) := (zl_X0_fill_39 rS rSt rHo rEl rEh rE (zl_X0_fill_9 rE (2 ^ rS) 0 qM))
theorem zf_X0_fill_e (qM : Nat → Nat → Int32) (rS : Nat) (rSt : Nat → Int32) (rHo : Nat → Int32) (rE : Nat) (rEl : Nat → Int32) (rEh : Nat → Int32) : zf_X0_fill qM rS rSt rHo rE rEl rEh = (zl_X0_fill_39 rS rSt rHo rEl rEh rE (zl_X0_fill_9 rE (2 ^ rS) 0 qM)) := rfl
set_option maxHeartbeats 4000000 in
set_option maxRecDepth 100000 in
theorem zc_X0_fill (l : Launch) (g : zG) (B : Nat) (ad : Nat → Nat) (qM : Nat → Nat → Int32) (qT : Nat → Int32) (qC : Int32) (rd : Nat → Nat) (rS : Nat) (rSt : Nat → Int32) (rHo : Nat → Int32) (rE : Nat) (rEl : Nat → Int32) (rEh : Nat → Int32) (hs : rS ≤ 8) (he : rE ≤ 8) : zMet l g B yX0_fill cX0_fill 5 none 3 140 0 0 [.ref (ad 0), .ref (rd 21)] [wAsg g ad qM qT qC, wRos g rd rS rSt rHo rE rEl rEh] (zDet (none) [wAsg g ad (zf_X0_fill qM rS rSt rHo rE rEl rEh) qT qC, wRos g rd rS rSt rHo rE rEl rEh]) := by
  refine z_in (plainFor_of_name (by decide)) (Nat.le_of_ble_eq_true rfl) (fun p e R s m args below meth c A Q hRf hRl hRc hRs X Z hnm E ls hl => ?_)
  have hx := X.1
  have hb := X.2.1
  have hown := X.2.2.2.1
  have hts := X.2.2.2.2.1
  have hl : lv_has ls 5 [(0, .ref (ad 0)), (1, .ref (rd 21))] := hl
  have h8 := zp8 hs
  refine lv_iconst (v := (1 : Int32)) hx hb dX0_fill_0 (by decide) ?_
  refine lv_aload_n hx hb dX0_fill_1 rfl (lv_at hl 1 rfl) ?_
  refine z_get X Z 12 rfl (rfl : zCl[4]? = some (RX5, TX5, 6)) zU_X5 0 (by decide) wF_X0_37 rfl rfl dX0_fill_2 ?_
  refine lv_ishl hx hb dX0_fill_5 ?_
  refine lv_topi (fun z9 e9 => ?_)
  have e9 : z9 = (nI (2 ^ rS)) := e9.trans (zshl (by omega))
  subst e9
  refine lv_istore_n (lv' := [(2, .int (nI (2 ^ rS))), (0, .ref (ad 0)), (1, .ref (rd 21))]) hx hb dX0_fill_6 rfl hl (by decide) rfl (fun ls hl => ?_)
  refine lv_iconst (v := (0 : Int32)) hx hb dX0_fill_7 (by decide) ?_
  refine lv_istore_n (lv' := [(3, .int (0 : Int32)), (2, .int (nI (2 ^ rS))), (0, .ref (ad 0)), (1, .ref (rd 21))]) hx hb dX0_fill_8 rfl hl (by decide) rfl (fun ls hl => ?_)
  have loop_9 : ∀ (n9 j9 : Nat) (M1 : Nat → Nat → Int32), j9 + n9 = (2 ^ rS) → zl_X0_fill_9 rE n9 j9 M1 = (zl_X0_fill_9 rE (2 ^ rS) 0 qM) → ∀ (H : Heap) (locs : List Loc), zM g B A s [wAsg g ad M1 qT qC, wRos g rd rS rSt rHo rE rEl rEh] H locs → ∀ ls : Array Slot, lv_has ls 5 [(3, .int (nI j9)), (2, .int (nI (2 ^ rS))), (0, .ref (ad 0)), (1, .ref (rd 21))] → W p l e R s m args below meth c H locs 0 0 Q (F0 m 9 ls []) := by
    intro n9
    induction n9 with
    | zero =>
      intro j9 M1 hin9 hR9 H locs Z ls hl
      have e_M1 : (zl_X0_fill_9 rE (2 ^ rS) 0 qM) = M1 := hR9.symm
      subst e_M1
      refine lv_iload_n hx hb dX0_fill_9 rfl (lv_at hl 0 rfl) ?_
      refine lv_iload_n hx hb dX0_fill_10 rfl (lv_at hl 1 rfl) ?_
      refine z_icmp_ge (a := j9) (b := (2 ^ rS)) (tgt := 32) X rfl rfl (by omega) (by omega) dX0_fill_11 (by decide) (fun c_1 => ?_) (fun c_1 => ?_)
      · refine lv_aload_n hx hb dX0_fill_32 rfl (lv_at hl 3 rfl) ?_
        refine z_get X Z 12 rfl (rfl : zCl[4]? = some (RX5, TX5, 6)) zU_X5 3 (by decide) wF_X0_28 rfl rfl dX0_fill_33 ?_
        refine lv_iconst (v := (1 : Int32)) hx hb dX0_fill_36 (by decide) ?_
        refine lv_isub hx hb dX0_fill_37 ?_
        refine lv_istore_n (lv' := [(3, .int ((nI rE) - (1 : Int32))), (2, .int (nI (2 ^ rS))), (0, .ref (ad 0)), (1, .ref (rd 21))]) hx hb dX0_fill_38 rfl hl (by decide) rfl (fun ls hl => ?_)
        have loop_39 : ∀ (n39 : Nat) (M2 : Nat → Nat → Int32), n39 ≤ rE → zl_X0_fill_39 rS rSt rHo rEl rEh n39 M2 = (zl_X0_fill_39 rS rSt rHo rEl rEh rE (zl_X0_fill_9 rE (2 ^ rS) 0 qM)) → ∀ (H : Heap) (locs : List Loc), zM g B A s [wAsg g ad M2 qT qC, wRos g rd rS rSt rHo rE rEl rEh] H locs → ∀ ls : Array Slot, lv_has ls 5 [(3, .int (nI n39 - 1)), (2, .int (nI (2 ^ rS))), (0, .ref (ad 0)), (1, .ref (rd 21))] → W p l e R s m args below meth c H locs 0 0 Q (F0 m 39 ls []) := by
          intro n39
          induction n39 with
          | zero =>
            intro M2 hin39 hR39 H locs Z ls hl
            have e_M2 : (zl_X0_fill_39 rS rSt rHo rEl rEh rE (zl_X0_fill_9 rE (2 ^ rS) 0 qM)) = M2 := hR39.symm
            subst e_M2
            have hl : lv_has ls 5 [(3, .int (-1 : Int32)), (2, .int (nI (2 ^ rS))), (0, .ref (ad 0)), (1, .ref (rd 21))] := hl
            refine lv_iload_n hx hb dX0_fill_39 rfl (lv_at hl 0 rfl) ?_
            refine lv_if_lt (tgt := 81) hx hb dX0_fill_40 (by decide) (fun c_2 => ?_) (fun c_2 => ?_)
            · exact z_rv E Z (by rw [zf_X0_fill_e]; exact ⟨rfl, rfl⟩) dX0_fill_81 (Nat.zero_le _) (Nat.zero_le _)
            · (exact absurd c_2 (by decide))
          | succ n39 ih39 =>
            intro M2 hin39 hR39 H locs Z ls hl
            rw [nI_pred] at hl
            refine lv_iload_n hx hb dX0_fill_39 rfl (lv_at hl 0 rfl) ?_
            refine z_ifltN (a := n39) (tgt := 81) X rfl (by omega) dX0_fill_40 (by decide) (fun c_3 => ?_) (fun c_3 => ?_)
            · exact (c_3).elim
            · refine lv_iconst (v := (0 : Int32)) hx hb dX0_fill_43 (by decide) ?_
              refine lv_istore (lv' := [(4, .int (0 : Int32)), (3, .int (nI n39)), (2, .int (nI (2 ^ rS))), (0, .ref (ad 0)), (1, .ref (rd 21))]) hx hb dX0_fill_44 hl (by decide) rfl (fun ls hl => ?_)
              have loop_46 : ∀ (n46 j46 : Nat) (M3 : Nat → Nat → Int32), j46 + n46 = (2 ^ rS) → zl_X0_fill_46 rS rSt rHo rEl rEh n39 n46 j46 M3 = (zl_X0_fill_46 rS rSt rHo rEl rEh n39 (2 ^ rS) 0 M2) → ∀ (H : Heap) (locs : List Loc), zM g B A s [wAsg g ad M3 qT qC, wRos g rd rS rSt rHo rE rEl rEh] H locs → ∀ ls : Array Slot, lv_has ls 5 [(4, .int (nI j46)), (3, .int (nI n39)), (2, .int (nI (2 ^ rS))), (0, .ref (ad 0)), (1, .ref (rd 21))] → W p l e R s m args below meth c H locs 0 0 Q (F0 m 46 ls []) := by
                intro n46
                induction n46 with
                | zero =>
                  intro j46 M3 hin46 hR46 H locs Z ls hl
                  have e_M3 : (zl_X0_fill_46 rS rSt rHo rEl rEh n39 (2 ^ rS) 0 M2) = M3 := hR46.symm
                  subst e_M3
                  refine lv_iload hx hb dX0_fill_46 (lv_at hl 0 rfl) ?_
                  refine lv_iload_n hx hb dX0_fill_48 rfl (lv_at hl 2 rfl) ?_
                  refine z_icmp_ge (a := j46) (b := (2 ^ rS)) (tgt := 75) X rfl rfl (by omega) (by omega) dX0_fill_49 (by decide) (fun c_4 => ?_) (fun c_4 => ?_)
                  · refine lv_iinc (v := (nI n39 - 1)) (lv' := [(3, .int (nI n39 - 1)), (4, .int (nI j46)), (2, .int (nI (2 ^ rS))), (0, .ref (ad 0)), (1, .ref (rd 21))]) hx hb dX0_fill_75 hl (k := 1) rfl (zdn _) (by decide) rfl (fun ls hl => ?_)
                    refine lv_goto (tgt := 39) hx hb dX0_fill_78 (by decide) ?_
                    exact ih39 (zl_X0_fill_46 rS rSt rHo rEl rEh n39 (2 ^ rS) 0 M2) (by omega) (by have h9 := hR39; rw [zl_X0_fill_39_s] at h9; exact h9) _ _ Z ls (lv_sub hl [0, 2, 3, 4] rfl)
                  · (exfalso; omega)
                | succ n46 ih46 =>
                  intro j46 M3 hin46 hR46 H locs Z ls hl
                  refine lv_iload hx hb dX0_fill_46 (lv_at hl 0 rfl) ?_
                  refine lv_iload_n hx hb dX0_fill_48 rfl (lv_at hl 2 rfl) ?_
                  refine z_icmp_ge (a := j46) (b := (2 ^ rS)) (tgt := 75) X rfl rfl (by omega) (by omega) dX0_fill_49 (by decide) (fun c_5 => ?_) (fun c_5 => ?_)
                  · (exfalso; omega)
                  · refine lv_aload_n hx hb dX0_fill_52 rfl (lv_at hl 3 rfl) ?_
                    refine z_get X Z 0 rfl (rfl : zCl[0]? = some (RX0, TX0, 3)) zU_X0 0 (by decide) wF_X0_11 rfl rfl dX0_fill_53 ?_
                    refine lv_iload_n hx hb dX0_fill_56 rfl (lv_at hl 1 rfl) ?_
                    refine z_aald (j := n39) (r := (ad (3 + n39))) X Z 1 2 rfl rfl rfl rfl (by omega) (by decide) rfl dX0_fill_57 ?_
                    refine lv_iload hx hb dX0_fill_58 (lv_at hl 0 rfl) ?_
                    refine lv_aload_n hx hb dX0_fill_60 rfl (lv_at hl 3 rfl) ?_
                    refine lv_aload_n hx hb dX0_fill_61 rfl (lv_at hl 4 rfl) ?_
                    refine lv_iload_n hx hb dX0_fill_62 rfl (lv_at hl 1 rfl) ?_
                    refine lv_iload hx hb dX0_fill_63 (lv_at hl 0 rfl) ?_
                    refine z_callV (mc := 0) (ms := 0) (As := [.ref (rd 21), .int (nI n39), .int (nI j46)]) (rest := [.int (nI j46), .ref (ad (3 + n39))]) (st2 := [.int (zf_X0_mostFrom M3 rS rSt rHo rEl rEh n39 j46), .int (nI j46), .ref (ad (3 + n39))]) (cs2 := [wAsg g ad M3 qT qC, wRos g rd rS rSt rHo rE rEl rEh]) X Z [0, 1] [] [0, 1] 0 0 (zc_X0_mostFrom l g B ad M3 qT qC rd rS rSt rHo rE rEl rEh n39 j46 (by first | assumption | omega | decide) (by first | assumption | omega | decide) (by first | assumption | omega | decide)) wM_X0_40 wS_X0_mostFrom wV_X0_mostFrom wK_X0_mostFrom wZ_X0 3 2 2 rfl (by decide +kernel) rfl (by decide) rfl rfl rfl (by decide) rfl rfl (rfl : zCl[0]? = some (RX0, TX0, 3)) hl.1 rfl rfl (by rw [hRf, hRl]; exact ⟨Nat.le_of_ble_eq_true rfl, Nat.le_of_ble_eq_true rfl⟩) (Nat.le_of_ble_eq_true rfl) ⟨Nat.zero_le _, Nat.zero_le _⟩ dX0_fill_65 (fun H locs Z => ?_)
                    refine z_iast (cs2 := [wAsg g ad (zupR M3 n39 (upd (M3 n39) j46 (zf_X0_mostFrom M3 rS rSt rHo rEl rEh n39 j46))) qT qC, wRos g rd rS rSt rHo rE rEl rEh]) (j := j46) X Z _ (zA_get (by omega)) rfl (by omega) (by decide) (zA_set (by omega)) dX0_fill_68 (fun H locs Z => ?_)
                    refine z_iinc (b := (j46 + 1)) (st := 1) (lv' := [(4, .int (nI (j46 + 1))), (3, .int (nI n39)), (2, .int (nI (2 ^ rS))), (0, .ref (ad 0)), (1, .ref (rd 21))]) X dX0_fill_69 hl (k := 0) rfl rfl (by decide) (by omega) (by decide) rfl (fun ls hl => ?_)
                    refine lv_goto (tgt := 46) hx hb dX0_fill_72 (by decide) ?_
                    exact ih46 (j46 + 1) (zupR M3 n39 (upd (M3 n39) j46 (zf_X0_mostFrom M3 rS rSt rHo rEl rEh n39 j46))) (by omega) (by have h9 := hR46; rw [zl_X0_fill_46_s] at h9; exact h9) _ _ Z ls (lv_sub hl [0, 1, 2, 3, 4] rfl)
              exact loop_46 (2 ^ rS) 0 M2 (by omega) rfl _ _ Z ls (lv_sub hl [0, 1, 2, 3, 4] rfl)
        exact loop_39 rE (zl_X0_fill_9 rE (2 ^ rS) 0 qM) (Nat.le_refl _) rfl _ _ Z ls (lv_sub hl [0, 1, 2, 3] rfl)
      · (exfalso; omega)
    | succ n9 ih9 =>
      intro j9 M1 hin9 hR9 H locs Z ls hl
      refine lv_iload_n hx hb dX0_fill_9 rfl (lv_at hl 0 rfl) ?_
      refine lv_iload_n hx hb dX0_fill_10 rfl (lv_at hl 1 rfl) ?_
      refine z_icmp_ge (a := j9) (b := (2 ^ rS)) (tgt := 32) X rfl rfl (by omega) (by omega) dX0_fill_11 (by decide) (fun c_6 => ?_) (fun c_6 => ?_)
      · (exfalso; omega)
      · refine lv_aload_n hx hb dX0_fill_14 rfl (lv_at hl 2 rfl) ?_
        refine z_get X Z 0 rfl (rfl : zCl[0]? = some (RX0, TX0, 3)) zU_X0 0 (by decide) wF_X0_11 rfl rfl dX0_fill_15 ?_
        refine lv_aload_n hx hb dX0_fill_18 rfl (lv_at hl 3 rfl) ?_
        refine z_get X Z 12 rfl (rfl : zCl[4]? = some (RX5, TX5, 6)) zU_X5 3 (by decide) wF_X0_28 rfl rfl dX0_fill_19 ?_
        refine z_aald (j := rE) (r := (ad (3 + rE))) X Z 1 2 rfl rfl rfl rfl (by omega) (by decide) rfl dX0_fill_22 ?_
        refine lv_iload_n hx hb dX0_fill_23 rfl (lv_at hl 0 rfl) ?_
        refine lv_iconst (v := (0 : Int32)) hx hb dX0_fill_24 (by decide) ?_
        refine z_iast (cs2 := [wAsg g ad (zupR M1 rE (upd (M1 rE) j9 (0 : Int32))) qT qC, wRos g rd rS rSt rHo rE rEl rEh]) (j := j9) X Z _ (zA_get (by omega)) rfl (by omega) (by decide) (zA_set (by omega)) dX0_fill_25 (fun H locs Z => ?_)
        refine z_iinc (b := (j9 + 1)) (st := 1) (lv' := [(3, .int (nI (j9 + 1))), (2, .int (nI (2 ^ rS))), (0, .ref (ad 0)), (1, .ref (rd 21))]) X dX0_fill_26 hl (k := 0) rfl rfl (by decide) (by omega) (by decide) rfl (fun ls hl => ?_)
        refine lv_goto (tgt := 9) hx hb dX0_fill_29 (by decide) ?_
        exact ih9 (j9 + 1) (zupR M1 rE (upd (M1 rE) j9 (0 : Int32))) (by omega) (by have h9 := hR9; rw [zl_X0_fill_9_s] at h9; exact h9) _ _ Z ls (lv_sub hl [0, 1, 2, 3] rfl)
  exact loop_9 (2 ^ rS) 0 qM (by omega) rfl _ _ Z ls (lv_sub hl [0, 1, 2, 3] rfl)
