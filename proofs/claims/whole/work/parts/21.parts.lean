def zl_X7_power_5 (u : Nat) : Nat → Nat → Int64 → Int64
  | 0, _, x2 => x2
  | n5 + 1, j5, x2 => zl_X7_power_5 u n5 (j5 + 1) (x2 * (lN u))
theorem zl_X7_power_5_s (u : Nat) (n5 : Nat) (j5 : Nat) (x2 : Int64) : zl_X7_power_5 u (n5 + 1) j5 x2 = zl_X7_power_5 u n5 (j5 + 1) (x2 * (lN u)) := rfl
def zf_X7_power (u : Nat) (t : Nat) : Int64 := (zl_X7_power_5 u t 0 (1 : Int64))
theorem zf_X7_power_e (u : Nat) (t : Nat) : zf_X7_power u t = (zl_X7_power_5 u t 0 (1 : Int64)) := rfl
set_option maxHeartbeats 4000000 in
set_option maxRecDepth 100000 in
theorem zc_X7_power (l : Launch) (g : zG) (B : Nat) (u : Nat) (t : Nat) (hu : u ≤ 10) (ht : t ≤ 15) : zMet l g B yX7_power cX7_power 5 (some .long) 1 20 0 0 [.int (nI u), .int (nI t)] [] (zDet (some (.long (zf_X7_power u t))) []) := by
  refine z_in (plainFor_of_name (by decide)) (Nat.le_of_ble_eq_true rfl) (fun p e R s m args below meth c A Q hRf hRl hRc hRs X Z hnm E ls hl => ?_)
  have hx := X.1
  have hb := X.2.1
  have hown := X.2.2.2.1
  have hts := X.2.2.2.2.1
  have hl : lv_has ls 5 [(0, .int (nI u)), (1, .int (nI t))] := hl
  refine lv_lconst (v := (1 : Int64)) hx hb dX7_power_0 (by decide) ?_
  refine lv_lstore_n (lv' := [(2, .long (1 : Int64)), (0, .int (nI u)), (1, .int (nI t))]) hx hb dX7_power_1 rfl hl (by decide) rfl (fun ls hl => ?_)
  refine lv_iconst (v := (0 : Int32)) hx hb dX7_power_2 (by decide) ?_
  refine lv_istore (lv' := [(4, .int (0 : Int32)), (2, .long (1 : Int64)), (0, .int (nI u)), (1, .int (nI t))]) hx hb dX7_power_3 hl (by decide) rfl (fun ls hl => ?_)
  have loop_5 : ∀ (n5 j5 : Nat) (x2 : Int64), j5 + n5 = t → zl_X7_power_5 u n5 j5 x2 = (zl_X7_power_5 u t 0 (1 : Int64)) → ∀ (H : Heap) (locs : List Loc), zM g B A s [] H locs → ∀ ls : Array Slot, lv_has ls 5 [(4, .int (nI j5)), (2, .long x2), (0, .int (nI u)), (1, .int (nI t))] → W p l e R s m args below meth c H locs 0 0 Q (F0 m 5 ls []) := by
    intro n5
    induction n5 with
    | zero =>
      intro j5 x2 hin5 hR5 H locs Z ls hl
      have e_x2 : (zl_X7_power_5 u t 0 (1 : Int64)) = x2 := hR5.symm
      subst e_x2
      refine lv_iload hx hb dX7_power_5 (lv_at hl 0 rfl) ?_
      refine lv_iload_n hx hb dX7_power_7 rfl (lv_at hl 3 rfl) ?_
      refine z_icmp_ge (a := j5) (b := t) (tgt := 22) X rfl rfl (by omega) (by omega) dX7_power_8 (by decide) (fun c_1 => ?_) (fun c_1 => ?_)
      · refine lv_lload_n hx hb dX7_power_22 rfl (lv_at hl 1 rfl) ?_
        exact z_rl (v := (zl_X7_power_5 u t 0 (1 : Int64))) E Z (by rw [zf_X7_power_e]; exact ⟨rfl, rfl⟩) dX7_power_23 (Nat.zero_le _) (Nat.zero_le _)
      · (exfalso; omega)
    | succ n5 ih5 =>
      intro j5 x2 hin5 hR5 H locs Z ls hl
      refine lv_iload hx hb dX7_power_5 (lv_at hl 0 rfl) ?_
      refine lv_iload_n hx hb dX7_power_7 rfl (lv_at hl 3 rfl) ?_
      refine z_icmp_ge (a := j5) (b := t) (tgt := 22) X rfl rfl (by omega) (by omega) dX7_power_8 (by decide) (fun c_2 => ?_) (fun c_2 => ?_)
      · (exfalso; omega)
      · refine lv_lload_n hx hb dX7_power_11 rfl (lv_at hl 1 rfl) ?_
        refine lv_iload_n hx hb dX7_power_12 rfl (lv_at hl 2 rfl) ?_
        refine z_i2l (a := u) X rfl (by omega) dX7_power_13 ?_
        refine lv_lmul hx hb dX7_power_14 ?_
        refine lv_lstore_n (lv' := [(2, .long (x2 * (lN u))), (4, .int (nI j5)), (0, .int (nI u)), (1, .int (nI t))]) hx hb dX7_power_15 rfl hl (by decide) rfl (fun ls hl => ?_)
        refine z_iinc (b := (j5 + 1)) (st := 1) (lv' := [(4, .int (nI (j5 + 1))), (2, .long (x2 * (lN u))), (0, .int (nI u)), (1, .int (nI t))]) X dX7_power_16 hl (k := 1) rfl rfl (by decide) (by omega) (by decide) rfl (fun ls hl => ?_)
        refine lv_goto (tgt := 5) hx hb dX7_power_19 (by decide) ?_
        exact ih5 (j5 + 1) (x2 * (lN u)) (by omega) (by have h9 := hR5; rw [zl_X7_power_5_s] at h9; exact h9) _ _ Z ls (lv_sub hl [0, 1, 2, 3] rfl)
  exact loop_5 t 0 (1 : Int64) (by omega) rfl _ _ Z ls (lv_sub hl [0, 1, 2, 3] rfl)
def zl_X7_ways_5 (t : Nat) (k : Nat) : Nat → Nat → Int64 → Int64
  | 0, _, x2 => x2
  | n5 + 1, j5, x2 => zl_X7_ways_5 t k n5 (j5 + 1) ((x2 * (lN ((t - k) + (1 + j5)))) / (lN (1 + j5)))
theorem zl_X7_ways_5_s (t : Nat) (k : Nat) (n5 : Nat) (j5 : Nat) (x2 : Int64) : zl_X7_ways_5 t k (n5 + 1) j5 x2 = zl_X7_ways_5 t k n5 (j5 + 1) ((x2 * (lN ((t - k) + (1 + j5)))) / (lN (1 + j5))) := rfl
def zf_X7_ways (t : Nat) (k : Nat) : Int64 := (zl_X7_ways_5 t k k 0 (1 : Int64))
theorem zf_X7_ways_e (t : Nat) (k : Nat) : zf_X7_ways t k = (zl_X7_ways_5 t k k 0 (1 : Int64)) := rfl
set_option maxHeartbeats 4000000 in
set_option maxRecDepth 100000 in
theorem zc_X7_ways (l : Launch) (g : zG) (B : Nat) (t : Nat) (k : Nat) (hk : k ≤ t) (ht : t ≤ 15) : zMet l g B yX7_ways cX7_ways 5 (some .long) 1 20 0 0 [.int (nI t), .int (nI k)] [] (zDet (some (.long (zf_X7_ways t k))) []) := by
  refine z_in (plainFor_of_name (by decide)) (Nat.le_of_ble_eq_true rfl) (fun p e R s m args below meth c A Q hRf hRl hRc hRs X Z hnm E ls hl => ?_)
  have hx := X.1
  have hb := X.2.1
  have hown := X.2.2.2.1
  have hts := X.2.2.2.2.1
  have hl : lv_has ls 5 [(0, .int (nI t)), (1, .int (nI k))] := hl
  refine lv_lconst (v := (1 : Int64)) hx hb dX7_ways_0 (by decide) ?_
  refine lv_lstore_n (lv' := [(2, .long (1 : Int64)), (0, .int (nI t)), (1, .int (nI k))]) hx hb dX7_ways_1 rfl hl (by decide) rfl (fun ls hl => ?_)
  refine lv_iconst (v := (1 : Int32)) hx hb dX7_ways_2 (by decide) ?_
  refine lv_istore (lv' := [(4, .int (1 : Int32)), (2, .long (1 : Int64)), (0, .int (nI t)), (1, .int (nI k))]) hx hb dX7_ways_3 hl (by decide) rfl (fun ls hl => ?_)
  have loop_5 : ∀ (n5 j5 : Nat) (x2 : Int64), j5 + n5 = k → zl_X7_ways_5 t k n5 j5 x2 = (zl_X7_ways_5 t k k 0 (1 : Int64)) → ∀ (H : Heap) (locs : List Loc), zM g B A s [] H locs → ∀ ls : Array Slot, lv_has ls 5 [(4, .int (nI (1 + j5))), (2, .long x2), (0, .int (nI t)), (1, .int (nI k))] → W p l e R s m args below meth c H locs 0 0 Q (F0 m 5 ls []) := by
    intro n5
    induction n5 with
    | zero =>
      intro j5 x2 hin5 hR5 H locs Z ls hl
      have e_x2 : (zl_X7_ways_5 t k k 0 (1 : Int64)) = x2 := hR5.symm
      subst e_x2
      refine lv_iload hx hb dX7_ways_5 (lv_at hl 0 rfl) ?_
      refine lv_iload_n hx hb dX7_ways_7 rfl (lv_at hl 3 rfl) ?_
      refine z_icmp_gt (a := (1 + j5)) (b := k) (tgt := 31) X rfl rfl (by omega) (by omega) dX7_ways_8 (by decide) (fun c_1 => ?_) (fun c_1 => ?_)
      · refine lv_lload_n hx hb dX7_ways_31 rfl (lv_at hl 1 rfl) ?_
        exact z_rl (v := (zl_X7_ways_5 t k k 0 (1 : Int64))) E Z (by rw [zf_X7_ways_e]; exact ⟨rfl, rfl⟩) dX7_ways_32 (Nat.zero_le _) (Nat.zero_le _)
      · (exfalso; omega)
    | succ n5 ih5 =>
      intro j5 x2 hin5 hR5 H locs Z ls hl
      refine lv_iload hx hb dX7_ways_5 (lv_at hl 0 rfl) ?_
      refine lv_iload_n hx hb dX7_ways_7 rfl (lv_at hl 3 rfl) ?_
      refine z_icmp_gt (a := (1 + j5)) (b := k) (tgt := 31) X rfl rfl (by omega) (by omega) dX7_ways_8 (by decide) (fun c_2 => ?_) (fun c_2 => ?_)
      · (exfalso; omega)
      · refine lv_lload_n hx hb dX7_ways_11 rfl (lv_at hl 1 rfl) ?_
        refine lv_iload_n hx hb dX7_ways_12 rfl (lv_at hl 2 rfl) ?_
        refine lv_iload_n hx hb dX7_ways_13 rfl (lv_at hl 3 rfl) ?_
        refine z_isub (a := t) (b := k) X rfl rfl (by omega) dX7_ways_14 ?_
        refine lv_iload hx hb dX7_ways_15 (lv_at hl 0 rfl) ?_
        refine z_iadd (a := (t - k)) (b := (1 + j5)) X rfl rfl dX7_ways_17 ?_
        refine z_i2l (a := ((t - k) + (1 + j5))) X rfl (by omega) dX7_ways_18 ?_
        refine lv_lmul hx hb dX7_ways_19 ?_
        refine lv_iload hx hb dX7_ways_20 (lv_at hl 0 rfl) ?_
        refine z_i2l (a := (1 + j5)) X rfl (by omega) dX7_ways_22 ?_
        refine lv_ldiv hx hb dX7_ways_23 (zlN0 (by omega) (by omega)) ?_
        refine lv_lstore_n (lv' := [(2, .long ((x2 * (lN ((t - k) + (1 + j5)))) / (lN (1 + j5)))), (4, .int (nI (1 + j5))), (0, .int (nI t)), (1, .int (nI k))]) hx hb dX7_ways_24 rfl hl (by decide) rfl (fun ls hl => ?_)
        refine z_iinc (b := (1 + (j5 + 1))) (st := 1) (lv' := [(4, .int (nI (1 + (j5 + 1)))), (2, .long ((x2 * (lN ((t - k) + (1 + j5)))) / (lN (1 + j5)))), (0, .int (nI t)), (1, .int (nI k))]) X dX7_ways_25 hl (k := 1) rfl rfl (by decide) (by omega) (by decide) rfl (fun ls hl => ?_)
        refine lv_goto (tgt := 5) hx hb dX7_ways_28 (by decide) ?_
        exact ih5 (j5 + 1) ((x2 * (lN ((t - k) + (1 + j5)))) / (lN (1 + j5))) (by omega) (by have h9 := hR5; rw [zl_X7_ways_5_s] at h9; exact h9) _ _ Z ls (lv_sub hl [0, 1, 2, 3] rfl)
  exact loop_5 k 0 (1 : Int64) (by omega) rfl _ _ Z ls (lv_sub hl [0, 1, 2, 3] rfl)
def zl_X7_atLeast_5 (t : Nat) (k : Nat) (u : Nat) : Nat → Nat → Int64 → Int64
  | 0, _, x3 => x3
  | n5 + 1, j5, x3 => zl_X7_atLeast_5 t k u n5 (j5 + 1) (x3 + (((zf_X7_ways t (k + j5)) * (zf_X7_power u (k + j5))) * (zf_X7_power (10 - u) (t - (k + j5)))))
theorem zl_X7_atLeast_5_s (t : Nat) (k : Nat) (u : Nat) (n5 : Nat) (j5 : Nat) (x3 : Int64) : zl_X7_atLeast_5 t k u (n5 + 1) j5 x3 = zl_X7_atLeast_5 t k u n5 (j5 + 1) (x3 + (((zf_X7_ways t (k + j5)) * (zf_X7_power u (k + j5))) * (zf_X7_power (10 - u) (t - (k + j5))))) := rfl
def zf_X7_atLeast (t : Nat) (k : Nat) (u : Nat) : Int64 := (zl_X7_atLeast_5 t k u (t + 1 - k) 0 (0 : Int64))
theorem zf_X7_atLeast_e (t : Nat) (k : Nat) (u : Nat) : zf_X7_atLeast t k u = (zl_X7_atLeast_5 t k u (t + 1 - k) 0 (0 : Int64)) := rfl
set_option maxHeartbeats 4000000 in
set_option maxRecDepth 100000 in
theorem zc_X7_atLeast (l : Launch) (g : zG) (B : Nat) (t : Nat) (k : Nat) (u : Nat) (ht : t ≤ 15) (hk : k ≤ 17) (hu : u ≤ 10) : zMet l g B yX7_atLeast cX7_atLeast 6 (some .long) 2 60 0 0 [.int (nI t), .int (nI k), .int (nI u)] [] (zDet (some (.long (zf_X7_atLeast t k u))) []) := by
  refine z_in (plainFor_of_name (by decide)) (Nat.le_of_ble_eq_true rfl) (fun p e R s m args below meth c A Q hRf hRl hRc hRs X Z hnm E ls hl => ?_)
  have hx := X.1
  have hb := X.2.1
  have hown := X.2.2.2.1
  have hts := X.2.2.2.2.1
  have hl : lv_has ls 6 [(0, .int (nI t)), (1, .int (nI k)), (2, .int (nI u))] := hl
  refine lv_lconst (v := (0 : Int64)) hx hb dX7_atLeast_0 (by decide) ?_
  refine lv_lstore_n (lv' := [(3, .long (0 : Int64)), (0, .int (nI t)), (1, .int (nI k)), (2, .int (nI u))]) hx hb dX7_atLeast_1 rfl hl (by decide) rfl (fun ls hl => ?_)
  refine lv_iload_n hx hb dX7_atLeast_2 rfl (lv_at hl 2 rfl) ?_
  refine lv_istore (lv' := [(5, .int (nI k)), (3, .long (0 : Int64)), (0, .int (nI t)), (1, .int (nI k)), (2, .int (nI u))]) hx hb dX7_atLeast_3 hl (by decide) rfl (fun ls hl => ?_)
  have loop_5 : ∀ (n5 j5 : Nat) (x3 : Int64), j5 + n5 = (t + 1 - k) → zl_X7_atLeast_5 t k u n5 j5 x3 = (zl_X7_atLeast_5 t k u (t + 1 - k) 0 (0 : Int64)) → ∀ (H : Heap) (locs : List Loc), zM g B A s [] H locs → ∀ ls : Array Slot, lv_has ls 6 [(5, .int (nI (k + j5))), (3, .long x3), (0, .int (nI t)), (1, .int (nI k)), (2, .int (nI u))] → W p l e R s m args below meth c H locs 0 0 Q (F0 m 5 ls []) := by
    intro n5
    induction n5 with
    | zero =>
      intro j5 x3 hin5 hR5 H locs Z ls hl
      have e_x3 : (zl_X7_atLeast_5 t k u (t + 1 - k) 0 (0 : Int64)) = x3 := hR5.symm
      subst e_x3
      refine lv_iload hx hb dX7_atLeast_5 (lv_at hl 0 rfl) ?_
      refine lv_iload_n hx hb dX7_atLeast_7 rfl (lv_at hl 2 rfl) ?_
      refine z_icmp_gt (a := (k + j5)) (b := t) (tgt := 45) X rfl rfl (by omega) (by omega) dX7_atLeast_8 (by decide) (fun c_1 => ?_) (fun c_1 => ?_)
      · refine lv_lload_n hx hb dX7_atLeast_45 rfl (lv_at hl 1 rfl) ?_
        exact z_rl (v := (zl_X7_atLeast_5 t k u (t + 1 - k) 0 (0 : Int64))) E Z (by rw [zf_X7_atLeast_e]; exact ⟨rfl, rfl⟩) dX7_atLeast_46 (Nat.zero_le _) (Nat.zero_le _)
      · (exfalso; omega)
    | succ n5 ih5 =>
      intro j5 x3 hin5 hR5 H locs Z ls hl
      refine lv_iload hx hb dX7_atLeast_5 (lv_at hl 0 rfl) ?_
      refine lv_iload_n hx hb dX7_atLeast_7 rfl (lv_at hl 2 rfl) ?_
      refine z_icmp_gt (a := (k + j5)) (b := t) (tgt := 45) X rfl rfl (by omega) (by omega) dX7_atLeast_8 (by decide) (fun c_2 => ?_) (fun c_2 => ?_)
      · (exfalso; omega)
      · refine lv_lload_n hx hb dX7_atLeast_11 rfl (lv_at hl 1 rfl) ?_
        refine lv_iload_n hx hb dX7_atLeast_12 rfl (lv_at hl 2 rfl) ?_
        refine lv_iload hx hb dX7_atLeast_13 (lv_at hl 0 rfl) ?_
        refine z_callS (mc := 0) (ms := 0) (As := [.int (nI t), .int (nI (k + j5))]) (rest := [.long x3]) (st2 := [.long (zf_X7_ways t (k + j5)), .long x3]) (cs2 := []) X Z [] [] [] (zc_X7_ways l g B t (k + j5) (by first | assumption | omega | decide) (by first | assumption | omega | decide)) wM_X7_9 wS_X7_ways wK_X7_ways wZ_X7 2 0 0 rfl (by decide +kernel) rfl (by decide) rfl rfl rfl (by decide) rfl hl.1 rfl rfl (by rw [hRf, hRl]; exact ⟨Nat.le_of_ble_eq_true rfl, Nat.le_of_ble_eq_true rfl⟩) (Nat.le_of_ble_eq_true rfl) ⟨Nat.zero_le _, Nat.zero_le _⟩ dX7_atLeast_15 (fun H locs Z => ?_)
        refine lv_iload_n hx hb dX7_atLeast_18 rfl (lv_at hl 4 rfl) ?_
        refine lv_iload hx hb dX7_atLeast_19 (lv_at hl 0 rfl) ?_
        refine z_callS (mc := 0) (ms := 0) (As := [.int (nI u), .int (nI (k + j5))]) (rest := [.long (zf_X7_ways t (k + j5)), .long x3]) (st2 := [.long (zf_X7_power u (k + j5)), .long (zf_X7_ways t (k + j5)), .long x3]) (cs2 := []) X Z [] [] [] (zc_X7_power l g B u (k + j5) (by first | assumption | omega | decide) (by first | assumption | omega | decide)) wM_X7_15 wS_X7_power wK_X7_power wZ_X7 2 0 0 rfl (by decide +kernel) rfl (by decide) rfl rfl rfl (by decide) rfl hl.1 rfl rfl (by rw [hRf, hRl]; exact ⟨Nat.le_of_ble_eq_true rfl, Nat.le_of_ble_eq_true rfl⟩) (Nat.le_of_ble_eq_true rfl) ⟨Nat.zero_le _, Nat.zero_le _⟩ dX7_atLeast_21 (fun H locs Z => ?_)
        refine lv_lmul hx hb dX7_atLeast_24 ?_
        refine lv_bipush (v := (10 : Int32)) hx hb dX7_atLeast_25 (by decide) ?_
        refine lv_iload_n hx hb dX7_atLeast_27 rfl (lv_at hl 4 rfl) ?_
        refine z_isub (a := 10) (b := u) X rfl rfl (by omega) dX7_atLeast_28 ?_
        refine lv_iload_n hx hb dX7_atLeast_29 rfl (lv_at hl 2 rfl) ?_
        refine lv_iload hx hb dX7_atLeast_30 (lv_at hl 0 rfl) ?_
        refine z_isub (a := t) (b := (k + j5)) X rfl rfl (by omega) dX7_atLeast_32 ?_
        refine z_callS (mc := 0) (ms := 0) (As := [.int (nI (10 - u)), .int (nI (t - (k + j5)))]) (rest := [.long ((zf_X7_ways t (k + j5)) * (zf_X7_power u (k + j5))), .long x3]) (st2 := [.long (zf_X7_power (10 - u) (t - (k + j5))), .long ((zf_X7_ways t (k + j5)) * (zf_X7_power u (k + j5))), .long x3]) (cs2 := []) X Z [] [] [] (zc_X7_power l g B (10 - u) (t - (k + j5)) (by first | assumption | omega | decide) (by first | assumption | omega | decide)) wM_X7_15 wS_X7_power wK_X7_power wZ_X7 2 0 0 rfl (by decide +kernel) rfl (by decide) rfl rfl rfl (by decide) rfl hl.1 rfl rfl (by rw [hRf, hRl]; exact ⟨Nat.le_of_ble_eq_true rfl, Nat.le_of_ble_eq_true rfl⟩) (Nat.le_of_ble_eq_true rfl) ⟨Nat.zero_le _, Nat.zero_le _⟩ dX7_atLeast_33 (fun H locs Z => ?_)
        refine lv_lmul hx hb dX7_atLeast_36 ?_
        refine lv_ladd hx hb dX7_atLeast_37 ?_
        refine lv_lstore_n (lv' := [(3, .long (x3 + (((zf_X7_ways t (k + j5)) * (zf_X7_power u (k + j5))) * (zf_X7_power (10 - u) (t - (k + j5)))))), (5, .int (nI (k + j5))), (0, .int (nI t)), (1, .int (nI k)), (2, .int (nI u))]) hx hb dX7_atLeast_38 rfl hl (by decide) rfl (fun ls hl => ?_)
        refine z_iinc (b := (k + (j5 + 1))) (st := 1) (lv' := [(5, .int (nI (k + (j5 + 1)))), (3, .long (x3 + (((zf_X7_ways t (k + j5)) * (zf_X7_power u (k + j5))) * (zf_X7_power (10 - u) (t - (k + j5)))))), (0, .int (nI t)), (1, .int (nI k)), (2, .int (nI u))]) X dX7_atLeast_39 hl (k := 1) rfl rfl (by decide) (by omega) (by decide) rfl (fun ls hl => ?_)
        refine lv_goto (tgt := 5) hx hb dX7_atLeast_42 (by decide) ?_
        exact ih5 (j5 + 1) (x3 + (((zf_X7_ways t (k + j5)) * (zf_X7_power u (k + j5))) * (zf_X7_power (10 - u) (t - (k + j5))))) (by omega) (by have h9 := hR5; rw [zl_X7_atLeast_5_s] at h9; exact h9) _ _ Z ls (lv_sub hl [0, 1, 2, 3, 4] rfl)
  exact loop_5 (t + 1 - k) 0 (0 : Int64) (by omega) rfl _ _ Z ls (lv_sub hl [0, 1, 2, 3, 4] rfl)
def zl_X7_smallestPlan_19 (u : Nat) (v : Nat) (w : Nat) (j2 : Nat) (K9 : (Int32)) : Nat → Nat → Int32
  | 0, j19 => K9
  | n19 + 1, j19 => (if (zf_X7_power 10 j2) < ((lN w) * (zf_X7_atLeast j2 j19 u)) then zl_X7_smallestPlan_19 u v w j2 K9 n19 (j19 + 1) else (if (zf_X7_power 10 j2) < ((lN w) * ((zf_X7_power 10 j2) - (zf_X7_atLeast j2 j19 v))) then zl_X7_smallestPlan_19 u v w j2 K9 n19 (j19 + 1) else (nI ((100 * j2) + j19))))
theorem zl_X7_smallestPlan_19_s (u : Nat) (v : Nat) (w : Nat) (j2 : Nat) (K9 : (Int32)) (n19 : Nat) (j19 : Nat) : zl_X7_smallestPlan_19 u v w j2 K9 (n19 + 1) j19 = (if (zf_X7_power 10 j2) < ((lN w) * (zf_X7_atLeast j2 j19 u)) then zl_X7_smallestPlan_19 u v w j2 K9 n19 (j19 + 1) else (if (zf_X7_power 10 j2) < ((lN w) * ((zf_X7_power 10 j2) - (zf_X7_atLeast j2 j19 v))) then zl_X7_smallestPlan_19 u v w j2 K9 n19 (j19 + 1) else (nI ((100 * j2) + j19)))) := rfl
theorem zl_X7_smallestPlan_19_z (u : Nat) (v : Nat) (w : Nat) (j2 : Nat) (K9 : (Int32)) (j19 : Nat) : zl_X7_smallestPlan_19 u v w j2 K9 0 j19 = K9 := rfl
def zl_X7_smallestPlan_2 (u : Nat) (v : Nat) (w : Nat) : Nat → Nat → Int32
  | 0, j2 => (-1 : Int32)
  | n2 + 1, j2 => (zl_X7_smallestPlan_19 u v w j2 (zl_X7_smallestPlan_2 u v w n2 (j2 + 1)) (j2 + 2) 0)
theorem zl_X7_smallestPlan_2_s (u : Nat) (v : Nat) (w : Nat) (n2 : Nat) (j2 : Nat) : zl_X7_smallestPlan_2 u v w (n2 + 1) j2 = (zl_X7_smallestPlan_19 u v w j2 (zl_X7_smallestPlan_2 u v w n2 (j2 + 1)) (j2 + 2) 0) := rfl
theorem zl_X7_smallestPlan_2_z (u : Nat) (v : Nat) (w : Nat) (j2 : Nat) : zl_X7_smallestPlan_2 u v w 0 j2 = (-1 : Int32) := rfl
def zf_X7_smallestPlan (u : Nat) (v : Nat) (w : Nat) : Int32 := (zl_X7_smallestPlan_2 u v w 16 0)
theorem zf_X7_smallestPlan_e (u : Nat) (v : Nat) (w : Nat) : zf_X7_smallestPlan u v w = (zl_X7_smallestPlan_2 u v w 16 0) := rfl
set_option maxHeartbeats 4000000 in
set_option maxRecDepth 100000 in
theorem zc_X7_smallestPlan (l : Launch) (g : zG) (B : Nat) (u : Nat) (v : Nat) (w : Nat) (hu : u ≤ 10) (hv : v ≤ 10) (hw : w ≤ 1000) : zMet l g B yX7_smallestPlan cX7_smallestPlan 8 (some .int) 3 100 0 0 [.int (nI u), .int (nI v), .int (nI w)] [] (zDet (some (.int (zf_X7_smallestPlan u v w))) []) := by
  refine z_in (plainFor_of_name (by decide)) (Nat.le_of_ble_eq_true rfl) (fun p e R s m args below meth c A Q hRf hRl hRc hRs X Z hnm E ls hl => ?_)
  have hx := X.1
  have hb := X.2.1
  have hown := X.2.2.2.1
  have hts := X.2.2.2.2.1
  have hl : lv_has ls 8 [(0, .int (nI u)), (1, .int (nI v)), (2, .int (nI w))] := hl
  refine lv_iconst (v := (0 : Int32)) hx hb dX7_smallestPlan_0 (by decide) ?_
  refine lv_istore_n (lv' := [(3, .int (0 : Int32)), (0, .int (nI u)), (1, .int (nI v)), (2, .int (nI w))]) hx hb dX7_smallestPlan_1 rfl hl (by decide) rfl (fun ls hl => ?_)
  have loop_2 : ∀ (n2 j2 : Nat), j2 + n2 = 16 → zl_X7_smallestPlan_2 u v w n2 j2 = (zf_X7_smallestPlan u v w) → ∀ (H : Heap) (locs : List Loc), zM g B A s [] H locs → ∀ ls : Array Slot, lv_has ls 8 [(3, .int (nI j2)), (0, .int (nI u)), (1, .int (nI v)), (2, .int (nI w))] → W p l e R s m args below meth c H locs 0 0 Q (F0 m 2 ls []) := by
    intro n2
    induction n2 with
    | zero =>
      intro j2  hin2 hR2 H locs Z ls hl
      refine lv_iload_n hx hb dX7_smallestPlan_2 rfl (lv_at hl 0 rfl) ?_
      refine lv_bipush (v := (15 : Int32)) hx hb dX7_smallestPlan_3 (by decide) ?_
      refine z_icmp_gt (a := j2) (b := 15) (tgt := 94) X rfl rfl (by omega) (by omega) dX7_smallestPlan_5 (by decide) (fun c_1 => ?_) (fun c_1 => ?_)
      · refine lv_iconst (v := (-1 : Int32)) hx hb dX7_smallestPlan_94 (by decide) ?_
        exact z_ri (v := (-1 : Int32)) E Z rfl (by rw [← hR2, zl_X7_smallestPlan_2_z]; exact ⟨rfl, rfl⟩) dX7_smallestPlan_95 (Nat.zero_le _) (Nat.zero_le _)
      · (exfalso; omega)
    | succ n2 ih2 =>
      intro j2  hin2 hR2 H locs Z ls hl
      refine lv_iload_n hx hb dX7_smallestPlan_2 rfl (lv_at hl 0 rfl) ?_
      refine lv_bipush (v := (15 : Int32)) hx hb dX7_smallestPlan_3 (by decide) ?_
      refine z_icmp_gt (a := j2) (b := 15) (tgt := 94) X rfl rfl (by omega) (by omega) dX7_smallestPlan_5 (by decide) (fun c_2 => ?_) (fun c_2 => ?_)
      · (exfalso; omega)
      · refine lv_bipush (v := (10 : Int32)) hx hb dX7_smallestPlan_8 (by decide) ?_
        refine lv_iload_n hx hb dX7_smallestPlan_10 rfl (lv_at hl 0 rfl) ?_
        refine z_callS (mc := 0) (ms := 0) (As := [.int (10 : Int32), .int (nI j2)]) (rest := []) (st2 := [.long (zf_X7_power 10 j2)]) (cs2 := []) X Z [] [] [] (zc_X7_power l g B 10 j2 (by first | assumption | omega | decide) (by first | assumption | omega | decide)) wM_X7_15 wS_X7_power wK_X7_power wZ_X7 2 0 0 rfl (by decide +kernel) rfl (by decide) rfl rfl rfl (by decide) rfl hl.1 rfl rfl (by rw [hRf, hRl]; exact ⟨Nat.le_of_ble_eq_true rfl, Nat.le_of_ble_eq_true rfl⟩) (Nat.le_of_ble_eq_true rfl) ⟨Nat.zero_le _, Nat.zero_le _⟩ dX7_smallestPlan_11 (fun H locs Z => ?_)
        refine lv_lstore (lv' := [(4, .long (zf_X7_power 10 j2)), (3, .int (nI j2)), (0, .int (nI u)), (1, .int (nI v)), (2, .int (nI w))]) hx hb dX7_smallestPlan_14 hl (by decide) rfl (fun ls hl => ?_)
        refine lv_iconst (v := (0 : Int32)) hx hb dX7_smallestPlan_16 (by decide) ?_
        refine lv_istore (lv' := [(6, .int (0 : Int32)), (4, .long (zf_X7_power 10 j2)), (3, .int (nI j2)), (0, .int (nI u)), (1, .int (nI v)), (2, .int (nI w))]) hx hb dX7_smallestPlan_17 hl (by decide) rfl (fun ls hl => ?_)
        have loop_19 : ∀ (n19 j19 : Nat), j19 + n19 = (j2 + 2) → zl_X7_smallestPlan_19 u v w j2 (zl_X7_smallestPlan_2 u v w n2 (j2 + 1)) n19 j19 = (zf_X7_smallestPlan u v w) → ∀ (H : Heap) (locs : List Loc), zM g B A s [] H locs → ∀ ls : Array Slot, lv_has ls 8 [(6, .int (nI j19)), (4, .long (zf_X7_power 10 j2)), (3, .int (nI j2)), (0, .int (nI u)), (1, .int (nI v)), (2, .int (nI w))] → W p l e R s m args below meth c H locs 0 0 Q (F0 m 19 ls []) := by
          intro n19
          induction n19 with
          | zero =>
            intro j19  hin19 hR19 H locs Z ls hl
            refine lv_iload hx hb dX7_smallestPlan_19 (lv_at hl 0 rfl) ?_
            refine lv_iload_n hx hb dX7_smallestPlan_21 rfl (lv_at hl 2 rfl) ?_
            refine lv_iconst (v := (1 : Int32)) hx hb dX7_smallestPlan_22 (by decide) ?_
            refine z_iadd (a := j2) (b := 1) X rfl rfl dX7_smallestPlan_23 ?_
            refine z_icmp_gt (a := j19) (b := (j2 + 1)) (tgt := 88) X rfl rfl (by omega) (by omega) dX7_smallestPlan_24 (by decide) (fun c_3 => ?_) (fun c_3 => ?_)
            · refine z_iinc (b := (j2 + 1)) (st := 1) (lv' := [(3, .int (nI (j2 + 1))), (6, .int (nI j19)), (4, .long (zf_X7_power 10 j2)), (0, .int (nI u)), (1, .int (nI v)), (2, .int (nI w))]) X dX7_smallestPlan_88 hl (k := 2) rfl rfl (by decide) (by omega) (by decide) rfl (fun ls hl => ?_)
              refine lv_goto (tgt := 2) hx hb dX7_smallestPlan_91 (by decide) ?_
              exact ih2 (j2 + 1)  (by omega) (by have h9 := hR19; rw [zl_X7_smallestPlan_19_z] at h9; exact h9) _ _ Z ls (lv_sub hl [0, 3, 4, 5] rfl)
            · (exfalso; omega)
          | succ n19 ih19 =>
            intro j19  hin19 hR19 H locs Z ls hl
            refine lv_iload hx hb dX7_smallestPlan_19 (lv_at hl 0 rfl) ?_
            refine lv_iload_n hx hb dX7_smallestPlan_21 rfl (lv_at hl 2 rfl) ?_
            refine lv_iconst (v := (1 : Int32)) hx hb dX7_smallestPlan_22 (by decide) ?_
            refine z_iadd (a := j2) (b := 1) X rfl rfl dX7_smallestPlan_23 ?_
            refine z_icmp_gt (a := j19) (b := (j2 + 1)) (tgt := 88) X rfl rfl (by omega) (by omega) dX7_smallestPlan_24 (by decide) (fun c_4 => ?_) (fun c_4 => ?_)
            · (exfalso; omega)
            · refine lv_iload_n hx hb dX7_smallestPlan_27 rfl (lv_at hl 5 rfl) ?_
              refine z_i2l (a := w) X rfl (by omega) dX7_smallestPlan_28 ?_
              refine lv_iload_n hx hb dX7_smallestPlan_29 rfl (lv_at hl 2 rfl) ?_
              refine lv_iload hx hb dX7_smallestPlan_30 (lv_at hl 0 rfl) ?_
              refine lv_iload_n hx hb dX7_smallestPlan_32 rfl (lv_at hl 3 rfl) ?_
              refine z_callS (mc := 0) (ms := 0) (As := [.int (nI j2), .int (nI j19), .int (nI u)]) (rest := [.long (lN w)]) (st2 := [.long (zf_X7_atLeast j2 j19 u), .long (lN w)]) (cs2 := []) X Z [] [] [] (zc_X7_atLeast l g B j2 j19 u (by first | assumption | omega | decide) (by first | assumption | omega | decide) (by first | assumption | omega | decide)) wM_X7_18 wS_X7_atLeast wK_X7_atLeast wZ_X7 3 0 0 rfl (by decide +kernel) rfl (by decide) rfl rfl rfl (by decide) rfl hl.1 rfl rfl (by rw [hRf, hRl]; exact ⟨Nat.le_of_ble_eq_true rfl, Nat.le_of_ble_eq_true rfl⟩) (Nat.le_of_ble_eq_true rfl) ⟨Nat.zero_le _, Nat.zero_le _⟩ dX7_smallestPlan_33 (fun H locs Z => ?_)
              refine lv_lmul hx hb dX7_smallestPlan_36 ?_
              refine lv_lload hx hb dX7_smallestPlan_37 (lv_at hl 1 rfl) ?_
              refine z_lc_gt (tgt := 47) X dX7_smallestPlan_39 dX7_smallestPlan_40 (by decide) (fun c_5 => ?_) (fun c_5 => ?_)
              · refine lv_iconst (v := (0 : Int32)) hx hb dX7_smallestPlan_47 (by decide) ?_
                refine lv_istore (lv' := [(7, .int (0 : Int32)), (6, .int (nI j19)), (4, .long (zf_X7_power 10 j2)), (3, .int (nI j2)), (0, .int (nI u)), (1, .int (nI v)), (2, .int (nI w))]) hx hb dX7_smallestPlan_48 hl (by decide) rfl (fun ls hl => ?_)
                refine lv_iload hx hb dX7_smallestPlan_50 (lv_at hl 0 rfl) ?_
                refine lv_if_eq (tgt := 82) hx hb dX7_smallestPlan_52 (by decide) (fun c_6 => ?_) (fun c_6 => ?_)
                · refine z_iinc (b := (j19 + 1)) (st := 1) (lv' := [(6, .int (nI (j19 + 1))), (7, .int (0 : Int32)), (4, .long (zf_X7_power 10 j2)), (3, .int (nI j2)), (0, .int (nI u)), (1, .int (nI v)), (2, .int (nI w))]) X dX7_smallestPlan_82 hl (k := 1) rfl rfl (by decide) (by omega) (by decide) rfl (fun ls hl => ?_)
                  refine lv_goto (tgt := 19) hx hb dX7_smallestPlan_85 (by decide) ?_
                  exact ih19 (j19 + 1)  (by omega) (by have h9 := hR19; rw [zl_X7_smallestPlan_19_s, if_pos c_5] at h9; exact h9) _ _ Z ls (lv_sub hl [0, 2, 3, 4, 5, 6] rfl)
                · (exact absurd c_6 (by decide))
              · refine lv_iconst (v := (1 : Int32)) hx hb dX7_smallestPlan_43 (by decide) ?_
                refine lv_goto (tgt := 48) hx hb dX7_smallestPlan_44 (by decide) ?_
                refine lv_istore (lv' := [(7, .int (1 : Int32)), (6, .int (nI j19)), (4, .long (zf_X7_power 10 j2)), (3, .int (nI j2)), (0, .int (nI u)), (1, .int (nI v)), (2, .int (nI w))]) hx hb dX7_smallestPlan_48 hl (by decide) rfl (fun ls hl => ?_)
                refine lv_iload hx hb dX7_smallestPlan_50 (lv_at hl 0 rfl) ?_
                refine lv_if_eq (tgt := 82) hx hb dX7_smallestPlan_52 (by decide) (fun c_7 => ?_) (fun c_7 => ?_)
                · (exact absurd c_7 (by decide))
                · refine lv_iload_n hx hb dX7_smallestPlan_55 rfl (lv_at hl 6 rfl) ?_
                  refine z_i2l (a := w) X rfl (by omega) dX7_smallestPlan_56 ?_
                  refine lv_lload hx hb dX7_smallestPlan_57 (lv_at hl 2 rfl) ?_
                  refine lv_iload_n hx hb dX7_smallestPlan_59 rfl (lv_at hl 3 rfl) ?_
                  refine lv_iload hx hb dX7_smallestPlan_60 (lv_at hl 1 rfl) ?_
                  refine lv_iload_n hx hb dX7_smallestPlan_62 rfl (lv_at hl 5 rfl) ?_
                  refine z_callS (mc := 0) (ms := 0) (As := [.int (nI j2), .int (nI j19), .int (nI v)]) (rest := [.long (zf_X7_power 10 j2), .long (lN w)]) (st2 := [.long (zf_X7_atLeast j2 j19 v), .long (zf_X7_power 10 j2), .long (lN w)]) (cs2 := []) X Z [] [] [] (zc_X7_atLeast l g B j2 j19 v (by first | assumption | omega | decide) (by first | assumption | omega | decide) (by first | assumption | omega | decide)) wM_X7_18 wS_X7_atLeast wK_X7_atLeast wZ_X7 3 0 0 rfl (by decide +kernel) rfl (by decide) rfl rfl rfl (by decide) rfl hl.1 rfl rfl (by rw [hRf, hRl]; exact ⟨Nat.le_of_ble_eq_true rfl, Nat.le_of_ble_eq_true rfl⟩) (Nat.le_of_ble_eq_true rfl) ⟨Nat.zero_le _, Nat.zero_le _⟩ dX7_smallestPlan_63 (fun H locs Z => ?_)
                  refine lv_lsub hx hb dX7_smallestPlan_66 ?_
                  refine lv_lmul hx hb dX7_smallestPlan_67 ?_
                  refine lv_lload hx hb dX7_smallestPlan_68 (lv_at hl 2 rfl) ?_
                  refine z_lc_gt (tgt := 82) X dX7_smallestPlan_70 dX7_smallestPlan_71 (by decide) (fun c_8 => ?_) (fun c_8 => ?_)
                  · refine z_iinc (b := (j19 + 1)) (st := 1) (lv' := [(6, .int (nI (j19 + 1))), (7, .int (1 : Int32)), (4, .long (zf_X7_power 10 j2)), (3, .int (nI j2)), (0, .int (nI u)), (1, .int (nI v)), (2, .int (nI w))]) X dX7_smallestPlan_82 hl (k := 1) rfl rfl (by decide) (by omega) (by decide) rfl (fun ls hl => ?_)
                    refine lv_goto (tgt := 19) hx hb dX7_smallestPlan_85 (by decide) ?_
                    exact ih19 (j19 + 1)  (by omega) (by have h9 := hR19; rw [zl_X7_smallestPlan_19_s, if_neg c_5, if_pos c_8] at h9; exact h9) _ _ Z ls (lv_sub hl [0, 2, 3, 4, 5, 6] rfl)
                  · refine lv_bipush (v := (100 : Int32)) hx hb dX7_smallestPlan_74 (by decide) ?_
                    refine lv_iload_n hx hb dX7_smallestPlan_76 rfl (lv_at hl 3 rfl) ?_
                    refine z_imul (a := 100) (b := j2) X rfl rfl dX7_smallestPlan_77 ?_
                    refine lv_iload hx hb dX7_smallestPlan_78 (lv_at hl 1 rfl) ?_
                    refine z_iadd (a := (100 * j2)) (b := j19) X rfl rfl dX7_smallestPlan_80 ?_
                    exact z_ri (v := (nI ((100 * j2) + j19))) E Z rfl (by rw [← hR19, zl_X7_smallestPlan_19_s, if_neg c_5, if_neg c_8]; exact ⟨rfl, rfl⟩) dX7_smallestPlan_81 (Nat.zero_le _) (Nat.zero_le _)
        exact loop_19 (j2 + 2) 0 (by omega) (by rw [← hR2, zl_X7_smallestPlan_2_s]) _ _ Z ls (lv_sub hl [0, 1, 2, 3, 4, 5] rfl)
  exact loop_2 16 0 (by omega) (by rw [zf_X7_smallestPlan_e]) _ _ Z ls (lv_sub hl [0, 1, 2, 3] rfl)
def zf_X5_copyFrom (rSt : Nat → Int32) (rHo : Nat → Int32) (rEl : Nat → Int32) (rEh : Nat → Int32) (r2S : Nat) (r2St : Nat → Int32) (r2Ho : Nat → Int32) (r2E : Nat) (r2El : Nat → Int32) (r2Eh : Nat → Int32) : Nat × (Nat → Int32) × (Nat → Int32) × Nat × (Nat → Int32) × (Nat → Int32) := (r2S, (va_cpy r2St rSt 0 0 8), (va_cpy r2Ho rHo 0 0 8), r2E, (va_cpy r2El rEl 0 0 8), (va_cpy r2Eh rEh 0 0 8))
theorem zf_X5_copyFrom_e (rSt : Nat → Int32) (rHo : Nat → Int32) (rEl : Nat → Int32) (rEh : Nat → Int32) (r2S : Nat) (r2St : Nat → Int32) (r2Ho : Nat → Int32) (r2E : Nat) (r2El : Nat → Int32) (r2Eh : Nat → Int32) : zf_X5_copyFrom rSt rHo rEl rEh r2S r2St r2Ho r2E r2El r2Eh = (r2S, (va_cpy r2St rSt 0 0 8), (va_cpy r2Ho rHo 0 0 8), r2E, (va_cpy r2El rEl 0 0 8), (va_cpy r2Eh rEh 0 0 8)) := rfl
set_option maxHeartbeats 4000000 in
set_option maxRecDepth 100000 in
theorem zc_X5_copyFrom (l : Launch) (g : zG) (B : Nat) (ad : Nat → Nat) (rS : Nat) (rSt : Nat → Int32) (rHo : Nat → Int32) (rE : Nat) (rEl : Nat → Int32) (rEh : Nat → Int32) (bd : Nat → Nat) (r2S : Nat) (r2St : Nat → Int32) (r2Ho : Nat → Int32) (r2E : Nat) (r2El : Nat → Int32) (r2Eh : Nat → Int32) : zMet l g B yX5_copyFrom cX5_copyFrom 2 none 1 60 0 0 [.ref (ad 21), .ref (bd 21)] [wRos g ad rS rSt rHo rE rEl rEh, wRos g bd r2S r2St r2Ho r2E r2El r2Eh] (zDet (none) [wRos g ad ((zf_X5_copyFrom rSt rHo rEl rEh r2S r2St r2Ho r2E r2El r2Eh).1) ((zf_X5_copyFrom rSt rHo rEl rEh r2S r2St r2Ho r2E r2El r2Eh).2.1) ((zf_X5_copyFrom rSt rHo rEl rEh r2S r2St r2Ho r2E r2El r2Eh).2.2.1) ((zf_X5_copyFrom rSt rHo rEl rEh r2S r2St r2Ho r2E r2El r2Eh).2.2.2.1) ((zf_X5_copyFrom rSt rHo rEl rEh r2S r2St r2Ho r2E r2El r2Eh).2.2.2.2.1) ((zf_X5_copyFrom rSt rHo rEl rEh r2S r2St r2Ho r2E r2El r2Eh).2.2.2.2.2), wRos g bd r2S r2St r2Ho r2E r2El r2Eh]) := by
  refine z_in (plainFor_of_name (by decide)) (Nat.le_of_ble_eq_true rfl) (fun p e R s m args below meth c A Q hRf hRl hRc hRs X Z hnm E ls hl => ?_)
  have hx := X.1
  have hb := X.2.1
  have hown := X.2.2.2.1
  have hts := X.2.2.2.2.1
  have hl : lv_has ls 2 [(0, .ref (ad 21)), (1, .ref (bd 21))] := hl
  refine lv_aload_n hx hb dX5_copyFrom_0 rfl (lv_at hl 0 rfl) ?_
  refine lv_aload_n hx hb dX5_copyFrom_1 rfl (lv_at hl 1 rfl) ?_
  refine z_get X Z 5 rfl (rfl : zCl[4]? = some (RX5, TX5, 6)) zU_X5 0 (by decide) wF_X5_24 rfl rfl dX5_copyFrom_2 ?_
  refine z_put (cs2 := [wRos g ad r2S rSt rHo rE rEl rEh, wRos g bd r2S r2St r2Ho r2E r2El r2Eh]) (v := .int (nI r2S)) X Z 0 rfl (rfl : zCl[4]? = some (RX5, TX5, 6)) zU_X5 tyX5 tyX5_ok nmX5 0 (by decide) wF_X5_24 rfl rfl rfl rfl (Nat.le_of_ble_eq_true rfl) rfl dX5_copyFrom_5 (fun H locs Z => ?_)
  refine lv_aload_n hx hb dX5_copyFrom_8 rfl (lv_at hl 1 rfl) ?_
  refine z_get X Z 5 rfl (rfl : zCl[4]? = some (RX5, TX5, 6)) zU_X5 1 (by decide) wF_X5_9 rfl rfl dX5_copyFrom_9 ?_
  refine lv_iconst (v := (0 : Int32)) hx hb dX5_copyFrom_12 (by decide) ?_
  refine lv_aload_n hx hb dX5_copyFrom_13 rfl (lv_at hl 0 rfl) ?_
  refine z_get X Z 0 rfl (rfl : zCl[4]? = some (RX5, TX5, 6)) zU_X5 1 (by decide) wF_X5_9 rfl rfl dX5_copyFrom_14 ?_
  refine lv_iconst (v := (0 : Int32)) hx hb dX5_copyFrom_17 (by decide) ?_
  refine lv_bipush (v := (8 : Int32)) hx hb dX5_copyFrom_18 (by decide) ?_
  refine z_copyi (cs2 := [wRos g ad r2S (va_cpy r2St rSt 0 0 8) rHo rE rEl rEh, wRos g bd r2S r2St r2Ho r2E r2El r2Eh]) (n := 8) (f := r2St) (g9 := rSt) X Z 6 1 rfl rfl hl.1 wM_X5_28 rfl (by omega) (by omega) (by decide) (by decide) (by rw [hRf]; decide) (by rw [hRl]; decide) rfl dX5_copyFrom_20 (fun H locs Z => ?_)
  refine lv_aload_n hx hb dX5_copyFrom_23 rfl (lv_at hl 1 rfl) ?_
  refine z_get X Z 5 rfl (rfl : zCl[4]? = some (RX5, TX5, 6)) zU_X5 2 (by decide) wF_X5_15 rfl rfl dX5_copyFrom_24 ?_
  refine lv_iconst (v := (0 : Int32)) hx hb dX5_copyFrom_27 (by decide) ?_
  refine lv_aload_n hx hb dX5_copyFrom_28 rfl (lv_at hl 0 rfl) ?_
  refine z_get X Z 0 rfl (rfl : zCl[4]? = some (RX5, TX5, 6)) zU_X5 2 (by decide) wF_X5_15 rfl rfl dX5_copyFrom_29 ?_
  refine lv_iconst (v := (0 : Int32)) hx hb dX5_copyFrom_32 (by decide) ?_
  refine lv_bipush (v := (8 : Int32)) hx hb dX5_copyFrom_33 (by decide) ?_
  refine z_copyi (cs2 := [wRos g ad r2S (va_cpy r2St rSt 0 0 8) (va_cpy r2Ho rHo 0 0 8) rE rEl rEh, wRos g bd r2S r2St r2Ho r2E r2El r2Eh]) (n := 8) (f := r2Ho) (g9 := rHo) X Z 7 2 rfl rfl hl.1 wM_X5_28 rfl (by omega) (by omega) (by decide) (by decide) (by rw [hRf]; decide) (by rw [hRl]; decide) rfl dX5_copyFrom_35 (fun H locs Z => ?_)
  refine lv_aload_n hx hb dX5_copyFrom_38 rfl (lv_at hl 0 rfl) ?_
  refine lv_aload_n hx hb dX5_copyFrom_39 rfl (lv_at hl 1 rfl) ?_
  refine z_get X Z 5 rfl (rfl : zCl[4]? = some (RX5, TX5, 6)) zU_X5 3 (by decide) wF_X5_34 rfl rfl dX5_copyFrom_40 ?_
  refine z_put (cs2 := [wRos g ad r2S (va_cpy r2St rSt 0 0 8) (va_cpy r2Ho rHo 0 0 8) r2E rEl rEh, wRos g bd r2S r2St r2Ho r2E r2El r2Eh]) (v := .int (nI r2E)) X Z 0 rfl (rfl : zCl[4]? = some (RX5, TX5, 6)) zU_X5 tyX5 tyX5_ok nmX5 3 (by decide) wF_X5_34 rfl rfl rfl rfl (Nat.le_of_ble_eq_true rfl) rfl dX5_copyFrom_43 (fun H locs Z => ?_)
  refine lv_aload_n hx hb dX5_copyFrom_46 rfl (lv_at hl 1 rfl) ?_
  refine z_get X Z 5 rfl (rfl : zCl[4]? = some (RX5, TX5, 6)) zU_X5 4 (by decide) wF_X5_18 rfl rfl dX5_copyFrom_47 ?_
  refine lv_iconst (v := (0 : Int32)) hx hb dX5_copyFrom_50 (by decide) ?_
  refine lv_aload_n hx hb dX5_copyFrom_51 rfl (lv_at hl 0 rfl) ?_
  refine z_get X Z 0 rfl (rfl : zCl[4]? = some (RX5, TX5, 6)) zU_X5 4 (by decide) wF_X5_18 rfl rfl dX5_copyFrom_52 ?_
  refine lv_iconst (v := (0 : Int32)) hx hb dX5_copyFrom_55 (by decide) ?_
  refine lv_bipush (v := (8 : Int32)) hx hb dX5_copyFrom_56 (by decide) ?_
  refine z_copyi (cs2 := [wRos g ad r2S (va_cpy r2St rSt 0 0 8) (va_cpy r2Ho rHo 0 0 8) r2E (va_cpy r2El rEl 0 0 8) rEh, wRos g bd r2S r2St r2Ho r2E r2El r2Eh]) (n := 8) (f := r2El) (g9 := rEl) X Z 8 3 rfl rfl hl.1 wM_X5_28 rfl (by omega) (by omega) (by decide) (by decide) (by rw [hRf]; decide) (by rw [hRl]; decide) rfl dX5_copyFrom_58 (fun H locs Z => ?_)
  refine lv_aload_n hx hb dX5_copyFrom_61 rfl (lv_at hl 1 rfl) ?_
  refine z_get X Z 5 rfl (rfl : zCl[4]? = some (RX5, TX5, 6)) zU_X5 5 (by decide) wF_X5_21 rfl rfl dX5_copyFrom_62 ?_
  refine lv_iconst (v := (0 : Int32)) hx hb dX5_copyFrom_65 (by decide) ?_
  refine lv_aload_n hx hb dX5_copyFrom_66 rfl (lv_at hl 0 rfl) ?_
  refine z_get X Z 0 rfl (rfl : zCl[4]? = some (RX5, TX5, 6)) zU_X5 5 (by decide) wF_X5_21 rfl rfl dX5_copyFrom_67 ?_
  refine lv_iconst (v := (0 : Int32)) hx hb dX5_copyFrom_70 (by decide) ?_
  refine lv_bipush (v := (8 : Int32)) hx hb dX5_copyFrom_71 (by decide) ?_
  refine z_copyi (cs2 := [wRos g ad r2S (va_cpy r2St rSt 0 0 8) (va_cpy r2Ho rHo 0 0 8) r2E (va_cpy r2El rEl 0 0 8) (va_cpy r2Eh rEh 0 0 8), wRos g bd r2S r2St r2Ho r2E r2El r2Eh]) (n := 8) (f := r2Eh) (g9 := rEh) X Z 9 4 rfl rfl hl.1 wM_X5_28 rfl (by omega) (by omega) (by decide) (by decide) (by rw [hRf]; decide) (by rw [hRl]; decide) rfl dX5_copyFrom_73 (fun H locs Z => ?_)
  exact z_rv E Z (by rw [zf_X5_copyFrom_e]; dsimp only; exact ⟨rfl, rfl⟩) dX5_copyFrom_76 (Nat.zero_le _) (Nat.zero_le _)
def zf_X5_appendSupporter (rS : Nat) (rSt : Nat → Int32) (rHo : Nat → Int32) (x : Int32) (y : Int32) : Nat × Nat × (Nat → Int32) × (Nat → Int32) := (rS, (rS + 1), (upd rSt rS x), (upd rHo rS y))
theorem zf_X5_appendSupporter_e (rS : Nat) (rSt : Nat → Int32) (rHo : Nat → Int32) (x : Int32) (y : Int32) : zf_X5_appendSupporter rS rSt rHo x y = (rS, (rS + 1), (upd rSt rS x), (upd rHo rS y)) := rfl
set_option maxHeartbeats 4000000 in
set_option maxRecDepth 100000 in
theorem zc_X5_appendSupporter (l : Launch) (g : zG) (B : Nat) (ad : Nat → Nat) (rS : Nat) (rSt : Nat → Int32) (rHo : Nat → Int32) (rE : Nat) (rEl : Nat → Int32) (rEh : Nat → Int32) (x : Int32) (y : Int32) (hr : rS < 8) : zMet l g B yX5_appendSupporter cX5_appendSupporter 4 (some .int) 1 60 0 0 [.ref (ad 21), .int x, .int y] [wRos g ad rS rSt rHo rE rEl rEh] (zDet (some (.int (nI ((zf_X5_appendSupporter rS rSt rHo x y).1)))) [wRos g ad ((zf_X5_appendSupporter rS rSt rHo x y).2.1) ((zf_X5_appendSupporter rS rSt rHo x y).2.2.1) ((zf_X5_appendSupporter rS rSt rHo x y).2.2.2) rE rEl rEh]) := by
  refine z_in (plainFor_of_name (by decide)) (Nat.le_of_ble_eq_true rfl) (fun p e R s m args below meth c A Q hRf hRl hRc hRs X Z hnm E ls hl => ?_)
  have hx := X.1
  have hb := X.2.1
  have hown := X.2.2.2.1
  have hts := X.2.2.2.2.1
  have hl : lv_has ls 4 [(0, .ref (ad 21)), (1, .int x), (2, .int y)] := hl
  refine lv_aload_n hx hb dX5_appendSupporter_0 rfl (lv_at hl 0 rfl) ?_
  refine z_get X Z 0 rfl (rfl : zCl[4]? = some (RX5, TX5, 6)) zU_X5 0 (by decide) wF_X5_24 rfl rfl dX5_appendSupporter_1 ?_
  refine lv_istore_n (lv' := [(3, .int (nI rS)), (0, .ref (ad 21)), (1, .int x), (2, .int y)]) hx hb dX5_appendSupporter_4 rfl hl (by decide) rfl (fun ls hl => ?_)
  refine lv_aload_n hx hb dX5_appendSupporter_5 rfl (lv_at hl 1 rfl) ?_
  refine z_get X Z 0 rfl (rfl : zCl[4]? = some (RX5, TX5, 6)) zU_X5 1 (by decide) wF_X5_9 rfl rfl dX5_appendSupporter_6 ?_
  refine lv_iload_n hx hb dX5_appendSupporter_9 rfl (lv_at hl 0 rfl) ?_
  refine lv_iload_n hx hb dX5_appendSupporter_10 rfl (lv_at hl 2 rfl) ?_
  refine z_iast (cs2 := [wRos g ad rS (upd rSt rS x) rHo rE rEl rEh]) (j := rS) (x := x) X Z 1 rfl rfl (by omega) (by decide) rfl dX5_appendSupporter_11 (fun H locs Z => ?_)
  refine lv_aload_n hx hb dX5_appendSupporter_12 rfl (lv_at hl 1 rfl) ?_
  refine z_get X Z 0 rfl (rfl : zCl[4]? = some (RX5, TX5, 6)) zU_X5 2 (by decide) wF_X5_15 rfl rfl dX5_appendSupporter_13 ?_
  refine lv_iload_n hx hb dX5_appendSupporter_16 rfl (lv_at hl 0 rfl) ?_
  refine lv_iload_n hx hb dX5_appendSupporter_17 rfl (lv_at hl 3 rfl) ?_
  refine z_iast (cs2 := [wRos g ad rS (upd rSt rS x) (upd rHo rS y) rE rEl rEh]) (j := rS) (x := y) X Z 2 rfl rfl (by omega) (by decide) rfl dX5_appendSupporter_18 (fun H locs Z => ?_)
  refine lv_aload_n hx hb dX5_appendSupporter_19 rfl (lv_at hl 1 rfl) ?_
  refine lv_dup hx hb dX5_appendSupporter_20 rfl ?_
  refine z_get X Z 0 rfl (rfl : zCl[4]? = some (RX5, TX5, 6)) zU_X5 0 (by decide) wF_X5_24 rfl rfl dX5_appendSupporter_21 ?_
  refine lv_iconst (v := (1 : Int32)) hx hb dX5_appendSupporter_24 (by decide) ?_
  refine z_iadd (a := rS) (b := 1) X rfl rfl dX5_appendSupporter_25 ?_
  refine z_put (cs2 := [wRos g ad (rS + 1) (upd rSt rS x) (upd rHo rS y) rE rEl rEh]) (v := .int (nI (rS + 1))) X Z 0 rfl (rfl : zCl[4]? = some (RX5, TX5, 6)) zU_X5 tyX5 tyX5_ok nmX5 0 (by decide) wF_X5_24 rfl rfl rfl rfl (Nat.le_of_ble_eq_true rfl) rfl dX5_appendSupporter_26 (fun H locs Z => ?_)
  refine lv_iload_n hx hb dX5_appendSupporter_29 rfl (lv_at hl 0 rfl) ?_
  exact z_ri (v := nI rS) E Z rfl (by rw [zf_X5_appendSupporter_e]; dsimp only; exact ⟨rfl, rfl⟩) dX5_appendSupporter_30 (Nat.zero_le _) (Nat.zero_le _)
def zf_X5_appendSession (rE : Nat) (rEl : Nat → Int32) (rEh : Nat → Int32) (x : Int32) (y : Int32) : Nat × Nat × (Nat → Int32) × (Nat → Int32) := (rE, (rE + 1), (upd rEl rE x), (upd rEh rE y))
theorem zf_X5_appendSession_e (rE : Nat) (rEl : Nat → Int32) (rEh : Nat → Int32) (x : Int32) (y : Int32) : zf_X5_appendSession rE rEl rEh x y = (rE, (rE + 1), (upd rEl rE x), (upd rEh rE y)) := rfl
set_option maxHeartbeats 4000000 in
set_option maxRecDepth 100000 in
theorem zc_X5_appendSession (l : Launch) (g : zG) (B : Nat) (ad : Nat → Nat) (rS : Nat) (rSt : Nat → Int32) (rHo : Nat → Int32) (rE : Nat) (rEl : Nat → Int32) (rEh : Nat → Int32) (x : Int32) (y : Int32) (hr : rE < 8) : zMet l g B yX5_appendSession cX5_appendSession 4 (some .int) 1 60 0 0 [.ref (ad 21), .int x, .int y] [wRos g ad rS rSt rHo rE rEl rEh] (zDet (some (.int (nI ((zf_X5_appendSession rE rEl rEh x y).1)))) [wRos g ad rS rSt rHo ((zf_X5_appendSession rE rEl rEh x y).2.1) ((zf_X5_appendSession rE rEl rEh x y).2.2.1) ((zf_X5_appendSession rE rEl rEh x y).2.2.2)]) := by
  refine z_in (plainFor_of_name (by decide)) (Nat.le_of_ble_eq_true rfl) (fun p e R s m args below meth c A Q hRf hRl hRc hRs X Z hnm E ls hl => ?_)
  have hx := X.1
  have hb := X.2.1
  have hown := X.2.2.2.1
  have hts := X.2.2.2.2.1
  have hl : lv_has ls 4 [(0, .ref (ad 21)), (1, .int x), (2, .int y)] := hl
  refine lv_aload_n hx hb dX5_appendSession_0 rfl (lv_at hl 0 rfl) ?_
  refine z_get X Z 0 rfl (rfl : zCl[4]? = some (RX5, TX5, 6)) zU_X5 3 (by decide) wF_X5_34 rfl rfl dX5_appendSession_1 ?_
  refine lv_istore_n (lv' := [(3, .int (nI rE)), (0, .ref (ad 21)), (1, .int x), (2, .int y)]) hx hb dX5_appendSession_4 rfl hl (by decide) rfl (fun ls hl => ?_)
  refine lv_aload_n hx hb dX5_appendSession_5 rfl (lv_at hl 1 rfl) ?_
  refine z_get X Z 0 rfl (rfl : zCl[4]? = some (RX5, TX5, 6)) zU_X5 4 (by decide) wF_X5_18 rfl rfl dX5_appendSession_6 ?_
  refine lv_iload_n hx hb dX5_appendSession_9 rfl (lv_at hl 0 rfl) ?_
  refine lv_iload_n hx hb dX5_appendSession_10 rfl (lv_at hl 2 rfl) ?_
  refine z_iast (cs2 := [wRos g ad rS rSt rHo rE (upd rEl rE x) rEh]) (j := rE) (x := x) X Z 3 rfl rfl (by omega) (by decide) rfl dX5_appendSession_11 (fun H locs Z => ?_)
  refine lv_aload_n hx hb dX5_appendSession_12 rfl (lv_at hl 1 rfl) ?_
  refine z_get X Z 0 rfl (rfl : zCl[4]? = some (RX5, TX5, 6)) zU_X5 5 (by decide) wF_X5_21 rfl rfl dX5_appendSession_13 ?_
  refine lv_iload_n hx hb dX5_appendSession_16 rfl (lv_at hl 0 rfl) ?_
  refine lv_iload_n hx hb dX5_appendSession_17 rfl (lv_at hl 3 rfl) ?_
  refine z_iast (cs2 := [wRos g ad rS rSt rHo rE (upd rEl rE x) (upd rEh rE y)]) (j := rE) (x := y) X Z 4 rfl rfl (by omega) (by decide) rfl dX5_appendSession_18 (fun H locs Z => ?_)
  refine lv_aload_n hx hb dX5_appendSession_19 rfl (lv_at hl 1 rfl) ?_
  refine lv_dup hx hb dX5_appendSession_20 rfl ?_
  refine z_get X Z 0 rfl (rfl : zCl[4]? = some (RX5, TX5, 6)) zU_X5 3 (by decide) wF_X5_34 rfl rfl dX5_appendSession_21 ?_
  refine lv_iconst (v := (1 : Int32)) hx hb dX5_appendSession_24 (by decide) ?_
  refine z_iadd (a := rE) (b := 1) X rfl rfl dX5_appendSession_25 ?_
  refine z_put (cs2 := [wRos g ad rS rSt rHo (rE + 1) (upd rEl rE x) (upd rEh rE y)]) (v := .int (nI (rE + 1))) X Z 0 rfl (rfl : zCl[4]? = some (RX5, TX5, 6)) zU_X5 tyX5 tyX5_ok nmX5 3 (by decide) wF_X5_34 rfl rfl rfl rfl (Nat.le_of_ble_eq_true rfl) rfl dX5_appendSession_26 (fun H locs Z => ?_)
  refine lv_iload_n hx hb dX5_appendSession_29 rfl (lv_at hl 0 rfl) ?_
  exact z_ri (v := nI rE) E Z rfl (by rw [zf_X5_appendSession_e]; dsimp only; exact ⟨rfl, rfl⟩) dX5_appendSession_30 (Nat.zero_le _) (Nat.zero_le _)
def zf_X5_removeAll (rS : Nat) (rE : Nat) : Nat × Nat × Nat := ((rS + rE), 0, 0)
theorem zf_X5_removeAll_e (rS : Nat) (rE : Nat) : zf_X5_removeAll rS rE = ((rS + rE), 0, 0) := rfl
set_option maxHeartbeats 4000000 in
set_option maxRecDepth 100000 in
theorem zc_X5_removeAll (l : Launch) (g : zG) (B : Nat) (ad : Nat → Nat) (rS : Nat) (rSt : Nat → Int32) (rHo : Nat → Int32) (rE : Nat) (rEl : Nat → Int32) (rEh : Nat → Int32) : zMet l g B yX5_removeAll cX5_removeAll 2 (some .int) 1 60 0 0 [.ref (ad 21)] [wRos g ad rS rSt rHo rE rEl rEh] (zDet (some (.int (nI ((zf_X5_removeAll rS rE).1)))) [wRos g ad ((zf_X5_removeAll rS rE).2.1) rSt rHo ((zf_X5_removeAll rS rE).2.2) rEl rEh]) := by
  refine z_in (plainFor_of_name (by decide)) (Nat.le_of_ble_eq_true rfl) (fun p e R s m args below meth c A Q hRf hRl hRc hRs X Z hnm E ls hl => ?_)
  have hx := X.1
  have hb := X.2.1
  have hown := X.2.2.2.1
  have hts := X.2.2.2.2.1
  have hl : lv_has ls 2 [(0, .ref (ad 21))] := hl
  refine lv_aload_n hx hb dX5_removeAll_0 rfl (lv_at hl 0 rfl) ?_
  refine z_get X Z 0 rfl (rfl : zCl[4]? = some (RX5, TX5, 6)) zU_X5 0 (by decide) wF_X5_24 rfl rfl dX5_removeAll_1 ?_
  refine lv_aload_n hx hb dX5_removeAll_4 rfl (lv_at hl 0 rfl) ?_
  refine z_get X Z 0 rfl (rfl : zCl[4]? = some (RX5, TX5, 6)) zU_X5 3 (by decide) wF_X5_34 rfl rfl dX5_removeAll_5 ?_
  refine z_iadd (a := rS) (b := rE) X rfl rfl dX5_removeAll_8 ?_
  refine lv_istore_n (lv' := [(1, .int (nI (rS + rE))), (0, .ref (ad 21))]) hx hb dX5_removeAll_9 rfl hl (by decide) rfl (fun ls hl => ?_)
  refine lv_aload_n hx hb dX5_removeAll_10 rfl (lv_at hl 1 rfl) ?_
  refine lv_iconst (v := (0 : Int32)) hx hb dX5_removeAll_11 (by decide) ?_
  refine z_put (cs2 := [wRos g ad 0 rSt rHo rE rEl rEh]) (v := .int (nI 0)) X Z 0 rfl (rfl : zCl[4]? = some (RX5, TX5, 6)) zU_X5 tyX5 tyX5_ok nmX5 0 (by decide) wF_X5_24 rfl rfl rfl rfl (Nat.le_of_ble_eq_true rfl) rfl dX5_removeAll_12 (fun H locs Z => ?_)
  refine lv_aload_n hx hb dX5_removeAll_15 rfl (lv_at hl 1 rfl) ?_
  refine lv_iconst (v := (0 : Int32)) hx hb dX5_removeAll_16 (by decide) ?_
  refine z_put (cs2 := [wRos g ad 0 rSt rHo 0 rEl rEh]) (v := .int (nI 0)) X Z 0 rfl (rfl : zCl[4]? = some (RX5, TX5, 6)) zU_X5 tyX5 tyX5_ok nmX5 3 (by decide) wF_X5_34 rfl rfl rfl rfl (Nat.le_of_ble_eq_true rfl) rfl dX5_removeAll_17 (fun H locs Z => ?_)
  refine lv_iload_n hx hb dX5_removeAll_20 rfl (lv_at hl 0 rfl) ?_
  exact z_ri (v := nI (rS + rE)) E Z rfl (by rw [zf_X5_removeAll_e]; dsimp only; exact ⟨rfl, rfl⟩) dX5_removeAll_21 (Nat.zero_le _) (Nat.zero_le _)
def zf_X5_canTake (rSt : Nat → Int32) (rHo : Nat → Int32) (rEl : Nat → Int32) (rEh : Nat → Int32) (k : Nat) (t : Nat) : Bool := (if (((rHo k) >>> ((rEh t) &&& 31)) &&& (1 : Int32)) = (1 : Int32) then (if (rSt k) < (rEl t) then false else true) else false)
theorem zf_X5_canTake_e (rSt : Nat → Int32) (rHo : Nat → Int32) (rEl : Nat → Int32) (rEh : Nat → Int32) (k : Nat) (t : Nat) : zf_X5_canTake rSt rHo rEl rEh k t = (if (((rHo k) >>> ((rEh t) &&& 31)) &&& (1 : Int32)) = (1 : Int32) then (if (rSt k) < (rEl t) then false else true) else false) := rfl
set_option maxHeartbeats 4000000 in
set_option maxRecDepth 100000 in
theorem zc_X5_canTake (l : Launch) (g : zG) (B : Nat) (ad : Nat → Nat) (rS : Nat) (rSt : Nat → Int32) (rHo : Nat → Int32) (rE : Nat) (rEl : Nat → Int32) (rEh : Nat → Int32) (k : Nat) (t : Nat) (hk : k < 8) (ht : t < 8) : zMet l g B yX5_canTake cX5_canTake 4 (some .boolean) 1 60 0 0 [.ref (ad 21), .int (nI k), .int (nI t)] [wRos g ad rS rSt rHo rE rEl rEh] (zDet (some (.int (zB (zf_X5_canTake rSt rHo rEl rEh k t)))) [wRos g ad rS rSt rHo rE rEl rEh]) := by
  refine z_in (plainFor_of_name (by decide)) (Nat.le_of_ble_eq_true rfl) (fun p e R s m args below meth c A Q hRf hRl hRc hRs X Z hnm E ls hl => ?_)
  have hx := X.1
  have hb := X.2.1
  have hown := X.2.2.2.1
  have hts := X.2.2.2.2.1
  have hl : lv_has ls 4 [(0, .ref (ad 21)), (1, .int (nI k)), (2, .int (nI t))] := hl
  refine lv_aload_n hx hb dX5_canTake_0 rfl (lv_at hl 0 rfl) ?_
  refine z_get X Z 0 rfl (rfl : zCl[4]? = some (RX5, TX5, 6)) zU_X5 2 (by decide) wF_X5_15 rfl rfl dX5_canTake_1 ?_
  refine lv_iload_n hx hb dX5_canTake_4 rfl (lv_at hl 1 rfl) ?_
  refine z_iald (j := k) X Z 2 rfl rfl (by omega) (by decide) dX5_canTake_5 ?_
  refine lv_aload_n hx hb dX5_canTake_6 rfl (lv_at hl 0 rfl) ?_
  refine z_get X Z 0 rfl (rfl : zCl[4]? = some (RX5, TX5, 6)) zU_X5 5 (by decide) wF_X5_21 rfl rfl dX5_canTake_7 ?_
  refine lv_iload_n hx hb dX5_canTake_10 rfl (lv_at hl 2 rfl) ?_
  refine z_iald (j := t) X Z 4 rfl rfl (by omega) (by decide) dX5_canTake_11 ?_
  refine lv_ishr hx hb dX5_canTake_12 ?_
  refine lv_iconst (v := (1 : Int32)) hx hb dX5_canTake_13 (by decide) ?_
  refine lv_iand hx hb dX5_canTake_14 ?_
  refine lv_iconst (v := (1 : Int32)) hx hb dX5_canTake_15 (by decide) ?_
  refine lv_icmp_ne (tgt := 23) hx hb dX5_canTake_16 (by decide) (fun c_1 => ?_) (fun c_1 => ?_)
  · refine lv_iconst (v := (0 : Int32)) hx hb dX5_canTake_23 (by decide) ?_
    refine lv_istore_n (lv' := [(3, .int (0 : Int32)), (0, .ref (ad 21)), (1, .int (nI k)), (2, .int (nI t))]) hx hb dX5_canTake_24 rfl hl (by decide) rfl (fun ls hl => ?_)
    refine lv_iload_n hx hb dX5_canTake_25 rfl (lv_at hl 0 rfl) ?_
    refine lv_if_eq (tgt := 48) hx hb dX5_canTake_26 (by decide) (fun c_2 => ?_) (fun c_2 => ?_)
    · refine lv_iconst (v := (0 : Int32)) hx hb dX5_canTake_48 (by decide) ?_
      exact z_ri (v := zB false) E Z (zB_narrow _) (by rw [zf_X5_canTake_e, if_neg c_1]; exact ⟨rfl, rfl⟩) dX5_canTake_49 (Nat.zero_le _) (Nat.zero_le _)
    · (exact absurd c_2 (by decide))
  · refine lv_iconst (v := (1 : Int32)) hx hb dX5_canTake_19 (by decide) ?_
    refine lv_goto (tgt := 24) hx hb dX5_canTake_20 (by decide) ?_
    refine lv_istore_n (lv' := [(3, .int (1 : Int32)), (0, .ref (ad 21)), (1, .int (nI k)), (2, .int (nI t))]) hx hb dX5_canTake_24 rfl hl (by decide) rfl (fun ls hl => ?_)
    refine lv_iload_n hx hb dX5_canTake_25 rfl (lv_at hl 0 rfl) ?_
    refine lv_if_eq (tgt := 48) hx hb dX5_canTake_26 (by decide) (fun c_3 => ?_) (fun c_3 => ?_)
    · (exact absurd c_3 (by decide))
    · refine lv_aload_n hx hb dX5_canTake_29 rfl (lv_at hl 1 rfl) ?_
      refine z_get X Z 0 rfl (rfl : zCl[4]? = some (RX5, TX5, 6)) zU_X5 1 (by decide) wF_X5_9 rfl rfl dX5_canTake_30 ?_
      refine lv_iload_n hx hb dX5_canTake_33 rfl (lv_at hl 2 rfl) ?_
      refine z_iald (j := k) X Z 1 rfl rfl (by omega) (by decide) dX5_canTake_34 ?_
      refine lv_aload_n hx hb dX5_canTake_35 rfl (lv_at hl 1 rfl) ?_
      refine z_get X Z 0 rfl (rfl : zCl[4]? = some (RX5, TX5, 6)) zU_X5 4 (by decide) wF_X5_18 rfl rfl dX5_canTake_36 ?_
      refine lv_iload_n hx hb dX5_canTake_39 rfl (lv_at hl 3 rfl) ?_
      refine z_iald (j := t) X Z 3 rfl rfl (by omega) (by decide) dX5_canTake_40 ?_
      refine lv_icmp_lt (tgt := 48) hx hb dX5_canTake_41 (by decide) (fun c_4 => ?_) (fun c_4 => ?_)
      · refine lv_iconst (v := (0 : Int32)) hx hb dX5_canTake_48 (by decide) ?_
        exact z_ri (v := zB false) E Z (zB_narrow _) (by rw [zf_X5_canTake_e, if_pos c_1, if_pos c_4]; exact ⟨rfl, rfl⟩) dX5_canTake_49 (Nat.zero_le _) (Nat.zero_le _)
      · refine lv_iconst (v := (1 : Int32)) hx hb dX5_canTake_44 (by decide) ?_
        refine lv_goto (tgt := 49) hx hb dX5_canTake_45 (by decide) ?_
        exact z_ri (v := zB true) E Z (zB_narrow _) (by rw [zf_X5_canTake_e, if_pos c_1, if_neg c_4]; exact ⟨rfl, rfl⟩) dX5_canTake_49 (Nat.zero_le _) (Nat.zero_le _)
def zl_X5_mixedInto_74 (rEl : Nat → Int32) (rEh : Nat → Int32) (qT : Nat → Int32) : Nat → Nat → Int64 → Int64
  | 0, _, x4 => x4
  | n74 + 1, j74, x4 => zl_X5_mixedInto_74 rEl rEh qT n74 (j74 + 1) (zf_X8_mix (zf_X8_mix (zf_X8_mix x4 ((rEl j74).toInt64)) ((rEh j74).toInt64)) ((qT j74).toInt64))
theorem zl_X5_mixedInto_74_s (rEl : Nat → Int32) (rEh : Nat → Int32) (qT : Nat → Int32) (n74 : Nat) (j74 : Nat) (x4 : Int64) : zl_X5_mixedInto_74 rEl rEh qT (n74 + 1) j74 x4 = zl_X5_mixedInto_74 rEl rEh qT n74 (j74 + 1) (zf_X8_mix (zf_X8_mix (zf_X8_mix x4 ((rEl j74).toInt64)) ((rEh j74).toInt64)) ((qT j74).toInt64)) := rfl
def zl_X5_mixedInto_14 (rSt : Nat → Int32) (rHo : Nat → Int32) : Nat → Nat → Int64 → Int64
  | 0, _, x4 => x4
  | n14 + 1, j14, x4 => zl_X5_mixedInto_14 rSt rHo n14 (j14 + 1) (zf_X8_mix (zf_X8_mix x4 ((rSt j14).toInt64)) ((rHo j14).toInt64))
theorem zl_X5_mixedInto_14_s (rSt : Nat → Int32) (rHo : Nat → Int32) (n14 : Nat) (j14 : Nat) (x4 : Int64) : zl_X5_mixedInto_14 rSt rHo (n14 + 1) j14 x4 = zl_X5_mixedInto_14 rSt rHo n14 (j14 + 1) (zf_X8_mix (zf_X8_mix x4 ((rSt j14).toInt64)) ((rHo j14).toInt64)) := rfl
def zf_X5_mixedInto (rS : Nat) (rSt : Nat → Int32) (rHo : Nat → Int32) (rE : Nat) (rEl : Nat → Int32) (rEh : Nat → Int32) (h : Int64) (qT : Nat → Int32) : Int64 := (zl_X5_mixedInto_74 rEl rEh qT rE 0 (zf_X8_mix (zl_X5_mixedInto_14 rSt rHo rS 0 (zf_X8_mix h (lN rS))) (lN rE)))
theorem zf_X5_mixedInto_e (rS : Nat) (rSt : Nat → Int32) (rHo : Nat → Int32) (rE : Nat) (rEl : Nat → Int32) (rEh : Nat → Int32) (h : Int64) (qT : Nat → Int32) : zf_X5_mixedInto rS rSt rHo rE rEl rEh h qT = (zl_X5_mixedInto_74 rEl rEh qT rE 0 (zf_X8_mix (zl_X5_mixedInto_14 rSt rHo rS 0 (zf_X8_mix h (lN rS))) (lN rE))) := rfl
set_option maxHeartbeats 4000000 in
set_option maxRecDepth 100000 in
theorem zc_X5_mixedInto (l : Launch) (g : zG) (B : Nat) (ad : Nat → Nat) (rS : Nat) (rSt : Nat → Int32) (rHo : Nat → Int32) (rE : Nat) (rEl : Nat → Int32) (rEh : Nat → Int32) (h : Int64) (qd : Nat → Nat) (qM : Nat → Nat → Int32) (qT : Nat → Int32) (qC : Int32) (hs : rS ≤ 8) (he : rE ≤ 8) : zMet l g B yX5_mixedInto cX5_mixedInto 7 (some .long) 2 60 0 0 [.ref (ad 21), .long h, .ref (qd 0)] [wRos g ad rS rSt rHo rE rEl rEh, wAsg g qd qM qT qC] (zDet (some (.long (zf_X5_mixedInto rS rSt rHo rE rEl rEh h qT))) [wRos g ad rS rSt rHo rE rEl rEh, wAsg g qd qM qT qC]) := by
  refine z_in (plainFor_of_name (by decide)) (Nat.le_of_ble_eq_true rfl) (fun p e R s m args below meth c A Q hRf hRl hRc hRs X Z hnm E ls hl => ?_)
  have hx := X.1
  have hb := X.2.1
  have hown := X.2.2.2.1
  have hts := X.2.2.2.2.1
  have hl : lv_has ls 7 [(0, .ref (ad 21)), (1, .long h), (3, .ref (qd 0))] := hl
  refine lv_lload_n hx hb dX5_mixedInto_0 rfl (lv_at hl 1 rfl) ?_
  refine lv_aload_n hx hb dX5_mixedInto_1 rfl (lv_at hl 0 rfl) ?_
  refine z_get X Z 0 rfl (rfl : zCl[4]? = some (RX5, TX5, 6)) zU_X5 0 (by decide) wF_X5_24 rfl rfl dX5_mixedInto_2 ?_
  refine z_i2l (a := rS) X rfl (by omega) dX5_mixedInto_5 ?_
  refine z_callSN (mc := 0) (ms := 0) (As := [.long h, .long (lN rS)]) (rest := []) (st2 := [.long (zf_X8_mix h (lN rS))]) (cs2 := [wRos g ad rS rSt rHo rE rEl rEh, wAsg g qd qM qT qC]) X Z [] [0, 1] [0, 1] (zc_X8_mix l g B h (lN rS)) (by decide +kernel : Cond.methodLinkNest RX5 37 yX8_mix "TripodScale" ∈ zNw) wS_X8_mix wK_X8_mix wZ_X8 2 2 2 rfl (by decide +kernel) rfl (by decide) rfl rfl rfl (by decide) rfl hl.1 rfl rfl (by rw [hRf, hRl]; exact ⟨Nat.le_of_ble_eq_true rfl, Nat.le_of_ble_eq_true rfl⟩) (Nat.le_of_ble_eq_true rfl) ⟨Nat.zero_le _, Nat.zero_le _⟩ dX5_mixedInto_6 (fun H locs Z => ?_)
  refine lv_lstore (lv' := [(4, .long (zf_X8_mix h (lN rS))), (0, .ref (ad 21)), (1, .long h), (3, .ref (qd 0))]) hx hb dX5_mixedInto_9 hl (by decide) rfl (fun ls hl => ?_)
  refine lv_iconst (v := (0 : Int32)) hx hb dX5_mixedInto_11 (by decide) ?_
  refine lv_istore (lv' := [(6, .int (0 : Int32)), (4, .long (zf_X8_mix h (lN rS))), (0, .ref (ad 21)), (1, .long h), (3, .ref (qd 0))]) hx hb dX5_mixedInto_12 hl (by decide) rfl (fun ls hl => ?_)
  have loop_14 : ∀ (n14 j14 : Nat) (x4 : Int64), j14 + n14 = rS → zl_X5_mixedInto_14 rSt rHo n14 j14 x4 = (zl_X5_mixedInto_14 rSt rHo rS 0 (zf_X8_mix h (lN rS))) → ∀ (H : Heap) (locs : List Loc), zM g B A s [wRos g ad rS rSt rHo rE rEl rEh, wAsg g qd qM qT qC] H locs → ∀ ls : Array Slot, lv_has ls 7 [(6, .int (nI j14)), (4, .long x4), (0, .ref (ad 21)), (1, .long h), (3, .ref (qd 0))] → W p l e R s m args below meth c H locs 0 0 Q (F0 m 14 ls []) := by
    intro n14
    induction n14 with
    | zero =>
      intro j14 x4 hin14 hR14 H locs Z ls hl
      have e_x4 : (zl_X5_mixedInto_14 rSt rHo rS 0 (zf_X8_mix h (lN rS))) = x4 := hR14.symm
      subst e_x4
      refine lv_iload hx hb dX5_mixedInto_14 (lv_at hl 0 rfl) ?_
      refine lv_aload_n hx hb dX5_mixedInto_16 rfl (lv_at hl 2 rfl) ?_
      refine z_get X Z 0 rfl (rfl : zCl[4]? = some (RX5, TX5, 6)) zU_X5 0 (by decide) wF_X5_24 rfl rfl dX5_mixedInto_17 ?_
      refine z_icmp_ge (a := j14) (b := rS) (tgt := 59) X rfl rfl (by omega) (by omega) dX5_mixedInto_20 (by decide) (fun c_1 => ?_) (fun c_1 => ?_)
      · refine lv_lload hx hb dX5_mixedInto_59 (lv_at hl 1 rfl) ?_
        refine lv_aload_n hx hb dX5_mixedInto_61 rfl (lv_at hl 2 rfl) ?_
        refine z_get X Z 0 rfl (rfl : zCl[4]? = some (RX5, TX5, 6)) zU_X5 3 (by decide) wF_X5_34 rfl rfl dX5_mixedInto_62 ?_
        refine z_i2l (a := rE) X rfl (by omega) dX5_mixedInto_65 ?_
        refine z_callSN (mc := 0) (ms := 0) (As := [.long (zl_X5_mixedInto_14 rSt rHo rS 0 (zf_X8_mix h (lN rS))), .long (lN rE)]) (rest := []) (st2 := [.long (zf_X8_mix (zl_X5_mixedInto_14 rSt rHo rS 0 (zf_X8_mix h (lN rS))) (lN rE))]) (cs2 := [wRos g ad rS rSt rHo rE rEl rEh, wAsg g qd qM qT qC]) X Z [] [0, 1] [0, 1] (zc_X8_mix l g B (zl_X5_mixedInto_14 rSt rHo rS 0 (zf_X8_mix h (lN rS))) (lN rE)) (by decide +kernel : Cond.methodLinkNest RX5 37 yX8_mix "TripodScale" ∈ zNw) wS_X8_mix wK_X8_mix wZ_X8 2 2 2 rfl (by decide +kernel) rfl (by decide) rfl rfl rfl (by decide) rfl hl.1 rfl rfl (by rw [hRf, hRl]; exact ⟨Nat.le_of_ble_eq_true rfl, Nat.le_of_ble_eq_true rfl⟩) (Nat.le_of_ble_eq_true rfl) ⟨Nat.zero_le _, Nat.zero_le _⟩ dX5_mixedInto_66 (fun H locs Z => ?_)
        refine lv_lstore (lv' := [(4, .long (zf_X8_mix (zl_X5_mixedInto_14 rSt rHo rS 0 (zf_X8_mix h (lN rS))) (lN rE))), (6, .int (nI j14)), (0, .ref (ad 21)), (1, .long h), (3, .ref (qd 0))]) hx hb dX5_mixedInto_69 hl (by decide) rfl (fun ls hl => ?_)
        refine lv_iconst (v := (0 : Int32)) hx hb dX5_mixedInto_71 (by decide) ?_
        refine lv_istore (lv' := [(6, .int (0 : Int32)), (4, .long (zf_X8_mix (zl_X5_mixedInto_14 rSt rHo rS 0 (zf_X8_mix h (lN rS))) (lN rE))), (0, .ref (ad 21)), (1, .long h), (3, .ref (qd 0))]) hx hb dX5_mixedInto_72 hl (by decide) rfl (fun ls hl => ?_)
        have loop_74 : ∀ (n74 j74 : Nat) (x4 : Int64), j74 + n74 = rE → zl_X5_mixedInto_74 rEl rEh qT n74 j74 x4 = (zl_X5_mixedInto_74 rEl rEh qT rE 0 (zf_X8_mix (zl_X5_mixedInto_14 rSt rHo rS 0 (zf_X8_mix h (lN rS))) (lN rE))) → ∀ (H : Heap) (locs : List Loc), zM g B A s [wRos g ad rS rSt rHo rE rEl rEh, wAsg g qd qM qT qC] H locs → ∀ ls : Array Slot, lv_has ls 7 [(6, .int (nI j74)), (4, .long x4), (0, .ref (ad 21)), (1, .long h), (3, .ref (qd 0))] → W p l e R s m args below meth c H locs 0 0 Q (F0 m 74 ls []) := by
          intro n74
          induction n74 with
          | zero =>
            intro j74 x4 hin74 hR74 H locs Z ls hl
            have e_x4 : (zl_X5_mixedInto_74 rEl rEh qT rE 0 (zf_X8_mix (zl_X5_mixedInto_14 rSt rHo rS 0 (zf_X8_mix h (lN rS))) (lN rE))) = x4 := hR74.symm
            subst e_x4
            refine lv_iload hx hb dX5_mixedInto_74 (lv_at hl 0 rfl) ?_
            refine lv_aload_n hx hb dX5_mixedInto_76 rfl (lv_at hl 2 rfl) ?_
            refine z_get X Z 0 rfl (rfl : zCl[4]? = some (RX5, TX5, 6)) zU_X5 3 (by decide) wF_X5_34 rfl rfl dX5_mixedInto_77 ?_
            refine z_icmp_ge (a := j74) (b := rE) (tgt := 134) X rfl rfl (by omega) (by omega) dX5_mixedInto_80 (by decide) (fun c_2 => ?_) (fun c_2 => ?_)
            · refine lv_lload hx hb dX5_mixedInto_134 (lv_at hl 1 rfl) ?_
              exact z_rl (v := (zl_X5_mixedInto_74 rEl rEh qT rE 0 (zf_X8_mix (zl_X5_mixedInto_14 rSt rHo rS 0 (zf_X8_mix h (lN rS))) (lN rE)))) E Z (by rw [zf_X5_mixedInto_e]; exact ⟨rfl, rfl⟩) dX5_mixedInto_136 (Nat.zero_le _) (Nat.zero_le _)
            · (exfalso; omega)
          | succ n74 ih74 =>
            intro j74 x4 hin74 hR74 H locs Z ls hl
            refine lv_iload hx hb dX5_mixedInto_74 (lv_at hl 0 rfl) ?_
            refine lv_aload_n hx hb dX5_mixedInto_76 rfl (lv_at hl 2 rfl) ?_
            refine z_get X Z 0 rfl (rfl : zCl[4]? = some (RX5, TX5, 6)) zU_X5 3 (by decide) wF_X5_34 rfl rfl dX5_mixedInto_77 ?_
            refine z_icmp_ge (a := j74) (b := rE) (tgt := 134) X rfl rfl (by omega) (by omega) dX5_mixedInto_80 (by decide) (fun c_3 => ?_) (fun c_3 => ?_)
            · (exfalso; omega)
            · refine lv_lload hx hb dX5_mixedInto_83 (lv_at hl 1 rfl) ?_
              refine lv_aload_n hx hb dX5_mixedInto_85 rfl (lv_at hl 2 rfl) ?_
              refine z_get X Z 0 rfl (rfl : zCl[4]? = some (RX5, TX5, 6)) zU_X5 4 (by decide) wF_X5_18 rfl rfl dX5_mixedInto_86 ?_
              refine lv_iload hx hb dX5_mixedInto_89 (lv_at hl 0 rfl) ?_
              refine z_iald (j := j74) X Z 3 rfl rfl (by omega) (by decide) dX5_mixedInto_91 ?_
              refine lv_i2l hx hb dX5_mixedInto_92 rfl ?_
              refine z_callSN (mc := 0) (ms := 0) (As := [.long x4, .long ((rEl j74).toInt64)]) (rest := []) (st2 := [.long (zf_X8_mix x4 ((rEl j74).toInt64))]) (cs2 := [wRos g ad rS rSt rHo rE rEl rEh, wAsg g qd qM qT qC]) X Z [] [0, 1] [0, 1] (zc_X8_mix l g B x4 ((rEl j74).toInt64)) (by decide +kernel : Cond.methodLinkNest RX5 37 yX8_mix "TripodScale" ∈ zNw) wS_X8_mix wK_X8_mix wZ_X8 2 2 2 rfl (by decide +kernel) rfl (by decide) rfl rfl rfl (by decide) rfl hl.1 rfl rfl (by rw [hRf, hRl]; exact ⟨Nat.le_of_ble_eq_true rfl, Nat.le_of_ble_eq_true rfl⟩) (Nat.le_of_ble_eq_true rfl) ⟨Nat.zero_le _, Nat.zero_le _⟩ dX5_mixedInto_93 (fun H locs Z => ?_)
              refine lv_lstore (lv' := [(4, .long (zf_X8_mix x4 ((rEl j74).toInt64))), (6, .int (nI j74)), (0, .ref (ad 21)), (1, .long h), (3, .ref (qd 0))]) hx hb dX5_mixedInto_96 hl (by decide) rfl (fun ls hl => ?_)
              refine lv_lload hx hb dX5_mixedInto_98 (lv_at hl 0 rfl) ?_
              refine lv_aload_n hx hb dX5_mixedInto_100 rfl (lv_at hl 2 rfl) ?_
              refine z_get X Z 0 rfl (rfl : zCl[4]? = some (RX5, TX5, 6)) zU_X5 5 (by decide) wF_X5_21 rfl rfl dX5_mixedInto_101 ?_
              refine lv_iload hx hb dX5_mixedInto_104 (lv_at hl 1 rfl) ?_
              refine z_iald (j := j74) X Z 4 rfl rfl (by omega) (by decide) dX5_mixedInto_106 ?_
              refine lv_i2l hx hb dX5_mixedInto_107 rfl ?_
              refine z_callSN (mc := 0) (ms := 0) (As := [.long (zf_X8_mix x4 ((rEl j74).toInt64)), .long ((rEh j74).toInt64)]) (rest := []) (st2 := [.long (zf_X8_mix (zf_X8_mix x4 ((rEl j74).toInt64)) ((rEh j74).toInt64))]) (cs2 := [wRos g ad rS rSt rHo rE rEl rEh, wAsg g qd qM qT qC]) X Z [] [0, 1] [0, 1] (zc_X8_mix l g B (zf_X8_mix x4 ((rEl j74).toInt64)) ((rEh j74).toInt64)) (by decide +kernel : Cond.methodLinkNest RX5 37 yX8_mix "TripodScale" ∈ zNw) wS_X8_mix wK_X8_mix wZ_X8 2 2 2 rfl (by decide +kernel) rfl (by decide) rfl rfl rfl (by decide) rfl hl.1 rfl rfl (by rw [hRf, hRl]; exact ⟨Nat.le_of_ble_eq_true rfl, Nat.le_of_ble_eq_true rfl⟩) (Nat.le_of_ble_eq_true rfl) ⟨Nat.zero_le _, Nat.zero_le _⟩ dX5_mixedInto_108 (fun H locs Z => ?_)
              refine lv_lstore (lv' := [(4, .long (zf_X8_mix (zf_X8_mix x4 ((rEl j74).toInt64)) ((rEh j74).toInt64))), (6, .int (nI j74)), (0, .ref (ad 21)), (1, .long h), (3, .ref (qd 0))]) hx hb dX5_mixedInto_111 hl (by decide) rfl (fun ls hl => ?_)
              refine lv_lload hx hb dX5_mixedInto_113 (lv_at hl 0 rfl) ?_
              refine lv_aload_n hx hb dX5_mixedInto_115 rfl (lv_at hl 4 rfl) ?_
              refine z_get X Z 5 rfl (rfl : zCl[0]? = some (RX0, TX0, 3)) zU_X0 1 (by decide) wF_X5_41 rfl rfl dX5_mixedInto_116 ?_
              refine lv_iload hx hb dX5_mixedInto_119 (lv_at hl 1 rfl) ?_
              refine z_iald (j := j74) X Z 7 rfl rfl (by omega) (by decide) dX5_mixedInto_121 ?_
              refine lv_i2l hx hb dX5_mixedInto_122 rfl ?_
              refine z_callSN (mc := 0) (ms := 0) (As := [.long (zf_X8_mix (zf_X8_mix x4 ((rEl j74).toInt64)) ((rEh j74).toInt64)), .long ((qT j74).toInt64)]) (rest := []) (st2 := [.long (zf_X8_mix (zf_X8_mix (zf_X8_mix x4 ((rEl j74).toInt64)) ((rEh j74).toInt64)) ((qT j74).toInt64))]) (cs2 := [wRos g ad rS rSt rHo rE rEl rEh, wAsg g qd qM qT qC]) X Z [] [0, 1] [0, 1] (zc_X8_mix l g B (zf_X8_mix (zf_X8_mix x4 ((rEl j74).toInt64)) ((rEh j74).toInt64)) ((qT j74).toInt64)) (by decide +kernel : Cond.methodLinkNest RX5 37 yX8_mix "TripodScale" ∈ zNw) wS_X8_mix wK_X8_mix wZ_X8 2 2 2 rfl (by decide +kernel) rfl (by decide) rfl rfl rfl (by decide) rfl hl.1 rfl rfl (by rw [hRf, hRl]; exact ⟨Nat.le_of_ble_eq_true rfl, Nat.le_of_ble_eq_true rfl⟩) (Nat.le_of_ble_eq_true rfl) ⟨Nat.zero_le _, Nat.zero_le _⟩ dX5_mixedInto_123 (fun H locs Z => ?_)
              refine lv_lstore (lv' := [(4, .long (zf_X8_mix (zf_X8_mix (zf_X8_mix x4 ((rEl j74).toInt64)) ((rEh j74).toInt64)) ((qT j74).toInt64))), (6, .int (nI j74)), (0, .ref (ad 21)), (1, .long h), (3, .ref (qd 0))]) hx hb dX5_mixedInto_126 hl (by decide) rfl (fun ls hl => ?_)
              refine z_iinc (b := (j74 + 1)) (st := 1) (lv' := [(6, .int (nI (j74 + 1))), (4, .long (zf_X8_mix (zf_X8_mix (zf_X8_mix x4 ((rEl j74).toInt64)) ((rEh j74).toInt64)) ((qT j74).toInt64))), (0, .ref (ad 21)), (1, .long h), (3, .ref (qd 0))]) X dX5_mixedInto_128 hl (k := 1) rfl rfl (by decide) (by omega) (by decide) rfl (fun ls hl => ?_)
              refine lv_goto (tgt := 74) hx hb dX5_mixedInto_131 (by decide) ?_
              exact ih74 (j74 + 1) (zf_X8_mix (zf_X8_mix (zf_X8_mix x4 ((rEl j74).toInt64)) ((rEh j74).toInt64)) ((qT j74).toInt64)) (by omega) (by have h9 := hR74; rw [zl_X5_mixedInto_74_s] at h9; exact h9) _ _ Z ls (lv_sub hl [0, 1, 2, 3, 4] rfl)
        exact loop_74 rE 0 (zf_X8_mix (zl_X5_mixedInto_14 rSt rHo rS 0 (zf_X8_mix h (lN rS))) (lN rE)) (by omega) rfl _ _ Z ls (lv_sub hl [0, 1, 2, 3, 4] rfl)
      · (exfalso; omega)
    | succ n14 ih14 =>
      intro j14 x4 hin14 hR14 H locs Z ls hl
      refine lv_iload hx hb dX5_mixedInto_14 (lv_at hl 0 rfl) ?_
      refine lv_aload_n hx hb dX5_mixedInto_16 rfl (lv_at hl 2 rfl) ?_
      refine z_get X Z 0 rfl (rfl : zCl[4]? = some (RX5, TX5, 6)) zU_X5 0 (by decide) wF_X5_24 rfl rfl dX5_mixedInto_17 ?_
      refine z_icmp_ge (a := j14) (b := rS) (tgt := 59) X rfl rfl (by omega) (by omega) dX5_mixedInto_20 (by decide) (fun c_4 => ?_) (fun c_4 => ?_)
      · (exfalso; omega)
      · refine lv_lload hx hb dX5_mixedInto_23 (lv_at hl 1 rfl) ?_
        refine lv_aload_n hx hb dX5_mixedInto_25 rfl (lv_at hl 2 rfl) ?_
        refine z_get X Z 0 rfl (rfl : zCl[4]? = some (RX5, TX5, 6)) zU_X5 1 (by decide) wF_X5_9 rfl rfl dX5_mixedInto_26 ?_
        refine lv_iload hx hb dX5_mixedInto_29 (lv_at hl 0 rfl) ?_
        refine z_iald (j := j14) X Z 1 rfl rfl (by omega) (by decide) dX5_mixedInto_31 ?_
        refine lv_i2l hx hb dX5_mixedInto_32 rfl ?_
        refine z_callSN (mc := 0) (ms := 0) (As := [.long x4, .long ((rSt j14).toInt64)]) (rest := []) (st2 := [.long (zf_X8_mix x4 ((rSt j14).toInt64))]) (cs2 := [wRos g ad rS rSt rHo rE rEl rEh, wAsg g qd qM qT qC]) X Z [] [0, 1] [0, 1] (zc_X8_mix l g B x4 ((rSt j14).toInt64)) (by decide +kernel : Cond.methodLinkNest RX5 37 yX8_mix "TripodScale" ∈ zNw) wS_X8_mix wK_X8_mix wZ_X8 2 2 2 rfl (by decide +kernel) rfl (by decide) rfl rfl rfl (by decide) rfl hl.1 rfl rfl (by rw [hRf, hRl]; exact ⟨Nat.le_of_ble_eq_true rfl, Nat.le_of_ble_eq_true rfl⟩) (Nat.le_of_ble_eq_true rfl) ⟨Nat.zero_le _, Nat.zero_le _⟩ dX5_mixedInto_33 (fun H locs Z => ?_)
        refine lv_lstore (lv' := [(4, .long (zf_X8_mix x4 ((rSt j14).toInt64))), (6, .int (nI j14)), (0, .ref (ad 21)), (1, .long h), (3, .ref (qd 0))]) hx hb dX5_mixedInto_36 hl (by decide) rfl (fun ls hl => ?_)
        refine lv_lload hx hb dX5_mixedInto_38 (lv_at hl 0 rfl) ?_
        refine lv_aload_n hx hb dX5_mixedInto_40 rfl (lv_at hl 2 rfl) ?_
        refine z_get X Z 0 rfl (rfl : zCl[4]? = some (RX5, TX5, 6)) zU_X5 2 (by decide) wF_X5_15 rfl rfl dX5_mixedInto_41 ?_
        refine lv_iload hx hb dX5_mixedInto_44 (lv_at hl 1 rfl) ?_
        refine z_iald (j := j14) X Z 2 rfl rfl (by omega) (by decide) dX5_mixedInto_46 ?_
        refine lv_i2l hx hb dX5_mixedInto_47 rfl ?_
        refine z_callSN (mc := 0) (ms := 0) (As := [.long (zf_X8_mix x4 ((rSt j14).toInt64)), .long ((rHo j14).toInt64)]) (rest := []) (st2 := [.long (zf_X8_mix (zf_X8_mix x4 ((rSt j14).toInt64)) ((rHo j14).toInt64))]) (cs2 := [wRos g ad rS rSt rHo rE rEl rEh, wAsg g qd qM qT qC]) X Z [] [0, 1] [0, 1] (zc_X8_mix l g B (zf_X8_mix x4 ((rSt j14).toInt64)) ((rHo j14).toInt64)) (by decide +kernel : Cond.methodLinkNest RX5 37 yX8_mix "TripodScale" ∈ zNw) wS_X8_mix wK_X8_mix wZ_X8 2 2 2 rfl (by decide +kernel) rfl (by decide) rfl rfl rfl (by decide) rfl hl.1 rfl rfl (by rw [hRf, hRl]; exact ⟨Nat.le_of_ble_eq_true rfl, Nat.le_of_ble_eq_true rfl⟩) (Nat.le_of_ble_eq_true rfl) ⟨Nat.zero_le _, Nat.zero_le _⟩ dX5_mixedInto_48 (fun H locs Z => ?_)
        refine lv_lstore (lv' := [(4, .long (zf_X8_mix (zf_X8_mix x4 ((rSt j14).toInt64)) ((rHo j14).toInt64))), (6, .int (nI j14)), (0, .ref (ad 21)), (1, .long h), (3, .ref (qd 0))]) hx hb dX5_mixedInto_51 hl (by decide) rfl (fun ls hl => ?_)
        refine z_iinc (b := (j14 + 1)) (st := 1) (lv' := [(6, .int (nI (j14 + 1))), (4, .long (zf_X8_mix (zf_X8_mix x4 ((rSt j14).toInt64)) ((rHo j14).toInt64))), (0, .ref (ad 21)), (1, .long h), (3, .ref (qd 0))]) X dX5_mixedInto_53 hl (k := 1) rfl rfl (by decide) (by omega) (by decide) rfl (fun ls hl => ?_)
        refine lv_goto (tgt := 14) hx hb dX5_mixedInto_56 (by decide) ?_
        exact ih14 (j14 + 1) (zf_X8_mix (zf_X8_mix x4 ((rSt j14).toInt64)) ((rHo j14).toInt64)) (by omega) (by have h9 := hR14; rw [zl_X5_mixedInto_14_s] at h9; exact h9) _ _ Z ls (lv_sub hl [0, 1, 2, 3, 4] rfl)
  exact loop_14 rS 0 (zf_X8_mix h (lN rS)) (by omega) rfl _ _ Z ls (lv_sub hl [0, 1, 2, 3, 4] rfl)
def zl_X1_copyFrom_33 (b2M : Nat → Nat → Int32) : Nat → Nat → (Nat → Nat → Int32) → (Nat → Nat → Int32)
  | 0, _, M1 => M1
  | n33 + 1, j33, M1 => zl_X1_copyFrom_33 b2M n33 (j33 + 1) (zupR M1 j33 (va_cpy (b2M j33) (M1 j33) 0 0 24))
theorem zl_X1_copyFrom_33_s (b2M : Nat → Nat → Int32) (n33 : Nat) (j33 : Nat) (M1 : Nat → Nat → Int32) : zl_X1_copyFrom_33 b2M (n33 + 1) j33 M1 = zl_X1_copyFrom_33 b2M n33 (j33 + 1) (zupR M1 j33 (va_cpy (b2M j33) (M1 j33) 0 0 24)) := rfl
def zf_X1_copyFrom (bW : Nat → Int64) (bM : Nat → Nat → Int32) (b2H : Nat) (b2W : Nat → Int64) (b2T : Nat) (b2M : Nat → Nat → Int32) : Nat × (Nat → Int64) × Nat × (Nat → Nat → Int32) := (b2H, (va_cpy b2W bW 0 0 8), b2T, (zl_X1_copyFrom_33 b2M b2T 0 bM))
theorem zf_X1_copyFrom_e (bW : Nat → Int64) (bM : Nat → Nat → Int32) (b2H : Nat) (b2W : Nat → Int64) (b2T : Nat) (b2M : Nat → Nat → Int32) : zf_X1_copyFrom bW bM b2H b2W b2T b2M = (b2H, (va_cpy b2W bW 0 0 8), b2T, (zl_X1_copyFrom_33 b2M b2T 0 bM)) := rfl
set_option maxHeartbeats 4000000 in
set_option maxRecDepth 100000 in
theorem zc_X1_copyFrom (l : Launch) (g : zG) (B : Nat) (ad : Nat → Nat) (bH : Nat) (bW : Nat → Int64) (bT : Nat) (bM : Nat → Nat → Int32) (bd : Nat → Nat) (b2H : Nat) (b2W : Nat → Int64) (b2T : Nat) (b2M : Nat → Nat → Int32) (ht : b2T ≤ 10) : zMet l g B yX1_copyFrom cX1_copyFrom 3 none 1 60 0 0 [.ref (ad 8), .ref (bd 8)] [wBel g ad bH bW bT bM, wBel g bd b2H b2W b2T b2M] (zDet (none) [wBel g ad ((zf_X1_copyFrom bW bM b2H b2W b2T b2M).1) ((zf_X1_copyFrom bW bM b2H b2W b2T b2M).2.1) ((zf_X1_copyFrom bW bM b2H b2W b2T b2M).2.2.1) ((zf_X1_copyFrom bW bM b2H b2W b2T b2M).2.2.2), wBel g bd b2H b2W b2T b2M]) := by
  refine z_in (plainFor_of_name (by decide)) (Nat.le_of_ble_eq_true rfl) (fun p e R s m args below meth c A Q hRf hRl hRc hRs X Z hnm E ls hl => ?_)
  have hx := X.1
  have hb := X.2.1
  have hown := X.2.2.2.1
  have hts := X.2.2.2.2.1
  have hl : lv_has ls 3 [(0, .ref (ad 8)), (1, .ref (bd 8))] := hl
  refine lv_aload_n hx hb dX1_copyFrom_0 rfl (lv_at hl 0 rfl) ?_
  refine lv_aload_n hx hb dX1_copyFrom_1 rfl (lv_at hl 1 rfl) ?_
  refine z_get X Z 13 rfl (rfl : zCl[1]? = some (RX1, TX1, 4)) zU_X1 0 (by decide) wF_X1_9 rfl rfl dX1_copyFrom_2 ?_
  refine z_put (cs2 := [wBel g ad b2H bW bT bM, wBel g bd b2H b2W b2T b2M]) (v := .int (nI b2H)) X Z 0 rfl (rfl : zCl[1]? = some (RX1, TX1, 4)) zU_X1 tyX1 tyX1_ok nmX1 0 (by decide) wF_X1_9 rfl rfl rfl rfl (Nat.le_of_ble_eq_true rfl) rfl dX1_copyFrom_5 (fun H locs Z => ?_)
  refine lv_aload_n hx hb dX1_copyFrom_8 rfl (lv_at hl 1 rfl) ?_
  refine z_get X Z 13 rfl (rfl : zCl[1]? = some (RX1, TX1, 4)) zU_X1 1 (by decide) wF_X1_15 rfl rfl dX1_copyFrom_9 ?_
  refine lv_iconst (v := (0 : Int32)) hx hb dX1_copyFrom_12 (by decide) ?_
  refine lv_aload_n hx hb dX1_copyFrom_13 rfl (lv_at hl 0 rfl) ?_
  refine z_get X Z 0 rfl (rfl : zCl[1]? = some (RX1, TX1, 4)) zU_X1 1 (by decide) wF_X1_15 rfl rfl dX1_copyFrom_14 ?_
  refine lv_iconst (v := (0 : Int32)) hx hb dX1_copyFrom_17 (by decide) ?_
  refine lv_bipush (v := (8 : Int32)) hx hb dX1_copyFrom_18 (by decide) ?_
  refine z_copyl (cs2 := [wBel g ad b2H (va_cpy b2W bW 0 0 8) bT bM, wBel g bd b2H b2W b2T b2M]) (n := 8) (f := b2W) (g9 := bW) X Z 14 1 rfl rfl hl.1 wM_X1_24 rfl (by omega) (by omega) (by decide) (by decide) (by rw [hRf]; decide) (by rw [hRl]; decide) rfl dX1_copyFrom_20 (fun H locs Z => ?_)
  refine lv_aload_n hx hb dX1_copyFrom_23 rfl (lv_at hl 0 rfl) ?_
  refine lv_aload_n hx hb dX1_copyFrom_24 rfl (lv_at hl 1 rfl) ?_
  refine z_get X Z 13 rfl (rfl : zCl[1]? = some (RX1, TX1, 4)) zU_X1 2 (by decide) wF_X1_30 rfl rfl dX1_copyFrom_25 ?_
  refine z_put (cs2 := [wBel g ad b2H (va_cpy b2W bW 0 0 8) b2T bM, wBel g bd b2H b2W b2T b2M]) (v := .int (nI b2T)) X Z 0 rfl (rfl : zCl[1]? = some (RX1, TX1, 4)) zU_X1 tyX1 tyX1_ok nmX1 2 (by decide) wF_X1_30 rfl rfl rfl rfl (Nat.le_of_ble_eq_true rfl) rfl dX1_copyFrom_28 (fun H locs Z => ?_)
  refine lv_iconst (v := (0 : Int32)) hx hb dX1_copyFrom_31 (by decide) ?_
  refine lv_istore_n (lv' := [(2, .int (0 : Int32)), (0, .ref (ad 8)), (1, .ref (bd 8))]) hx hb dX1_copyFrom_32 rfl hl (by decide) rfl (fun ls hl => ?_)
  have loop_33 : ∀ (n33 j33 : Nat) (M1 : Nat → Nat → Int32), j33 + n33 = b2T → zl_X1_copyFrom_33 b2M n33 j33 M1 = (zl_X1_copyFrom_33 b2M b2T 0 bM) → ∀ (H : Heap) (locs : List Loc), zM g B A s [wBel g ad b2H (va_cpy b2W bW 0 0 8) b2T M1, wBel g bd b2H b2W b2T b2M] H locs → ∀ ls : Array Slot, lv_has ls 3 [(2, .int (nI j33)), (0, .ref (ad 8)), (1, .ref (bd 8))] → W p l e R s m args below meth c H locs 0 0 Q (F0 m 33 ls []) := by
    intro n33
    induction n33 with
    | zero =>
      intro j33 M1 hin33 hR33 H locs Z ls hl
      have e_M1 : (zl_X1_copyFrom_33 b2M b2T 0 bM) = M1 := hR33.symm
      subst e_M1
      refine lv_iload_n hx hb dX1_copyFrom_33 rfl (lv_at hl 0 rfl) ?_
      refine lv_aload_n hx hb dX1_copyFrom_34 rfl (lv_at hl 1 rfl) ?_
      refine z_get X Z 0 rfl (rfl : zCl[1]? = some (RX1, TX1, 4)) zU_X1 2 (by decide) wF_X1_30 rfl rfl dX1_copyFrom_35 ?_
      refine z_icmp_ge (a := j33) (b := b2T) (tgt := 66) X rfl rfl (by omega) (by omega) dX1_copyFrom_38 (by decide) (fun c_1 => ?_) (fun c_1 => ?_)
      · exact z_rv E Z (by rw [zf_X1_copyFrom_e]; dsimp only; exact ⟨rfl, rfl⟩) dX1_copyFrom_66 (Nat.zero_le _) (Nat.zero_le _)
      · (exfalso; omega)
    | succ n33 ih33 =>
      intro j33 M1 hin33 hR33 H locs Z ls hl
      refine lv_iload_n hx hb dX1_copyFrom_33 rfl (lv_at hl 0 rfl) ?_
      refine lv_aload_n hx hb dX1_copyFrom_34 rfl (lv_at hl 1 rfl) ?_
      refine z_get X Z 0 rfl (rfl : zCl[1]? = some (RX1, TX1, 4)) zU_X1 2 (by decide) wF_X1_30 rfl rfl dX1_copyFrom_35 ?_
      refine z_icmp_ge (a := j33) (b := b2T) (tgt := 66) X rfl rfl (by omega) (by omega) dX1_copyFrom_38 (by decide) (fun c_2 => ?_) (fun c_2 => ?_)
      · (exfalso; omega)
      · refine lv_aload_n hx hb dX1_copyFrom_41 rfl (lv_at hl 2 rfl) ?_
        refine z_get X Z 13 rfl (rfl : zCl[1]? = some (RX1, TX1, 4)) zU_X1 3 (by decide) wF_X1_21 rfl rfl dX1_copyFrom_42 ?_
        refine lv_iload_n hx hb dX1_copyFrom_45 rfl (lv_at hl 0 rfl) ?_
        refine z_aald (j := j33) (r := (bd (11 + j33))) X Z 15 2 rfl rfl rfl rfl (by omega) (by decide) rfl dX1_copyFrom_46 ?_
        refine lv_iconst (v := (0 : Int32)) hx hb dX1_copyFrom_47 (by decide) ?_
        refine lv_aload_n hx hb dX1_copyFrom_48 rfl (lv_at hl 1 rfl) ?_
        refine z_get X Z 0 rfl (rfl : zCl[1]? = some (RX1, TX1, 4)) zU_X1 3 (by decide) wF_X1_21 rfl rfl dX1_copyFrom_49 ?_
        refine lv_iload_n hx hb dX1_copyFrom_52 rfl (lv_at hl 0 rfl) ?_
        refine z_aald (j := j33) (r := (ad (11 + j33))) X Z 2 2 rfl rfl rfl rfl (by omega) (by decide) rfl dX1_copyFrom_53 ?_
        refine lv_iconst (v := (0 : Int32)) hx hb dX1_copyFrom_54 (by decide) ?_
        refine lv_bipush (v := (24 : Int32)) hx hb dX1_copyFrom_55 (by decide) ?_
        refine z_copyi (cs2 := [wBel g ad b2H (va_cpy b2W bW 0 0 8) b2T (zupR M1 j33 (va_cpy (b2M j33) (M1 j33) 0 0 24)), wBel g bd b2H b2W b2T b2M]) (n := 24) (f := (b2M j33)) (g9 := (M1 j33)) X Z _ _ (zB_get1 (by omega)) (zB_get (by omega)) hl.1 wM_X1_24 rfl (by omega) (by omega) (by decide) (by decide) (by rw [hRf]; decide) (by rw [hRl]; decide) (zB_set (by omega)) dX1_copyFrom_57 (fun H locs Z => ?_)
        refine z_iinc (b := (j33 + 1)) (st := 1) (lv' := [(2, .int (nI (j33 + 1))), (0, .ref (ad 8)), (1, .ref (bd 8))]) X dX1_copyFrom_60 hl (k := 0) rfl rfl (by decide) (by omega) (by decide) rfl (fun ls hl => ?_)
        refine lv_goto (tgt := 33) hx hb dX1_copyFrom_63 (by decide) ?_
        exact ih33 (j33 + 1) (zupR M1 j33 (va_cpy (b2M j33) (M1 j33) 0 0 24)) (by omega) (by have h9 := hR33; rw [zl_X1_copyFrom_33_s] at h9; exact h9) _ _ Z ls (lv_sub hl [0, 1, 2] rfl)
  exact loop_33 b2T 0 bM (by omega) rfl _ _ Z ls (lv_sub hl [0, 1, 2] rfl)
def zf_X1_changeChances (bM : Nat → Nat → Int32) (t : Nat) (k : Nat) (x : Int32) (y : Int32) : Int32 × (Nat → Nat → Int32) := (((zupR (zupR (zupR bM t (upd (bM t) (k * 3) x)) t (upd ((zupR bM t (upd (bM t) (k * 3) x)) t) ((k * 3) + 1) y)) t (upd ((zupR (zupR bM t (upd (bM t) (k * 3) x)) t (upd ((zupR bM t (upd (bM t) (k * 3) x)) t) ((k * 3) + 1) y)) t) ((k * 3) + 2) (((10 : Int32) - x) - y))) t ((k * 3) + 2)), (zupR (zupR (zupR bM t (upd (bM t) (k * 3) x)) t (upd ((zupR bM t (upd (bM t) (k * 3) x)) t) ((k * 3) + 1) y)) t (upd ((zupR (zupR bM t (upd (bM t) (k * 3) x)) t (upd ((zupR bM t (upd (bM t) (k * 3) x)) t) ((k * 3) + 1) y)) t) ((k * 3) + 2) (((10 : Int32) - x) - y))))
theorem zf_X1_changeChances_e (bM : Nat → Nat → Int32) (t : Nat) (k : Nat) (x : Int32) (y : Int32) : zf_X1_changeChances bM t k x y = (((zupR (zupR (zupR bM t (upd (bM t) (k * 3) x)) t (upd ((zupR bM t (upd (bM t) (k * 3) x)) t) ((k * 3) + 1) y)) t (upd ((zupR (zupR bM t (upd (bM t) (k * 3) x)) t (upd ((zupR bM t (upd (bM t) (k * 3) x)) t) ((k * 3) + 1) y)) t) ((k * 3) + 2) (((10 : Int32) - x) - y))) t ((k * 3) + 2)), (zupR (zupR (zupR bM t (upd (bM t) (k * 3) x)) t (upd ((zupR bM t (upd (bM t) (k * 3) x)) t) ((k * 3) + 1) y)) t (upd ((zupR (zupR bM t (upd (bM t) (k * 3) x)) t (upd ((zupR bM t (upd (bM t) (k * 3) x)) t) ((k * 3) + 1) y)) t) ((k * 3) + 2) (((10 : Int32) - x) - y)))) := rfl
set_option maxHeartbeats 4000000 in
set_option maxRecDepth 100000 in
theorem zc_X1_changeChances (l : Launch) (g : zG) (B : Nat) (ad : Nat → Nat) (bH : Nat) (bW : Nat → Int64) (bT : Nat) (bM : Nat → Nat → Int32) (t : Nat) (k : Nat) (x : Int32) (y : Int32) (ht : t < 10) (hk : k < 8) : zMet l g B yX1_changeChances cX1_changeChances 7 (some .int) 1 60 0 0 [.ref (ad 8), .int (nI t), .int (nI k), .int x, .int y] [wBel g ad bH bW bT bM] (zDet (some (.int ((zf_X1_changeChances bM t k x y).1))) [wBel g ad bH bW bT ((zf_X1_changeChances bM t k x y).2)]) := by
  refine z_in (plainFor_of_name (by decide)) (Nat.le_of_ble_eq_true rfl) (fun p e R s m args below meth c A Q hRf hRl hRc hRs X Z hnm E ls hl => ?_)
  have hx := X.1
  have hb := X.2.1
  have hown := X.2.2.2.1
  have hts := X.2.2.2.2.1
  have hl : lv_has ls 7 [(0, .ref (ad 8)), (1, .int (nI t)), (2, .int (nI k)), (3, .int x), (4, .int y)] := hl
  refine lv_aload_n hx hb dX1_changeChances_0 rfl (lv_at hl 0 rfl) ?_
  refine z_get X Z 0 rfl (rfl : zCl[1]? = some (RX1, TX1, 4)) zU_X1 3 (by decide) wF_X1_21 rfl rfl dX1_changeChances_1 ?_
  refine lv_iload_n hx hb dX1_changeChances_4 rfl (lv_at hl 1 rfl) ?_
  refine z_aald (j := t) (r := (ad (11 + t))) X Z 2 2 rfl rfl rfl rfl (by omega) (by decide) rfl dX1_changeChances_5 ?_
  refine lv_astore (lv' := [(5, .ref (ad (11 + t))), (0, .ref (ad 8)), (1, .int (nI t)), (2, .int (nI k)), (3, .int x), (4, .int y)]) hx hb dX1_changeChances_6 hl (by decide) rfl (fun ls hl => ?_)
  refine lv_iload_n hx hb dX1_changeChances_8 rfl (lv_at hl 3 rfl) ?_
  refine lv_iconst (v := (3 : Int32)) hx hb dX1_changeChances_9 (by decide) ?_
  refine z_imul (a := k) (b := 3) X rfl rfl dX1_changeChances_10 ?_
  refine lv_istore (lv' := [(6, .int (nI (k * 3))), (5, .ref (ad (11 + t))), (0, .ref (ad 8)), (1, .int (nI t)), (2, .int (nI k)), (3, .int x), (4, .int y)]) hx hb dX1_changeChances_11 hl (by decide) rfl (fun ls hl => ?_)
  refine lv_aload hx hb dX1_changeChances_13 (lv_at hl 1 rfl) ?_
  refine lv_iload hx hb dX1_changeChances_15 (lv_at hl 0 rfl) ?_
  refine lv_iload_n hx hb dX1_changeChances_17 rfl (lv_at hl 5 rfl) ?_
  refine z_iast (cs2 := [wBel g ad bH bW bT (zupR bM t (upd (bM t) (k * 3) x))]) (j := (k * 3)) X Z _ (zB_get (by omega)) rfl (by omega) (by decide) (zB_set (by omega)) dX1_changeChances_18 (fun H locs Z => ?_)
  refine lv_aload hx hb dX1_changeChances_19 (lv_at hl 1 rfl) ?_
  refine lv_iload hx hb dX1_changeChances_21 (lv_at hl 0 rfl) ?_
  refine lv_iconst (v := (1 : Int32)) hx hb dX1_changeChances_23 (by decide) ?_
  refine z_iadd (a := (k * 3)) (b := 1) X rfl rfl dX1_changeChances_24 ?_
  refine lv_iload hx hb dX1_changeChances_25 (lv_at hl 6 rfl) ?_
  refine z_iast (cs2 := [wBel g ad bH bW bT (zupR (zupR bM t (upd (bM t) (k * 3) x)) t (upd ((zupR bM t (upd (bM t) (k * 3) x)) t) ((k * 3) + 1) y))]) (j := ((k * 3) + 1)) X Z _ (zB_get (by omega)) rfl (by omega) (by decide) (zB_set (by omega)) dX1_changeChances_27 (fun H locs Z => ?_)
  refine lv_aload hx hb dX1_changeChances_28 (lv_at hl 1 rfl) ?_
  refine lv_iload hx hb dX1_changeChances_30 (lv_at hl 0 rfl) ?_
  refine lv_iconst (v := (2 : Int32)) hx hb dX1_changeChances_32 (by decide) ?_
  refine z_iadd (a := (k * 3)) (b := 2) X rfl rfl dX1_changeChances_33 ?_
  refine lv_bipush (v := (10 : Int32)) hx hb dX1_changeChances_34 (by decide) ?_
  refine lv_iload_n hx hb dX1_changeChances_36 rfl (lv_at hl 5 rfl) ?_
  refine lv_isub hx hb dX1_changeChances_37 ?_
  refine lv_iload hx hb dX1_changeChances_38 (lv_at hl 6 rfl) ?_
  refine lv_isub hx hb dX1_changeChances_40 ?_
  refine z_iast (cs2 := [wBel g ad bH bW bT (zupR (zupR (zupR bM t (upd (bM t) (k * 3) x)) t (upd ((zupR bM t (upd (bM t) (k * 3) x)) t) ((k * 3) + 1) y)) t (upd ((zupR (zupR bM t (upd (bM t) (k * 3) x)) t (upd ((zupR bM t (upd (bM t) (k * 3) x)) t) ((k * 3) + 1) y)) t) ((k * 3) + 2) (((10 : Int32) - x) - y)))]) (j := ((k * 3) + 2)) X Z _ (zB_get (by omega)) rfl (by omega) (by decide) (zB_set (by omega)) dX1_changeChances_41 (fun H locs Z => ?_)
  refine lv_aload hx hb dX1_changeChances_42 (lv_at hl 1 rfl) ?_
  refine lv_iload hx hb dX1_changeChances_44 (lv_at hl 0 rfl) ?_
  refine lv_iconst (v := (2 : Int32)) hx hb dX1_changeChances_46 (by decide) ?_
  refine z_iadd (a := (k * 3)) (b := 2) X rfl rfl dX1_changeChances_47 ?_
  refine z_iald (j := ((k * 3) + 2)) (f := (zupR (zupR (zupR bM t (upd (bM t) (k * 3) x)) t (upd ((zupR bM t (upd (bM t) (k * 3) x)) t) ((k * 3) + 1) y)) t (upd ((zupR (zupR bM t (upd (bM t) (k * 3) x)) t (upd ((zupR bM t (upd (bM t) (k * 3) x)) t) ((k * 3) + 1) y)) t) ((k * 3) + 2) (((10 : Int32) - x) - y))) t) X Z _ (zB_get (by omega)) rfl (by omega) (by decide) dX1_changeChances_48 ?_
  exact z_ri (v := ((zupR (zupR (zupR bM t (upd (bM t) (k * 3) x)) t (upd ((zupR bM t (upd (bM t) (k * 3) x)) t) ((k * 3) + 1) y)) t (upd ((zupR (zupR bM t (upd (bM t) (k * 3) x)) t (upd ((zupR bM t (upd (bM t) (k * 3) x)) t) ((k * 3) + 1) y)) t) ((k * 3) + 2) (((10 : Int32) - x) - y))) t ((k * 3) + 2))) E Z rfl (by rw [zf_X1_changeChances_e]; dsimp only; exact ⟨rfl, rfl⟩) dX1_changeChances_49 (Nat.zero_le _) (Nat.zero_le _)
def zl_X1_resetChances_2 (t : Nat) : Nat → Nat → (Nat → Nat → Int32) → (Nat → Nat → Int32)
  | 0, _, M1 => M1
  | n2 + 1, j2, M1 => zl_X1_resetChances_2 t n2 (j2 + 1) ((zf_X1_changeChances M1 t j2 (0 : Int32) (0 : Int32)).2)
theorem zl_X1_resetChances_2_s (t : Nat) (n2 : Nat) (j2 : Nat) (M1 : Nat → Nat → Int32) : zl_X1_resetChances_2 t (n2 + 1) j2 M1 = zl_X1_resetChances_2 t n2 (j2 + 1) ((zf_X1_changeChances M1 t j2 (0 : Int32) (0 : Int32)).2) := rfl
def zf_X1_resetChances (bM : Nat → Nat → Int32) (t : Nat) : (Nat → Nat → Int32) := (zl_X1_resetChances_2 t 8 0 bM)
theorem zf_X1_resetChances_e (bM : Nat → Nat → Int32) (t : Nat) : zf_X1_resetChances bM t = (zl_X1_resetChances_2 t 8 0 bM) := rfl
set_option maxHeartbeats 4000000 in
set_option maxRecDepth 100000 in
theorem zc_X1_resetChances (l : Launch) (g : zG) (B : Nat) (ad : Nat → Nat) (bH : Nat) (bW : Nat → Int64) (bT : Nat) (bM : Nat → Nat → Int32) (t : Nat) (ht : t < 10) : zMet l g B yX1_resetChances cX1_resetChances 3 none 2 100 0 0 [.ref (ad 8), .int (nI t)] [wBel g ad bH bW bT bM] (zDet (none) [wBel g ad bH bW bT (zf_X1_resetChances bM t)]) := by
  refine z_in (plainFor_of_name (by decide)) (Nat.le_of_ble_eq_true rfl) (fun p e R s m args below meth c A Q hRf hRl hRc hRs X Z hnm E ls hl => ?_)
  have hx := X.1
  have hb := X.2.1
  have hown := X.2.2.2.1
  have hts := X.2.2.2.2.1
  have hl : lv_has ls 3 [(0, .ref (ad 8)), (1, .int (nI t))] := hl
  refine lv_iconst (v := (0 : Int32)) hx hb dX1_resetChances_0 (by decide) ?_
  refine lv_istore_n (lv' := [(2, .int (0 : Int32)), (0, .ref (ad 8)), (1, .int (nI t))]) hx hb dX1_resetChances_1 rfl hl (by decide) rfl (fun ls hl => ?_)
  have loop_2 : ∀ (n2 j2 : Nat) (M1 : Nat → Nat → Int32), j2 + n2 = 8 → zl_X1_resetChances_2 t n2 j2 M1 = (zl_X1_resetChances_2 t 8 0 bM) → ∀ (H : Heap) (locs : List Loc), zM g B A s [wBel g ad bH bW bT M1] H locs → ∀ ls : Array Slot, lv_has ls 3 [(2, .int (nI j2)), (0, .ref (ad 8)), (1, .int (nI t))] → W p l e R s m args below meth c H locs 0 0 Q (F0 m 2 ls []) := by
    intro n2
    induction n2 with
    | zero =>
      intro j2 M1 hin2 hR2 H locs Z ls hl
      have e_M1 : (zl_X1_resetChances_2 t 8 0 bM) = M1 := hR2.symm
      subst e_M1
      refine lv_iload_n hx hb dX1_resetChances_2 rfl (lv_at hl 0 rfl) ?_
      refine lv_bipush (v := (8 : Int32)) hx hb dX1_resetChances_3 (by decide) ?_
      refine z_icmp_ge (a := j2) (b := 8) (tgt := 23) X rfl rfl (by omega) (by omega) dX1_resetChances_5 (by decide) (fun c_1 => ?_) (fun c_1 => ?_)
      · exact z_rv E Z (by rw [zf_X1_resetChances_e]; exact ⟨rfl, rfl⟩) dX1_resetChances_23 (Nat.zero_le _) (Nat.zero_le _)
      · (exfalso; omega)
    | succ n2 ih2 =>
      intro j2 M1 hin2 hR2 H locs Z ls hl
      refine lv_iload_n hx hb dX1_resetChances_2 rfl (lv_at hl 0 rfl) ?_
      refine lv_bipush (v := (8 : Int32)) hx hb dX1_resetChances_3 (by decide) ?_
      refine z_icmp_ge (a := j2) (b := 8) (tgt := 23) X rfl rfl (by omega) (by omega) dX1_resetChances_5 (by decide) (fun c_2 => ?_) (fun c_2 => ?_)
      · (exfalso; omega)
      · refine lv_aload_n hx hb dX1_resetChances_8 rfl (lv_at hl 1 rfl) ?_
        refine lv_iload_n hx hb dX1_resetChances_9 rfl (lv_at hl 2 rfl) ?_
        refine lv_iload_n hx hb dX1_resetChances_10 rfl (lv_at hl 0 rfl) ?_
        refine lv_iconst (v := (0 : Int32)) hx hb dX1_resetChances_11 (by decide) ?_
        refine lv_iconst (v := (0 : Int32)) hx hb dX1_resetChances_12 (by decide) ?_
        refine z_callV (mc := 0) (ms := 0) (As := [.int (nI t), .int (nI j2), .int (0 : Int32), .int (0 : Int32)]) (rest := []) (st2 := [.int ((zf_X1_changeChances M1 t j2 (0 : Int32) (0 : Int32)).1)]) (cs2 := [wBel g ad bH bW bT ((zf_X1_changeChances M1 t j2 (0 : Int32) (0 : Int32)).2)]) X Z [0] [] [0] 0 1 (zc_X1_changeChances l g B ad bH bW bT M1 t j2 (0 : Int32) (0 : Int32) (by first | assumption | omega | decide) (by first | assumption | omega | decide)) wM_X1_37 wS_X1_changeChances wV_X1_changeChances wK_X1_changeChances wZ_X1 4 1 1 rfl (by decide +kernel) rfl (by decide) rfl rfl rfl (by decide) rfl rfl (rfl : zCl[1]? = some (RX1, TX1, 4)) hl.1 rfl rfl (by rw [hRf, hRl]; exact ⟨Nat.le_of_ble_eq_true rfl, Nat.le_of_ble_eq_true rfl⟩) (Nat.le_of_ble_eq_true rfl) ⟨Nat.zero_le _, Nat.zero_le _⟩ dX1_resetChances_13 (fun H locs Z => ?_)
        refine lv_pop hx hb dX1_resetChances_16 rfl ?_
        refine z_iinc (b := (j2 + 1)) (st := 1) (lv' := [(2, .int (nI (j2 + 1))), (0, .ref (ad 8)), (1, .int (nI t))]) X dX1_resetChances_17 hl (k := 0) rfl rfl (by decide) (by omega) (by decide) rfl (fun ls hl => ?_)
        refine lv_goto (tgt := 2) hx hb dX1_resetChances_20 (by decide) ?_
        exact ih2 (j2 + 1) ((zf_X1_changeChances M1 t j2 (0 : Int32) (0 : Int32)).2) (by omega) (by have h9 := hR2; rw [zl_X1_resetChances_2_s] at h9; exact h9) _ _ Z ls (lv_sub hl [0, 1, 2] rfl)
  exact loop_2 8 0 bM (by omega) rfl _ _ Z ls (lv_sub hl [0, 1, 2] rfl)
def zl_X1_restart_30 : Nat → Nat → (Nat → Nat → Int32) → (Nat → Nat → Int32)
  | 0, _, M1 => M1
  | n30 + 1, j30, M1 => zl_X1_restart_30 n30 (j30 + 1) (zf_X1_resetChances M1 j30)
theorem zl_X1_restart_30_s (n30 : Nat) (j30 : Nat) (M1 : Nat → Nat → Int32) : zl_X1_restart_30 (n30 + 1) j30 M1 = zl_X1_restart_30 n30 (j30 + 1) (zf_X1_resetChances M1 j30) := rfl
def zl_X1_restart_7 : Nat → Nat → (Nat → Int64) → (Nat → Int64)
  | 0, _, w1 => w1
  | n7 + 1, j7, w1 => zl_X1_restart_7 n7 (j7 + 1) (vp_updL w1 j7 (1 : Int64))
theorem zl_X1_restart_7_s (n7 : Nat) (j7 : Nat) (w1 : Nat → Int64) : zl_X1_restart_7 (n7 + 1) j7 w1 = zl_X1_restart_7 n7 (j7 + 1) (vp_updL w1 j7 (1 : Int64)) := rfl
def zf_X1_restart (bW : Nat → Int64) (bT : Nat) (bM : Nat → Nat → Int32) (k : Nat) : Nat × (Nat → Int64) × (Nat → Nat → Int32) := (k, (zl_X1_restart_7 k 0 bW), (zl_X1_restart_30 bT 0 bM))
theorem zf_X1_restart_e (bW : Nat → Int64) (bT : Nat) (bM : Nat → Nat → Int32) (k : Nat) : zf_X1_restart bW bT bM k = (k, (zl_X1_restart_7 k 0 bW), (zl_X1_restart_30 bT 0 bM)) := rfl
set_option maxHeartbeats 4000000 in
set_option maxRecDepth 100000 in
theorem zc_X1_restart (l : Launch) (g : zG) (B : Nat) (ad : Nat → Nat) (bH : Nat) (bW : Nat → Int64) (bT : Nat) (bM : Nat → Nat → Int32) (k : Nat) (hk : k ≤ 8) (ht : bT ≤ 10) : zMet l g B yX1_restart cX1_restart 3 none 3 140 0 0 [.ref (ad 8), .int (nI k)] [wBel g ad bH bW bT bM] (zDet (none) [wBel g ad ((zf_X1_restart bW bT bM k).1) ((zf_X1_restart bW bT bM k).2.1) bT ((zf_X1_restart bW bT bM k).2.2)]) := by
  refine z_in (plainFor_of_name (by decide)) (Nat.le_of_ble_eq_true rfl) (fun p e R s m args below meth c A Q hRf hRl hRc hRs X Z hnm E ls hl => ?_)
  have hx := X.1
  have hb := X.2.1
  have hown := X.2.2.2.1
  have hts := X.2.2.2.2.1
  have hl : lv_has ls 3 [(0, .ref (ad 8)), (1, .int (nI k))] := hl
  refine lv_aload_n hx hb dX1_restart_0 rfl (lv_at hl 0 rfl) ?_
  refine lv_iload_n hx hb dX1_restart_1 rfl (lv_at hl 1 rfl) ?_
  refine z_put (cs2 := [wBel g ad k bW bT bM]) (v := .int (nI k)) X Z 0 rfl (rfl : zCl[1]? = some (RX1, TX1, 4)) zU_X1 tyX1 tyX1_ok nmX1 0 (by decide) wF_X1_9 rfl rfl rfl rfl (Nat.le_of_ble_eq_true rfl) rfl dX1_restart_2 (fun H locs Z => ?_)
  refine lv_iconst (v := (0 : Int32)) hx hb dX1_restart_5 (by decide) ?_
  refine lv_istore_n (lv' := [(2, .int (0 : Int32)), (0, .ref (ad 8)), (1, .int (nI k))]) hx hb dX1_restart_6 rfl hl (by decide) rfl (fun ls hl => ?_)
  have loop_7 : ∀ (n7 j7 : Nat) (w1 : Nat → Int64), j7 + n7 = k → zl_X1_restart_7 n7 j7 w1 = (zl_X1_restart_7 k 0 bW) → ∀ (H : Heap) (locs : List Loc), zM g B A s [wBel g ad k w1 bT bM] H locs → ∀ ls : Array Slot, lv_has ls 3 [(2, .int (nI j7)), (0, .ref (ad 8)), (1, .int (nI k))] → W p l e R s m args below meth c H locs 0 0 Q (F0 m 7 ls []) := by
    intro n7
    induction n7 with
    | zero =>
      intro j7 w1 hin7 hR7 H locs Z ls hl
      have e_w1 : (zl_X1_restart_7 k 0 bW) = w1 := hR7.symm
      subst e_w1
      refine lv_iload_n hx hb dX1_restart_7 rfl (lv_at hl 0 rfl) ?_
      refine lv_aload_n hx hb dX1_restart_8 rfl (lv_at hl 1 rfl) ?_
      refine z_get X Z 0 rfl (rfl : zCl[1]? = some (RX1, TX1, 4)) zU_X1 0 (by decide) wF_X1_9 rfl rfl dX1_restart_9 ?_
      refine z_icmp_ge (a := j7) (b := k) (tgt := 28) X rfl rfl (by omega) (by omega) dX1_restart_12 (by decide) (fun c_1 => ?_) (fun c_1 => ?_)
      · refine lv_iconst (v := (0 : Int32)) hx hb dX1_restart_28 (by decide) ?_
        refine lv_istore_n (lv' := [(2, .int (0 : Int32)), (0, .ref (ad 8)), (1, .int (nI k))]) hx hb dX1_restart_29 rfl hl (by decide) rfl (fun ls hl => ?_)
        have loop_30 : ∀ (n30 j30 : Nat) (M1 : Nat → Nat → Int32), j30 + n30 = bT → zl_X1_restart_30 n30 j30 M1 = (zl_X1_restart_30 bT 0 bM) → ∀ (H : Heap) (locs : List Loc), zM g B A s [wBel g ad k (zl_X1_restart_7 k 0 bW) bT M1] H locs → ∀ ls : Array Slot, lv_has ls 3 [(2, .int (nI j30)), (0, .ref (ad 8)), (1, .int (nI k))] → W p l e R s m args below meth c H locs 0 0 Q (F0 m 30 ls []) := by
          intro n30
          induction n30 with
          | zero =>
            intro j30 M1 hin30 hR30 H locs Z ls hl
            have e_M1 : (zl_X1_restart_30 bT 0 bM) = M1 := hR30.symm
            subst e_M1
            refine lv_iload_n hx hb dX1_restart_30 rfl (lv_at hl 0 rfl) ?_
            refine lv_aload_n hx hb dX1_restart_31 rfl (lv_at hl 1 rfl) ?_
            refine z_get X Z 0 rfl (rfl : zCl[1]? = some (RX1, TX1, 4)) zU_X1 2 (by decide) wF_X1_30 rfl rfl dX1_restart_32 ?_
            refine z_icmp_ge (a := j30) (b := bT) (tgt := 49) X rfl rfl (by omega) (by omega) dX1_restart_35 (by decide) (fun c_2 => ?_) (fun c_2 => ?_)
            · exact z_rv E Z (by rw [zf_X1_restart_e]; dsimp only; exact ⟨rfl, rfl⟩) dX1_restart_49 (Nat.zero_le _) (Nat.zero_le _)
            · (exfalso; omega)
          | succ n30 ih30 =>
            intro j30 M1 hin30 hR30 H locs Z ls hl
            refine lv_iload_n hx hb dX1_restart_30 rfl (lv_at hl 0 rfl) ?_
            refine lv_aload_n hx hb dX1_restart_31 rfl (lv_at hl 1 rfl) ?_
            refine z_get X Z 0 rfl (rfl : zCl[1]? = some (RX1, TX1, 4)) zU_X1 2 (by decide) wF_X1_30 rfl rfl dX1_restart_32 ?_
            refine z_icmp_ge (a := j30) (b := bT) (tgt := 49) X rfl rfl (by omega) (by omega) dX1_restart_35 (by decide) (fun c_3 => ?_) (fun c_3 => ?_)
            · (exfalso; omega)
            · refine lv_aload_n hx hb dX1_restart_38 rfl (lv_at hl 1 rfl) ?_
              refine lv_iload_n hx hb dX1_restart_39 rfl (lv_at hl 0 rfl) ?_
              refine z_callV (mc := 0) (ms := 0) (As := [.int (nI j30)]) (rest := []) (st2 := []) (cs2 := [wBel g ad k (zl_X1_restart_7 k 0 bW) bT (zf_X1_resetChances M1 j30)]) X Z [0] [] [0] 0 1 (zc_X1_resetChances l g B ad k (zl_X1_restart_7 k 0 bW) bT M1 j30 (by first | assumption | omega | decide)) wM_X1_33 wS_X1_resetChances wV_X1_resetChances wK_X1_resetChances wZ_X1 1 1 1 rfl (by decide +kernel) rfl (by decide) rfl rfl rfl (by decide) rfl rfl (rfl : zCl[1]? = some (RX1, TX1, 4)) hl.1 rfl rfl (by rw [hRf, hRl]; exact ⟨Nat.le_of_ble_eq_true rfl, Nat.le_of_ble_eq_true rfl⟩) (Nat.le_of_ble_eq_true rfl) ⟨Nat.zero_le _, Nat.zero_le _⟩ dX1_restart_40 (fun H locs Z => ?_)
              refine z_iinc (b := (j30 + 1)) (st := 1) (lv' := [(2, .int (nI (j30 + 1))), (0, .ref (ad 8)), (1, .int (nI k))]) X dX1_restart_43 hl (k := 0) rfl rfl (by decide) (by omega) (by decide) rfl (fun ls hl => ?_)
              refine lv_goto (tgt := 30) hx hb dX1_restart_46 (by decide) ?_
              exact ih30 (j30 + 1) (zf_X1_resetChances M1 j30) (by omega) (by have h9 := hR30; rw [zl_X1_restart_30_s] at h9; exact h9) _ _ Z ls (lv_sub hl [0, 1, 2] rfl)
        exact loop_30 bT 0 bM (by omega) rfl _ _ Z ls (lv_sub hl [0, 1, 2] rfl)
      · (exfalso; omega)
    | succ n7 ih7 =>
      intro j7 w1 hin7 hR7 H locs Z ls hl
      refine lv_iload_n hx hb dX1_restart_7 rfl (lv_at hl 0 rfl) ?_
      refine lv_aload_n hx hb dX1_restart_8 rfl (lv_at hl 1 rfl) ?_
      refine z_get X Z 0 rfl (rfl : zCl[1]? = some (RX1, TX1, 4)) zU_X1 0 (by decide) wF_X1_9 rfl rfl dX1_restart_9 ?_
      refine z_icmp_ge (a := j7) (b := k) (tgt := 28) X rfl rfl (by omega) (by omega) dX1_restart_12 (by decide) (fun c_4 => ?_) (fun c_4 => ?_)
      · (exfalso; omega)
      · refine lv_aload_n hx hb dX1_restart_15 rfl (lv_at hl 1 rfl) ?_
        refine z_get X Z 0 rfl (rfl : zCl[1]? = some (RX1, TX1, 4)) zU_X1 1 (by decide) wF_X1_15 rfl rfl dX1_restart_16 ?_
        refine lv_iload_n hx hb dX1_restart_19 rfl (lv_at hl 0 rfl) ?_
        refine lv_lconst (v := (1 : Int64)) hx hb dX1_restart_20 (by decide) ?_
        refine z_last (cs2 := [wBel g ad k (vp_updL w1 j7 (1 : Int64)) bT bM]) (j := j7) (x := (1 : Int64)) X Z 1 rfl rfl (by omega) (by decide) rfl dX1_restart_21 (fun H locs Z => ?_)
        refine z_iinc (b := (j7 + 1)) (st := 1) (lv' := [(2, .int (nI (j7 + 1))), (0, .ref (ad 8)), (1, .int (nI k))]) X dX1_restart_22 hl (k := 0) rfl rfl (by decide) (by omega) (by decide) rfl (fun ls hl => ?_)
        refine lv_goto (tgt := 7) hx hb dX1_restart_25 (by decide) ?_
        exact ih7 (j7 + 1) (vp_updL w1 j7 (1 : Int64)) (by omega) (by have h9 := hR7; rw [zl_X1_restart_7_s] at h9; exact h9) _ _ Z ls (lv_sub hl [0, 1, 2] rfl)
  exact loop_7 k 0 bW (by omega) rfl _ _ Z ls (lv_sub hl [0, 1, 2] rfl)
def zf_X1_appendTest (bT : Nat) (bM : Nat → Nat → Int32) : Nat × Nat × (Nat → Nat → Int32) := (bT, (bT + 1), (zf_X1_resetChances bM bT))
theorem zf_X1_appendTest_e (bT : Nat) (bM : Nat → Nat → Int32) : zf_X1_appendTest bT bM = (bT, (bT + 1), (zf_X1_resetChances bM bT)) := rfl
set_option maxHeartbeats 4000000 in
set_option maxRecDepth 100000 in
theorem zc_X1_appendTest (l : Launch) (g : zG) (B : Nat) (ad : Nat → Nat) (bH : Nat) (bW : Nat → Int64) (bT : Nat) (bM : Nat → Nat → Int32) (ht : bT < 10) : zMet l g B yX1_appendTest cX1_appendTest 2 (some .int) 3 140 0 0 [.ref (ad 8)] [wBel g ad bH bW bT bM] (zDet (some (.int (nI ((zf_X1_appendTest bT bM).1)))) [wBel g ad bH bW ((zf_X1_appendTest bT bM).2.1) ((zf_X1_appendTest bT bM).2.2)]) := by
  refine z_in (plainFor_of_name (by decide)) (Nat.le_of_ble_eq_true rfl) (fun p e R s m args below meth c A Q hRf hRl hRc hRs X Z hnm E ls hl => ?_)
  have hx := X.1
  have hb := X.2.1
  have hown := X.2.2.2.1
  have hts := X.2.2.2.2.1
  have hl : lv_has ls 2 [(0, .ref (ad 8))] := hl
  refine lv_aload_n hx hb dX1_appendTest_0 rfl (lv_at hl 0 rfl) ?_
  refine z_get X Z 0 rfl (rfl : zCl[1]? = some (RX1, TX1, 4)) zU_X1 2 (by decide) wF_X1_30 rfl rfl dX1_appendTest_1 ?_
  refine lv_istore_n (lv' := [(1, .int (nI bT)), (0, .ref (ad 8))]) hx hb dX1_appendTest_4 rfl hl (by decide) rfl (fun ls hl => ?_)
  refine lv_aload_n hx hb dX1_appendTest_5 rfl (lv_at hl 1 rfl) ?_
  refine lv_iload_n hx hb dX1_appendTest_6 rfl (lv_at hl 0 rfl) ?_
  refine z_callV (mc := 0) (ms := 0) (As := [.int (nI bT)]) (rest := []) (st2 := []) (cs2 := [wBel g ad bH bW bT (zf_X1_resetChances bM bT)]) X Z [0] [] [0] 0 1 (zc_X1_resetChances l g B ad bH bW bT bM bT (by first | assumption | omega | decide)) wM_X1_33 wS_X1_resetChances wV_X1_resetChances wK_X1_resetChances wZ_X1 1 1 1 rfl (by decide +kernel) rfl (by decide) rfl rfl rfl (by decide) rfl rfl (rfl : zCl[1]? = some (RX1, TX1, 4)) hl.1 rfl rfl (by rw [hRf, hRl]; exact ⟨Nat.le_of_ble_eq_true rfl, Nat.le_of_ble_eq_true rfl⟩) (Nat.le_of_ble_eq_true rfl) ⟨Nat.zero_le _, Nat.zero_le _⟩ dX1_appendTest_7 (fun H locs Z => ?_)
  refine lv_aload_n hx hb dX1_appendTest_10 rfl (lv_at hl 1 rfl) ?_
  refine lv_dup hx hb dX1_appendTest_11 rfl ?_
  refine z_get X Z 0 rfl (rfl : zCl[1]? = some (RX1, TX1, 4)) zU_X1 2 (by decide) wF_X1_30 rfl rfl dX1_appendTest_12 ?_
  refine lv_iconst (v := (1 : Int32)) hx hb dX1_appendTest_15 (by decide) ?_
  refine z_iadd (a := bT) (b := 1) X rfl rfl dX1_appendTest_16 ?_
  refine z_put (cs2 := [wBel g ad bH bW (bT + 1) (zf_X1_resetChances bM bT)]) (v := .int (nI (bT + 1))) X Z 0 rfl (rfl : zCl[1]? = some (RX1, TX1, 4)) zU_X1 tyX1 tyX1_ok nmX1 2 (by decide) wF_X1_30 rfl rfl rfl rfl (Nat.le_of_ble_eq_true rfl) rfl dX1_appendTest_17 (fun H locs Z => ?_)
  refine lv_iload_n hx hb dX1_appendTest_20 rfl (lv_at hl 0 rfl) ?_
  exact z_ri (v := nI bT) E Z rfl (by rw [zf_X1_appendTest_e]; dsimp only; exact ⟨rfl, rfl⟩) dX1_appendTest_21 (Nat.zero_le _) (Nat.zero_le _)
def zl_X1_othersAreZero_2 (bW : Nat → Int64) (k : Nat) : Nat → Nat → Bool
  | 0, j2 => true
  | n2 + 1, j2 => (if j2 = k then zl_X1_othersAreZero_2 bW k n2 (j2 + 1) else (if (bW j2) = (0 : Int64) then zl_X1_othersAreZero_2 bW k n2 (j2 + 1) else false))
theorem zl_X1_othersAreZero_2_s (bW : Nat → Int64) (k : Nat) (n2 : Nat) (j2 : Nat) : zl_X1_othersAreZero_2 bW k (n2 + 1) j2 = (if j2 = k then zl_X1_othersAreZero_2 bW k n2 (j2 + 1) else (if (bW j2) = (0 : Int64) then zl_X1_othersAreZero_2 bW k n2 (j2 + 1) else false)) := rfl
theorem zl_X1_othersAreZero_2_z (bW : Nat → Int64) (k : Nat) (j2 : Nat) : zl_X1_othersAreZero_2 bW k 0 j2 = true := rfl
def zf_X1_othersAreZero (bH : Nat) (bW : Nat → Int64) (k : Nat) : Bool := (zl_X1_othersAreZero_2 bW k bH 0)
theorem zf_X1_othersAreZero_e (bH : Nat) (bW : Nat → Int64) (k : Nat) : zf_X1_othersAreZero bH bW k = (zl_X1_othersAreZero_2 bW k bH 0) := rfl
set_option maxHeartbeats 4000000 in
set_option maxRecDepth 100000 in
theorem zc_X1_othersAreZero (l : Launch) (g : zG) (B : Nat) (ad : Nat → Nat) (bH : Nat) (bW : Nat → Int64) (bT : Nat) (bM : Nat → Nat → Int32) (k : Nat) (hh : bH ≤ 8) (hk : k < 8) : zMet l g B yX1_othersAreZero cX1_othersAreZero 3 (some .boolean) 1 60 0 0 [.ref (ad 8), .int (nI k)] [wBel g ad bH bW bT bM] (zDet (some (.int (zB (zf_X1_othersAreZero bH bW k)))) [wBel g ad bH bW bT bM]) := by
  refine z_in (plainFor_of_name (by decide)) (Nat.le_of_ble_eq_true rfl) (fun p e R s m args below meth c A Q hRf hRl hRc hRs X Z hnm E ls hl => ?_)
  have hx := X.1
  have hb := X.2.1
  have hown := X.2.2.2.1
  have hts := X.2.2.2.2.1
  have hl : lv_has ls 3 [(0, .ref (ad 8)), (1, .int (nI k))] := hl
  refine lv_iconst (v := (0 : Int32)) hx hb dX1_othersAreZero_0 (by decide) ?_
  refine lv_istore_n (lv' := [(2, .int (0 : Int32)), (0, .ref (ad 8)), (1, .int (nI k))]) hx hb dX1_othersAreZero_1 rfl hl (by decide) rfl (fun ls hl => ?_)
  have loop_2 : ∀ (n2 j2 : Nat), j2 + n2 = bH → zl_X1_othersAreZero_2 bW k n2 j2 = (zf_X1_othersAreZero bH bW k) → ∀ (H : Heap) (locs : List Loc), zM g B A s [wBel g ad bH bW bT bM] H locs → ∀ ls : Array Slot, lv_has ls 3 [(2, .int (nI j2)), (0, .ref (ad 8)), (1, .int (nI k))] → W p l e R s m args below meth c H locs 0 0 Q (F0 m 2 ls []) := by
    intro n2
    induction n2 with
    | zero =>
      intro j2  hin2 hR2 H locs Z ls hl
      refine lv_iload_n hx hb dX1_othersAreZero_2 rfl (lv_at hl 0 rfl) ?_
      refine lv_aload_n hx hb dX1_othersAreZero_3 rfl (lv_at hl 1 rfl) ?_
      refine z_get X Z 0 rfl (rfl : zCl[1]? = some (RX1, TX1, 4)) zU_X1 0 (by decide) wF_X1_9 rfl rfl dX1_othersAreZero_4 ?_
      refine z_icmp_ge (a := j2) (b := bH) (tgt := 34) X rfl rfl (by omega) (by omega) dX1_othersAreZero_7 (by decide) (fun c_1 => ?_) (fun c_1 => ?_)
      · refine lv_iconst (v := (1 : Int32)) hx hb dX1_othersAreZero_34 (by decide) ?_
        exact z_ri (v := zB true) E Z (zB_narrow _) (by rw [← hR2, zl_X1_othersAreZero_2_z]; exact ⟨rfl, rfl⟩) dX1_othersAreZero_35 (Nat.zero_le _) (Nat.zero_le _)
      · (exfalso; omega)
    | succ n2 ih2 =>
      intro j2  hin2 hR2 H locs Z ls hl
      refine lv_iload_n hx hb dX1_othersAreZero_2 rfl (lv_at hl 0 rfl) ?_
      refine lv_aload_n hx hb dX1_othersAreZero_3 rfl (lv_at hl 1 rfl) ?_
      refine z_get X Z 0 rfl (rfl : zCl[1]? = some (RX1, TX1, 4)) zU_X1 0 (by decide) wF_X1_9 rfl rfl dX1_othersAreZero_4 ?_
      refine z_icmp_ge (a := j2) (b := bH) (tgt := 34) X rfl rfl (by omega) (by omega) dX1_othersAreZero_7 (by decide) (fun c_2 => ?_) (fun c_2 => ?_)
      · (exfalso; omega)
      · refine lv_iload_n hx hb dX1_othersAreZero_10 rfl (lv_at hl 0 rfl) ?_
        refine lv_iload_n hx hb dX1_othersAreZero_11 rfl (lv_at hl 2 rfl) ?_
        refine z_icmp_eq (a := j2) (b := k) (tgt := 28) X rfl rfl (by omega) (by omega) dX1_othersAreZero_12 (by decide) (fun c_3 => ?_) (fun c_3 => ?_)
        · refine z_iinc (b := (j2 + 1)) (st := 1) (lv' := [(2, .int (nI (j2 + 1))), (0, .ref (ad 8)), (1, .int (nI k))]) X dX1_othersAreZero_28 hl (k := 0) rfl rfl (by decide) (by omega) (by decide) rfl (fun ls hl => ?_)
          refine lv_goto (tgt := 2) hx hb dX1_othersAreZero_31 (by decide) ?_
          exact ih2 (j2 + 1)  (by omega) (by have h9 := hR2; rw [zl_X1_othersAreZero_2_s, if_pos c_3] at h9; exact h9) _ _ Z ls (lv_sub hl [0, 1, 2] rfl)
        · refine lv_aload_n hx hb dX1_othersAreZero_15 rfl (lv_at hl 1 rfl) ?_
          refine z_get X Z 0 rfl (rfl : zCl[1]? = some (RX1, TX1, 4)) zU_X1 1 (by decide) wF_X1_15 rfl rfl dX1_othersAreZero_16 ?_
          refine lv_iload_n hx hb dX1_othersAreZero_19 rfl (lv_at hl 0 rfl) ?_
          refine z_lald (j := j2) X Z 1 rfl rfl (by omega) (by decide) dX1_othersAreZero_20 ?_
          refine lv_lconst (v := (0 : Int64)) hx hb dX1_othersAreZero_21 (by decide) ?_
          refine z_lc_eq (tgt := 28) X dX1_othersAreZero_22 dX1_othersAreZero_23 (by decide) (fun c_4 => ?_) (fun c_4 => ?_)
          · refine z_iinc (b := (j2 + 1)) (st := 1) (lv' := [(2, .int (nI (j2 + 1))), (0, .ref (ad 8)), (1, .int (nI k))]) X dX1_othersAreZero_28 hl (k := 0) rfl rfl (by decide) (by omega) (by decide) rfl (fun ls hl => ?_)
            refine lv_goto (tgt := 2) hx hb dX1_othersAreZero_31 (by decide) ?_
            exact ih2 (j2 + 1)  (by omega) (by have h9 := hR2; rw [zl_X1_othersAreZero_2_s, if_neg c_3, if_pos c_4] at h9; exact h9) _ _ Z ls (lv_sub hl [0, 1, 2] rfl)
          · refine lv_iconst (v := (0 : Int32)) hx hb dX1_othersAreZero_26 (by decide) ?_
            exact z_ri (v := zB false) E Z (zB_narrow _) (by rw [← hR2, zl_X1_othersAreZero_2_s, if_neg c_3, if_neg c_4]; exact ⟨rfl, rfl⟩) dX1_othersAreZero_27 (Nat.zero_le _) (Nat.zero_le _)
  exact loop_2 bH 0 (by omega) (by rw [zf_X1_othersAreZero_e]) _ _ Z ls (lv_sub hl [0, 1, 2] rfl)
def zf_X1_changeWeight (bW : Nat → Int64) (k : Nat) (x : Int64) : Int64 × (Nat → Int64) := ((bW k), (vp_updL bW k x))
theorem zf_X1_changeWeight_e (bW : Nat → Int64) (k : Nat) (x : Int64) : zf_X1_changeWeight bW k x = ((bW k), (vp_updL bW k x)) := rfl
set_option maxHeartbeats 4000000 in
set_option maxRecDepth 100000 in
theorem zc_X1_changeWeight (l : Launch) (g : zG) (B : Nat) (ad : Nat → Nat) (bH : Nat) (bW : Nat → Int64) (bT : Nat) (bM : Nat → Nat → Int32) (k : Nat) (x : Int64) (hk : k < 8) : zMet l g B yX1_changeWeight cX1_changeWeight 6 (some .long) 1 60 0 0 [.ref (ad 8), .int (nI k), .long x] [wBel g ad bH bW bT bM] (zDet (some (.long ((zf_X1_changeWeight bW k x).1))) [wBel g ad bH ((zf_X1_changeWeight bW k x).2) bT bM]) := by
  refine z_in (plainFor_of_name (by decide)) (Nat.le_of_ble_eq_true rfl) (fun p e R s m args below meth c A Q hRf hRl hRc hRs X Z hnm E ls hl => ?_)
  have hx := X.1
  have hb := X.2.1
  have hown := X.2.2.2.1
  have hts := X.2.2.2.2.1
  have hl : lv_has ls 6 [(0, .ref (ad 8)), (1, .int (nI k)), (2, .long x)] := hl
  refine lv_aload_n hx hb dX1_changeWeight_0 rfl (lv_at hl 0 rfl) ?_
  refine z_get X Z 0 rfl (rfl : zCl[1]? = some (RX1, TX1, 4)) zU_X1 1 (by decide) wF_X1_15 rfl rfl dX1_changeWeight_1 ?_
  refine lv_iload_n hx hb dX1_changeWeight_4 rfl (lv_at hl 1 rfl) ?_
  refine z_lald (j := k) X Z 1 rfl rfl (by omega) (by decide) dX1_changeWeight_5 ?_
  refine lv_lstore (lv' := [(4, .long (bW k)), (0, .ref (ad 8)), (1, .int (nI k)), (2, .long x)]) hx hb dX1_changeWeight_6 hl (by decide) rfl (fun ls hl => ?_)
  refine lv_aload_n hx hb dX1_changeWeight_8 rfl (lv_at hl 1 rfl) ?_
  refine z_get X Z 0 rfl (rfl : zCl[1]? = some (RX1, TX1, 4)) zU_X1 1 (by decide) wF_X1_15 rfl rfl dX1_changeWeight_9 ?_
  refine lv_iload_n hx hb dX1_changeWeight_12 rfl (lv_at hl 2 rfl) ?_
  refine lv_lload_n hx hb dX1_changeWeight_13 rfl (lv_at hl 3 rfl) ?_
  refine z_last (cs2 := [wBel g ad bH (vp_updL bW k x) bT bM]) (j := k) (x := x) X Z 1 rfl rfl (by omega) (by decide) rfl dX1_changeWeight_14 (fun H locs Z => ?_)
  refine lv_lload hx hb dX1_changeWeight_15 (lv_at hl 0 rfl) ?_
  exact z_rl (v := (bW k)) E Z (by rw [zf_X1_changeWeight_e]; dsimp only; exact ⟨rfl, rfl⟩) dX1_changeWeight_17 (Nat.zero_le _) (Nat.zero_le _)
def zf_X1_takeWeights (bH : Nat) (bW : Nat → Int64) (f : Nat → Int64) : (Nat → Int64) := (va_cpy f bW 0 0 bH)
theorem zf_X1_takeWeights_e (bH : Nat) (bW : Nat → Int64) (f : Nat → Int64) : zf_X1_takeWeights bH bW f = (va_cpy f bW 0 0 bH) := rfl
set_option maxHeartbeats 4000000 in
set_option maxRecDepth 100000 in
theorem zc_X1_takeWeights (l : Launch) (g : zG) (B : Nat) (ad : Nat → Nat) (bH : Nat) (bW : Nat → Int64) (bT : Nat) (bM : Nat → Nat → Int32) (fa : Nat) (f : Nat → Int64) (hh : bH ≤ 8) : zMet l g B yX1_takeWeights cX1_takeWeights 2 none 1 60 0 0 [.ref (ad 8), .ref fa] [wBel g ad bH bW bT bM, wLng g fa f] (zDet (none) [wBel g ad bH (zf_X1_takeWeights bH bW f) bT bM, wLng g fa f]) := by
  refine z_in (plainFor_of_name (by decide)) (Nat.le_of_ble_eq_true rfl) (fun p e R s m args below meth c A Q hRf hRl hRc hRs X Z hnm E ls hl => ?_)
  have hx := X.1
  have hb := X.2.1
  have hown := X.2.2.2.1
  have hts := X.2.2.2.2.1
  have hl : lv_has ls 2 [(0, .ref (ad 8)), (1, .ref fa)] := hl
  refine lv_aload_n hx hb dX1_takeWeights_0 rfl (lv_at hl 1 rfl) ?_
  refine lv_iconst (v := (0 : Int32)) hx hb dX1_takeWeights_1 (by decide) ?_
  refine lv_aload_n hx hb dX1_takeWeights_2 rfl (lv_at hl 0 rfl) ?_
  refine z_get X Z 0 rfl (rfl : zCl[1]? = some (RX1, TX1, 4)) zU_X1 1 (by decide) wF_X1_15 rfl rfl dX1_takeWeights_3 ?_
  refine lv_iconst (v := (0 : Int32)) hx hb dX1_takeWeights_6 (by decide) ?_
  refine lv_aload_n hx hb dX1_takeWeights_7 rfl (lv_at hl 0 rfl) ?_
  refine z_get X Z 0 rfl (rfl : zCl[1]? = some (RX1, TX1, 4)) zU_X1 0 (by decide) wF_X1_9 rfl rfl dX1_takeWeights_8 ?_
  refine z_copyl (cs2 := [wBel g ad bH (va_cpy f bW 0 0 bH) bT bM, wLng g fa f]) (n := bH) (f := f) (g9 := bW) X Z 13 1 rfl rfl hl.1 wM_X1_24 rfl (by omega) (by omega) (by decide) (by decide) (by rw [hRf]; decide) (by rw [hRl]; decide) rfl dX1_takeWeights_11 (fun H locs Z => ?_)
  exact z_rv E Z (by rw [zf_X1_takeWeights_e]; exact ⟨rfl, rfl⟩) dX1_takeWeights_14 (Nat.zero_le _) (Nat.zero_le _)
def zl_X1_multiply_11 (bM : Nat → Nat → Int32) (f : Nat → Int64) (t : Nat) (k : Nat) : Nat → Nat → (Nat → Int64) → (Nat → Int64)
  | 0, _, f3 => f3
  | n11 + 1, j11, f3 => zl_X1_multiply_11 bM f t k n11 (j11 + 1) (vp_updL f3 j11 ((f j11) * ((bM t ((j11 * 3) + k)).toInt64)))
theorem zl_X1_multiply_11_s (bM : Nat → Nat → Int32) (f : Nat → Int64) (t : Nat) (k : Nat) (n11 : Nat) (j11 : Nat) (f3 : Nat → Int64) : zl_X1_multiply_11 bM f t k (n11 + 1) j11 f3 = zl_X1_multiply_11 bM f t k n11 (j11 + 1) (vp_updL f3 j11 ((f j11) * ((bM t ((j11 * 3) + k)).toInt64))) := rfl
def zf_X1_multiply (bH : Nat) (bM : Nat → Nat → Int32) (f : Nat → Int64) (t : Nat) (k : Nat) (f2 : Nat → Int64) : (Nat → Int64) := (zl_X1_multiply_11 bM f t k bH 0 f2)
theorem zf_X1_multiply_e (bH : Nat) (bM : Nat → Nat → Int32) (f : Nat → Int64) (t : Nat) (k : Nat) (f2 : Nat → Int64) : zf_X1_multiply bH bM f t k f2 = (zl_X1_multiply_11 bM f t k bH 0 f2) := rfl
set_option maxHeartbeats 4000000 in
set_option maxRecDepth 100000 in
theorem zc_X1_multiply (l : Launch) (g : zG) (B : Nat) (ad : Nat → Nat) (bH : Nat) (bW : Nat → Int64) (bT : Nat) (bM : Nat → Nat → Int32) (fa : Nat) (f : Nat → Int64) (t : Nat) (k : Nat) (ga : Nat) (f2 : Nat → Int64) (hh : bH ≤ 8) (ht : t < 10) (hk : k < 3) : zMet l g B yX1_multiply cX1_multiply 7 none 1 60 0 0 [.ref (ad 8), .ref fa, .int (nI t), .int (nI k), .ref ga] [wBel g ad bH bW bT bM, wLng g fa f, wLng g ga f2] (zDet (none) [wBel g ad bH bW bT bM, wLng g fa f, wLng g ga (zf_X1_multiply bH bM f t k f2)]) := by
  refine z_in (plainFor_of_name (by decide)) (Nat.le_of_ble_eq_true rfl) (fun p e R s m args below meth c A Q hRf hRl hRc hRs X Z hnm E ls hl => ?_)
  have hx := X.1
  have hb := X.2.1
  have hown := X.2.2.2.1
  have hts := X.2.2.2.2.1
  have hl : lv_has ls 7 [(0, .ref (ad 8)), (1, .ref fa), (2, .int (nI t)), (3, .int (nI k)), (4, .ref ga)] := hl
  refine lv_aload_n hx hb dX1_multiply_0 rfl (lv_at hl 0 rfl) ?_
  refine z_get X Z 0 rfl (rfl : zCl[1]? = some (RX1, TX1, 4)) zU_X1 3 (by decide) wF_X1_21 rfl rfl dX1_multiply_1 ?_
  refine lv_iload_n hx hb dX1_multiply_4 rfl (lv_at hl 2 rfl) ?_
  refine z_aald (j := t) (r := (ad (11 + t))) X Z 2 2 rfl rfl rfl rfl (by omega) (by decide) rfl dX1_multiply_5 ?_
  refine lv_astore (lv' := [(5, .ref (ad (11 + t))), (0, .ref (ad 8)), (1, .ref fa), (2, .int (nI t)), (3, .int (nI k)), (4, .ref ga)]) hx hb dX1_multiply_6 hl (by decide) rfl (fun ls hl => ?_)
  refine lv_iconst (v := (0 : Int32)) hx hb dX1_multiply_8 (by decide) ?_
  refine lv_istore (lv' := [(6, .int (0 : Int32)), (5, .ref (ad (11 + t))), (0, .ref (ad 8)), (1, .ref fa), (2, .int (nI t)), (3, .int (nI k)), (4, .ref ga)]) hx hb dX1_multiply_9 hl (by decide) rfl (fun ls hl => ?_)
  have loop_11 : ∀ (n11 j11 : Nat) (f3 : Nat → Int64), j11 + n11 = bH → zl_X1_multiply_11 bM f t k n11 j11 f3 = (zl_X1_multiply_11 bM f t k bH 0 f2) → ∀ (H : Heap) (locs : List Loc), zM g B A s [wBel g ad bH bW bT bM, wLng g fa f, wLng g ga f3] H locs → ∀ ls : Array Slot, lv_has ls 7 [(6, .int (nI j11)), (5, .ref (ad (11 + t))), (0, .ref (ad 8)), (1, .ref fa), (2, .int (nI t)), (3, .int (nI k)), (4, .ref ga)] → W p l e R s m args below meth c H locs 0 0 Q (F0 m 11 ls []) := by
    intro n11
    induction n11 with
    | zero =>
      intro j11 f3 hin11 hR11 H locs Z ls hl
      have e_f3 : (zl_X1_multiply_11 bM f t k bH 0 f2) = f3 := hR11.symm
      subst e_f3
      refine lv_iload hx hb dX1_multiply_11 (lv_at hl 0 rfl) ?_
      refine lv_aload_n hx hb dX1_multiply_13 rfl (lv_at hl 2 rfl) ?_
      refine z_get X Z 0 rfl (rfl : zCl[1]? = some (RX1, TX1, 4)) zU_X1 0 (by decide) wF_X1_9 rfl rfl dX1_multiply_14 ?_
      refine z_icmp_ge (a := j11) (b := bH) (tgt := 46) X rfl rfl (by omega) (by omega) dX1_multiply_17 (by decide) (fun c_1 => ?_) (fun c_1 => ?_)
      · exact z_rv E Z (by rw [zf_X1_multiply_e]; exact ⟨rfl, rfl⟩) dX1_multiply_46 (Nat.zero_le _) (Nat.zero_le _)
      · (exfalso; omega)
    | succ n11 ih11 =>
      intro j11 f3 hin11 hR11 H locs Z ls hl
      refine lv_iload hx hb dX1_multiply_11 (lv_at hl 0 rfl) ?_
      refine lv_aload_n hx hb dX1_multiply_13 rfl (lv_at hl 2 rfl) ?_
      refine z_get X Z 0 rfl (rfl : zCl[1]? = some (RX1, TX1, 4)) zU_X1 0 (by decide) wF_X1_9 rfl rfl dX1_multiply_14 ?_
      refine z_icmp_ge (a := j11) (b := bH) (tgt := 46) X rfl rfl (by omega) (by omega) dX1_multiply_17 (by decide) (fun c_2 => ?_) (fun c_2 => ?_)
      · (exfalso; omega)
      · refine lv_aload hx hb dX1_multiply_20 (lv_at hl 6 rfl) ?_
        refine lv_iload hx hb dX1_multiply_22 (lv_at hl 0 rfl) ?_
        refine lv_aload_n hx hb dX1_multiply_24 rfl (lv_at hl 3 rfl) ?_
        refine lv_iload hx hb dX1_multiply_25 (lv_at hl 0 rfl) ?_
        refine z_lald (j := j11) X Z 13 rfl rfl (by omega) (by decide) dX1_multiply_27 ?_
        refine lv_aload hx hb dX1_multiply_28 (lv_at hl 1 rfl) ?_
        refine lv_iload hx hb dX1_multiply_30 (lv_at hl 0 rfl) ?_
        refine lv_iconst (v := (3 : Int32)) hx hb dX1_multiply_32 (by decide) ?_
        refine z_imul (a := j11) (b := 3) X rfl rfl dX1_multiply_33 ?_
        refine lv_iload_n hx hb dX1_multiply_34 rfl (lv_at hl 5 rfl) ?_
        refine z_iadd (a := (j11 * 3)) (b := k) X rfl rfl dX1_multiply_35 ?_
        refine z_iald (j := ((j11 * 3) + k)) (f := bM t) X Z _ (zB_get (by omega)) rfl (by omega) (by decide) dX1_multiply_36 ?_
        refine lv_i2l hx hb dX1_multiply_37 rfl ?_
        refine lv_lmul hx hb dX1_multiply_38 ?_
        refine z_last (cs2 := [wBel g ad bH bW bT bM, wLng g fa f, wLng g ga (vp_updL f3 j11 ((f j11) * ((bM t ((j11 * 3) + k)).toInt64)))]) (j := j11) (x := ((f j11) * ((bM t ((j11 * 3) + k)).toInt64))) X Z 14 rfl rfl (by omega) (by decide) rfl dX1_multiply_39 (fun H locs Z => ?_)
        refine z_iinc (b := (j11 + 1)) (st := 1) (lv' := [(6, .int (nI (j11 + 1))), (5, .ref (ad (11 + t))), (0, .ref (ad 8)), (1, .ref fa), (2, .int (nI t)), (3, .int (nI k)), (4, .ref ga)]) X dX1_multiply_40 hl (k := 0) rfl rfl (by decide) (by omega) (by decide) rfl (fun ls hl => ?_)
        refine lv_goto (tgt := 11) hx hb dX1_multiply_43 (by decide) ?_
        exact ih11 (j11 + 1) (vp_updL f3 j11 ((f j11) * ((bM t ((j11 * 3) + k)).toInt64))) (by omega) (by have h9 := hR11; rw [zl_X1_multiply_11_s] at h9; exact h9) _ _ Z ls (lv_sub hl [0, 1, 2, 3, 4, 5, 6] rfl)
  exact loop_11 bH 0 f2 (by omega) rfl _ _ Z ls (lv_sub hl [0, 1, 2, 3, 4, 5, 6] rfl)
def zl_X1_multiply_w_11 (bW : Nat → Int64) (bM : Nat → Nat → Int32) (t : Nat) (k : Nat) : Nat → Nat → (Nat → Int64) → (Nat → Int64)
  | 0, _, f3 => f3
  | n11 + 1, j11, f3 => zl_X1_multiply_w_11 bW bM t k n11 (j11 + 1) (vp_updL f3 j11 ((bW j11) * ((bM t ((j11 * 3) + k)).toInt64)))
theorem zl_X1_multiply_w_11_s (bW : Nat → Int64) (bM : Nat → Nat → Int32) (t : Nat) (k : Nat) (n11 : Nat) (j11 : Nat) (f3 : Nat → Int64) : zl_X1_multiply_w_11 bW bM t k (n11 + 1) j11 f3 = zl_X1_multiply_w_11 bW bM t k n11 (j11 + 1) (vp_updL f3 j11 ((bW j11) * ((bM t ((j11 * 3) + k)).toInt64))) := rfl
def zf_X1_multiply_w (bH : Nat) (bW : Nat → Int64) (bM : Nat → Nat → Int32) (t : Nat) (k : Nat) (f2 : Nat → Int64) : (Nat → Int64) := (zl_X1_multiply_w_11 bW bM t k bH 0 f2)
theorem zf_X1_multiply_w_e (bH : Nat) (bW : Nat → Int64) (bM : Nat → Nat → Int32) (t : Nat) (k : Nat) (f2 : Nat → Int64) : zf_X1_multiply_w bH bW bM t k f2 = (zl_X1_multiply_w_11 bW bM t k bH 0 f2) := rfl
set_option maxHeartbeats 4000000 in
set_option maxRecDepth 100000 in
theorem zc_X1_multiply_w (l : Launch) (g : zG) (B : Nat) (ad : Nat → Nat) (bH : Nat) (bW : Nat → Int64) (bT : Nat) (bM : Nat → Nat → Int32) (t : Nat) (k : Nat) (ga : Nat) (f2 : Nat → Int64) (hh : bH ≤ 8) (ht : t < 10) (hk : k < 3) : zMet l g B yX1_multiply cX1_multiply 7 none 1 60 0 0 [.ref (ad 8), .ref (ad 9), .int (nI t), .int (nI k), .ref ga] [wBel g ad bH bW bT bM, wLng g ga f2] (zDet (none) [wBel g ad bH bW bT bM, wLng g ga (zf_X1_multiply_w bH bW bM t k f2)]) := by
  refine z_in (plainFor_of_name (by decide)) (Nat.le_of_ble_eq_true rfl) (fun p e R s m args below meth c A Q hRf hRl hRc hRs X Z hnm E ls hl => ?_)
  have hx := X.1
  have hb := X.2.1
  have hown := X.2.2.2.1
  have hts := X.2.2.2.2.1
  have hl : lv_has ls 7 [(0, .ref (ad 8)), (1, .ref (ad 9)), (2, .int (nI t)), (3, .int (nI k)), (4, .ref ga)] := hl
  refine lv_aload_n hx hb dX1_multiply_0 rfl (lv_at hl 0 rfl) ?_
  refine z_get X Z 0 rfl (rfl : zCl[1]? = some (RX1, TX1, 4)) zU_X1 3 (by decide) wF_X1_21 rfl rfl dX1_multiply_1 ?_
  refine lv_iload_n hx hb dX1_multiply_4 rfl (lv_at hl 2 rfl) ?_
  refine z_aald (j := t) (r := (ad (11 + t))) X Z 2 2 rfl rfl rfl rfl (by omega) (by decide) rfl dX1_multiply_5 ?_
  refine lv_astore (lv' := [(5, .ref (ad (11 + t))), (0, .ref (ad 8)), (1, .ref (ad 9)), (2, .int (nI t)), (3, .int (nI k)), (4, .ref ga)]) hx hb dX1_multiply_6 hl (by decide) rfl (fun ls hl => ?_)
  refine lv_iconst (v := (0 : Int32)) hx hb dX1_multiply_8 (by decide) ?_
  refine lv_istore (lv' := [(6, .int (0 : Int32)), (5, .ref (ad (11 + t))), (0, .ref (ad 8)), (1, .ref (ad 9)), (2, .int (nI t)), (3, .int (nI k)), (4, .ref ga)]) hx hb dX1_multiply_9 hl (by decide) rfl (fun ls hl => ?_)
  have loop_11 : ∀ (n11 j11 : Nat) (f3 : Nat → Int64), j11 + n11 = bH → zl_X1_multiply_w_11 bW bM t k n11 j11 f3 = (zl_X1_multiply_w_11 bW bM t k bH 0 f2) → ∀ (H : Heap) (locs : List Loc), zM g B A s [wBel g ad bH bW bT bM, wLng g ga f3] H locs → ∀ ls : Array Slot, lv_has ls 7 [(6, .int (nI j11)), (5, .ref (ad (11 + t))), (0, .ref (ad 8)), (1, .ref (ad 9)), (2, .int (nI t)), (3, .int (nI k)), (4, .ref ga)] → W p l e R s m args below meth c H locs 0 0 Q (F0 m 11 ls []) := by
    intro n11
    induction n11 with
    | zero =>
      intro j11 f3 hin11 hR11 H locs Z ls hl
      have e_f3 : (zl_X1_multiply_w_11 bW bM t k bH 0 f2) = f3 := hR11.symm
      subst e_f3
      refine lv_iload hx hb dX1_multiply_11 (lv_at hl 0 rfl) ?_
      refine lv_aload_n hx hb dX1_multiply_13 rfl (lv_at hl 2 rfl) ?_
      refine z_get X Z 0 rfl (rfl : zCl[1]? = some (RX1, TX1, 4)) zU_X1 0 (by decide) wF_X1_9 rfl rfl dX1_multiply_14 ?_
      refine z_icmp_ge (a := j11) (b := bH) (tgt := 46) X rfl rfl (by omega) (by omega) dX1_multiply_17 (by decide) (fun c_1 => ?_) (fun c_1 => ?_)
      · exact z_rv E Z (by rw [zf_X1_multiply_w_e]; exact ⟨rfl, rfl⟩) dX1_multiply_46 (Nat.zero_le _) (Nat.zero_le _)
      · (exfalso; omega)
    | succ n11 ih11 =>
      intro j11 f3 hin11 hR11 H locs Z ls hl
      refine lv_iload hx hb dX1_multiply_11 (lv_at hl 0 rfl) ?_
      refine lv_aload_n hx hb dX1_multiply_13 rfl (lv_at hl 2 rfl) ?_
      refine z_get X Z 0 rfl (rfl : zCl[1]? = some (RX1, TX1, 4)) zU_X1 0 (by decide) wF_X1_9 rfl rfl dX1_multiply_14 ?_
      refine z_icmp_ge (a := j11) (b := bH) (tgt := 46) X rfl rfl (by omega) (by omega) dX1_multiply_17 (by decide) (fun c_2 => ?_) (fun c_2 => ?_)
      · (exfalso; omega)
      · refine lv_aload hx hb dX1_multiply_20 (lv_at hl 6 rfl) ?_
        refine lv_iload hx hb dX1_multiply_22 (lv_at hl 0 rfl) ?_
        refine lv_aload_n hx hb dX1_multiply_24 rfl (lv_at hl 3 rfl) ?_
        refine lv_iload hx hb dX1_multiply_25 (lv_at hl 0 rfl) ?_
        refine z_lald (j := j11) X Z 1 rfl rfl (by omega) (by decide) dX1_multiply_27 ?_
        refine lv_aload hx hb dX1_multiply_28 (lv_at hl 1 rfl) ?_
        refine lv_iload hx hb dX1_multiply_30 (lv_at hl 0 rfl) ?_
        refine lv_iconst (v := (3 : Int32)) hx hb dX1_multiply_32 (by decide) ?_
        refine z_imul (a := j11) (b := 3) X rfl rfl dX1_multiply_33 ?_
        refine lv_iload_n hx hb dX1_multiply_34 rfl (lv_at hl 5 rfl) ?_
        refine z_iadd (a := (j11 * 3)) (b := k) X rfl rfl dX1_multiply_35 ?_
        refine z_iald (j := ((j11 * 3) + k)) (f := bM t) X Z _ (zB_get (by omega)) rfl (by omega) (by decide) dX1_multiply_36 ?_
        refine lv_i2l hx hb dX1_multiply_37 rfl ?_
        refine lv_lmul hx hb dX1_multiply_38 ?_
        refine z_last (cs2 := [wBel g ad bH bW bT bM, wLng g ga (vp_updL f3 j11 ((bW j11) * ((bM t ((j11 * 3) + k)).toInt64)))]) (j := j11) (x := ((bW j11) * ((bM t ((j11 * 3) + k)).toInt64))) X Z 13 rfl rfl (by omega) (by decide) rfl dX1_multiply_39 (fun H locs Z => ?_)
        refine z_iinc (b := (j11 + 1)) (st := 1) (lv' := [(6, .int (nI (j11 + 1))), (5, .ref (ad (11 + t))), (0, .ref (ad 8)), (1, .ref (ad 9)), (2, .int (nI t)), (3, .int (nI k)), (4, .ref ga)]) X dX1_multiply_40 hl (k := 0) rfl rfl (by decide) (by omega) (by decide) rfl (fun ls hl => ?_)
        refine lv_goto (tgt := 11) hx hb dX1_multiply_43 (by decide) ?_
        exact ih11 (j11 + 1) (vp_updL f3 j11 ((bW j11) * ((bM t ((j11 * 3) + k)).toInt64))) (by omega) (by have h9 := hR11; rw [zl_X1_multiply_w_11_s] at h9; exact h9) _ _ Z ls (lv_sub hl [0, 1, 2, 3, 4, 5, 6] rfl)
  exact loop_11 bH 0 f2 (by omega) rfl _ _ Z ls (lv_sub hl [0, 1, 2, 3, 4, 5, 6] rfl)
def zl_X1_reduce_5 (f : Nat → Int64) : Nat → Nat → Int64 → Int64
  | 0, _, x2 => x2
  | n5 + 1, j5, x2 => zl_X1_reduce_5 f n5 (j5 + 1) (zf_X2_gcd x2 (f j5))
def zl_X1_reduce_39 (bH : Nat) (f : Nat → Int64) : Nat → Nat → (Nat → Int64) → (Nat → Int64)
  | 0, _, f3 => f3
  | n39 + 1, j39, f3 => zl_X1_reduce_39 bH f n39 (j39 + 1) (vp_updL f3 j39 ((f3 j39) / (zl_X1_reduce_5 f bH 0 (0 : Int64))))
theorem zl_X1_reduce_39_s (bH : Nat) (f : Nat → Int64) (n39 : Nat) (j39 : Nat) (f3 : Nat → Int64) : zl_X1_reduce_39 bH f (n39 + 1) j39 f3 = zl_X1_reduce_39 bH f n39 (j39 + 1) (vp_updL f3 j39 ((f3 j39) / (zl_X1_reduce_5 f bH 0 (0 : Int64)))) := rfl
theorem zl_X1_reduce_5_s (f : Nat → Int64) (n5 : Nat) (j5 : Nat) (x2 : Int64) : zl_X1_reduce_5 f (n5 + 1) j5 x2 = zl_X1_reduce_5 f n5 (j5 + 1) (zf_X2_gcd x2 (f j5)) := rfl
def zf_X1_reduce (bH : Nat) (f : Nat → Int64) : (Nat → Int64) := (if (zl_X1_reduce_5 f bH 0 (0 : Int64)) = (0 : Int64) then f else (zl_X1_reduce_39 bH f bH 0 f))
theorem zf_X1_reduce_e (bH : Nat) (f : Nat → Int64) : zf_X1_reduce bH f = (if (zl_X1_reduce_5 f bH 0 (0 : Int64)) = (0 : Int64) then f else (zl_X1_reduce_39 bH f bH 0 f)) := rfl
set_option maxHeartbeats 4000000 in
set_option maxRecDepth 100000 in
theorem zc_X1_reduce (l : Launch) (g : zG) (B : Nat) (ad : Nat → Nat) (bH : Nat) (bW : Nat → Int64) (bT : Nat) (bM : Nat → Nat → Int32) (fa : Nat) (f : Nat → Int64) (hh : bH ≤ 8) : zMet l g B yX1_reduce cX1_reduce 5 none 3 140 0 0 [.ref (ad 8), .ref fa] [wBel g ad bH bW bT bM, wLng g fa f] (zDet (none) [wBel g ad bH bW bT bM, wLng g fa (zf_X1_reduce bH f)]) := by
  refine z_in (plainFor_of_name (by decide)) (Nat.le_of_ble_eq_true rfl) (fun p e R s m args below meth c A Q hRf hRl hRc hRs X Z hnm E ls hl => ?_)
  have hx := X.1
  have hb := X.2.1
  have hown := X.2.2.2.1
  have hts := X.2.2.2.2.1
  have hl : lv_has ls 5 [(0, .ref (ad 8)), (1, .ref fa)] := hl
  refine lv_lconst (v := (0 : Int64)) hx hb dX1_reduce_0 (by decide) ?_
  refine lv_lstore_n (lv' := [(2, .long (0 : Int64)), (0, .ref (ad 8)), (1, .ref fa)]) hx hb dX1_reduce_1 rfl hl (by decide) rfl (fun ls hl => ?_)
  refine lv_iconst (v := (0 : Int32)) hx hb dX1_reduce_2 (by decide) ?_
  refine lv_istore (lv' := [(4, .int (0 : Int32)), (2, .long (0 : Int64)), (0, .ref (ad 8)), (1, .ref fa)]) hx hb dX1_reduce_3 hl (by decide) rfl (fun ls hl => ?_)
  have loop_5 : ∀ (n5 j5 : Nat) (x2 : Int64), j5 + n5 = bH → zl_X1_reduce_5 f n5 j5 x2 = (zl_X1_reduce_5 f bH 0 (0 : Int64)) → ∀ (H : Heap) (locs : List Loc), zM g B A s [wBel g ad bH bW bT bM, wLng g fa f] H locs → ∀ ls : Array Slot, lv_has ls 5 [(4, .int (nI j5)), (2, .long x2), (0, .ref (ad 8)), (1, .ref fa)] → W p l e R s m args below meth c H locs 0 0 Q (F0 m 5 ls []) := by
    intro n5
    induction n5 with
    | zero =>
      intro j5 x2 hin5 hR5 H locs Z ls hl
      have e_x2 : (zl_X1_reduce_5 f bH 0 (0 : Int64)) = x2 := hR5.symm
      subst e_x2
      refine lv_iload hx hb dX1_reduce_5 (lv_at hl 0 rfl) ?_
      refine lv_aload_n hx hb dX1_reduce_7 rfl (lv_at hl 2 rfl) ?_
      refine z_get X Z 0 rfl (rfl : zCl[1]? = some (RX1, TX1, 4)) zU_X1 0 (by decide) wF_X1_9 rfl rfl dX1_reduce_8 ?_
      refine z_icmp_ge (a := j5) (b := bH) (tgt := 29) X rfl rfl (by omega) (by omega) dX1_reduce_11 (by decide) (fun c_1 => ?_) (fun c_1 => ?_)
      · refine lv_lload_n hx hb dX1_reduce_29 rfl (lv_at hl 1 rfl) ?_
        refine lv_lconst (v := (0 : Int64)) hx hb dX1_reduce_30 (by decide) ?_
        refine z_lc_ne (tgt := 36) X dX1_reduce_31 dX1_reduce_32 (by decide) (fun c_2 => ?_) (fun c_2 => ?_)
        · refine lv_iconst (v := (0 : Int32)) hx hb dX1_reduce_36 (by decide) ?_
          refine lv_istore (lv' := [(4, .int (0 : Int32)), (2, .long (zl_X1_reduce_5 f bH 0 (0 : Int64))), (0, .ref (ad 8)), (1, .ref fa)]) hx hb dX1_reduce_37 hl (by decide) rfl (fun ls hl => ?_)
          have loop_39 : ∀ (n39 j39 : Nat) (f3 : Nat → Int64), j39 + n39 = bH → zl_X1_reduce_39 bH f n39 j39 f3 = (zl_X1_reduce_39 bH f bH 0 f) → ∀ (H : Heap) (locs : List Loc), zM g B A s [wBel g ad bH bW bT bM, wLng g fa f3] H locs → ∀ ls : Array Slot, lv_has ls 5 [(4, .int (nI j39)), (2, .long (zl_X1_reduce_5 f bH 0 (0 : Int64))), (0, .ref (ad 8)), (1, .ref fa)] → W p l e R s m args below meth c H locs 0 0 Q (F0 m 39 ls []) := by
            intro n39
            induction n39 with
            | zero =>
              intro j39 f3 hin39 hR39 H locs Z ls hl
              have e_f3 : (zl_X1_reduce_39 bH f bH 0 f) = f3 := hR39.symm
              subst e_f3
              refine lv_iload hx hb dX1_reduce_39 (lv_at hl 0 rfl) ?_
              refine lv_aload_n hx hb dX1_reduce_41 rfl (lv_at hl 2 rfl) ?_
              refine z_get X Z 0 rfl (rfl : zCl[1]? = some (RX1, TX1, 4)) zU_X1 0 (by decide) wF_X1_9 rfl rfl dX1_reduce_42 ?_
              refine z_icmp_ge (a := j39) (b := bH) (tgt := 62) X rfl rfl (by omega) (by omega) dX1_reduce_45 (by decide) (fun c_3 => ?_) (fun c_3 => ?_)
              · exact z_rv E Z (by rw [zf_X1_reduce_e, if_neg c_2]; exact ⟨rfl, rfl⟩) dX1_reduce_62 (Nat.zero_le _) (Nat.zero_le _)
              · (exfalso; omega)
            | succ n39 ih39 =>
              intro j39 f3 hin39 hR39 H locs Z ls hl
              refine lv_iload hx hb dX1_reduce_39 (lv_at hl 0 rfl) ?_
              refine lv_aload_n hx hb dX1_reduce_41 rfl (lv_at hl 2 rfl) ?_
              refine z_get X Z 0 rfl (rfl : zCl[1]? = some (RX1, TX1, 4)) zU_X1 0 (by decide) wF_X1_9 rfl rfl dX1_reduce_42 ?_
              refine z_icmp_ge (a := j39) (b := bH) (tgt := 62) X rfl rfl (by omega) (by omega) dX1_reduce_45 (by decide) (fun c_4 => ?_) (fun c_4 => ?_)
              · (exfalso; omega)
              · refine lv_aload_n hx hb dX1_reduce_48 rfl (lv_at hl 3 rfl) ?_
                refine lv_iload hx hb dX1_reduce_49 (lv_at hl 0 rfl) ?_
                refine lv_dup2_11 hx hb dX1_reduce_51 rfl rfl ?_
                refine z_lald (j := j39) X Z 13 rfl rfl (by omega) (by decide) dX1_reduce_52 ?_
                refine lv_lload_n hx hb dX1_reduce_53 rfl (lv_at hl 1 rfl) ?_
                refine lv_ldiv hx hb dX1_reduce_54 (by assumption) ?_
                refine z_last (cs2 := [wBel g ad bH bW bT bM, wLng g fa (vp_updL f3 j39 ((f3 j39) / (zl_X1_reduce_5 f bH 0 (0 : Int64))))]) (j := j39) (x := ((f3 j39) / (zl_X1_reduce_5 f bH 0 (0 : Int64)))) X Z 13 rfl rfl (by omega) (by decide) rfl dX1_reduce_55 (fun H locs Z => ?_)
                refine z_iinc (b := (j39 + 1)) (st := 1) (lv' := [(4, .int (nI (j39 + 1))), (2, .long (zl_X1_reduce_5 f bH 0 (0 : Int64))), (0, .ref (ad 8)), (1, .ref fa)]) X dX1_reduce_56 hl (k := 0) rfl rfl (by decide) (by omega) (by decide) rfl (fun ls hl => ?_)
                refine lv_goto (tgt := 39) hx hb dX1_reduce_59 (by decide) ?_
                exact ih39 (j39 + 1) (vp_updL f3 j39 ((f3 j39) / (zl_X1_reduce_5 f bH 0 (0 : Int64)))) (by omega) (by have h9 := hR39; rw [zl_X1_reduce_39_s] at h9; exact h9) _ _ Z ls (lv_sub hl [0, 1, 2, 3] rfl)
          exact loop_39 bH 0 f (by omega) rfl _ _ Z ls (lv_sub hl [0, 1, 2, 3] rfl)
        · exact z_rv E Z (by rw [zf_X1_reduce_e, if_pos c_2]; exact ⟨rfl, rfl⟩) dX1_reduce_35 (Nat.zero_le _) (Nat.zero_le _)
      · (exfalso; omega)
    | succ n5 ih5 =>
      intro j5 x2 hin5 hR5 H locs Z ls hl
      refine lv_iload hx hb dX1_reduce_5 (lv_at hl 0 rfl) ?_
      refine lv_aload_n hx hb dX1_reduce_7 rfl (lv_at hl 2 rfl) ?_
      refine z_get X Z 0 rfl (rfl : zCl[1]? = some (RX1, TX1, 4)) zU_X1 0 (by decide) wF_X1_9 rfl rfl dX1_reduce_8 ?_
      refine z_icmp_ge (a := j5) (b := bH) (tgt := 29) X rfl rfl (by omega) (by omega) dX1_reduce_11 (by decide) (fun c_5 => ?_) (fun c_5 => ?_)
      · (exfalso; omega)
      · refine lv_lload_n hx hb dX1_reduce_14 rfl (lv_at hl 1 rfl) ?_
        refine lv_aload_n hx hb dX1_reduce_15 rfl (lv_at hl 3 rfl) ?_
        refine lv_iload hx hb dX1_reduce_16 (lv_at hl 0 rfl) ?_
        refine z_lald (j := j5) X Z 13 rfl rfl (by omega) (by decide) dX1_reduce_18 ?_
        refine z_callS (mc := 0) (ms := 0) (As := [.long x2, .long (f j5)]) (rest := []) (st2 := [.long (zf_X2_gcd x2 (f j5))]) (cs2 := [wBel g ad bH bW bT bM, wLng g fa f]) X Z [] [0, 1] [0, 1] (zc_X2_gcd l g B x2 (f j5)) wM_X1_41 wS_X2_gcd wK_X2_gcd wZ_X2 2 2 2 rfl (by decide +kernel) rfl (by decide) rfl rfl rfl (by decide) rfl hl.1 rfl rfl (by rw [hRf, hRl]; exact ⟨Nat.le_of_ble_eq_true rfl, Nat.le_of_ble_eq_true rfl⟩) (Nat.le_of_ble_eq_true rfl) ⟨Nat.zero_le _, Nat.zero_le _⟩ dX1_reduce_19 (fun H locs Z => ?_)
        refine lv_lstore_n (lv' := [(2, .long (zf_X2_gcd x2 (f j5))), (4, .int (nI j5)), (0, .ref (ad 8)), (1, .ref fa)]) hx hb dX1_reduce_22 rfl hl (by decide) rfl (fun ls hl => ?_)
        refine z_iinc (b := (j5 + 1)) (st := 1) (lv' := [(4, .int (nI (j5 + 1))), (2, .long (zf_X2_gcd x2 (f j5))), (0, .ref (ad 8)), (1, .ref fa)]) X dX1_reduce_23 hl (k := 1) rfl rfl (by decide) (by omega) (by decide) rfl (fun ls hl => ?_)
        refine lv_goto (tgt := 5) hx hb dX1_reduce_26 (by decide) ?_
        exact ih5 (j5 + 1) (zf_X2_gcd x2 (f j5)) (by omega) (by have h9 := hR5; rw [zl_X1_reduce_5_s] at h9; exact h9) _ _ Z ls (lv_sub hl [0, 1, 2, 3] rfl)
  exact loop_5 bH 0 (0 : Int64) (by omega) rfl _ _ Z ls (lv_sub hl [0, 1, 2, 3] rfl)
def zl_X1_greatest_5 (f : Nat → Int64) : Nat → Nat → Int64 → Int64
  | 0, _, x2 => x2
  | n5 + 1, j5, x2 => zl_X1_greatest_5 f n5 (j5 + 1) (zmaxL x2 (f j5))
theorem zl_X1_greatest_5_s (f : Nat → Int64) (n5 : Nat) (j5 : Nat) (x2 : Int64) : zl_X1_greatest_5 f (n5 + 1) j5 x2 = zl_X1_greatest_5 f n5 (j5 + 1) (zmaxL x2 (f j5)) := rfl
def zf_X1_greatest (bH : Nat) (f : Nat → Int64) : Int64 := (zl_X1_greatest_5 f bH 0 (0 : Int64))
theorem zf_X1_greatest_e (bH : Nat) (f : Nat → Int64) : zf_X1_greatest bH f = (zl_X1_greatest_5 f bH 0 (0 : Int64)) := rfl
set_option maxHeartbeats 4000000 in
set_option maxRecDepth 100000 in
theorem zc_X1_greatest (l : Launch) (g : zG) (B : Nat) (ad : Nat → Nat) (bH : Nat) (bW : Nat → Int64) (bT : Nat) (bM : Nat → Nat → Int32) (fa : Nat) (f : Nat → Int64) (hh : bH ≤ 8) : zMet l g B yX1_greatest cX1_greatest 5 (some .long) 2 60 0 0 [.ref (ad 8), .ref fa] [wBel g ad bH bW bT bM, wLng g fa f] (zDet (some (.long (zf_X1_greatest bH f))) [wBel g ad bH bW bT bM, wLng g fa f]) := by
  refine z_in (plainFor_of_name (by decide)) (Nat.le_of_ble_eq_true rfl) (fun p e R s m args below meth c A Q hRf hRl hRc hRs X Z hnm E ls hl => ?_)
  have hx := X.1
  have hb := X.2.1
  have hown := X.2.2.2.1
  have hts := X.2.2.2.2.1
  have hl : lv_has ls 5 [(0, .ref (ad 8)), (1, .ref fa)] := hl
  refine lv_lconst (v := (0 : Int64)) hx hb dX1_greatest_0 (by decide) ?_
  refine lv_lstore_n (lv' := [(2, .long (0 : Int64)), (0, .ref (ad 8)), (1, .ref fa)]) hx hb dX1_greatest_1 rfl hl (by decide) rfl (fun ls hl => ?_)
  refine lv_iconst (v := (0 : Int32)) hx hb dX1_greatest_2 (by decide) ?_
  refine lv_istore (lv' := [(4, .int (0 : Int32)), (2, .long (0 : Int64)), (0, .ref (ad 8)), (1, .ref fa)]) hx hb dX1_greatest_3 hl (by decide) rfl (fun ls hl => ?_)
  have loop_5 : ∀ (n5 j5 : Nat) (x2 : Int64), j5 + n5 = bH → zl_X1_greatest_5 f n5 j5 x2 = (zl_X1_greatest_5 f bH 0 (0 : Int64)) → ∀ (H : Heap) (locs : List Loc), zM g B A s [wBel g ad bH bW bT bM, wLng g fa f] H locs → ∀ ls : Array Slot, lv_has ls 5 [(4, .int (nI j5)), (2, .long x2), (0, .ref (ad 8)), (1, .ref fa)] → W p l e R s m args below meth c H locs 0 0 Q (F0 m 5 ls []) := by
    intro n5
    induction n5 with
    | zero =>
      intro j5 x2 hin5 hR5 H locs Z ls hl
      have e_x2 : (zl_X1_greatest_5 f bH 0 (0 : Int64)) = x2 := hR5.symm
      subst e_x2
      refine lv_iload hx hb dX1_greatest_5 (lv_at hl 0 rfl) ?_
      refine lv_aload_n hx hb dX1_greatest_7 rfl (lv_at hl 2 rfl) ?_
      refine z_get X Z 0 rfl (rfl : zCl[1]? = some (RX1, TX1, 4)) zU_X1 0 (by decide) wF_X1_9 rfl rfl dX1_greatest_8 ?_
      refine z_icmp_ge (a := j5) (b := bH) (tgt := 29) X rfl rfl (by omega) (by omega) dX1_greatest_11 (by decide) (fun c_1 => ?_) (fun c_1 => ?_)
      · refine lv_lload_n hx hb dX1_greatest_29 rfl (lv_at hl 1 rfl) ?_
        exact z_rl (v := (zl_X1_greatest_5 f bH 0 (0 : Int64))) E Z (by rw [zf_X1_greatest_e]; exact ⟨rfl, rfl⟩) dX1_greatest_30 (Nat.zero_le _) (Nat.zero_le _)
      · (exfalso; omega)
    | succ n5 ih5 =>
      intro j5 x2 hin5 hR5 H locs Z ls hl
      refine lv_iload hx hb dX1_greatest_5 (lv_at hl 0 rfl) ?_
      refine lv_aload_n hx hb dX1_greatest_7 rfl (lv_at hl 2 rfl) ?_
      refine z_get X Z 0 rfl (rfl : zCl[1]? = some (RX1, TX1, 4)) zU_X1 0 (by decide) wF_X1_9 rfl rfl dX1_greatest_8 ?_
      refine z_icmp_ge (a := j5) (b := bH) (tgt := 29) X rfl rfl (by omega) (by omega) dX1_greatest_11 (by decide) (fun c_2 => ?_) (fun c_2 => ?_)
      · (exfalso; omega)
      · refine lv_lload_n hx hb dX1_greatest_14 rfl (lv_at hl 1 rfl) ?_
        refine lv_aload_n hx hb dX1_greatest_15 rfl (lv_at hl 3 rfl) ?_
        refine lv_iload hx hb dX1_greatest_16 (lv_at hl 0 rfl) ?_
        refine z_lald (j := j5) X Z 13 rfl rfl (by omega) (by decide) dX1_greatest_18 ?_
        refine z_Mmaxlong X hl.1 wM_X1_47 (by rw [hRf]; decide) (by rw [hRl]; exact Nat.le_of_ble_eq_true rfl) (Nat.zero_le _) (Nat.zero_le _) dX1_greatest_19 ?_
        refine lv_lstore_n (lv' := [(2, .long (zmaxL x2 (f j5))), (4, .int (nI j5)), (0, .ref (ad 8)), (1, .ref fa)]) hx hb dX1_greatest_22 rfl hl (by decide) rfl (fun ls hl => ?_)
        refine z_iinc (b := (j5 + 1)) (st := 1) (lv' := [(4, .int (nI (j5 + 1))), (2, .long (zmaxL x2 (f j5))), (0, .ref (ad 8)), (1, .ref fa)]) X dX1_greatest_23 hl (k := 1) rfl rfl (by decide) (by omega) (by decide) rfl (fun ls hl => ?_)
        refine lv_goto (tgt := 5) hx hb dX1_greatest_26 (by decide) ?_
        exact ih5 (j5 + 1) (zmaxL x2 (f j5)) (by omega) (by have h9 := hR5; rw [zl_X1_greatest_5_s] at h9; exact h9) _ _ Z ls (lv_sub hl [0, 1, 2, 3] rfl)
  exact loop_5 bH 0 (0 : Int64) (by omega) rfl _ _ Z ls (lv_sub hl [0, 1, 2, 3] rfl)
def zl_X1_mostProbable_4 (bW : Nat → Int64) : Nat → Nat → Nat → Nat
  | 0, _, x1 => x1
  | n4 + 1, j4, x1 => (if (bW (1 + j4)) ≤ (bW x1) then zl_X1_mostProbable_4 bW n4 (j4 + 1) x1 else zl_X1_mostProbable_4 bW n4 (j4 + 1) (1 + j4))
theorem zl_X1_mostProbable_4_s (bW : Nat → Int64) (n4 : Nat) (j4 : Nat) (x1 : Nat) : zl_X1_mostProbable_4 bW (n4 + 1) j4 x1 = (if (bW (1 + j4)) ≤ (bW x1) then zl_X1_mostProbable_4 bW n4 (j4 + 1) x1 else zl_X1_mostProbable_4 bW n4 (j4 + 1) (1 + j4)) := rfl
def zf_X1_mostProbable (bH : Nat) (bW : Nat → Int64) : Nat := (zl_X1_mostProbable_4 bW (bH - 1) 0 0)
theorem zf_X1_mostProbable_e (bH : Nat) (bW : Nat → Int64) : zf_X1_mostProbable bH bW = (zl_X1_mostProbable_4 bW (bH - 1) 0 0) := rfl
set_option maxHeartbeats 4000000 in
set_option maxRecDepth 100000 in
theorem zc_X1_mostProbable (l : Launch) (g : zG) (B : Nat) (ad : Nat → Nat) (bH : Nat) (bW : Nat → Int64) (bT : Nat) (bM : Nat → Nat → Int32) (hh : bH ≤ 8) (h1 : 1 ≤ bH) : zMet l g B yX1_mostProbable cX1_mostProbable 3 (some .int) 1 60 0 0 [.ref (ad 8)] [wBel g ad bH bW bT bM] (zDet (some (.int (nI (zf_X1_mostProbable bH bW)))) [wBel g ad bH bW bT bM]) := by
  refine z_in (plainFor_of_name (by decide)) (Nat.le_of_ble_eq_true rfl) (fun p e R s m args below meth c A Q hRf hRl hRc hRs X Z hnm E ls hl => ?_)
  have hx := X.1
  have hb := X.2.1
  have hown := X.2.2.2.1
  have hts := X.2.2.2.2.1
  have hl : lv_has ls 3 [(0, .ref (ad 8))] := hl
  refine lv_iconst (v := (0 : Int32)) hx hb dX1_mostProbable_0 (by decide) ?_
  refine lv_istore_n (lv' := [(1, .int (0 : Int32)), (0, .ref (ad 8))]) hx hb dX1_mostProbable_1 rfl hl (by decide) rfl (fun ls hl => ?_)
  refine lv_iconst (v := (1 : Int32)) hx hb dX1_mostProbable_2 (by decide) ?_
  refine lv_istore_n (lv' := [(2, .int (1 : Int32)), (1, .int (0 : Int32)), (0, .ref (ad 8))]) hx hb dX1_mostProbable_3 rfl hl (by decide) rfl (fun ls hl => ?_)
  have loop_4 : ∀ (n4 j4 : Nat) (x1 : Nat), j4 + n4 = (bH - 1) → zl_X1_mostProbable_4 bW n4 j4 x1 = (zl_X1_mostProbable_4 bW (bH - 1) 0 0) → (x1 < bH) → ∀ (H : Heap) (locs : List Loc), zM g B A s [wBel g ad bH bW bT bM] H locs → ∀ ls : Array Slot, lv_has ls 3 [(2, .int (nI (1 + j4))), (1, .int (nI x1)), (0, .ref (ad 8))] → W p l e R s m args below meth c H locs 0 0 Q (F0 m 4 ls []) := by
    intro n4
    induction n4 with
    | zero =>
      intro j4 x1 hin4 hR4 hi1 H locs Z ls hl
      have e_x1 : (zl_X1_mostProbable_4 bW (bH - 1) 0 0) = x1 := hR4.symm
      subst e_x1
      refine lv_iload_n hx hb dX1_mostProbable_4 rfl (lv_at hl 0 rfl) ?_
      refine lv_aload_n hx hb dX1_mostProbable_5 rfl (lv_at hl 2 rfl) ?_
      refine z_get X Z 0 rfl (rfl : zCl[1]? = some (RX1, TX1, 4)) zU_X1 0 (by decide) wF_X1_9 rfl rfl dX1_mostProbable_6 ?_
      refine z_icmp_ge (a := (1 + j4)) (b := bH) (tgt := 36) X rfl rfl (by omega) (by omega) dX1_mostProbable_9 (by decide) (fun c_1 => ?_) (fun c_1 => ?_)
      · refine lv_iload_n hx hb dX1_mostProbable_36 rfl (lv_at hl 1 rfl) ?_
        exact z_ri (v := nI (zl_X1_mostProbable_4 bW (bH - 1) 0 0)) E Z rfl (by rw [zf_X1_mostProbable_e]; exact ⟨rfl, rfl⟩) dX1_mostProbable_37 (Nat.zero_le _) (Nat.zero_le _)
      · (exfalso; omega)
    | succ n4 ih4 =>
      intro j4 x1 hin4 hR4 hi1 H locs Z ls hl
      refine lv_iload_n hx hb dX1_mostProbable_4 rfl (lv_at hl 0 rfl) ?_
      refine lv_aload_n hx hb dX1_mostProbable_5 rfl (lv_at hl 2 rfl) ?_
      refine z_get X Z 0 rfl (rfl : zCl[1]? = some (RX1, TX1, 4)) zU_X1 0 (by decide) wF_X1_9 rfl rfl dX1_mostProbable_6 ?_
      refine z_icmp_ge (a := (1 + j4)) (b := bH) (tgt := 36) X rfl rfl (by omega) (by omega) dX1_mostProbable_9 (by decide) (fun c_2 => ?_) (fun c_2 => ?_)
      · (exfalso; omega)
      · refine lv_aload_n hx hb dX1_mostProbable_12 rfl (lv_at hl 2 rfl) ?_
        refine z_get X Z 0 rfl (rfl : zCl[1]? = some (RX1, TX1, 4)) zU_X1 1 (by decide) wF_X1_15 rfl rfl dX1_mostProbable_13 ?_
        refine lv_iload_n hx hb dX1_mostProbable_16 rfl (lv_at hl 0 rfl) ?_
        refine z_lald (j := (1 + j4)) X Z 1 rfl rfl (by omega) (by decide) dX1_mostProbable_17 ?_
        refine lv_aload_n hx hb dX1_mostProbable_18 rfl (lv_at hl 2 rfl) ?_
        refine z_get X Z 0 rfl (rfl : zCl[1]? = some (RX1, TX1, 4)) zU_X1 1 (by decide) wF_X1_15 rfl rfl dX1_mostProbable_19 ?_
        refine lv_iload_n hx hb dX1_mostProbable_22 rfl (lv_at hl 1 rfl) ?_
        refine z_lald (j := x1) X Z 1 rfl rfl (by omega) (by decide) dX1_mostProbable_23 ?_
        refine z_lc_le (tgt := 30) X dX1_mostProbable_24 dX1_mostProbable_25 (by decide) (fun c_3 => ?_) (fun c_3 => ?_)
        · refine z_iinc (b := (1 + (j4 + 1))) (st := 1) (lv' := [(2, .int (nI (1 + (j4 + 1)))), (1, .int (nI x1)), (0, .ref (ad 8))]) X dX1_mostProbable_30 hl (k := 0) rfl rfl (by decide) (by omega) (by decide) rfl (fun ls hl => ?_)
          refine lv_goto (tgt := 4) hx hb dX1_mostProbable_33 (by decide) ?_
          exact ih4 (j4 + 1) x1 (by omega) (by have h9 := hR4; rw [zl_X1_mostProbable_4_s, if_pos c_3] at h9; exact h9) (by omega) _ _ Z ls (lv_sub hl [0, 1, 2] rfl)
        · refine lv_iload_n hx hb dX1_mostProbable_28 rfl (lv_at hl 0 rfl) ?_
          refine lv_istore_n (lv' := [(1, .int (nI (1 + j4))), (2, .int (nI (1 + j4))), (0, .ref (ad 8))]) hx hb dX1_mostProbable_29 rfl hl (by decide) rfl (fun ls hl => ?_)
          refine z_iinc (b := (1 + (j4 + 1))) (st := 1) (lv' := [(2, .int (nI (1 + (j4 + 1)))), (1, .int (nI (1 + j4))), (0, .ref (ad 8))]) X dX1_mostProbable_30 hl (k := 1) rfl rfl (by decide) (by omega) (by decide) rfl (fun ls hl => ?_)
          refine lv_goto (tgt := 4) hx hb dX1_mostProbable_33 (by decide) ?_
          exact ih4 (j4 + 1) (1 + j4) (by omega) (by have h9 := hR4; rw [zl_X1_mostProbable_4_s, if_neg c_3] at h9; exact h9) (by omega) _ _ Z ls (lv_sub hl [0, 1, 2] rfl)
  exact loop_4 (bH - 1) 0 0 (by omega) rfl (by omega) _ _ Z ls (lv_sub hl [0, 1, 2] rfl)
def zl_X1_weightSum_4 (bW : Nat → Int64) : Nat → Nat → Int64 → Int64
  | 0, _, x1 => x1
  | n4 + 1, j4, x1 => zl_X1_weightSum_4 bW n4 (j4 + 1) (x1 + (bW j4))
theorem zl_X1_weightSum_4_s (bW : Nat → Int64) (n4 : Nat) (j4 : Nat) (x1 : Int64) : zl_X1_weightSum_4 bW (n4 + 1) j4 x1 = zl_X1_weightSum_4 bW n4 (j4 + 1) (x1 + (bW j4)) := rfl
def zf_X1_weightSum (bH : Nat) (bW : Nat → Int64) : Int64 := (zl_X1_weightSum_4 bW bH 0 (0 : Int64))
theorem zf_X1_weightSum_e (bH : Nat) (bW : Nat → Int64) : zf_X1_weightSum bH bW = (zl_X1_weightSum_4 bW bH 0 (0 : Int64)) := rfl
set_option maxHeartbeats 4000000 in
set_option maxRecDepth 100000 in
theorem zc_X1_weightSum (l : Launch) (g : zG) (B : Nat) (ad : Nat → Nat) (bH : Nat) (bW : Nat → Int64) (bT : Nat) (bM : Nat → Nat → Int32) (hh : bH ≤ 8) : zMet l g B yX1_weightSum cX1_weightSum 4 (some .long) 1 60 0 0 [.ref (ad 8)] [wBel g ad bH bW bT bM] (zDet (some (.long (zf_X1_weightSum bH bW))) [wBel g ad bH bW bT bM]) := by
  refine z_in (plainFor_of_name (by decide)) (Nat.le_of_ble_eq_true rfl) (fun p e R s m args below meth c A Q hRf hRl hRc hRs X Z hnm E ls hl => ?_)
  have hx := X.1
  have hb := X.2.1
  have hown := X.2.2.2.1
  have hts := X.2.2.2.2.1
  have hl : lv_has ls 4 [(0, .ref (ad 8))] := hl
  refine lv_lconst (v := (0 : Int64)) hx hb dX1_weightSum_0 (by decide) ?_
  refine lv_lstore_n (lv' := [(1, .long (0 : Int64)), (0, .ref (ad 8))]) hx hb dX1_weightSum_1 rfl hl (by decide) rfl (fun ls hl => ?_)
  refine lv_iconst (v := (0 : Int32)) hx hb dX1_weightSum_2 (by decide) ?_
  refine lv_istore_n (lv' := [(3, .int (0 : Int32)), (1, .long (0 : Int64)), (0, .ref (ad 8))]) hx hb dX1_weightSum_3 rfl hl (by decide) rfl (fun ls hl => ?_)
  have loop_4 : ∀ (n4 j4 : Nat) (x1 : Int64), j4 + n4 = bH → zl_X1_weightSum_4 bW n4 j4 x1 = (zl_X1_weightSum_4 bW bH 0 (0 : Int64)) → ∀ (H : Heap) (locs : List Loc), zM g B A s [wBel g ad bH bW bT bM] H locs → ∀ ls : Array Slot, lv_has ls 4 [(3, .int (nI j4)), (1, .long x1), (0, .ref (ad 8))] → W p l e R s m args below meth c H locs 0 0 Q (F0 m 4 ls []) := by
    intro n4
    induction n4 with
    | zero =>
      intro j4 x1 hin4 hR4 H locs Z ls hl
      have e_x1 : (zl_X1_weightSum_4 bW bH 0 (0 : Int64)) = x1 := hR4.symm
      subst e_x1
      refine lv_iload_n hx hb dX1_weightSum_4 rfl (lv_at hl 0 rfl) ?_
      refine lv_aload_n hx hb dX1_weightSum_5 rfl (lv_at hl 2 rfl) ?_
      refine z_get X Z 0 rfl (rfl : zCl[1]? = some (RX1, TX1, 4)) zU_X1 0 (by decide) wF_X1_9 rfl rfl dX1_weightSum_6 ?_
      refine z_icmp_ge (a := j4) (b := bH) (tgt := 27) X rfl rfl (by omega) (by omega) dX1_weightSum_9 (by decide) (fun c_1 => ?_) (fun c_1 => ?_)
      · refine lv_lload_n hx hb dX1_weightSum_27 rfl (lv_at hl 1 rfl) ?_
        exact z_rl (v := (zl_X1_weightSum_4 bW bH 0 (0 : Int64))) E Z (by rw [zf_X1_weightSum_e]; exact ⟨rfl, rfl⟩) dX1_weightSum_28 (Nat.zero_le _) (Nat.zero_le _)
      · (exfalso; omega)
    | succ n4 ih4 =>
      intro j4 x1 hin4 hR4 H locs Z ls hl
      refine lv_iload_n hx hb dX1_weightSum_4 rfl (lv_at hl 0 rfl) ?_
      refine lv_aload_n hx hb dX1_weightSum_5 rfl (lv_at hl 2 rfl) ?_
      refine z_get X Z 0 rfl (rfl : zCl[1]? = some (RX1, TX1, 4)) zU_X1 0 (by decide) wF_X1_9 rfl rfl dX1_weightSum_6 ?_
      refine z_icmp_ge (a := j4) (b := bH) (tgt := 27) X rfl rfl (by omega) (by omega) dX1_weightSum_9 (by decide) (fun c_2 => ?_) (fun c_2 => ?_)
      · (exfalso; omega)
      · refine lv_lload_n hx hb dX1_weightSum_12 rfl (lv_at hl 1 rfl) ?_
        refine lv_aload_n hx hb dX1_weightSum_13 rfl (lv_at hl 2 rfl) ?_
        refine z_get X Z 0 rfl (rfl : zCl[1]? = some (RX1, TX1, 4)) zU_X1 1 (by decide) wF_X1_15 rfl rfl dX1_weightSum_14 ?_
        refine lv_iload_n hx hb dX1_weightSum_17 rfl (lv_at hl 0 rfl) ?_
        refine z_lald (j := j4) X Z 1 rfl rfl (by omega) (by decide) dX1_weightSum_18 ?_
        refine lv_ladd hx hb dX1_weightSum_19 ?_
        refine lv_lstore_n (lv' := [(1, .long (x1 + (bW j4))), (3, .int (nI j4)), (0, .ref (ad 8))]) hx hb dX1_weightSum_20 rfl hl (by decide) rfl (fun ls hl => ?_)
        refine z_iinc (b := (j4 + 1)) (st := 1) (lv' := [(3, .int (nI (j4 + 1))), (1, .long (x1 + (bW j4))), (0, .ref (ad 8))]) X dX1_weightSum_21 hl (k := 1) rfl rfl (by decide) (by omega) (by decide) rfl (fun ls hl => ?_)
        refine lv_goto (tgt := 4) hx hb dX1_weightSum_24 (by decide) ?_
        exact ih4 (j4 + 1) (x1 + (bW j4)) (by omega) (by have h9 := hR4; rw [zl_X1_weightSum_4_s] at h9; exact h9) _ _ Z ls (lv_sub hl [0, 1, 2] rfl)
  exact loop_4 bH 0 (0 : Int64) (by omega) rfl _ _ Z ls (lv_sub hl [0, 1, 2] rfl)
def zl_X1_mixedInto_65 (bM : Nat → Nat → Int32) (j53 : Nat) : Nat → Nat → Int64 → Int64
  | 0, _, y3 => y3
  | n65 + 1, j65, y3 => zl_X1_mixedInto_65 bM j53 n65 (j65 + 1) (zf_X8_mix y3 ((bM j53 j65).toInt64))
theorem zl_X1_mixedInto_65_s (bM : Nat → Nat → Int32) (j53 : Nat) (n65 : Nat) (j65 : Nat) (y3 : Int64) : zl_X1_mixedInto_65 bM j53 (n65 + 1) j65 y3 = zl_X1_mixedInto_65 bM j53 n65 (j65 + 1) (zf_X8_mix y3 ((bM j53 j65).toInt64)) := rfl
def zl_X1_mixedInto_53 (bH : Nat) (bM : Nat → Nat → Int32) : Nat → Nat → Int64 → Int64
  | 0, _, x3 => x3
  | n53 + 1, j53, x3 => zl_X1_mixedInto_53 bH bM n53 (j53 + 1) (zl_X1_mixedInto_65 bM j53 (bH * 3) 0 x3)
theorem zl_X1_mixedInto_53_s (bH : Nat) (bM : Nat → Nat → Int32) (n53 : Nat) (j53 : Nat) (x3 : Int64) : zl_X1_mixedInto_53 bH bM (n53 + 1) j53 x3 = zl_X1_mixedInto_53 bH bM n53 (j53 + 1) (zl_X1_mixedInto_65 bM j53 (bH * 3) 0 x3) := rfl
def zl_X1_mixedInto_13 (bW : Nat → Int64) : Nat → Nat → Int64 → Int64
  | 0, _, x3 => x3
  | n13 + 1, j13, x3 => zl_X1_mixedInto_13 bW n13 (j13 + 1) (zf_X8_mix x3 (bW j13))
theorem zl_X1_mixedInto_13_s (bW : Nat → Int64) (n13 : Nat) (j13 : Nat) (x3 : Int64) : zl_X1_mixedInto_13 bW (n13 + 1) j13 x3 = zl_X1_mixedInto_13 bW n13 (j13 + 1) (zf_X8_mix x3 (bW j13)) := rfl
def zf_X1_mixedInto (bH : Nat) (bW : Nat → Int64) (bT : Nat) (bM : Nat → Nat → Int32) (h : Int64) : Int64 := (zl_X1_mixedInto_53 bH bM bT 0 (zf_X8_mix (zl_X1_mixedInto_13 bW bH 0 (zf_X8_mix h (lN bH))) (lN bT)))
theorem zf_X1_mixedInto_e (bH : Nat) (bW : Nat → Int64) (bT : Nat) (bM : Nat → Nat → Int32) (h : Int64) : zf_X1_mixedInto bH bW bT bM h = (zl_X1_mixedInto_53 bH bM bT 0 (zf_X8_mix (zl_X1_mixedInto_13 bW bH 0 (zf_X8_mix h (lN bH))) (lN bT))) := rfl
set_option maxHeartbeats 4000000 in
set_option maxRecDepth 100000 in
theorem zc_X1_mixedInto (l : Launch) (g : zG) (B : Nat) (ad : Nat → Nat) (bH : Nat) (bW : Nat → Int64) (bT : Nat) (bM : Nat → Nat → Int32) (h : Int64) (hh : bH ≤ 8) (ht : bT ≤ 10) : zMet l g B yX1_mixedInto cX1_mixedInto 7 (some .long) 2 60 0 0 [.ref (ad 8), .long h] [wBel g ad bH bW bT bM] (zDet (some (.long (zf_X1_mixedInto bH bW bT bM h))) [wBel g ad bH bW bT bM]) := by
  refine z_in (plainFor_of_name (by decide)) (Nat.le_of_ble_eq_true rfl) (fun p e R s m args below meth c A Q hRf hRl hRc hRs X Z hnm E ls hl => ?_)
  have hx := X.1
  have hb := X.2.1
  have hown := X.2.2.2.1
  have hts := X.2.2.2.2.1
  have hl : lv_has ls 7 [(0, .ref (ad 8)), (1, .long h)] := hl
  refine lv_lload_n hx hb dX1_mixedInto_0 rfl (lv_at hl 1 rfl) ?_
  refine lv_aload_n hx hb dX1_mixedInto_1 rfl (lv_at hl 0 rfl) ?_
  refine z_get X Z 0 rfl (rfl : zCl[1]? = some (RX1, TX1, 4)) zU_X1 0 (by decide) wF_X1_9 rfl rfl dX1_mixedInto_2 ?_
  refine z_i2l (a := bH) X rfl (by omega) dX1_mixedInto_5 ?_
  refine z_callSN (mc := 0) (ms := 0) (As := [.long h, .long (lN bH)]) (rest := []) (st2 := [.long (zf_X8_mix h (lN bH))]) (cs2 := [wBel g ad bH bW bT bM]) X Z [] [0] [0] (zc_X8_mix l g B h (lN bH)) (by decide +kernel : Cond.methodLinkNest RX1 52 yX8_mix "TripodScale" ∈ zNw) wS_X8_mix wK_X8_mix wZ_X8 2 1 1 rfl (by decide +kernel) rfl (by decide) rfl rfl rfl (by decide) rfl hl.1 rfl rfl (by rw [hRf, hRl]; exact ⟨Nat.le_of_ble_eq_true rfl, Nat.le_of_ble_eq_true rfl⟩) (Nat.le_of_ble_eq_true rfl) ⟨Nat.zero_le _, Nat.zero_le _⟩ dX1_mixedInto_6 (fun H locs Z => ?_)
  refine lv_lstore_n (lv' := [(3, .long (zf_X8_mix h (lN bH))), (0, .ref (ad 8)), (1, .long h)]) hx hb dX1_mixedInto_9 rfl hl (by decide) rfl (fun ls hl => ?_)
  refine lv_iconst (v := (0 : Int32)) hx hb dX1_mixedInto_10 (by decide) ?_
  refine lv_istore (lv' := [(5, .int (0 : Int32)), (3, .long (zf_X8_mix h (lN bH))), (0, .ref (ad 8)), (1, .long h)]) hx hb dX1_mixedInto_11 hl (by decide) rfl (fun ls hl => ?_)
  have loop_13 : ∀ (n13 j13 : Nat) (x3 : Int64), j13 + n13 = bH → zl_X1_mixedInto_13 bW n13 j13 x3 = (zl_X1_mixedInto_13 bW bH 0 (zf_X8_mix h (lN bH))) → ∀ (H : Heap) (locs : List Loc), zM g B A s [wBel g ad bH bW bT bM] H locs → ∀ ls : Array Slot, lv_has ls 7 [(5, .int (nI j13)), (3, .long x3), (0, .ref (ad 8)), (1, .long h)] → W p l e R s m args below meth c H locs 0 0 Q (F0 m 13 ls []) := by
    intro n13
    induction n13 with
    | zero =>
      intro j13 x3 hin13 hR13 H locs Z ls hl
      have e_x3 : (zl_X1_mixedInto_13 bW bH 0 (zf_X8_mix h (lN bH))) = x3 := hR13.symm
      subst e_x3
      refine lv_iload hx hb dX1_mixedInto_13 (lv_at hl 0 rfl) ?_
      refine lv_aload_n hx hb dX1_mixedInto_15 rfl (lv_at hl 2 rfl) ?_
      refine z_get X Z 0 rfl (rfl : zCl[1]? = some (RX1, TX1, 4)) zU_X1 0 (by decide) wF_X1_9 rfl rfl dX1_mixedInto_16 ?_
      refine z_icmp_ge (a := j13) (b := bH) (tgt := 40) X rfl rfl (by omega) (by omega) dX1_mixedInto_19 (by decide) (fun c_1 => ?_) (fun c_1 => ?_)
      · refine lv_lload_n hx hb dX1_mixedInto_40 rfl (lv_at hl 1 rfl) ?_
        refine lv_aload_n hx hb dX1_mixedInto_41 rfl (lv_at hl 2 rfl) ?_
        refine z_get X Z 0 rfl (rfl : zCl[1]? = some (RX1, TX1, 4)) zU_X1 2 (by decide) wF_X1_30 rfl rfl dX1_mixedInto_42 ?_
        refine z_i2l (a := bT) X rfl (by omega) dX1_mixedInto_45 ?_
        refine z_callSN (mc := 0) (ms := 0) (As := [.long (zl_X1_mixedInto_13 bW bH 0 (zf_X8_mix h (lN bH))), .long (lN bT)]) (rest := []) (st2 := [.long (zf_X8_mix (zl_X1_mixedInto_13 bW bH 0 (zf_X8_mix h (lN bH))) (lN bT))]) (cs2 := [wBel g ad bH bW bT bM]) X Z [] [0] [0] (zc_X8_mix l g B (zl_X1_mixedInto_13 bW bH 0 (zf_X8_mix h (lN bH))) (lN bT)) (by decide +kernel : Cond.methodLinkNest RX1 52 yX8_mix "TripodScale" ∈ zNw) wS_X8_mix wK_X8_mix wZ_X8 2 1 1 rfl (by decide +kernel) rfl (by decide) rfl rfl rfl (by decide) rfl hl.1 rfl rfl (by rw [hRf, hRl]; exact ⟨Nat.le_of_ble_eq_true rfl, Nat.le_of_ble_eq_true rfl⟩) (Nat.le_of_ble_eq_true rfl) ⟨Nat.zero_le _, Nat.zero_le _⟩ dX1_mixedInto_46 (fun H locs Z => ?_)
        refine lv_lstore_n (lv' := [(3, .long (zf_X8_mix (zl_X1_mixedInto_13 bW bH 0 (zf_X8_mix h (lN bH))) (lN bT))), (5, .int (nI j13)), (0, .ref (ad 8)), (1, .long h)]) hx hb dX1_mixedInto_49 rfl hl (by decide) rfl (fun ls hl => ?_)
        refine lv_iconst (v := (0 : Int32)) hx hb dX1_mixedInto_50 (by decide) ?_
        refine lv_istore (lv' := [(5, .int (0 : Int32)), (3, .long (zf_X8_mix (zl_X1_mixedInto_13 bW bH 0 (zf_X8_mix h (lN bH))) (lN bT))), (0, .ref (ad 8)), (1, .long h)]) hx hb dX1_mixedInto_51 hl (by decide) rfl (fun ls hl => ?_)
        have loop_53 : ∀ (n53 j53 : Nat) (x3 : Int64), j53 + n53 = bT → zl_X1_mixedInto_53 bH bM n53 j53 x3 = (zl_X1_mixedInto_53 bH bM bT 0 (zf_X8_mix (zl_X1_mixedInto_13 bW bH 0 (zf_X8_mix h (lN bH))) (lN bT))) → ∀ (H : Heap) (locs : List Loc), zM g B A s [wBel g ad bH bW bT bM] H locs → ∀ ls : Array Slot, lv_has ls 7 [(5, .int (nI j53)), (3, .long x3), (0, .ref (ad 8)), (1, .long h)] → W p l e R s m args below meth c H locs 0 0 Q (F0 m 53 ls []) := by
          intro n53
          induction n53 with
          | zero =>
            intro j53 x3 hin53 hR53 H locs Z ls hl
            have e_x3 : (zl_X1_mixedInto_53 bH bM bT 0 (zf_X8_mix (zl_X1_mixedInto_13 bW bH 0 (zf_X8_mix h (lN bH))) (lN bT))) = x3 := hR53.symm
            subst e_x3
            refine lv_iload hx hb dX1_mixedInto_53 (lv_at hl 0 rfl) ?_
            refine lv_aload_n hx hb dX1_mixedInto_55 rfl (lv_at hl 2 rfl) ?_
            refine z_get X Z 0 rfl (rfl : zCl[1]? = some (RX1, TX1, 4)) zU_X1 2 (by decide) wF_X1_30 rfl rfl dX1_mixedInto_56 ?_
            refine z_icmp_ge (a := j53) (b := bT) (tgt := 104) X rfl rfl (by omega) (by omega) dX1_mixedInto_59 (by decide) (fun c_2 => ?_) (fun c_2 => ?_)
            · refine lv_lload_n hx hb dX1_mixedInto_104 rfl (lv_at hl 1 rfl) ?_
              exact z_rl (v := (zl_X1_mixedInto_53 bH bM bT 0 (zf_X8_mix (zl_X1_mixedInto_13 bW bH 0 (zf_X8_mix h (lN bH))) (lN bT)))) E Z (by rw [zf_X1_mixedInto_e]; exact ⟨rfl, rfl⟩) dX1_mixedInto_105 (Nat.zero_le _) (Nat.zero_le _)
            · (exfalso; omega)
          | succ n53 ih53 =>
            intro j53 x3 hin53 hR53 H locs Z ls hl
            refine lv_iload hx hb dX1_mixedInto_53 (lv_at hl 0 rfl) ?_
            refine lv_aload_n hx hb dX1_mixedInto_55 rfl (lv_at hl 2 rfl) ?_
            refine z_get X Z 0 rfl (rfl : zCl[1]? = some (RX1, TX1, 4)) zU_X1 2 (by decide) wF_X1_30 rfl rfl dX1_mixedInto_56 ?_
            refine z_icmp_ge (a := j53) (b := bT) (tgt := 104) X rfl rfl (by omega) (by omega) dX1_mixedInto_59 (by decide) (fun c_3 => ?_) (fun c_3 => ?_)
            · (exfalso; omega)
            · refine lv_iconst (v := (0 : Int32)) hx hb dX1_mixedInto_62 (by decide) ?_
              refine lv_istore (lv' := [(6, .int (0 : Int32)), (5, .int (nI j53)), (3, .long x3), (0, .ref (ad 8)), (1, .long h)]) hx hb dX1_mixedInto_63 hl (by decide) rfl (fun ls hl => ?_)
              have loop_65 : ∀ (n65 j65 : Nat) (y3 : Int64), j65 + n65 = (bH * 3) → zl_X1_mixedInto_65 bM j53 n65 j65 y3 = (zl_X1_mixedInto_65 bM j53 (bH * 3) 0 x3) → ∀ (H : Heap) (locs : List Loc), zM g B A s [wBel g ad bH bW bT bM] H locs → ∀ ls : Array Slot, lv_has ls 7 [(6, .int (nI j65)), (5, .int (nI j53)), (3, .long y3), (0, .ref (ad 8)), (1, .long h)] → W p l e R s m args below meth c H locs 0 0 Q (F0 m 65 ls []) := by
                intro n65
                induction n65 with
                | zero =>
                  intro j65 y3 hin65 hR65 H locs Z ls hl
                  have e_y3 : (zl_X1_mixedInto_65 bM j53 (bH * 3) 0 x3) = y3 := hR65.symm
                  subst e_y3
                  refine lv_iload hx hb dX1_mixedInto_65 (lv_at hl 0 rfl) ?_
                  refine lv_aload_n hx hb dX1_mixedInto_67 rfl (lv_at hl 3 rfl) ?_
                  refine z_get X Z 0 rfl (rfl : zCl[1]? = some (RX1, TX1, 4)) zU_X1 0 (by decide) wF_X1_9 rfl rfl dX1_mixedInto_68 ?_
                  refine lv_iconst (v := (3 : Int32)) hx hb dX1_mixedInto_71 (by decide) ?_
                  refine z_imul (a := bH) (b := 3) X rfl rfl dX1_mixedInto_72 ?_
                  refine z_icmp_ge (a := j65) (b := (bH * 3)) (tgt := 98) X rfl rfl (by omega) (by omega) dX1_mixedInto_73 (by decide) (fun c_4 => ?_) (fun c_4 => ?_)
                  · refine z_iinc (b := (j53 + 1)) (st := 1) (lv' := [(5, .int (nI (j53 + 1))), (6, .int (nI j65)), (3, .long (zl_X1_mixedInto_65 bM j53 (bH * 3) 0 x3)), (0, .ref (ad 8)), (1, .long h)]) X dX1_mixedInto_98 hl (k := 1) rfl rfl (by decide) (by omega) (by decide) rfl (fun ls hl => ?_)
                    refine lv_goto (tgt := 53) hx hb dX1_mixedInto_101 (by decide) ?_
                    exact ih53 (j53 + 1) (zl_X1_mixedInto_65 bM j53 (bH * 3) 0 x3) (by omega) (by have h9 := hR53; rw [zl_X1_mixedInto_53_s] at h9; exact h9) _ _ Z ls (lv_sub hl [0, 2, 3, 4] rfl)
                  · (exfalso; omega)
                | succ n65 ih65 =>
                  intro j65 y3 hin65 hR65 H locs Z ls hl
                  refine lv_iload hx hb dX1_mixedInto_65 (lv_at hl 0 rfl) ?_
                  refine lv_aload_n hx hb dX1_mixedInto_67 rfl (lv_at hl 3 rfl) ?_
                  refine z_get X Z 0 rfl (rfl : zCl[1]? = some (RX1, TX1, 4)) zU_X1 0 (by decide) wF_X1_9 rfl rfl dX1_mixedInto_68 ?_
                  refine lv_iconst (v := (3 : Int32)) hx hb dX1_mixedInto_71 (by decide) ?_
                  refine z_imul (a := bH) (b := 3) X rfl rfl dX1_mixedInto_72 ?_
                  refine z_icmp_ge (a := j65) (b := (bH * 3)) (tgt := 98) X rfl rfl (by omega) (by omega) dX1_mixedInto_73 (by decide) (fun c_5 => ?_) (fun c_5 => ?_)
                  · (exfalso; omega)
                  · refine lv_lload_n hx hb dX1_mixedInto_76 rfl (lv_at hl 2 rfl) ?_
                    refine lv_aload_n hx hb dX1_mixedInto_77 rfl (lv_at hl 3 rfl) ?_
                    refine z_get X Z 0 rfl (rfl : zCl[1]? = some (RX1, TX1, 4)) zU_X1 3 (by decide) wF_X1_21 rfl rfl dX1_mixedInto_78 ?_
                    refine lv_iload hx hb dX1_mixedInto_81 (lv_at hl 1 rfl) ?_
                    refine z_aald (j := j53) (r := (ad (11 + j53))) X Z 2 2 rfl rfl rfl rfl (by omega) (by decide) rfl dX1_mixedInto_83 ?_
                    refine lv_iload hx hb dX1_mixedInto_84 (lv_at hl 0 rfl) ?_
                    refine z_iald (j := j65) (f := bM j53) X Z _ (zB_get (by omega)) rfl (by omega) (by decide) dX1_mixedInto_86 ?_
                    refine lv_i2l hx hb dX1_mixedInto_87 rfl ?_
                    refine z_callSN (mc := 0) (ms := 0) (As := [.long y3, .long ((bM j53 j65).toInt64)]) (rest := []) (st2 := [.long (zf_X8_mix y3 ((bM j53 j65).toInt64))]) (cs2 := [wBel g ad bH bW bT bM]) X Z [] [0] [0] (zc_X8_mix l g B y3 ((bM j53 j65).toInt64)) (by decide +kernel : Cond.methodLinkNest RX1 52 yX8_mix "TripodScale" ∈ zNw) wS_X8_mix wK_X8_mix wZ_X8 2 1 1 rfl (by decide +kernel) rfl (by decide) rfl rfl rfl (by decide) rfl hl.1 rfl rfl (by rw [hRf, hRl]; exact ⟨Nat.le_of_ble_eq_true rfl, Nat.le_of_ble_eq_true rfl⟩) (Nat.le_of_ble_eq_true rfl) ⟨Nat.zero_le _, Nat.zero_le _⟩ dX1_mixedInto_88 (fun H locs Z => ?_)
                    refine lv_lstore_n (lv' := [(3, .long (zf_X8_mix y3 ((bM j53 j65).toInt64))), (6, .int (nI j65)), (5, .int (nI j53)), (0, .ref (ad 8)), (1, .long h)]) hx hb dX1_mixedInto_91 rfl hl (by decide) rfl (fun ls hl => ?_)
                    refine z_iinc (b := (j65 + 1)) (st := 1) (lv' := [(6, .int (nI (j65 + 1))), (3, .long (zf_X8_mix y3 ((bM j53 j65).toInt64))), (5, .int (nI j53)), (0, .ref (ad 8)), (1, .long h)]) X dX1_mixedInto_92 hl (k := 1) rfl rfl (by decide) (by omega) (by decide) rfl (fun ls hl => ?_)
                    refine lv_goto (tgt := 65) hx hb dX1_mixedInto_95 (by decide) ?_
                    exact ih65 (j65 + 1) (zf_X8_mix y3 ((bM j53 j65).toInt64)) (by omega) (by have h9 := hR65; rw [zl_X1_mixedInto_65_s] at h9; exact h9) _ _ Z ls (lv_sub hl [0, 2, 1, 3, 4] rfl)
              exact loop_65 (bH * 3) 0 x3 (by omega) rfl _ _ Z ls (lv_sub hl [0, 1, 2, 3, 4] rfl)
        exact loop_53 bT 0 (zf_X8_mix (zl_X1_mixedInto_13 bW bH 0 (zf_X8_mix h (lN bH))) (lN bT)) (by omega) rfl _ _ Z ls (lv_sub hl [0, 1, 2, 3] rfl)
      · (exfalso; omega)
    | succ n13 ih13 =>
      intro j13 x3 hin13 hR13 H locs Z ls hl
      refine lv_iload hx hb dX1_mixedInto_13 (lv_at hl 0 rfl) ?_
      refine lv_aload_n hx hb dX1_mixedInto_15 rfl (lv_at hl 2 rfl) ?_
      refine z_get X Z 0 rfl (rfl : zCl[1]? = some (RX1, TX1, 4)) zU_X1 0 (by decide) wF_X1_9 rfl rfl dX1_mixedInto_16 ?_
      refine z_icmp_ge (a := j13) (b := bH) (tgt := 40) X rfl rfl (by omega) (by omega) dX1_mixedInto_19 (by decide) (fun c_6 => ?_) (fun c_6 => ?_)
      · (exfalso; omega)
      · refine lv_lload_n hx hb dX1_mixedInto_22 rfl (lv_at hl 1 rfl) ?_
        refine lv_aload_n hx hb dX1_mixedInto_23 rfl (lv_at hl 2 rfl) ?_
        refine z_get X Z 0 rfl (rfl : zCl[1]? = some (RX1, TX1, 4)) zU_X1 1 (by decide) wF_X1_15 rfl rfl dX1_mixedInto_24 ?_
        refine lv_iload hx hb dX1_mixedInto_27 (lv_at hl 0 rfl) ?_
        refine z_lald (j := j13) X Z 1 rfl rfl (by omega) (by decide) dX1_mixedInto_29 ?_
        refine z_callSN (mc := 0) (ms := 0) (As := [.long x3, .long (bW j13)]) (rest := []) (st2 := [.long (zf_X8_mix x3 (bW j13))]) (cs2 := [wBel g ad bH bW bT bM]) X Z [] [0] [0] (zc_X8_mix l g B x3 (bW j13)) (by decide +kernel : Cond.methodLinkNest RX1 52 yX8_mix "TripodScale" ∈ zNw) wS_X8_mix wK_X8_mix wZ_X8 2 1 1 rfl (by decide +kernel) rfl (by decide) rfl rfl rfl (by decide) rfl hl.1 rfl rfl (by rw [hRf, hRl]; exact ⟨Nat.le_of_ble_eq_true rfl, Nat.le_of_ble_eq_true rfl⟩) (Nat.le_of_ble_eq_true rfl) ⟨Nat.zero_le _, Nat.zero_le _⟩ dX1_mixedInto_30 (fun H locs Z => ?_)
        refine lv_lstore_n (lv' := [(3, .long (zf_X8_mix x3 (bW j13))), (5, .int (nI j13)), (0, .ref (ad 8)), (1, .long h)]) hx hb dX1_mixedInto_33 rfl hl (by decide) rfl (fun ls hl => ?_)
        refine z_iinc (b := (j13 + 1)) (st := 1) (lv' := [(5, .int (nI (j13 + 1))), (3, .long (zf_X8_mix x3 (bW j13))), (0, .ref (ad 8)), (1, .long h)]) X dX1_mixedInto_34 hl (k := 1) rfl rfl (by decide) (by omega) (by decide) rfl (fun ls hl => ?_)
        refine lv_goto (tgt := 13) hx hb dX1_mixedInto_37 (by decide) ?_
        exact ih13 (j13 + 1) (zf_X8_mix x3 (bW j13)) (by omega) (by have h9 := hR13; rw [zl_X1_mixedInto_13_s] at h9; exact h9) _ _ Z ls (lv_sub hl [0, 1, 2, 3] rfl)
  exact loop_13 bH 0 (zf_X8_mix h (lN bH)) (by omega) rfl _ _ Z ls (lv_sub hl [0, 1, 2, 3] rfl)
def zf_X6_copyFrom (PX : Nat → Int32) (PY : Nat → Int32) (PC : Nat → Int32) (POX : Nat → Int32) (POY : Nat → Int32) (POW : Nat → Int32) (bW : Nat → Int64) (bM : Nat → Nat → Int32) (rSt : Nat → Int32) (rHo : Nat → Int32) (rEl : Nat → Int32) (rEh : Nat → Int32) (P2X : Nat → Int32) (P2Y : Nat → Int32) (P2C : Nat → Int32) (P2N : Nat) (P2OX : Nat → Int32) (P2OY : Nat → Int32) (P2OW : Nat → Int32) (b2H : Nat) (b2W : Nat → Int64) (b2T : Nat) (b2M : Nat → Nat → Int32) (r2S : Nat) (r2St : Nat → Int32) (r2Ho : Nat → Int32) (r2E : Nat) (r2El : Nat → Int32) (r2Eh : Nat → Int32) : (Nat → Int32) × (Nat → Int32) × (Nat → Int32) × Nat × (Nat → Int32) × (Nat → Int32) × (Nat → Int32) × Nat × (Nat → Int64) × Nat × (Nat → Nat → Int32) × Nat × (Nat → Int32) × (Nat → Int32) × Nat × (Nat → Int32) × (Nat → Int32) := (((zf_X4_copyFrom PX PY PC POX POY POW P2X P2Y P2C P2N P2OX P2OY P2OW).1), ((zf_X4_copyFrom PX PY PC POX POY POW P2X P2Y P2C P2N P2OX P2OY P2OW).2.1), ((zf_X4_copyFrom PX PY PC POX POY POW P2X P2Y P2C P2N P2OX P2OY P2OW).2.2.1), ((zf_X4_copyFrom PX PY PC POX POY POW P2X P2Y P2C P2N P2OX P2OY P2OW).2.2.2.1), ((zf_X4_copyFrom PX PY PC POX POY POW P2X P2Y P2C P2N P2OX P2OY P2OW).2.2.2.2.1), ((zf_X4_copyFrom PX PY PC POX POY POW P2X P2Y P2C P2N P2OX P2OY P2OW).2.2.2.2.2.1), ((zf_X4_copyFrom PX PY PC POX POY POW P2X P2Y P2C P2N P2OX P2OY P2OW).2.2.2.2.2.2), ((zf_X1_copyFrom bW bM b2H b2W b2T b2M).1), ((zf_X1_copyFrom bW bM b2H b2W b2T b2M).2.1), ((zf_X1_copyFrom bW bM b2H b2W b2T b2M).2.2.1), ((zf_X1_copyFrom bW bM b2H b2W b2T b2M).2.2.2), ((zf_X5_copyFrom rSt rHo rEl rEh r2S r2St r2Ho r2E r2El r2Eh).1), ((zf_X5_copyFrom rSt rHo rEl rEh r2S r2St r2Ho r2E r2El r2Eh).2.1), ((zf_X5_copyFrom rSt rHo rEl rEh r2S r2St r2Ho r2E r2El r2Eh).2.2.1), ((zf_X5_copyFrom rSt rHo rEl rEh r2S r2St r2Ho r2E r2El r2Eh).2.2.2.1), ((zf_X5_copyFrom rSt rHo rEl rEh r2S r2St r2Ho r2E r2El r2Eh).2.2.2.2.1), ((zf_X5_copyFrom rSt rHo rEl rEh r2S r2St r2Ho r2E r2El r2Eh).2.2.2.2.2))
theorem zf_X6_copyFrom_e (PX : Nat → Int32) (PY : Nat → Int32) (PC : Nat → Int32) (POX : Nat → Int32) (POY : Nat → Int32) (POW : Nat → Int32) (bW : Nat → Int64) (bM : Nat → Nat → Int32) (rSt : Nat → Int32) (rHo : Nat → Int32) (rEl : Nat → Int32) (rEh : Nat → Int32) (P2X : Nat → Int32) (P2Y : Nat → Int32) (P2C : Nat → Int32) (P2N : Nat) (P2OX : Nat → Int32) (P2OY : Nat → Int32) (P2OW : Nat → Int32) (b2H : Nat) (b2W : Nat → Int64) (b2T : Nat) (b2M : Nat → Nat → Int32) (r2S : Nat) (r2St : Nat → Int32) (r2Ho : Nat → Int32) (r2E : Nat) (r2El : Nat → Int32) (r2Eh : Nat → Int32) : zf_X6_copyFrom PX PY PC POX POY POW bW bM rSt rHo rEl rEh P2X P2Y P2C P2N P2OX P2OY P2OW b2H b2W b2T b2M r2S r2St r2Ho r2E r2El r2Eh = (((zf_X4_copyFrom PX PY PC POX POY POW P2X P2Y P2C P2N P2OX P2OY P2OW).1), ((zf_X4_copyFrom PX PY PC POX POY POW P2X P2Y P2C P2N P2OX P2OY P2OW).2.1), ((zf_X4_copyFrom PX PY PC POX POY POW P2X P2Y P2C P2N P2OX P2OY P2OW).2.2.1), ((zf_X4_copyFrom PX PY PC POX POY POW P2X P2Y P2C P2N P2OX P2OY P2OW).2.2.2.1), ((zf_X4_copyFrom PX PY PC POX POY POW P2X P2Y P2C P2N P2OX P2OY P2OW).2.2.2.2.1), ((zf_X4_copyFrom PX PY PC POX POY POW P2X P2Y P2C P2N P2OX P2OY P2OW).2.2.2.2.2.1), ((zf_X4_copyFrom PX PY PC POX POY POW P2X P2Y P2C P2N P2OX P2OY P2OW).2.2.2.2.2.2), ((zf_X1_copyFrom bW bM b2H b2W b2T b2M).1), ((zf_X1_copyFrom bW bM b2H b2W b2T b2M).2.1), ((zf_X1_copyFrom bW bM b2H b2W b2T b2M).2.2.1), ((zf_X1_copyFrom bW bM b2H b2W b2T b2M).2.2.2), ((zf_X5_copyFrom rSt rHo rEl rEh r2S r2St r2Ho r2E r2El r2Eh).1), ((zf_X5_copyFrom rSt rHo rEl rEh r2S r2St r2Ho r2E r2El r2Eh).2.1), ((zf_X5_copyFrom rSt rHo rEl rEh r2S r2St r2Ho r2E r2El r2Eh).2.2.1), ((zf_X5_copyFrom rSt rHo rEl rEh r2S r2St r2Ho r2E r2El r2Eh).2.2.2.1), ((zf_X5_copyFrom rSt rHo rEl rEh r2S r2St r2Ho r2E r2El r2Eh).2.2.2.2.1), ((zf_X5_copyFrom rSt rHo rEl rEh r2S r2St r2Ho r2E r2El r2Eh).2.2.2.2.2)) := rfl
set_option maxHeartbeats 4000000 in
set_option maxRecDepth 100000 in
theorem zc_X6_copyFrom (l : Launch) (g : zG) (B : Nat) (ad : Nat → Nat) (PX : Nat → Int32) (PY : Nat → Int32) (PC : Nat → Int32) (PN : Nat) (POX : Nat → Int32) (POY : Nat → Int32) (POW : Nat → Int32) (bH : Nat) (bW : Nat → Int64) (bT : Nat) (bM : Nat → Nat → Int32) (rS : Nat) (rSt : Nat → Int32) (rHo : Nat → Int32) (rE : Nat) (rEl : Nat → Int32) (rEh : Nat → Int32) (bd : Nat → Nat) (P2X : Nat → Int32) (P2Y : Nat → Int32) (P2C : Nat → Int32) (P2N : Nat) (P2OX : Nat → Int32) (P2OY : Nat → Int32) (P2OW : Nat → Int32) (b2H : Nat) (b2W : Nat → Int64) (b2T : Nat) (b2M : Nat → Nat → Int32) (r2S : Nat) (r2St : Nat → Int32) (r2Ho : Nat → Int32) (r2E : Nat) (r2El : Nat → Int32) (r2Eh : Nat → Int32) (ht : b2T ≤ 10) : zMet l g B yX6_copyFrom cX6_copyFrom 2 none 3 140 0 0 [.ref (ad 0), .ref (bd 0)] [wStc ad, wPlat g ad PX PY PC PN POX POY POW, wBel g ad bH bW bT bM, wRos g ad rS rSt rHo rE rEl rEh, wStc bd, wPlat g bd P2X P2Y P2C P2N P2OX P2OY P2OW, wBel g bd b2H b2W b2T b2M, wRos g bd r2S r2St r2Ho r2E r2El r2Eh] (zDet (none) [wStc ad, wPlat g ad ((zf_X6_copyFrom PX PY PC POX POY POW bW bM rSt rHo rEl rEh P2X P2Y P2C P2N P2OX P2OY P2OW b2H b2W b2T b2M r2S r2St r2Ho r2E r2El r2Eh).1) ((zf_X6_copyFrom PX PY PC POX POY POW bW bM rSt rHo rEl rEh P2X P2Y P2C P2N P2OX P2OY P2OW b2H b2W b2T b2M r2S r2St r2Ho r2E r2El r2Eh).2.1) ((zf_X6_copyFrom PX PY PC POX POY POW bW bM rSt rHo rEl rEh P2X P2Y P2C P2N P2OX P2OY P2OW b2H b2W b2T b2M r2S r2St r2Ho r2E r2El r2Eh).2.2.1) ((zf_X6_copyFrom PX PY PC POX POY POW bW bM rSt rHo rEl rEh P2X P2Y P2C P2N P2OX P2OY P2OW b2H b2W b2T b2M r2S r2St r2Ho r2E r2El r2Eh).2.2.2.1) ((zf_X6_copyFrom PX PY PC POX POY POW bW bM rSt rHo rEl rEh P2X P2Y P2C P2N P2OX P2OY P2OW b2H b2W b2T b2M r2S r2St r2Ho r2E r2El r2Eh).2.2.2.2.1) ((zf_X6_copyFrom PX PY PC POX POY POW bW bM rSt rHo rEl rEh P2X P2Y P2C P2N P2OX P2OY P2OW b2H b2W b2T b2M r2S r2St r2Ho r2E r2El r2Eh).2.2.2.2.2.1) ((zf_X6_copyFrom PX PY PC POX POY POW bW bM rSt rHo rEl rEh P2X P2Y P2C P2N P2OX P2OY P2OW b2H b2W b2T b2M r2S r2St r2Ho r2E r2El r2Eh).2.2.2.2.2.2.1), wBel g ad ((zf_X6_copyFrom PX PY PC POX POY POW bW bM rSt rHo rEl rEh P2X P2Y P2C P2N P2OX P2OY P2OW b2H b2W b2T b2M r2S r2St r2Ho r2E r2El r2Eh).2.2.2.2.2.2.2.1) ((zf_X6_copyFrom PX PY PC POX POY POW bW bM rSt rHo rEl rEh P2X P2Y P2C P2N P2OX P2OY P2OW b2H b2W b2T b2M r2S r2St r2Ho r2E r2El r2Eh).2.2.2.2.2.2.2.2.1) ((zf_X6_copyFrom PX PY PC POX POY POW bW bM rSt rHo rEl rEh P2X P2Y P2C P2N P2OX P2OY P2OW b2H b2W b2T b2M r2S r2St r2Ho r2E r2El r2Eh).2.2.2.2.2.2.2.2.2.1) ((zf_X6_copyFrom PX PY PC POX POY POW bW bM rSt rHo rEl rEh P2X P2Y P2C P2N P2OX P2OY P2OW b2H b2W b2T b2M r2S r2St r2Ho r2E r2El r2Eh).2.2.2.2.2.2.2.2.2.2.1), wRos g ad ((zf_X6_copyFrom PX PY PC POX POY POW bW bM rSt rHo rEl rEh P2X P2Y P2C P2N P2OX P2OY P2OW b2H b2W b2T b2M r2S r2St r2Ho r2E r2El r2Eh).2.2.2.2.2.2.2.2.2.2.2.1) ((zf_X6_copyFrom PX PY PC POX POY POW bW bM rSt rHo rEl rEh P2X P2Y P2C P2N P2OX P2OY P2OW b2H b2W b2T b2M r2S r2St r2Ho r2E r2El r2Eh).2.2.2.2.2.2.2.2.2.2.2.2.1) ((zf_X6_copyFrom PX PY PC POX POY POW bW bM rSt rHo rEl rEh P2X P2Y P2C P2N P2OX P2OY P2OW b2H b2W b2T b2M r2S r2St r2Ho r2E r2El r2Eh).2.2.2.2.2.2.2.2.2.2.2.2.2.1) ((zf_X6_copyFrom PX PY PC POX POY POW bW bM rSt rHo rEl rEh P2X P2Y P2C P2N P2OX P2OY P2OW b2H b2W b2T b2M r2S r2St r2Ho r2E r2El r2Eh).2.2.2.2.2.2.2.2.2.2.2.2.2.2.1) ((zf_X6_copyFrom PX PY PC POX POY POW bW bM rSt rHo rEl rEh P2X P2Y P2C P2N P2OX P2OY P2OW b2H b2W b2T b2M r2S r2St r2Ho r2E r2El r2Eh).2.2.2.2.2.2.2.2.2.2.2.2.2.2.2.1) ((zf_X6_copyFrom PX PY PC POX POY POW bW bM rSt rHo rEl rEh P2X P2Y P2C P2N P2OX P2OY P2OW b2H b2W b2T b2M r2S r2St r2Ho r2E r2El r2Eh).2.2.2.2.2.2.2.2.2.2.2.2.2.2.2.2), wStc bd, wPlat g bd P2X P2Y P2C P2N P2OX P2OY P2OW, wBel g bd b2H b2W b2T b2M, wRos g bd r2S r2St r2Ho r2E r2El r2Eh]) := by
  refine z_in (plainFor_of_name (by decide)) (Nat.le_of_ble_eq_true rfl) (fun p e R s m args below meth c A Q hRf hRl hRc hRs X Z hnm E ls hl => ?_)
  have hx := X.1
  have hb := X.2.1
  have hown := X.2.2.2.1
  have hts := X.2.2.2.2.1
  have hl : lv_has ls 2 [(0, .ref (ad 0)), (1, .ref (bd 0))] := hl
  refine lv_aload_n hx hb dX6_copyFrom_0 rfl (lv_at hl 0 rfl) ?_
  refine z_get X Z 0 rfl (rfl : zCl[5]? = some (RX6, TX6, 3)) zU_X6 0 (by decide) wF_X6_10 rfl rfl dX6_copyFrom_1 ?_
  refine lv_aload_n hx hb dX6_copyFrom_4 rfl (lv_at hl 1 rfl) ?_
  refine z_get X Z 26 rfl (rfl : zCl[5]? = some (RX6, TX6, 3)) zU_X6 0 (by decide) wF_X6_10 rfl rfl dX6_copyFrom_5 ?_
  refine z_callV (mc := 0) (ms := 0) (As := [.ref (bd 1)]) (rest := []) (st2 := []) (cs2 := [wStc ad, wPlat g ad ((zf_X4_copyFrom PX PY PC POX POY POW P2X P2Y P2C P2N P2OX P2OY P2OW).1) ((zf_X4_copyFrom PX PY PC POX POY POW P2X P2Y P2C P2N P2OX P2OY P2OW).2.1) ((zf_X4_copyFrom PX PY PC POX POY POW P2X P2Y P2C P2N P2OX P2OY P2OW).2.2.1) ((zf_X4_copyFrom PX PY PC POX POY POW P2X P2Y P2C P2N P2OX P2OY P2OW).2.2.2.1) ((zf_X4_copyFrom PX PY PC POX POY POW P2X P2Y P2C P2N P2OX P2OY P2OW).2.2.2.2.1) ((zf_X4_copyFrom PX PY PC POX POY POW P2X P2Y P2C P2N P2OX P2OY P2OW).2.2.2.2.2.1) ((zf_X4_copyFrom PX PY PC POX POY POW P2X P2Y P2C P2N P2OX P2OY P2OW).2.2.2.2.2.2), wBel g ad bH bW bT bM, wRos g ad rS rSt rHo rE rEl rEh, wStc bd, wPlat g bd P2X P2Y P2C P2N P2OX P2OY P2OW, wBel g bd b2H b2W b2T b2M, wRos g bd r2S r2St r2Ho r2E r2El r2Eh]) X Z [1, 5] [0, 2, 3, 4, 6, 7] [2, 0, 3, 4, 5, 1, 6, 7] 0 3 (zc_X4_copyFrom l g B ad PX PY PC PN POX POY POW bd P2X P2Y P2C P2N P2OX P2OY P2OW) wM_X6_30 wS_X4_copyFrom wV_X4_copyFrom wK_X4_copyFrom wZ_X4 1 8 8 rfl (by decide +kernel) rfl (by decide) rfl rfl rfl (by decide) rfl rfl (rfl : zCl[3]? = some (RX4, TX4, 7)) hl.1 rfl rfl (by rw [hRf, hRl]; exact ⟨Nat.le_of_ble_eq_true rfl, Nat.le_of_ble_eq_true rfl⟩) (Nat.le_of_ble_eq_true rfl) ⟨Nat.zero_le _, Nat.zero_le _⟩ dX6_copyFrom_8 (fun H locs Z => ?_)
  refine lv_aload_n hx hb dX6_copyFrom_11 rfl (lv_at hl 0 rfl) ?_
  refine z_get X Z 0 rfl (rfl : zCl[5]? = some (RX6, TX6, 3)) zU_X6 1 (by decide) wF_X6_19 rfl rfl dX6_copyFrom_12 ?_
  refine lv_aload_n hx hb dX6_copyFrom_15 rfl (lv_at hl 1 rfl) ?_
  refine z_get X Z 26 rfl (rfl : zCl[5]? = some (RX6, TX6, 3)) zU_X6 1 (by decide) wF_X6_19 rfl rfl dX6_copyFrom_16 ?_
  refine z_callV (mc := 0) (ms := 0) (As := [.ref (bd 8)]) (rest := []) (st2 := []) (cs2 := [wStc ad, wPlat g ad ((zf_X4_copyFrom PX PY PC POX POY POW P2X P2Y P2C P2N P2OX P2OY P2OW).1) ((zf_X4_copyFrom PX PY PC POX POY POW P2X P2Y P2C P2N P2OX P2OY P2OW).2.1) ((zf_X4_copyFrom PX PY PC POX POY POW P2X P2Y P2C P2N P2OX P2OY P2OW).2.2.1) ((zf_X4_copyFrom PX PY PC POX POY POW P2X P2Y P2C P2N P2OX P2OY P2OW).2.2.2.1) ((zf_X4_copyFrom PX PY PC POX POY POW P2X P2Y P2C P2N P2OX P2OY P2OW).2.2.2.2.1) ((zf_X4_copyFrom PX PY PC POX POY POW P2X P2Y P2C P2N P2OX P2OY P2OW).2.2.2.2.2.1) ((zf_X4_copyFrom PX PY PC POX POY POW P2X P2Y P2C P2N P2OX P2OY P2OW).2.2.2.2.2.2), wBel g ad ((zf_X1_copyFrom bW bM b2H b2W b2T b2M).1) ((zf_X1_copyFrom bW bM b2H b2W b2T b2M).2.1) ((zf_X1_copyFrom bW bM b2H b2W b2T b2M).2.2.1) ((zf_X1_copyFrom bW bM b2H b2W b2T b2M).2.2.2), wRos g ad rS rSt rHo rE rEl rEh, wStc bd, wPlat g bd P2X P2Y P2C P2N P2OX P2OY P2OW, wBel g bd b2H b2W b2T b2M, wRos g bd r2S r2St r2Ho r2E r2El r2Eh]) X Z [2, 6] [0, 1, 3, 4, 5, 7] [2, 3, 0, 4, 5, 6, 1, 7] 0 1 (zc_X1_copyFrom l g B ad bH bW bT bM bd b2H b2W b2T b2M (by first | assumption | omega | decide)) wM_X6_34 wS_X1_copyFrom wV_X1_copyFrom wK_X1_copyFrom wZ_X1 1 8 8 rfl (by decide +kernel) rfl (by decide) rfl rfl rfl (by decide) rfl rfl (rfl : zCl[1]? = some (RX1, TX1, 4)) hl.1 rfl rfl (by rw [hRf, hRl]; exact ⟨Nat.le_of_ble_eq_true rfl, Nat.le_of_ble_eq_true rfl⟩) (Nat.le_of_ble_eq_true rfl) ⟨Nat.zero_le _, Nat.zero_le _⟩ dX6_copyFrom_19 (fun H locs Z => ?_)
  refine lv_aload_n hx hb dX6_copyFrom_22 rfl (lv_at hl 0 rfl) ?_
  refine z_get X Z 0 rfl (rfl : zCl[5]? = some (RX6, TX6, 3)) zU_X6 2 (by decide) wF_X6_26 rfl rfl dX6_copyFrom_23 ?_
  refine lv_aload_n hx hb dX6_copyFrom_26 rfl (lv_at hl 1 rfl) ?_
  refine z_get X Z 26 rfl (rfl : zCl[5]? = some (RX6, TX6, 3)) zU_X6 2 (by decide) wF_X6_26 rfl rfl dX6_copyFrom_27 ?_
  refine z_callV (mc := 0) (ms := 0) (As := [.ref (bd 21)]) (rest := []) (st2 := []) (cs2 := [wStc ad, wPlat g ad ((zf_X4_copyFrom PX PY PC POX POY POW P2X P2Y P2C P2N P2OX P2OY P2OW).1) ((zf_X4_copyFrom PX PY PC POX POY POW P2X P2Y P2C P2N P2OX P2OY P2OW).2.1) ((zf_X4_copyFrom PX PY PC POX POY POW P2X P2Y P2C P2N P2OX P2OY P2OW).2.2.1) ((zf_X4_copyFrom PX PY PC POX POY POW P2X P2Y P2C P2N P2OX P2OY P2OW).2.2.2.1) ((zf_X4_copyFrom PX PY PC POX POY POW P2X P2Y P2C P2N P2OX P2OY P2OW).2.2.2.2.1) ((zf_X4_copyFrom PX PY PC POX POY POW P2X P2Y P2C P2N P2OX P2OY P2OW).2.2.2.2.2.1) ((zf_X4_copyFrom PX PY PC POX POY POW P2X P2Y P2C P2N P2OX P2OY P2OW).2.2.2.2.2.2), wBel g ad ((zf_X1_copyFrom bW bM b2H b2W b2T b2M).1) ((zf_X1_copyFrom bW bM b2H b2W b2T b2M).2.1) ((zf_X1_copyFrom bW bM b2H b2W b2T b2M).2.2.1) ((zf_X1_copyFrom bW bM b2H b2W b2T b2M).2.2.2), wRos g ad ((zf_X5_copyFrom rSt rHo rEl rEh r2S r2St r2Ho r2E r2El r2Eh).1) ((zf_X5_copyFrom rSt rHo rEl rEh r2S r2St r2Ho r2E r2El r2Eh).2.1) ((zf_X5_copyFrom rSt rHo rEl rEh r2S r2St r2Ho r2E r2El r2Eh).2.2.1) ((zf_X5_copyFrom rSt rHo rEl rEh r2S r2St r2Ho r2E r2El r2Eh).2.2.2.1) ((zf_X5_copyFrom rSt rHo rEl rEh r2S r2St r2Ho r2E r2El r2Eh).2.2.2.2.1) ((zf_X5_copyFrom rSt rHo rEl rEh r2S r2St r2Ho r2E r2El r2Eh).2.2.2.2.2), wStc bd, wPlat g bd P2X P2Y P2C P2N P2OX P2OY P2OW, wBel g bd b2H b2W b2T b2M, wRos g bd r2S r2St r2Ho r2E r2El r2Eh]) X Z [3, 7] [0, 1, 2, 4, 5, 6] [2, 3, 4, 0, 5, 6, 7, 1] 0 4 (zc_X5_copyFrom l g B ad rS rSt rHo rE rEl rEh bd r2S r2St r2Ho r2E r2El r2Eh) wM_X6_37 wS_X5_copyFrom wV_X5_copyFrom wK_X5_copyFrom wZ_X5 1 8 8 rfl (by decide +kernel) rfl (by decide) rfl rfl rfl (by decide) rfl rfl (rfl : zCl[4]? = some (RX5, TX5, 6)) hl.1 rfl rfl (by rw [hRf, hRl]; exact ⟨Nat.le_of_ble_eq_true rfl, Nat.le_of_ble_eq_true rfl⟩) (Nat.le_of_ble_eq_true rfl) ⟨Nat.zero_le _, Nat.zero_le _⟩ dX6_copyFrom_30 (fun H locs Z => ?_)
  exact z_rv E Z (by rw [zf_X6_copyFrom_e]; dsimp only; exact ⟨rfl, rfl⟩) dX6_copyFrom_33 (Nat.zero_le _) (Nat.zero_le _)
