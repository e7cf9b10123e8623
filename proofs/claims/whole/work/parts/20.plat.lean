def zf_X8_mix (h : Int64) (v : Int64) : Int64 := (((31 : Int64) * h) + v)
theorem zf_X8_mix_e (h : Int64) (v : Int64) : zf_X8_mix h v = (((31 : Int64) * h) + v) := rfl
set_option maxHeartbeats 4000000 in
set_option maxRecDepth 100000 in
theorem zc_X8_mix (l : Launch) (g : zG) (B : Nat) (h : Int64) (v : Int64) : zMet l g B yX8_mix cX8_mix 4 (some .long) 1 20 0 0 [.long h, .long v] [] (zDet (some (.long (zf_X8_mix h v))) []) := by
  refine z_in (by decide) (Nat.le_of_ble_eq_true rfl) (fun p e R s m args below meth c A Q hRf hRl hRc hRs X Z hnm E ls hl => ?_)
  have hx := X.1
  have hb := X.2.1
  have hown := X.2.2.2.1
  have hts := X.2.2.2.2.1
  have hl : lv_has ls 4 [(0, .long h), (2, .long v)] := hl
  refine lv_ldc2 (v := (31 : Int64)) hx hb hown (hts _ wL_X8_261) dX8_mix_0 ?_
  refine lv_lload_n hx hb dX8_mix_3 rfl (lv_at hl 0 rfl) ?_
  refine lv_lmul hx hb dX8_mix_4 ?_
  refine lv_lload_n hx hb dX8_mix_5 rfl (lv_at hl 1 rfl) ?_
  refine lv_ladd hx hb dX8_mix_6 ?_
  exact z_rl (v := (((31 : Int64) * h) + v)) E Z (by rw [zf_X8_mix_e]; exact ⟨rfl, rfl⟩) dX8_mix_7 (Nat.zero_le _) (Nat.zero_le _)
def zf_X4_signedArea (P : zPl) (k : Nat) (x : Int32) (y : Int32) : Int64 := ((((((pX P) ((k + 1) % 3)) - x).toInt64) * ((((pY P) ((k + 2) % 3)) - y).toInt64)) - (((((pX P) ((k + 2) % 3)) - x).toInt64) * ((((pY P) ((k + 1) % 3)) - y).toInt64)))
theorem zf_X4_signedArea_e (P : zPl) (k : Nat) (x : Int32) (y : Int32) : zf_X4_signedArea P k x y = ((((((pX P) ((k + 1) % 3)) - x).toInt64) * ((((pY P) ((k + 2) % 3)) - y).toInt64)) - (((((pX P) ((k + 2) % 3)) - x).toInt64) * ((((pY P) ((k + 1) % 3)) - y).toInt64))) := rfl
set_option maxHeartbeats 4000000 in
set_option maxRecDepth 100000 in
theorem zc_X4_signedArea (l : Launch) (g : zG) (B : Nat) (ad : Nat → Nat) (P : zPl) (k : Nat) (x : Int32) (y : Int32) (hc : k < 3) : zMet l g B yX4_signedArea cX4_signedArea 6 (some .long) 1 20 0 0 [.ref (ad 1), .int (nI k), .int x, .int y] [wPlat g ad P] (zDet (some (.long (zf_X4_signedArea P k x y))) [wPlat g ad P]) := by
  refine z_in (by decide) (Nat.le_of_ble_eq_true rfl) (fun p e R s m args below meth c A Q hRf hRl hRc hRs X Z hnm E ls hl => ?_)
  have hx := X.1
  have hb := X.2.1
  have hown := X.2.2.2.1
  have hts := X.2.2.2.2.1
  have hl : lv_has ls 6 [(0, .ref (ad 1)), (1, .int (nI k)), (2, .int x), (3, .int y)] := hl
  refine lv_iload_n hx hb dX4_signedArea_0 rfl (lv_at hl 1 rfl) ?_
  refine lv_iconst (v := (1 : Int32)) hx hb dX4_signedArea_1 (by decide) ?_
  refine z_iadd (a := k) (b := 1) X rfl rfl dX4_signedArea_2 ?_
  refine lv_iconst (v := (3 : Int32)) hx hb dX4_signedArea_3 (by decide) ?_
  refine z_irem (a := (k + 1)) (b := 3) X rfl rfl (by omega) (by omega) (by omega) dX4_signedArea_4 ?_
  refine lv_istore (lv' := [(4, .int (nI ((k + 1) % 3))), (0, .ref (ad 1)), (1, .int (nI k)), (2, .int x), (3, .int y)]) hx hb dX4_signedArea_5 hl (by decide) rfl (fun ls hl => ?_)
  refine lv_iload_n hx hb dX4_signedArea_7 rfl (lv_at hl 2 rfl) ?_
  refine lv_iconst (v := (2 : Int32)) hx hb dX4_signedArea_8 (by decide) ?_
  refine z_iadd (a := k) (b := 2) X rfl rfl dX4_signedArea_9 ?_
  refine lv_iconst (v := (3 : Int32)) hx hb dX4_signedArea_10 (by decide) ?_
  refine z_irem (a := (k + 2)) (b := 3) X rfl rfl (by omega) (by omega) (by omega) dX4_signedArea_11 ?_
  refine lv_istore (lv' := [(5, .int (nI ((k + 2) % 3))), (4, .int (nI ((k + 1) % 3))), (0, .ref (ad 1)), (1, .int (nI k)), (2, .int x), (3, .int y)]) hx hb dX4_signedArea_12 hl (by decide) rfl (fun ls hl => ?_)
  refine lv_aload_n hx hb dX4_signedArea_14 rfl (lv_at hl 2 rfl) ?_
  refine z_get X Z 0 rfl (rfl : zCl[3]? = some (RX4, TX4, 7)) zU_X4 0 (by decide) wF_X4_9 rfl rfl dX4_signedArea_15 ?_
  refine lv_iload hx hb dX4_signedArea_18 (lv_at hl 1 rfl) ?_
  refine z_iald (j := ((k + 1) % 3)) X Z 1 rfl rfl (by omega) (by decide) dX4_signedArea_20 ?_
  refine lv_iload_n hx hb dX4_signedArea_21 rfl (lv_at hl 4 rfl) ?_
  refine lv_isub hx hb dX4_signedArea_22 ?_
  refine lv_i2l hx hb dX4_signedArea_23 rfl ?_
  refine lv_aload_n hx hb dX4_signedArea_24 rfl (lv_at hl 2 rfl) ?_
  refine z_get X Z 0 rfl (rfl : zCl[3]? = some (RX4, TX4, 7)) zU_X4 1 (by decide) wF_X4_15 rfl rfl dX4_signedArea_25 ?_
  refine lv_iload hx hb dX4_signedArea_28 (lv_at hl 0 rfl) ?_
  refine z_iald (j := ((k + 2) % 3)) X Z 2 rfl rfl (by omega) (by decide) dX4_signedArea_30 ?_
  refine lv_iload_n hx hb dX4_signedArea_31 rfl (lv_at hl 5 rfl) ?_
  refine lv_isub hx hb dX4_signedArea_32 ?_
  refine lv_i2l hx hb dX4_signedArea_33 rfl ?_
  refine lv_lmul hx hb dX4_signedArea_34 ?_
  refine lv_aload_n hx hb dX4_signedArea_35 rfl (lv_at hl 2 rfl) ?_
  refine z_get X Z 0 rfl (rfl : zCl[3]? = some (RX4, TX4, 7)) zU_X4 0 (by decide) wF_X4_9 rfl rfl dX4_signedArea_36 ?_
  refine lv_iload hx hb dX4_signedArea_39 (lv_at hl 0 rfl) ?_
  refine z_iald (j := ((k + 2) % 3)) X Z 1 rfl rfl (by omega) (by decide) dX4_signedArea_41 ?_
  refine lv_iload_n hx hb dX4_signedArea_42 rfl (lv_at hl 4 rfl) ?_
  refine lv_isub hx hb dX4_signedArea_43 ?_
  refine lv_i2l hx hb dX4_signedArea_44 rfl ?_
  refine lv_aload_n hx hb dX4_signedArea_45 rfl (lv_at hl 2 rfl) ?_
  refine z_get X Z 0 rfl (rfl : zCl[3]? = some (RX4, TX4, 7)) zU_X4 1 (by decide) wF_X4_15 rfl rfl dX4_signedArea_46 ?_
  refine lv_iload hx hb dX4_signedArea_49 (lv_at hl 1 rfl) ?_
  refine z_iald (j := ((k + 1) % 3)) X Z 2 rfl rfl (by omega) (by decide) dX4_signedArea_51 ?_
  refine lv_iload_n hx hb dX4_signedArea_52 rfl (lv_at hl 5 rfl) ?_
  refine lv_isub hx hb dX4_signedArea_53 ?_
  refine lv_i2l hx hb dX4_signedArea_54 rfl ?_
  refine lv_lmul hx hb dX4_signedArea_55 ?_
  refine lv_lsub hx hb dX4_signedArea_56 ?_
  exact z_rl (v := ((((((pX P) ((k + 1) % 3)) - x).toInt64) * ((((pY P) ((k + 2) % 3)) - y).toInt64)) - (((((pX P) ((k + 2) % 3)) - x).toInt64) * ((((pY P) ((k + 1) % 3)) - y).toInt64)))) E Z (by rw [zf_X4_signedArea_e]; exact ⟨rfl, rfl⟩) dX4_signedArea_57 (Nat.zero_le _) (Nat.zero_le _)
def zf_X4_signedAreaOfCells (P : zPl) : Int64 := (zf_X4_signedArea P 0 ((pX P) 0) ((pY P) 0))
theorem zf_X4_signedAreaOfCells_e (P : zPl) : zf_X4_signedAreaOfCells P = (zf_X4_signedArea P 0 ((pX P) 0) ((pY P) 0)) := rfl
set_option maxHeartbeats 4000000 in
set_option maxRecDepth 100000 in
theorem zc_X4_signedAreaOfCells (l : Launch) (g : zG) (B : Nat) (ad : Nat → Nat) (P : zPl) : zMet l g B yX4_signedAreaOfCells cX4_signedAreaOfCells 1 (some .long) 2 60 0 0 [.ref (ad 1)] [wPlat g ad P] (zDet (some (.long (zf_X4_signedAreaOfCells P))) [wPlat g ad P]) := by
  refine z_in (by decide) (Nat.le_of_ble_eq_true rfl) (fun p e R s m args below meth c A Q hRf hRl hRc hRs X Z hnm E ls hl => ?_)
  have hx := X.1
  have hb := X.2.1
  have hown := X.2.2.2.1
  have hts := X.2.2.2.2.1
  have hl : lv_has ls 1 [(0, .ref (ad 1))] := hl
  refine lv_aload_n hx hb dX4_signedAreaOfCells_0 rfl (lv_at hl 0 rfl) ?_
  refine lv_iconst (v := (0 : Int32)) hx hb dX4_signedAreaOfCells_1 (by decide) ?_
  refine lv_aload_n hx hb dX4_signedAreaOfCells_2 rfl (lv_at hl 0 rfl) ?_
  refine z_get X Z 0 rfl (rfl : zCl[3]? = some (RX4, TX4, 7)) zU_X4 0 (by decide) wF_X4_9 rfl rfl dX4_signedAreaOfCells_3 ?_
  refine lv_iconst (v := (0 : Int32)) hx hb dX4_signedAreaOfCells_6 (by decide) ?_
  refine z_iald (j := 0) X Z 1 rfl rfl (by omega) (by decide) dX4_signedAreaOfCells_7 ?_
  refine lv_aload_n hx hb dX4_signedAreaOfCells_8 rfl (lv_at hl 0 rfl) ?_
  refine z_get X Z 0 rfl (rfl : zCl[3]? = some (RX4, TX4, 7)) zU_X4 1 (by decide) wF_X4_15 rfl rfl dX4_signedAreaOfCells_9 ?_
  refine lv_iconst (v := (0 : Int32)) hx hb dX4_signedAreaOfCells_12 (by decide) ?_
  refine z_iald (j := 0) X Z 2 rfl rfl (by omega) (by decide) dX4_signedAreaOfCells_13 ?_
  refine z_callV (mc := 0) (ms := 0) (As := [.int (0 : Int32), .int ((pX P) 0), .int ((pY P) 0)]) (rest := []) (st2 := [.long (zf_X4_signedArea P 0 ((pX P) 0) ((pY P) 0))]) (cs2 := [wPlat g ad P]) X Z [0] [] [0] 0 3 (zc_X4_signedArea l g B ad P 0 ((pX P) 0) ((pY P) 0) (by first | assumption | omega | decide)) wM_X4_40 wS_X4_signedArea wV_X4_signedArea wK_X4_signedArea wZ_X4 3 1 1 rfl (by decide +kernel) rfl (by decide) rfl rfl rfl (by decide) rfl rfl (rfl : zCl[3]? = some (RX4, TX4, 7)) hl.1 rfl rfl (by rw [hRf, hRl]; exact ⟨Nat.le_of_ble_eq_true rfl, Nat.le_of_ble_eq_true rfl⟩) (Nat.le_of_ble_eq_true rfl) ⟨Nat.zero_le _, Nat.zero_le _⟩ dX4_signedAreaOfCells_14 (fun H locs Z => ?_)
  exact z_rl (v := (zf_X4_signedArea P 0 ((pX P) 0) ((pY P) 0))) E Z (by rw [zf_X4_signedAreaOfCells_e]; exact ⟨rfl, rfl⟩) dX4_signedAreaOfCells_17 (Nat.zero_le _) (Nat.zero_le _)
def zf_X4_denominator (P : zPl) : Int64 := (zabsL (zf_X4_signedAreaOfCells P))
theorem zf_X4_denominator_e (P : zPl) : zf_X4_denominator P = (zabsL (zf_X4_signedAreaOfCells P)) := rfl
set_option maxHeartbeats 4000000 in
set_option maxRecDepth 100000 in
theorem zc_X4_denominator (l : Launch) (g : zG) (B : Nat) (ad : Nat → Nat) (P : zPl) : zMet l g B yX4_denominator cX4_denominator 1 (some .long) 3 90 0 0 [.ref (ad 1)] [wPlat g ad P] (zDet (some (.long (zf_X4_denominator P))) [wPlat g ad P]) := by
  refine z_in (by decide) (Nat.le_of_ble_eq_true rfl) (fun p e R s m args below meth c A Q hRf hRl hRc hRs X Z hnm E ls hl => ?_)
  have hx := X.1
  have hb := X.2.1
  have hown := X.2.2.2.1
  have hts := X.2.2.2.2.1
  have hl : lv_has ls 1 [(0, .ref (ad 1))] := hl
  refine lv_aload_n hx hb dX4_denominator_0 rfl (lv_at hl 0 rfl) ?_
  refine z_callV (mc := 0) (ms := 0) (As := []) (rest := []) (st2 := [.long (zf_X4_signedAreaOfCells P)]) (cs2 := [wPlat g ad P]) X Z [0] [] [0] 0 3 (zc_X4_signedAreaOfCells l g B ad P) wM_X4_44 wS_X4_signedAreaOfCells wV_X4_signedAreaOfCells wK_X4_signedAreaOfCells wZ_X4 0 1 1 rfl (by decide +kernel) rfl (by decide) rfl rfl rfl (by decide) rfl rfl (rfl : zCl[3]? = some (RX4, TX4, 7)) hl.1 rfl rfl (by rw [hRf, hRl]; exact ⟨Nat.le_of_ble_eq_true rfl, Nat.le_of_ble_eq_true rfl⟩) (Nat.le_of_ble_eq_true rfl) ⟨Nat.zero_le _, Nat.zero_le _⟩ dX4_denominator_1 (fun H locs Z => ?_)
  refine va_mabs_long hx hb (by rw [X.2.2.1]; exact hl.1.symm) hown (hts _ wM_X4_48) (hts _ zm_abslong_s) (hts _ wZ_J9) (hts _ zm_abslong_c) (by rw [hRf]; decide) (by rw [hRl]; decide) (Nat.zero_le _) (Nat.zero_le _) dX4_denominator_4 ?_
  exact z_rl (v := (zabsL (zf_X4_signedAreaOfCells P))) E Z (by rw [zf_X4_denominator_e]; exact ⟨rfl, rfl⟩) dX4_denominator_7 (Nat.zero_le _) (Nat.zero_le _)
def zf_X4_share (P : zPl) (k : Nat) (x : Int32) (y : Int32) : Int64 := (if (0 : Int64) ≤ (zf_X4_signedAreaOfCells P) then (zf_X4_signedArea P k x y) else (-(zf_X4_signedArea P k x y)))
theorem zf_X4_share_e (P : zPl) (k : Nat) (x : Int32) (y : Int32) : zf_X4_share P k x y = (if (0 : Int64) ≤ (zf_X4_signedAreaOfCells P) then (zf_X4_signedArea P k x y) else (-(zf_X4_signedArea P k x y))) := rfl
set_option maxHeartbeats 4000000 in
set_option maxRecDepth 100000 in
theorem zc_X4_share (l : Launch) (g : zG) (B : Nat) (ad : Nat → Nat) (P : zPl) (k : Nat) (x : Int32) (y : Int32) (hc : k < 3) : zMet l g B yX4_share cX4_share 6 (some .long) 4 120 0 0 [.ref (ad 1), .int (nI k), .int x, .int y] [wPlat g ad P] (zDet (some (.long (zf_X4_share P k x y))) [wPlat g ad P]) := by
  refine z_in (by decide) (Nat.le_of_ble_eq_true rfl) (fun p e R s m args below meth c A Q hRf hRl hRc hRs X Z hnm E ls hl => ?_)
  have hx := X.1
  have hb := X.2.1
  have hown := X.2.2.2.1
  have hts := X.2.2.2.2.1
  have hl : lv_has ls 6 [(0, .ref (ad 1)), (1, .int (nI k)), (2, .int x), (3, .int y)] := hl
  refine lv_aload_n hx hb dX4_share_0 rfl (lv_at hl 0 rfl) ?_
  refine lv_iload_n hx hb dX4_share_1 rfl (lv_at hl 1 rfl) ?_
  refine lv_iload_n hx hb dX4_share_2 rfl (lv_at hl 2 rfl) ?_
  refine lv_iload_n hx hb dX4_share_3 rfl (lv_at hl 3 rfl) ?_
  refine z_callV (mc := 0) (ms := 0) (As := [.int (nI k), .int x, .int y]) (rest := []) (st2 := [.long (zf_X4_signedArea P k x y)]) (cs2 := [wPlat g ad P]) X Z [0] [] [0] 0 3 (zc_X4_signedArea l g B ad P k x y (by first | assumption | omega | decide)) wM_X4_40 wS_X4_signedArea wV_X4_signedArea wK_X4_signedArea wZ_X4 3 1 1 rfl (by decide +kernel) rfl (by decide) rfl rfl rfl (by decide) rfl rfl (rfl : zCl[3]? = some (RX4, TX4, 7)) hl.1 rfl rfl (by rw [hRf, hRl]; exact ⟨Nat.le_of_ble_eq_true rfl, Nat.le_of_ble_eq_true rfl⟩) (Nat.le_of_ble_eq_true rfl) ⟨Nat.zero_le _, Nat.zero_le _⟩ dX4_share_4 (fun H locs Z => ?_)
  refine lv_lstore (lv' := [(4, .long (zf_X4_signedArea P k x y)), (0, .ref (ad 1)), (1, .int (nI k)), (2, .int x), (3, .int y)]) hx hb dX4_share_7 hl (by decide) rfl (fun ls hl => ?_)
  refine lv_aload_n hx hb dX4_share_9 rfl (lv_at hl 1 rfl) ?_
  refine z_callV (mc := 0) (ms := 0) (As := []) (rest := []) (st2 := [.long (zf_X4_signedAreaOfCells P)]) (cs2 := [wPlat g ad P]) X Z [0] [] [0] 0 3 (zc_X4_signedAreaOfCells l g B ad P) wM_X4_44 wS_X4_signedAreaOfCells wV_X4_signedAreaOfCells wK_X4_signedAreaOfCells wZ_X4 0 1 1 rfl (by decide +kernel) rfl (by decide) rfl rfl rfl (by decide) rfl rfl (rfl : zCl[3]? = some (RX4, TX4, 7)) hl.1 rfl rfl (by rw [hRf, hRl]; exact ⟨Nat.le_of_ble_eq_true rfl, Nat.le_of_ble_eq_true rfl⟩) (Nat.le_of_ble_eq_true rfl) ⟨Nat.zero_le _, Nat.zero_le _⟩ dX4_share_10 (fun H locs Z => ?_)
  refine lv_lconst (v := (0 : Int64)) hx hb dX4_share_13 (by decide) ?_
  refine z_lc_ge (tgt := 24) X dX4_share_14 dX4_share_15 (by decide) (fun c_1 => ?_) (fun c_1 => ?_)
  · refine lv_lload hx hb dX4_share_24 (lv_at hl 0 rfl) ?_
    exact z_rl (v := (zf_X4_signedArea P k x y)) E Z (by rw [zf_X4_share_e, if_pos c_1]; exact ⟨rfl, rfl⟩) dX4_share_26 (Nat.zero_le _) (Nat.zero_le _)
  · refine lv_lload hx hb dX4_share_18 (lv_at hl 0 rfl) ?_
    refine lv_lneg hx hb dX4_share_20 ?_
    refine lv_goto (tgt := 26) hx hb dX4_share_21 (by decide) ?_
    exact z_rl (v := (-(zf_X4_signedArea P k x y))) E Z (by rw [zf_X4_share_e, if_neg c_1]; exact ⟨rfl, rfl⟩) dX4_share_26 (Nat.zero_le _) (Nat.zero_le _)
def zl_X4_numerator_5 (P : zPl) (k : Nat) : Nat → Nat → Int64 → Int64
  | 0, _, x2 => x2
  | n5 + 1, j5, x2 => zl_X4_numerator_5 P k n5 (j5 + 1) (x2 + ((((pOW P) j5).toInt64) * (zf_X4_share P k ((pOX P) j5) ((pOY P) j5))))
theorem zl_X4_numerator_5_s (P : zPl) (k : Nat) (n5 : Nat) (j5 : Nat) (x2 : Int64) : zl_X4_numerator_5 P k (n5 + 1) j5 x2 = zl_X4_numerator_5 P k n5 (j5 + 1) (x2 + ((((pOW P) j5).toInt64) * (zf_X4_share P k ((pOX P) j5) ((pOY P) j5)))) := rfl
def zf_X4_numerator (P : zPl) (k : Nat) : Int64 := (zl_X4_numerator_5 P k (pN P) 0 (0 : Int64))
theorem zf_X4_numerator_e (P : zPl) (k : Nat) : zf_X4_numerator P k = (zl_X4_numerator_5 P k (pN P) 0 (0 : Int64)) := rfl
set_option maxHeartbeats 4000000 in
set_option maxRecDepth 100000 in
theorem zc_X4_numerator (l : Launch) (g : zG) (B : Nat) (ad : Nat → Nat) (P : zPl) (k : Nat) (hc : k < 3) (hn : pN P ≤ 8) : zMet l g B yX4_numerator cX4_numerator 5 (some .long) 5 150 0 0 [.ref (ad 1), .int (nI k)] [wPlat g ad P] (zDet (some (.long (zf_X4_numerator P k))) [wPlat g ad P]) := by
  refine z_in (by decide) (Nat.le_of_ble_eq_true rfl) (fun p e R s m args below meth c A Q hRf hRl hRc hRs X Z hnm E ls hl => ?_)
  have hx := X.1
  have hb := X.2.1
  have hown := X.2.2.2.1
  have hts := X.2.2.2.2.1
  have hl : lv_has ls 5 [(0, .ref (ad 1)), (1, .int (nI k))] := hl
  refine lv_lconst (v := (0 : Int64)) hx hb dX4_numerator_0 (by decide) ?_
  refine lv_lstore_n (lv' := [(2, .long (0 : Int64)), (0, .ref (ad 1)), (1, .int (nI k))]) hx hb dX4_numerator_1 rfl hl (by decide) rfl (fun ls hl => ?_)
  refine lv_iconst (v := (0 : Int32)) hx hb dX4_numerator_2 (by decide) ?_
  refine lv_istore (lv' := [(4, .int (0 : Int32)), (2, .long (0 : Int64)), (0, .ref (ad 1)), (1, .int (nI k))]) hx hb dX4_numerator_3 hl (by decide) rfl (fun ls hl => ?_)
  have loop_5 : ∀ (n5 j5 : Nat) (x2 : Int64), j5 + n5 = (pN P) → zl_X4_numerator_5 P k n5 j5 x2 = (zl_X4_numerator_5 P k (pN P) 0 (0 : Int64)) → ∀ (H : Heap) (locs : List Loc), zM g B A s [wPlat g ad P] H locs → ∀ ls : Array Slot, lv_has ls 5 [(4, .int (nI j5)), (2, .long x2), (0, .ref (ad 1)), (1, .int (nI k))] → W p l e R s m args below meth c H locs 0 0 Q (F0 m 5 ls []) := by
    intro n5
    induction n5 with
    | zero =>
      intro j5 x2 hin5 hR5 H locs Z ls hl
      have e_x2 : x2 = (zl_X4_numerator_5 P k (pN P) 0 (0 : Int64)) := hR5
      subst e_x2
      refine lv_iload hx hb dX4_numerator_5 (lv_at hl 0 rfl) ?_
      refine lv_aload_n hx hb dX4_numerator_7 rfl (lv_at hl 2 rfl) ?_
      refine z_get X Z 0 rfl (rfl : zCl[3]? = some (RX4, TX4, 7)) zU_X4 3 (by decide) wF_X4_36 rfl rfl dX4_numerator_8 ?_
      refine z_icmp_ge (a := j5) (b := (pN P)) (tgt := 51) X rfl rfl (by omega) (by omega) dX4_numerator_11 (by decide) (fun c_1 => ?_) (fun c_1 => ?_)
      · refine lv_lload_n hx hb dX4_numerator_51 rfl (lv_at hl 1 rfl) ?_
        exact z_rl (v := (zl_X4_numerator_5 P k (pN P) 0 (0 : Int64))) E Z (by rw [zf_X4_numerator_e]; exact ⟨rfl, rfl⟩) dX4_numerator_52 (Nat.zero_le _) (Nat.zero_le _)
      · (exfalso; omega)
    | succ n5 ih5 =>
      intro j5 x2 hin5 hR5 H locs Z ls hl
      refine lv_iload hx hb dX4_numerator_5 (lv_at hl 0 rfl) ?_
      refine lv_aload_n hx hb dX4_numerator_7 rfl (lv_at hl 2 rfl) ?_
      refine z_get X Z 0 rfl (rfl : zCl[3]? = some (RX4, TX4, 7)) zU_X4 3 (by decide) wF_X4_36 rfl rfl dX4_numerator_8 ?_
      refine z_icmp_ge (a := j5) (b := (pN P)) (tgt := 51) X rfl rfl (by omega) (by omega) dX4_numerator_11 (by decide) (fun c_2 => ?_) (fun c_2 => ?_)
      · (exfalso; omega)
      · refine lv_lload_n hx hb dX4_numerator_14 rfl (lv_at hl 1 rfl) ?_
        refine lv_aload_n hx hb dX4_numerator_15 rfl (lv_at hl 2 rfl) ?_
        refine z_get X Z 0 rfl (rfl : zCl[3]? = some (RX4, TX4, 7)) zU_X4 6 (by decide) wF_X4_27 rfl rfl dX4_numerator_16 ?_
        refine lv_iload hx hb dX4_numerator_19 (lv_at hl 0 rfl) ?_
        refine z_iald (j := j5) X Z 6 rfl rfl (by omega) (by decide) dX4_numerator_21 ?_
        refine lv_i2l hx hb dX4_numerator_22 rfl ?_
        refine lv_aload_n hx hb dX4_numerator_23 rfl (lv_at hl 2 rfl) ?_
        refine lv_iload_n hx hb dX4_numerator_24 rfl (lv_at hl 3 rfl) ?_
        refine lv_aload_n hx hb dX4_numerator_25 rfl (lv_at hl 2 rfl) ?_
        refine z_get X Z 0 rfl (rfl : zCl[3]? = some (RX4, TX4, 7)) zU_X4 4 (by decide) wF_X4_21 rfl rfl dX4_numerator_26 ?_
        refine lv_iload hx hb dX4_numerator_29 (lv_at hl 0 rfl) ?_
        refine z_iald (j := j5) X Z 4 rfl rfl (by omega) (by decide) dX4_numerator_31 ?_
        refine lv_aload_n hx hb dX4_numerator_32 rfl (lv_at hl 2 rfl) ?_
        refine z_get X Z 0 rfl (rfl : zCl[3]? = some (RX4, TX4, 7)) zU_X4 5 (by decide) wF_X4_24 rfl rfl dX4_numerator_33 ?_
        refine lv_iload hx hb dX4_numerator_36 (lv_at hl 0 rfl) ?_
        refine z_iald (j := j5) X Z 5 rfl rfl (by omega) (by decide) dX4_numerator_38 ?_
        refine z_callV (mc := 0) (ms := 0) (As := [.int (nI k), .int ((pOX P) j5), .int ((pOY P) j5)]) (rest := [.long (((pOW P) j5).toInt64), .long x2]) (st2 := [.long (zf_X4_share P k ((pOX P) j5) ((pOY P) j5)), .long (((pOW P) j5).toInt64), .long x2]) (cs2 := [wPlat g ad P]) X Z [0] [] [0] 0 3 (zc_X4_share l g B ad P k ((pOX P) j5) ((pOY P) j5) (by first | assumption | omega | decide)) wM_X4_54 wS_X4_share wV_X4_share wK_X4_share wZ_X4 3 1 1 rfl (by decide +kernel) rfl (by decide) rfl rfl rfl (by decide) rfl rfl (rfl : zCl[3]? = some (RX4, TX4, 7)) hl.1 rfl rfl (by rw [hRf, hRl]; exact ⟨Nat.le_of_ble_eq_true rfl, Nat.le_of_ble_eq_true rfl⟩) (Nat.le_of_ble_eq_true rfl) ⟨Nat.zero_le _, Nat.zero_le _⟩ dX4_numerator_39 (fun H locs Z => ?_)
        refine lv_lmul hx hb dX4_numerator_42 ?_
        refine lv_ladd hx hb dX4_numerator_43 ?_
        refine lv_lstore_n (lv' := [(2, .long (x2 + ((((pOW P) j5).toInt64) * (zf_X4_share P k ((pOX P) j5) ((pOY P) j5))))), (4, .int (nI j5)), (0, .ref (ad 1)), (1, .int (nI k))]) hx hb dX4_numerator_44 rfl hl (by decide) rfl (fun ls hl => ?_)
        refine z_iinc (b := (j5 + 1)) (st := 1) (lv' := [(4, .int (nI (j5 + 1))), (2, .long (x2 + ((((pOW P) j5).toInt64) * (zf_X4_share P k ((pOX P) j5) ((pOY P) j5))))), (0, .ref (ad 1)), (1, .int (nI k))]) X dX4_numerator_45 hl (k := 1) rfl rfl (by decide) (by omega) (by decide) rfl (fun ls hl => ?_)
        refine lv_goto (tgt := 5) hx hb dX4_numerator_48 (by decide) ?_
        exact ih5 (j5 + 1) (x2 + ((((pOW P) j5).toInt64) * (zf_X4_share P k ((pOX P) j5) ((pOY P) j5)))) (by omega) (by have h9 := hR5; rw [zl_X4_numerator_5_s] at h9; exact h9) _ _ Z ls (lv_sub hl [0, 1, 2, 3] rfl)
  exact loop_5 (pN P) 0 (0 : Int64) (by omega) rfl _ _ Z ls (lv_sub hl [0, 1, 2, 3] rfl)
def zf_X4_wouldLieOnOneLine (P : zPl) (k : Nat) (x : Int32) (y : Int32) : Bool := (if (zf_X4_signedArea P k x y) = (0 : Int64) then true else false)
theorem zf_X4_wouldLieOnOneLine_e (P : zPl) (k : Nat) (x : Int32) (y : Int32) : zf_X4_wouldLieOnOneLine P k x y = (if (zf_X4_signedArea P k x y) = (0 : Int64) then true else false) := rfl
set_option maxHeartbeats 4000000 in
set_option maxRecDepth 100000 in
theorem zc_X4_wouldLieOnOneLine (l : Launch) (g : zG) (B : Nat) (ad : Nat → Nat) (P : zPl) (k : Nat) (x : Int32) (y : Int32) (hc : k < 3) : zMet l g B yX4_wouldLieOnOneLine cX4_wouldLieOnOneLine 4 (some .boolean) 5 150 0 0 [.ref (ad 1), .int (nI k), .int x, .int y] [wPlat g ad P] (zDet (some (.int (zB (zf_X4_wouldLieOnOneLine P k x y)))) [wPlat g ad P]) := by
  refine z_in (by decide) (Nat.le_of_ble_eq_true rfl) (fun p e R s m args below meth c A Q hRf hRl hRc hRs X Z hnm E ls hl => ?_)
  have hx := X.1
  have hb := X.2.1
  have hown := X.2.2.2.1
  have hts := X.2.2.2.2.1
  have hl : lv_has ls 4 [(0, .ref (ad 1)), (1, .int (nI k)), (2, .int x), (3, .int y)] := hl
  refine lv_aload_n hx hb dX4_wouldLieOnOneLine_0 rfl (lv_at hl 0 rfl) ?_
  refine lv_iload_n hx hb dX4_wouldLieOnOneLine_1 rfl (lv_at hl 1 rfl) ?_
  refine lv_iload_n hx hb dX4_wouldLieOnOneLine_2 rfl (lv_at hl 2 rfl) ?_
  refine lv_iload_n hx hb dX4_wouldLieOnOneLine_3 rfl (lv_at hl 3 rfl) ?_
  refine z_callV (mc := 0) (ms := 0) (As := [.int (nI k), .int x, .int y]) (rest := []) (st2 := [.long (zf_X4_signedArea P k x y)]) (cs2 := [wPlat g ad P]) X Z [0] [] [0] 0 3 (zc_X4_signedArea l g B ad P k x y (by first | assumption | omega | decide)) wM_X4_40 wS_X4_signedArea wV_X4_signedArea wK_X4_signedArea wZ_X4 3 1 1 rfl (by decide +kernel) rfl (by decide) rfl rfl rfl (by decide) rfl rfl (rfl : zCl[3]? = some (RX4, TX4, 7)) hl.1 rfl rfl (by rw [hRf, hRl]; exact ⟨Nat.le_of_ble_eq_true rfl, Nat.le_of_ble_eq_true rfl⟩) (Nat.le_of_ble_eq_true rfl) ⟨Nat.zero_le _, Nat.zero_le _⟩ dX4_wouldLieOnOneLine_4 (fun H locs Z => ?_)
  refine lv_lconst (v := (0 : Int64)) hx hb dX4_wouldLieOnOneLine_7 (by decide) ?_
  refine z_lc_ne (tgt := 16) X dX4_wouldLieOnOneLine_8 dX4_wouldLieOnOneLine_9 (by decide) (fun c_1 => ?_) (fun c_1 => ?_)
  · refine lv_iconst (v := (0 : Int32)) hx hb dX4_wouldLieOnOneLine_16 (by decide) ?_
    exact z_ri (v := zB false) E Z (zB_narrow _) (by rw [zf_X4_wouldLieOnOneLine_e, if_neg c_1]; exact ⟨rfl, rfl⟩) dX4_wouldLieOnOneLine_17 (Nat.zero_le _) (Nat.zero_le _)
  · refine lv_iconst (v := (1 : Int32)) hx hb dX4_wouldLieOnOneLine_12 (by decide) ?_
    refine lv_goto (tgt := 17) hx hb dX4_wouldLieOnOneLine_13 (by decide) ?_
    exact z_ri (v := zB true) E Z (zB_narrow _) (by rw [zf_X4_wouldLieOnOneLine_e, if_pos c_1]; exact ⟨rfl, rfl⟩) dX4_wouldLieOnOneLine_17 (Nat.zero_le _) (Nat.zero_le _)
def zf_X4_changeCell (P : zPl) (k : Nat) (x : Int32) (y : Int32) (q : Int32) : Int32 × zPl := (((pC P) k), ((upd (pX P) k x), (upd (pY P) k y), (upd (pC P) k q), (pN P), (pOX P), (pOY P), (pOW P)))
theorem zf_X4_changeCell_e (P : zPl) (k : Nat) (x : Int32) (y : Int32) (q : Int32) : zf_X4_changeCell P k x y q = (((pC P) k), ((upd (pX P) k x), (upd (pY P) k y), (upd (pC P) k q), (pN P), (pOX P), (pOY P), (pOW P))) := rfl
set_option maxHeartbeats 4000000 in
set_option maxRecDepth 100000 in
theorem zc_X4_changeCell (l : Launch) (g : zG) (B : Nat) (ad : Nat → Nat) (P : zPl) (k : Nat) (x : Int32) (y : Int32) (q : Int32) (hc : k < 3) : zMet l g B yX4_changeCell cX4_changeCell 6 (some .int) 1 30 0 0 [.ref (ad 1), .int (nI k), .int x, .int y, .int q] [wPlat g ad P] (zDet (some (.int ((zf_X4_changeCell P k x y q).1))) [wPlat g ad ((zf_X4_changeCell P k x y q).2)]) := by
  refine z_in (by decide) (Nat.le_of_ble_eq_true rfl) (fun p e R s m args below meth c A Q hRf hRl hRc hRs X Z hnm E ls hl => ?_)
  have hx := X.1
  have hb := X.2.1
  have hown := X.2.2.2.1
  have hts := X.2.2.2.2.1
  have hl : lv_has ls 6 [(0, .ref (ad 1)), (1, .int (nI k)), (2, .int x), (3, .int y), (4, .int q)] := hl
  refine lv_aload_n hx hb dX4_changeCell_0 rfl (lv_at hl 0 rfl) ?_
  refine z_get X Z 0 rfl (rfl : zCl[3]? = some (RX4, TX4, 7)) zU_X4 2 (by decide) wF_X4_18 rfl rfl dX4_changeCell_1 ?_
  refine lv_iload_n hx hb dX4_changeCell_4 rfl (lv_at hl 1 rfl) ?_
  refine z_iald (j := k) X Z 3 rfl rfl (by omega) (by decide) dX4_changeCell_5 ?_
  refine lv_istore (lv' := [(5, .int ((pC P) k)), (0, .ref (ad 1)), (1, .int (nI k)), (2, .int x), (3, .int y), (4, .int q)]) hx hb dX4_changeCell_6 hl (by decide) rfl (fun ls hl => ?_)
  refine lv_aload_n hx hb dX4_changeCell_8 rfl (lv_at hl 1 rfl) ?_
  refine z_get X Z 0 rfl (rfl : zCl[3]? = some (RX4, TX4, 7)) zU_X4 0 (by decide) wF_X4_9 rfl rfl dX4_changeCell_9 ?_
  refine lv_iload_n hx hb dX4_changeCell_12 rfl (lv_at hl 2 rfl) ?_
  refine lv_iload_n hx hb dX4_changeCell_13 rfl (lv_at hl 3 rfl) ?_
  refine z_iast (cs2 := [wPlat g ad ((upd (pX P) k x), (pY P), (pC P), (pN P), (pOX P), (pOY P), (pOW P))]) (j := k) (x := x) X Z 1 rfl rfl (by omega) (by decide) rfl dX4_changeCell_14 (fun H locs Z => ?_)
  refine lv_aload_n hx hb dX4_changeCell_15 rfl (lv_at hl 1 rfl) ?_
  refine z_get X Z 0 rfl (rfl : zCl[3]? = some (RX4, TX4, 7)) zU_X4 1 (by decide) wF_X4_15 rfl rfl dX4_changeCell_16 ?_
  refine lv_iload_n hx hb dX4_changeCell_19 rfl (lv_at hl 2 rfl) ?_
  refine lv_iload_n hx hb dX4_changeCell_20 rfl (lv_at hl 4 rfl) ?_
  refine z_iast (cs2 := [wPlat g ad ((upd (pX P) k x), (upd (pY P) k y), (pC P), (pN P), (pOX P), (pOY P), (pOW P))]) (j := k) (x := y) X Z 2 rfl rfl (by omega) (by decide) rfl dX4_changeCell_21 (fun H locs Z => ?_)
  refine lv_aload_n hx hb dX4_changeCell_22 rfl (lv_at hl 1 rfl) ?_
  refine z_get X Z 0 rfl (rfl : zCl[3]? = some (RX4, TX4, 7)) zU_X4 2 (by decide) wF_X4_18 rfl rfl dX4_changeCell_23 ?_
  refine lv_iload_n hx hb dX4_changeCell_26 rfl (lv_at hl 2 rfl) ?_
  refine lv_iload hx hb dX4_changeCell_27 (lv_at hl 5 rfl) ?_
  refine z_iast (cs2 := [wPlat g ad ((upd (pX P) k x), (upd (pY P) k y), (upd (pC P) k q), (pN P), (pOX P), (pOY P), (pOW P))]) (j := k) (x := q) X Z 3 rfl rfl (by omega) (by decide) rfl dX4_changeCell_29 (fun H locs Z => ?_)
  refine lv_iload hx hb dX4_changeCell_30 (lv_at hl 0 rfl) ?_
  exact z_ri (v := ((pC P) k)) E Z rfl (by rw [zf_X4_changeCell_e]; exact ⟨rfl, rfl⟩) dX4_changeCell_32 (Nat.zero_le _) (Nat.zero_le _)
def zf_X4_addObject (P : zPl) (x : Int32) (y : Int32) (w : Int32) : Nat × zPl := ((pN P), ((pX P), (pY P), (pC P), ((pN P) + 1), (upd (pOX P) (pN P) x), (upd (pOY P) (pN P) y), (upd (pOW P) (pN P) w)))
theorem zf_X4_addObject_e (P : zPl) (x : Int32) (y : Int32) (w : Int32) : zf_X4_addObject P x y w = ((pN P), ((pX P), (pY P), (pC P), ((pN P) + 1), (upd (pOX P) (pN P) x), (upd (pOY P) (pN P) y), (upd (pOW P) (pN P) w))) := rfl
set_option maxHeartbeats 4000000 in
set_option maxRecDepth 100000 in
theorem zc_X4_addObject (l : Launch) (g : zG) (B : Nat) (ad : Nat → Nat) (P : zPl) (x : Int32) (y : Int32) (w : Int32) (hn : pN P < 8) : zMet l g B yX4_addObject cX4_addObject 5 (some .int) 1 30 0 0 [.ref (ad 1), .int x, .int y, .int w] [wPlat g ad P] (zDet (some (.int (nI ((zf_X4_addObject P x y w).1)))) [wPlat g ad ((zf_X4_addObject P x y w).2)]) := by
  refine z_in (by decide) (Nat.le_of_ble_eq_true rfl) (fun p e R s m args below meth c A Q hRf hRl hRc hRs X Z hnm E ls hl => ?_)
  have hx := X.1
  have hb := X.2.1
  have hown := X.2.2.2.1
  have hts := X.2.2.2.2.1
  have hl : lv_has ls 5 [(0, .ref (ad 1)), (1, .int x), (2, .int y), (3, .int w)] := hl
  refine lv_aload_n hx hb dX4_addObject_0 rfl (lv_at hl 0 rfl) ?_
  refine z_get X Z 0 rfl (rfl : zCl[3]? = some (RX4, TX4, 7)) zU_X4 3 (by decide) wF_X4_36 rfl rfl dX4_addObject_1 ?_
  refine lv_istore (lv' := [(4, .int (nI (pN P))), (0, .ref (ad 1)), (1, .int x), (2, .int y), (3, .int w)]) hx hb dX4_addObject_4 hl (by decide) rfl (fun ls hl => ?_)
  refine lv_aload_n hx hb dX4_addObject_6 rfl (lv_at hl 1 rfl) ?_
  refine z_get X Z 0 rfl (rfl : zCl[3]? = some (RX4, TX4, 7)) zU_X4 4 (by decide) wF_X4_21 rfl rfl dX4_addObject_7 ?_
  refine lv_iload hx hb dX4_addObject_10 (lv_at hl 0 rfl) ?_
  refine lv_iload_n hx hb dX4_addObject_12 rfl (lv_at hl 2 rfl) ?_
  refine z_iast (cs2 := [wPlat g ad ((pX P), (pY P), (pC P), (pN P), (upd (pOX P) (pN P) x), (pOY P), (pOW P))]) (j := (pN P)) (x := x) X Z 4 rfl rfl (by omega) (by decide) rfl dX4_addObject_13 (fun H locs Z => ?_)
  refine lv_aload_n hx hb dX4_addObject_14 rfl (lv_at hl 1 rfl) ?_
  refine z_get X Z 0 rfl (rfl : zCl[3]? = some (RX4, TX4, 7)) zU_X4 5 (by decide) wF_X4_24 rfl rfl dX4_addObject_15 ?_
  refine lv_iload hx hb dX4_addObject_18 (lv_at hl 0 rfl) ?_
  refine lv_iload_n hx hb dX4_addObject_20 rfl (lv_at hl 3 rfl) ?_
  refine z_iast (cs2 := [wPlat g ad ((pX P), (pY P), (pC P), (pN P), (upd (pOX P) (pN P) x), (upd (pOY P) (pN P) y), (pOW P))]) (j := (pN P)) (x := y) X Z 5 rfl rfl (by omega) (by decide) rfl dX4_addObject_21 (fun H locs Z => ?_)
  refine lv_aload_n hx hb dX4_addObject_22 rfl (lv_at hl 1 rfl) ?_
  refine z_get X Z 0 rfl (rfl : zCl[3]? = some (RX4, TX4, 7)) zU_X4 6 (by decide) wF_X4_27 rfl rfl dX4_addObject_23 ?_
  refine lv_iload hx hb dX4_addObject_26 (lv_at hl 0 rfl) ?_
  refine lv_iload_n hx hb dX4_addObject_28 rfl (lv_at hl 4 rfl) ?_
  refine z_iast (cs2 := [wPlat g ad ((pX P), (pY P), (pC P), (pN P), (upd (pOX P) (pN P) x), (upd (pOY P) (pN P) y), (upd (pOW P) (pN P) w))]) (j := (pN P)) (x := w) X Z 6 rfl rfl (by omega) (by decide) rfl dX4_addObject_29 (fun H locs Z => ?_)
  refine lv_aload_n hx hb dX4_addObject_30 rfl (lv_at hl 1 rfl) ?_
  refine lv_dup hx hb dX4_addObject_31 rfl ?_
  refine z_get X Z 0 rfl (rfl : zCl[3]? = some (RX4, TX4, 7)) zU_X4 3 (by decide) wF_X4_36 rfl rfl dX4_addObject_32 ?_
  refine lv_iconst (v := (1 : Int32)) hx hb dX4_addObject_35 (by decide) ?_
  refine z_iadd (a := (pN P)) (b := 1) X rfl rfl dX4_addObject_36 ?_
  refine z_put (cs2 := [wPlat g ad ((pX P), (pY P), (pC P), ((pN P) + 1), (upd (pOX P) (pN P) x), (upd (pOY P) (pN P) y), (upd (pOW P) (pN P) w))]) (v := .int (nI ((pN P) + 1))) X Z 0 rfl (rfl : zCl[3]? = some (RX4, TX4, 7)) zU_X4 tyX4 tyX4_ok nmX4 3 (by decide) wF_X4_36 rfl rfl rfl rfl (Nat.le_of_ble_eq_true rfl) rfl dX4_addObject_37 (fun H locs Z => ?_)
  refine lv_iload hx hb dX4_addObject_40 (lv_at hl 0 rfl) ?_
  exact z_ri (v := nI (pN P)) E Z rfl (by rw [zf_X4_addObject_e]; exact ⟨rfl, rfl⟩) dX4_addObject_42 (Nat.zero_le _) (Nat.zero_le _)
