def zf_X9_refused_0 : Int32 := (0 : Int32)
theorem zf_X9_refused_0_e : zf_X9_refused_0 = (0 : Int32) := rfl
set_option maxHeartbeats 4000000 in
set_option maxRecDepth 100000 in
theorem zc_X9_refused_0 (l : Launch) (g : zG) (B : Nat) (md : Nat → Nat) (MNow : Nat → Int64) (MPast : Nat → Int64) (MSav : Nat) (MRef : Int32) (MThen : Nat → Int64) (MLev : Nat → Int64) (MFst : Int32) (MWay : Nat → Int64) (MMost : Nat → Int32) (MHash : Int64) : zMet l g B yX9_refused cX9_refused 2 (some .boolean) 1 20 0 0 [.ref (md 0), .int (0 : Int32)] [wMod g md MNow MPast MSav MRef MThen MLev MFst MWay MMost MHash] (zDet (some (.int (0 : Int32))) [wMod g md MNow MPast MSav (zf_X9_refused_0) MThen MLev MFst MWay MMost MHash]) := by
  refine z_in (plainFor_of_name (by decide)) (Nat.le_of_ble_eq_true rfl) (fun p e R s m args below meth c A Q hRf hRl hRc hRs X Z hnm E ls hl => ?_)
  have hx := X.1
  have hb := X.2.1
  have hown := X.2.2.2.1
  have hts := X.2.2.2.2.1
  have hl : lv_has ls 2 [(0, .ref (md 0)), (1, .int (0 : Int32))] := hl
  refine lv_aload_n hx hb dX9_refused_0 rfl (lv_at hl 0 rfl) ?_
  refine lv_iload_n hx hb dX9_refused_1 rfl (lv_at hl 1 rfl) ?_
  refine z_put (cs2 := [wMod g md MNow MPast MSav (0 : Int32) MThen MLev MFst MWay MMost MHash]) (v := .int (0 : Int32)) X Z 0 rfl (rfl : zCl[7]? = some (RX9, TX9, 10)) zU_X9 tyX9 tyX9_ok nmX9 3 (by decide) wF_X9_38 rfl rfl rfl rfl (Nat.le_of_ble_eq_true rfl) rfl dX9_refused_2 (fun H locs Z => ?_)
  refine lv_iload_n hx hb dX9_refused_5 rfl (lv_at hl 1 rfl) ?_
  refine lv_if_le (tgt := 13) hx hb dX9_refused_6 (by decide) (fun c_1 => ?_) (fun c_1 => ?_)
  · refine lv_iconst (v := (0 : Int32)) hx hb dX9_refused_13 (by decide) ?_
    exact z_ri (v := (0 : Int32)) E Z rfl (by rw [zf_X9_refused_0_e]; exact ⟨rfl, rfl⟩) dX9_refused_14 (Nat.zero_le _) (Nat.zero_le _)
  · (exact absurd c_1 (by decide))
def zf_X9_refused_1 : Int32 := (1 : Int32)
theorem zf_X9_refused_1_e : zf_X9_refused_1 = (1 : Int32) := rfl
set_option maxHeartbeats 4000000 in
set_option maxRecDepth 100000 in
theorem zc_X9_refused_1 (l : Launch) (g : zG) (B : Nat) (md : Nat → Nat) (MNow : Nat → Int64) (MPast : Nat → Int64) (MSav : Nat) (MRef : Int32) (MThen : Nat → Int64) (MLev : Nat → Int64) (MFst : Int32) (MWay : Nat → Int64) (MMost : Nat → Int32) (MHash : Int64) : zMet l g B yX9_refused cX9_refused 2 (some .boolean) 1 20 0 0 [.ref (md 0), .int (1 : Int32)] [wMod g md MNow MPast MSav MRef MThen MLev MFst MWay MMost MHash] (zDet (some (.int (1 : Int32))) [wMod g md MNow MPast MSav (zf_X9_refused_1) MThen MLev MFst MWay MMost MHash]) := by
  refine z_in (plainFor_of_name (by decide)) (Nat.le_of_ble_eq_true rfl) (fun p e R s m args below meth c A Q hRf hRl hRc hRs X Z hnm E ls hl => ?_)
  have hx := X.1
  have hb := X.2.1
  have hown := X.2.2.2.1
  have hts := X.2.2.2.2.1
  have hl : lv_has ls 2 [(0, .ref (md 0)), (1, .int (1 : Int32))] := hl
  refine lv_aload_n hx hb dX9_refused_0 rfl (lv_at hl 0 rfl) ?_
  refine lv_iload_n hx hb dX9_refused_1 rfl (lv_at hl 1 rfl) ?_
  refine z_put (cs2 := [wMod g md MNow MPast MSav (1 : Int32) MThen MLev MFst MWay MMost MHash]) (v := .int (1 : Int32)) X Z 0 rfl (rfl : zCl[7]? = some (RX9, TX9, 10)) zU_X9 tyX9 tyX9_ok nmX9 3 (by decide) wF_X9_38 rfl rfl rfl rfl (Nat.le_of_ble_eq_true rfl) rfl dX9_refused_2 (fun H locs Z => ?_)
  refine lv_iload_n hx hb dX9_refused_5 rfl (lv_at hl 1 rfl) ?_
  refine lv_if_le (tgt := 13) hx hb dX9_refused_6 (by decide) (fun c_1 => ?_) (fun c_1 => ?_)
  · (exact absurd c_1 (by decide))
  · refine lv_iconst (v := (1 : Int32)) hx hb dX9_refused_9 (by decide) ?_
    refine lv_goto (tgt := 14) hx hb dX9_refused_10 (by decide) ?_
    exact z_ri (v := (1 : Int32)) E Z rfl (by rw [zf_X9_refused_1_e]; exact ⟨rfl, rfl⟩) dX9_refused_14 (Nat.zero_le _) (Nat.zero_le _)
def zf_X9_refused_2 : Int32 := (2 : Int32)
theorem zf_X9_refused_2_e : zf_X9_refused_2 = (2 : Int32) := rfl
set_option maxHeartbeats 4000000 in
set_option maxRecDepth 100000 in
theorem zc_X9_refused_2 (l : Launch) (g : zG) (B : Nat) (md : Nat → Nat) (MNow : Nat → Int64) (MPast : Nat → Int64) (MSav : Nat) (MRef : Int32) (MThen : Nat → Int64) (MLev : Nat → Int64) (MFst : Int32) (MWay : Nat → Int64) (MMost : Nat → Int32) (MHash : Int64) : zMet l g B yX9_refused cX9_refused 2 (some .boolean) 1 20 0 0 [.ref (md 0), .int (2 : Int32)] [wMod g md MNow MPast MSav MRef MThen MLev MFst MWay MMost MHash] (zDet (some (.int (1 : Int32))) [wMod g md MNow MPast MSav (zf_X9_refused_2) MThen MLev MFst MWay MMost MHash]) := by
  refine z_in (plainFor_of_name (by decide)) (Nat.le_of_ble_eq_true rfl) (fun p e R s m args below meth c A Q hRf hRl hRc hRs X Z hnm E ls hl => ?_)
  have hx := X.1
  have hb := X.2.1
  have hown := X.2.2.2.1
  have hts := X.2.2.2.2.1
  have hl : lv_has ls 2 [(0, .ref (md 0)), (1, .int (2 : Int32))] := hl
  refine lv_aload_n hx hb dX9_refused_0 rfl (lv_at hl 0 rfl) ?_
  refine lv_iload_n hx hb dX9_refused_1 rfl (lv_at hl 1 rfl) ?_
  refine z_put (cs2 := [wMod g md MNow MPast MSav (2 : Int32) MThen MLev MFst MWay MMost MHash]) (v := .int (2 : Int32)) X Z 0 rfl (rfl : zCl[7]? = some (RX9, TX9, 10)) zU_X9 tyX9 tyX9_ok nmX9 3 (by decide) wF_X9_38 rfl rfl rfl rfl (Nat.le_of_ble_eq_true rfl) rfl dX9_refused_2 (fun H locs Z => ?_)
  refine lv_iload_n hx hb dX9_refused_5 rfl (lv_at hl 1 rfl) ?_
  refine lv_if_le (tgt := 13) hx hb dX9_refused_6 (by decide) (fun c_1 => ?_) (fun c_1 => ?_)
  · (exact absurd c_1 (by decide))
  · refine lv_iconst (v := (1 : Int32)) hx hb dX9_refused_9 (by decide) ?_
    refine lv_goto (tgt := 14) hx hb dX9_refused_10 (by decide) ?_
    exact z_ri (v := (1 : Int32)) E Z rfl (by rw [zf_X9_refused_2_e]; exact ⟨rfl, rfl⟩) dX9_refused_14 (Nat.zero_le _) (Nat.zero_le _)
def zf_X9_refused_3 : Int32 := (3 : Int32)
theorem zf_X9_refused_3_e : zf_X9_refused_3 = (3 : Int32) := rfl
set_option maxHeartbeats 4000000 in
set_option maxRecDepth 100000 in
theorem zc_X9_refused_3 (l : Launch) (g : zG) (B : Nat) (md : Nat → Nat) (MNow : Nat → Int64) (MPast : Nat → Int64) (MSav : Nat) (MRef : Int32) (MThen : Nat → Int64) (MLev : Nat → Int64) (MFst : Int32) (MWay : Nat → Int64) (MMost : Nat → Int32) (MHash : Int64) : zMet l g B yX9_refused cX9_refused 2 (some .boolean) 1 20 0 0 [.ref (md 0), .int (3 : Int32)] [wMod g md MNow MPast MSav MRef MThen MLev MFst MWay MMost MHash] (zDet (some (.int (1 : Int32))) [wMod g md MNow MPast MSav (zf_X9_refused_3) MThen MLev MFst MWay MMost MHash]) := by
  refine z_in (plainFor_of_name (by decide)) (Nat.le_of_ble_eq_true rfl) (fun p e R s m args below meth c A Q hRf hRl hRc hRs X Z hnm E ls hl => ?_)
  have hx := X.1
  have hb := X.2.1
  have hown := X.2.2.2.1
  have hts := X.2.2.2.2.1
  have hl : lv_has ls 2 [(0, .ref (md 0)), (1, .int (3 : Int32))] := hl
  refine lv_aload_n hx hb dX9_refused_0 rfl (lv_at hl 0 rfl) ?_
  refine lv_iload_n hx hb dX9_refused_1 rfl (lv_at hl 1 rfl) ?_
  refine z_put (cs2 := [wMod g md MNow MPast MSav (3 : Int32) MThen MLev MFst MWay MMost MHash]) (v := .int (3 : Int32)) X Z 0 rfl (rfl : zCl[7]? = some (RX9, TX9, 10)) zU_X9 tyX9 tyX9_ok nmX9 3 (by decide) wF_X9_38 rfl rfl rfl rfl (Nat.le_of_ble_eq_true rfl) rfl dX9_refused_2 (fun H locs Z => ?_)
  refine lv_iload_n hx hb dX9_refused_5 rfl (lv_at hl 1 rfl) ?_
  refine lv_if_le (tgt := 13) hx hb dX9_refused_6 (by decide) (fun c_1 => ?_) (fun c_1 => ?_)
  · (exact absurd c_1 (by decide))
  · refine lv_iconst (v := (1 : Int32)) hx hb dX9_refused_9 (by decide) ?_
    refine lv_goto (tgt := 14) hx hb dX9_refused_10 (by decide) ?_
    exact z_ri (v := (1 : Int32)) E Z rfl (by rw [zf_X9_refused_3_e]; exact ⟨rfl, rfl⟩) dX9_refused_14 (Nat.zero_le _) (Nat.zero_le _)
def zf_X9_refused_4 : Int32 := (4 : Int32)
theorem zf_X9_refused_4_e : zf_X9_refused_4 = (4 : Int32) := rfl
set_option maxHeartbeats 4000000 in
set_option maxRecDepth 100000 in
theorem zc_X9_refused_4 (l : Launch) (g : zG) (B : Nat) (md : Nat → Nat) (MNow : Nat → Int64) (MPast : Nat → Int64) (MSav : Nat) (MRef : Int32) (MThen : Nat → Int64) (MLev : Nat → Int64) (MFst : Int32) (MWay : Nat → Int64) (MMost : Nat → Int32) (MHash : Int64) : zMet l g B yX9_refused cX9_refused 2 (some .boolean) 1 20 0 0 [.ref (md 0), .int (4 : Int32)] [wMod g md MNow MPast MSav MRef MThen MLev MFst MWay MMost MHash] (zDet (some (.int (1 : Int32))) [wMod g md MNow MPast MSav (zf_X9_refused_4) MThen MLev MFst MWay MMost MHash]) := by
  refine z_in (plainFor_of_name (by decide)) (Nat.le_of_ble_eq_true rfl) (fun p e R s m args below meth c A Q hRf hRl hRc hRs X Z hnm E ls hl => ?_)
  have hx := X.1
  have hb := X.2.1
  have hown := X.2.2.2.1
  have hts := X.2.2.2.2.1
  have hl : lv_has ls 2 [(0, .ref (md 0)), (1, .int (4 : Int32))] := hl
  refine lv_aload_n hx hb dX9_refused_0 rfl (lv_at hl 0 rfl) ?_
  refine lv_iload_n hx hb dX9_refused_1 rfl (lv_at hl 1 rfl) ?_
  refine z_put (cs2 := [wMod g md MNow MPast MSav (4 : Int32) MThen MLev MFst MWay MMost MHash]) (v := .int (4 : Int32)) X Z 0 rfl (rfl : zCl[7]? = some (RX9, TX9, 10)) zU_X9 tyX9 tyX9_ok nmX9 3 (by decide) wF_X9_38 rfl rfl rfl rfl (Nat.le_of_ble_eq_true rfl) rfl dX9_refused_2 (fun H locs Z => ?_)
  refine lv_iload_n hx hb dX9_refused_5 rfl (lv_at hl 1 rfl) ?_
  refine lv_if_le (tgt := 13) hx hb dX9_refused_6 (by decide) (fun c_1 => ?_) (fun c_1 => ?_)
  · (exact absurd c_1 (by decide))
  · refine lv_iconst (v := (1 : Int32)) hx hb dX9_refused_9 (by decide) ?_
    refine lv_goto (tgt := 14) hx hb dX9_refused_10 (by decide) ?_
    exact z_ri (v := (1 : Int32)) E Z rfl (by rw [zf_X9_refused_4_e]; exact ⟨rfl, rfl⟩) dX9_refused_14 (Nat.zero_le _) (Nat.zero_le _)
def zf_X9_thrown (MRef : Int32) : Int32 := MRef
theorem zf_X9_thrown_e (MRef : Int32) : zf_X9_thrown MRef = MRef := rfl
set_option maxHeartbeats 4000000 in
set_option maxRecDepth 100000 in
theorem zc_X9_thrown (l : Launch) (g : zG) (B : Nat) (md : Nat → Nat) (MNow : Nat → Int64) (MPast : Nat → Int64) (MSav : Nat) (MRef : Int32) (MThen : Nat → Int64) (MLev : Nat → Int64) (MFst : Int32) (MWay : Nat → Int64) (MMost : Nat → Int32) (MHash : Int64) : zMet l g B yX9_thrown cX9_thrown 1 (some .int) 1 20 0 0 [.ref (md 0)] [wMod g md MNow MPast MSav MRef MThen MLev MFst MWay MMost MHash] (zDet (some (.int (zf_X9_thrown MRef))) [wMod g md MNow MPast MSav MRef MThen MLev MFst MWay MMost MHash]) := by
  refine z_in (plainFor_of_name (by decide)) (Nat.le_of_ble_eq_true rfl) (fun p e R s m args below meth c A Q hRf hRl hRc hRs X Z hnm E ls hl => ?_)
  have hx := X.1
  have hb := X.2.1
  have hown := X.2.2.2.1
  have hts := X.2.2.2.2.1
  have hl : lv_has ls 1 [(0, .ref (md 0))] := hl
  refine lv_aload_n hx hb dX9_thrown_0 rfl (lv_at hl 0 rfl) ?_
  refine z_get X Z 0 rfl (rfl : zCl[7]? = some (RX9, TX9, 10)) zU_X9 3 (by decide) wF_X9_38 rfl rfl dX9_thrown_1 ?_
  exact z_ri (v := MRef) E Z rfl (by rw [zf_X9_thrown_e]; exact ⟨rfl, rfl⟩) dX9_thrown_4 (Nat.zero_le _) (Nat.zero_le _)
def zf_X9_within (x : Int64) (y : Int64) (z : Int64) : Bool := (if x < y then false else (if z < x then false else true))
theorem zf_X9_within_e (x : Int64) (y : Int64) (z : Int64) : zf_X9_within x y z = (if x < y then false else (if z < x then false else true)) := rfl
set_option maxHeartbeats 4000000 in
set_option maxRecDepth 100000 in
theorem zc_X9_within (l : Launch) (g : zG) (B : Nat) (x : Int64) (y : Int64) (z : Int64) : zMet l g B yX9_within cX9_within 6 (some .boolean) 1 20 0 0 [.long x, .long y, .long z] [] (zDet (some (.int (zB (zf_X9_within x y z)))) []) := by
  refine z_in (plainFor_of_name (by decide)) (Nat.le_of_ble_eq_true rfl) (fun p e R s m args below meth c A Q hRf hRl hRc hRs X Z hnm E ls hl => ?_)
  have hx := X.1
  have hb := X.2.1
  have hown := X.2.2.2.1
  have hts := X.2.2.2.2.1
  have hl : lv_has ls 6 [(0, .long x), (2, .long y), (4, .long z)] := hl
  refine lv_lload_n hx hb dX9_within_0 rfl (lv_at hl 0 rfl) ?_
  refine lv_lload_n hx hb dX9_within_1 rfl (lv_at hl 1 rfl) ?_
  refine z_lc_lt (tgt := 17) X dX9_within_2 dX9_within_3 (by decide) (fun c_1 => ?_) (fun c_1 => ?_)
  · refine lv_iconst (v := (0 : Int32)) hx hb dX9_within_17 (by decide) ?_
    exact z_ri (v := zB false) E Z (zB_narrow _) (by rw [zf_X9_within_e, if_pos c_1]; exact ⟨rfl, rfl⟩) dX9_within_18 (Nat.zero_le _) (Nat.zero_le _)
  · refine lv_lload_n hx hb dX9_within_6 rfl (lv_at hl 0 rfl) ?_
    refine lv_lload hx hb dX9_within_7 (lv_at hl 2 rfl) ?_
    refine z_lc_gt (tgt := 17) X dX9_within_9 dX9_within_10 (by decide) (fun c_2 => ?_) (fun c_2 => ?_)
    · refine lv_iconst (v := (0 : Int32)) hx hb dX9_within_17 (by decide) ?_
      exact z_ri (v := zB false) E Z (zB_narrow _) (by rw [zf_X9_within_e, if_neg c_1, if_pos c_2]; exact ⟨rfl, rfl⟩) dX9_within_18 (Nat.zero_le _) (Nat.zero_le _)
    · refine lv_iconst (v := (1 : Int32)) hx hb dX9_within_13 (by decide) ?_
      refine lv_goto (tgt := 18) hx hb dX9_within_14 (by decide) ?_
      exact z_ri (v := zB true) E Z (zB_narrow _) (by rw [zf_X9_within_e, if_neg c_1, if_neg c_2]; exact ⟨rfl, rfl⟩) dX9_within_18 (Nat.zero_le _) (Nat.zero_le _)
set_option maxHeartbeats 4000000 in
set_option maxRecDepth 100000 in
theorem zc_X9_many (l : Launch) (g : zG) (B : Nat) (md : Nat → Nat) (MNow : Nat → Int64) (MPast : Nat → Int64) (MSav : Nat) (MRef : Int32) (MThen : Nat → Int64) (MLev : Nat → Int64) (MFst : Int32) (MWay : Nat → Int64) (MMost : Nat → Int32) (MHash : Int64) (k : Nat) (n : Nat) (hk : k < 318) (hn : MNow k = lN n) : zMet l g B yX9_many cX9_many 2 (some .int) 1 20 0 0 [.ref (md 0), .int (nI k)] [wMod g md MNow MPast MSav MRef MThen MLev MFst MWay MMost MHash] (zDet (some (.int (nI n))) [wMod g md MNow MPast MSav MRef MThen MLev MFst MWay MMost MHash]) := by
  refine z_in (plainFor_of_name (by decide)) (Nat.le_of_ble_eq_true rfl) (fun p e R s m args below meth c A Q hRf hRl hRc hRs X Z hnm E ls hl => ?_)
  have hx := X.1
  have hb := X.2.1
  have hown := X.2.2.2.1
  have hts := X.2.2.2.2.1
  have hl : lv_has ls 2 [(0, .ref (md 0)), (1, .int (nI k))] := hl
  refine lv_aload_n hx hb dX9_many_0 rfl (lv_at hl 0 rfl) ?_
  refine z_get X Z 0 rfl (rfl : zCl[7]? = some (RX9, TX9, 10)) zU_X9 0 (by decide) wF_X9_7 rfl rfl dX9_many_1 ?_
  refine lv_iload_n hx hb dX9_many_4 rfl (lv_at hl 1 rfl) ?_
  refine z_lald (j := k) X Z 1 rfl rfl (by omega) (by decide) dX9_many_5 ?_
  rw [show MNow k = lN n from hn]
  refine lv_l2i hx hb dX9_many_6 (lN_i _) ?_
  exact z_ri (v := nI n) E Z rfl ⟨rfl, rfl⟩ dX9_many_7 (Nat.zero_le _) (Nat.zero_le _)
def zf_X9_isPlace (x : Int32) (y : Int32) : Bool := (if (zf_X9_within x.toInt64 (-100 : Int64) (100 : Int64)) = true then (if (zf_X9_within y.toInt64 (-100 : Int64) (100 : Int64)) = true then true else false) else false)
theorem zf_X9_isPlace_e (x : Int32) (y : Int32) : zf_X9_isPlace x y = (if (zf_X9_within x.toInt64 (-100 : Int64) (100 : Int64)) = true then (if (zf_X9_within y.toInt64 (-100 : Int64) (100 : Int64)) = true then true else false) else false) := rfl
set_option maxHeartbeats 4000000 in
set_option maxRecDepth 100000 in
theorem zc_X9_isPlace (l : Launch) (g : zG) (B : Nat) (x : Int32) (y : Int32) : zMet l g B yX9_isPlace cX9_isPlace 2 (some .boolean) 2 60 0 0 [.int x, .int y] [] (zDet (some (.int (zB (zf_X9_isPlace x y)))) []) := by
  refine z_in (plainFor_of_name (by decide)) (Nat.le_of_ble_eq_true rfl) (fun p e R s m args below meth c A Q hRf hRl hRc hRs X Z hnm E ls hl => ?_)
  have hx := X.1
  have hb := X.2.1
  have hown := X.2.2.2.1
  have hts := X.2.2.2.2.1
  have hl : lv_has ls 2 [(0, .int x), (1, .int y)] := hl
  refine lv_iload_n hx hb dX9_isPlace_0 rfl (lv_at hl 0 rfl) ?_
  refine lv_i2l hx hb dX9_isPlace_1 rfl ?_
  refine lv_ldc2 (v := (-100 : Int64)) hx hb hown (hts _ wL_X9_42) dX9_isPlace_2 ?_
  refine lv_ldc2 (v := (100 : Int64)) hx hb hown (hts _ wL_X9_31) dX9_isPlace_5 ?_
  refine z_callS (mc := 0) (ms := 0) (As := [.long x.toInt64, .long (-100 : Int64), .long (100 : Int64)]) (rest := []) (st2 := [.int (zB (zf_X9_within x.toInt64 (-100 : Int64) (100 : Int64)))]) (cs2 := []) X Z [] [] [] (zc_X9_within l g B x.toInt64 (-100 : Int64) (100 : Int64)) wM_X9_44 wS_X9_within wK_X9_within wZ_X9 3 0 0 rfl (by decide +kernel) rfl (by decide) rfl rfl rfl (by decide) rfl hl.1 rfl rfl (by rw [hRf, hRl]; exact ⟨Nat.le_of_ble_eq_true rfl, Nat.le_of_ble_eq_true rfl⟩) (Nat.le_of_ble_eq_true rfl) ⟨Nat.zero_le _, Nat.zero_le _⟩ dX9_isPlace_8 (fun H locs Z => ?_)
  refine z_ifeqB (b := (zf_X9_within x.toInt64 (-100 : Int64) (100 : Int64))) (tgt := 32) X dX9_isPlace_11 (by decide) (fun c_1 => ?_) (fun c_1 => ?_)
  · refine lv_iconst (v := (0 : Int32)) hx hb dX9_isPlace_32 (by decide) ?_
    exact z_ri (v := zB false) E Z (zB_narrow _) (by rw [zf_X9_isPlace_e, if_neg (zBf c_1)]; exact ⟨rfl, rfl⟩) dX9_isPlace_33 (Nat.zero_le _) (Nat.zero_le _)
  · refine lv_iload_n hx hb dX9_isPlace_14 rfl (lv_at hl 1 rfl) ?_
    refine lv_i2l hx hb dX9_isPlace_15 rfl ?_
    refine lv_ldc2 (v := (-100 : Int64)) hx hb hown (hts _ wL_X9_42) dX9_isPlace_16 ?_
    refine lv_ldc2 (v := (100 : Int64)) hx hb hown (hts _ wL_X9_31) dX9_isPlace_19 ?_
    refine z_callS (mc := 0) (ms := 0) (As := [.long y.toInt64, .long (-100 : Int64), .long (100 : Int64)]) (rest := []) (st2 := [.int (zB (zf_X9_within y.toInt64 (-100 : Int64) (100 : Int64)))]) (cs2 := []) X Z [] [] [] (zc_X9_within l g B y.toInt64 (-100 : Int64) (100 : Int64)) wM_X9_44 wS_X9_within wK_X9_within wZ_X9 3 0 0 rfl (by decide +kernel) rfl (by decide) rfl rfl rfl (by decide) rfl hl.1 rfl rfl (by rw [hRf, hRl]; exact ⟨Nat.le_of_ble_eq_true rfl, Nat.le_of_ble_eq_true rfl⟩) (Nat.le_of_ble_eq_true rfl) ⟨Nat.zero_le _, Nat.zero_le _⟩ dX9_isPlace_22 (fun H locs Z => ?_)
    refine z_ifeqB (b := (zf_X9_within y.toInt64 (-100 : Int64) (100 : Int64))) (tgt := 32) X dX9_isPlace_25 (by decide) (fun c_2 => ?_) (fun c_2 => ?_)
    · refine lv_iconst (v := (0 : Int32)) hx hb dX9_isPlace_32 (by decide) ?_
      exact z_ri (v := zB false) E Z (zB_narrow _) (by rw [zf_X9_isPlace_e, if_pos c_1, if_neg (zBf c_2)]; exact ⟨rfl, rfl⟩) dX9_isPlace_33 (Nat.zero_le _) (Nat.zero_le _)
    · refine lv_iconst (v := (1 : Int32)) hx hb dX9_isPlace_28 (by decide) ?_
      refine lv_goto (tgt := 33) hx hb dX9_isPlace_29 (by decide) ?_
      exact z_ri (v := zB true) E Z (zB_narrow _) (by rw [zf_X9_isPlace_e, if_pos c_1, if_pos c_2]; exact ⟨rfl, rfl⟩) dX9_isPlace_33 (Nat.zero_le _) (Nat.zero_le _)
def zf_X9_isPart (x : Int32) : Bool := (if x = 0 then true else (if x = (1 : Int32) then true else false))
theorem zf_X9_isPart_e (x : Int32) : zf_X9_isPart x = (if x = 0 then true else (if x = (1 : Int32) then true else false)) := rfl
set_option maxHeartbeats 4000000 in
set_option maxRecDepth 100000 in
theorem zc_X9_isPart (l : Launch) (g : zG) (B : Nat) (x : Int32) : zMet l g B yX9_isPart cX9_isPart 1 (some .boolean) 1 60 0 0 [.int x] [] (zDet (some (.int (zB (zf_X9_isPart x)))) []) := by
  refine z_in (plainFor_of_name (by decide)) (Nat.le_of_ble_eq_true rfl) (fun p e R s m args below meth c A Q hRf hRl hRc hRs X Z hnm E ls hl => ?_)
  have hx := X.1
  have hb := X.2.1
  have hown := X.2.2.2.1
  have hts := X.2.2.2.2.1
  have hl : lv_has ls 1 [(0, .int x)] := hl
  refine lv_iload_n hx hb dX9_isPart_0 rfl (lv_at hl 0 rfl) ?_
  refine lv_if_eq (tgt := 9) hx hb dX9_isPart_1 (by decide) (fun c_1 => ?_) (fun c_1 => ?_)
  · refine lv_iconst (v := (1 : Int32)) hx hb dX9_isPart_9 (by decide) ?_
    refine lv_goto (tgt := 14) hx hb dX9_isPart_10 (by decide) ?_
    exact z_ri (v := zB true) E Z (zB_narrow _) (by rw [zf_X9_isPart_e, if_pos c_1]; exact ⟨rfl, rfl⟩) dX9_isPart_14 (Nat.zero_le _) (Nat.zero_le _)
  · refine lv_iload_n hx hb dX9_isPart_4 rfl (lv_at hl 0 rfl) ?_
    refine lv_iconst (v := (1 : Int32)) hx hb dX9_isPart_5 (by decide) ?_
    refine lv_icmp_ne (tgt := 13) hx hb dX9_isPart_6 (by decide) (fun c_2 => ?_) (fun c_2 => ?_)
    · refine lv_iconst (v := (0 : Int32)) hx hb dX9_isPart_13 (by decide) ?_
      exact z_ri (v := zB false) E Z (zB_narrow _) (by rw [zf_X9_isPart_e, if_neg c_1, if_neg c_2]; exact ⟨rfl, rfl⟩) dX9_isPart_14 (Nat.zero_le _) (Nat.zero_le _)
    · refine lv_iconst (v := (1 : Int32)) hx hb dX9_isPart_9 (by decide) ?_
      refine lv_goto (tgt := 14) hx hb dX9_isPart_10 (by decide) ?_
      exact z_ri (v := zB true) E Z (zB_narrow _) (by rw [zf_X9_isPart_e, if_neg c_1, if_pos c_2]; exact ⟨rfl, rfl⟩) dX9_isPart_14 (Nat.zero_le _) (Nat.zero_le _)
def zf_X9_isCell (x : Int32) : Bool := (zf_X9_within x.toInt64 (0 : Int64) (2 : Int64))
theorem zf_X9_isCell_e (x : Int32) : zf_X9_isCell x = (zf_X9_within x.toInt64 (0 : Int64) (2 : Int64)) := rfl
set_option maxHeartbeats 4000000 in
set_option maxRecDepth 100000 in
theorem zc_X9_isCell (l : Launch) (g : zG) (B : Nat) (x : Int32) : zMet l g B yX9_isCell cX9_isCell 1 (some .boolean) 2 60 0 0 [.int x] [] (zDet (some (.int (zB (zf_X9_isCell x)))) []) := by
  refine z_in (plainFor_of_name (by decide)) (Nat.le_of_ble_eq_true rfl) (fun p e R s m args below meth c A Q hRf hRl hRc hRs X Z hnm E ls hl => ?_)
  have hx := X.1
  have hb := X.2.1
  have hown := X.2.2.2.1
  have hts := X.2.2.2.2.1
  have hl : lv_has ls 1 [(0, .int x)] := hl
  refine lv_iload_n hx hb dX9_isCell_0 rfl (lv_at hl 0 rfl) ?_
  refine lv_i2l hx hb dX9_isCell_1 rfl ?_
  refine lv_lconst (v := (0 : Int64)) hx hb dX9_isCell_2 (by decide) ?_
  refine lv_ldc2 (v := (2 : Int64)) hx hb hown (hts _ wL_X9_33) dX9_isCell_3 ?_
  refine z_callS (mc := 0) (ms := 0) (As := [.long x.toInt64, .long (0 : Int64), .long (2 : Int64)]) (rest := []) (st2 := [.int (zB (zf_X9_within x.toInt64 (0 : Int64) (2 : Int64)))]) (cs2 := []) X Z [] [] [] (zc_X9_within l g B x.toInt64 (0 : Int64) (2 : Int64)) wM_X9_44 wS_X9_within wK_X9_within wZ_X9 3 0 0 rfl (by decide +kernel) rfl (by decide) rfl rfl rfl (by decide) rfl hl.1 rfl rfl (by rw [hRf, hRl]; exact ⟨Nat.le_of_ble_eq_true rfl, Nat.le_of_ble_eq_true rfl⟩) (Nat.le_of_ble_eq_true rfl) ⟨Nat.zero_le _, Nat.zero_le _⟩ dX9_isCell_6 (fun H locs Z => ?_)
  exact z_ri (v := zB (zf_X9_within x.toInt64 (0 : Int64) (2 : Int64))) E Z (zB_narrow _) (by rw [zf_X9_isCell_e]; exact ⟨rfl, rfl⟩) dX9_isCell_9 (Nat.zero_le _) (Nat.zero_le _)
def zf_X9_isChance (x : Int32) : Bool := (zf_X9_within x.toInt64 (0 : Int64) (10 : Int64))
theorem zf_X9_isChance_e (x : Int32) : zf_X9_isChance x = (zf_X9_within x.toInt64 (0 : Int64) (10 : Int64)) := rfl
set_option maxHeartbeats 4000000 in
set_option maxRecDepth 100000 in
theorem zc_X9_isChance (l : Launch) (g : zG) (B : Nat) (x : Int32) : zMet l g B yX9_isChance cX9_isChance 1 (some .boolean) 2 60 0 0 [.int x] [] (zDet (some (.int (zB (zf_X9_isChance x)))) []) := by
  refine z_in (plainFor_of_name (by decide)) (Nat.le_of_ble_eq_true rfl) (fun p e R s m args below meth c A Q hRf hRl hRc hRs X Z hnm E ls hl => ?_)
  have hx := X.1
  have hb := X.2.1
  have hown := X.2.2.2.1
  have hts := X.2.2.2.2.1
  have hl : lv_has ls 1 [(0, .int x)] := hl
  refine lv_iload_n hx hb dX9_isChance_0 rfl (lv_at hl 0 rfl) ?_
  refine lv_i2l hx hb dX9_isChance_1 rfl ?_
  refine lv_lconst (v := (0 : Int64)) hx hb dX9_isChance_2 (by decide) ?_
  refine lv_ldc2 (v := (10 : Int64)) hx hb hown (hts _ wL_X9_142) dX9_isChance_3 ?_
  refine z_callS (mc := 0) (ms := 0) (As := [.long x.toInt64, .long (0 : Int64), .long (10 : Int64)]) (rest := []) (st2 := [.int (zB (zf_X9_within x.toInt64 (0 : Int64) (10 : Int64)))]) (cs2 := []) X Z [] [] [] (zc_X9_within l g B x.toInt64 (0 : Int64) (10 : Int64)) wM_X9_44 wS_X9_within wK_X9_within wZ_X9 3 0 0 rfl (by decide +kernel) rfl (by decide) rfl rfl rfl (by decide) rfl hl.1 rfl rfl (by rw [hRf, hRl]; exact ⟨Nat.le_of_ble_eq_true rfl, Nat.le_of_ble_eq_true rfl⟩) (Nat.le_of_ble_eq_true rfl) ⟨Nat.zero_le _, Nat.zero_le _⟩ dX9_isChance_6 (fun H locs Z => ?_)
  exact z_ri (v := zB (zf_X9_within x.toInt64 (0 : Int64) (10 : Int64))) E Z (zB_narrow _) (by rw [zf_X9_isChance_e]; exact ⟨rfl, rfl⟩) dX9_isChance_9 (Nat.zero_le _) (Nat.zero_le _)
def zl_X9_divisor_28 : Nat → Int64 → Int64 → Int64 × Int64
  | 0, x4, x6 => (x4, x6)
  | n28 + 1, x4, x6 => (if x6 = (0 : Int64) then (x4, x6) else zl_X9_divisor_28 n28 x6 (zremL x4 x6))
theorem zl_X9_divisor_28_s (n28 : Nat) (x4 : Int64) (x6 : Int64) : zl_X9_divisor_28 (n28 + 1) x4 x6 = (if x6 = (0 : Int64) then (x4, x6) else zl_X9_divisor_28 n28 x6 (zremL x4 x6)) := rfl
def zf_X9_divisor (x : Int64) (y : Int64) : Int64 := (if (0 : Int64) ≤ x then (if (0 : Int64) ≤ y then ((zl_X9_divisor_28 (y.toInt.toNat + 1) x y).1) else ((zl_X9_divisor_28 ((-y).toInt.toNat + 1) x (-y)).1)) else (if (0 : Int64) ≤ y then ((zl_X9_divisor_28 (y.toInt.toNat + 1) (-x) y).1) else ((zl_X9_divisor_28 ((-y).toInt.toNat + 1) (-x) (-y)).1)))
theorem zf_X9_divisor_e (x : Int64) (y : Int64) : zf_X9_divisor x y = (if (0 : Int64) ≤ x then (if (0 : Int64) ≤ y then ((zl_X9_divisor_28 (y.toInt.toNat + 1) x y).1) else ((zl_X9_divisor_28 ((-y).toInt.toNat + 1) x (-y)).1)) else (if (0 : Int64) ≤ y then ((zl_X9_divisor_28 (y.toInt.toNat + 1) (-x) y).1) else ((zl_X9_divisor_28 ((-y).toInt.toNat + 1) (-x) (-y)).1))) := rfl
set_option maxHeartbeats 4000000 in
set_option maxRecDepth 100000 in
theorem zc_X9_divisor (l : Launch) (g : zG) (B : Nat) (x : Int64) (y : Int64) (hx0 : ¬ x = -9223372036854775808) (hy0 : ¬ y = -9223372036854775808) : zMet l g B yX9_divisor cX9_divisor 10 (some .long) 1 30 0 0 [.long x, .long y] [] (zDet (some (.long (zf_X9_divisor x y))) []) := by
  refine z_in (plainFor_of_name (by decide)) (Nat.le_of_ble_eq_true rfl) (fun p e R s m args below meth c A Q hRf hRl hRc hRs X Z hnm E ls hl => ?_)
  have hx := X.1
  have hb := X.2.1
  have hown := X.2.2.2.1
  have hts := X.2.2.2.2.1
  have hl : lv_has ls 10 [(0, .long x), (2, .long y)] := hl
  refine lv_lload_n hx hb dX9_divisor_0 rfl (lv_at hl 0 rfl) ?_
  refine lv_lconst (v := (0 : Int64)) hx hb dX9_divisor_1 (by decide) ?_
  refine z_lc_ge (tgt := 11) X dX9_divisor_2 dX9_divisor_3 (by decide) (fun c_1 => ?_) (fun c_1 => ?_)
  · refine lv_lload_n hx hb dX9_divisor_11 rfl (lv_at hl 0 rfl) ?_
    refine lv_lstore (lv' := [(4, .long x), (0, .long x), (2, .long y)]) hx hb dX9_divisor_12 hl (by decide) rfl (fun ls hl => ?_)
    refine lv_lload_n hx hb dX9_divisor_14 rfl (lv_at hl 2 rfl) ?_
    refine lv_lconst (v := (0 : Int64)) hx hb dX9_divisor_15 (by decide) ?_
    refine z_lc_ge (tgt := 25) X dX9_divisor_16 dX9_divisor_17 (by decide) (fun c_2 => ?_) (fun c_2 => ?_)
    · refine lv_lload_n hx hb dX9_divisor_25 rfl (lv_at hl 2 rfl) ?_
      refine lv_lstore (lv' := [(6, .long y), (4, .long x), (0, .long x), (2, .long y)]) hx hb dX9_divisor_26 hl (by decide) rfl (fun ls hl => ?_)
      have loop_28 : ∀ (n28 : Nat) (x4 : Int64) (x6 : Int64), x6.toInt.toNat < n28 → zl_X9_divisor_28 n28 x4 x6 = (zl_X9_divisor_28 (y.toInt.toNat + 1) x y) → (0 ≤ x4) → (0 ≤ x6) → ∀ (H : Heap) (locs : List Loc), zM g B A s [] H locs → ∀ ls : Array Slot, lv_has ls 10 [(6, .long x6), (4, .long x4), (0, .long x), (2, .long y)] → W p l e R s m args below meth c H locs 0 0 Q (F0 m 28 ls []) := by
        intro n28
        induction n28 with
        | zero =>
          intro x4 x6 hin28 hR28 i1 i2 H locs Z ls hl
          exact absurd hin28 (Nat.not_lt_zero _)
        | succ n28 ih28 =>
          intro x4 x6 hin28 hR28 i1 i2 H locs Z ls hl
          refine lv_lload hx hb dX9_divisor_28 (lv_at hl 0 rfl) ?_
          refine lv_lconst (v := (0 : Int64)) hx hb dX9_divisor_30 (by decide) ?_
          refine z_lc_eq (tgt := 53) X dX9_divisor_31 dX9_divisor_32 (by decide) (fun c_3 => ?_) (fun c_3 => ?_)
          · have h9 := hR28
            rw [zl_X9_divisor_28_s, if_pos c_3] at h9
            have e_x4 : x4 = (zl_X9_divisor_28 (y.toInt.toNat + 1) x y).1 := (congrArg (fun z => z.1) h9)
            have e_x6 : x6 = (zl_X9_divisor_28 (y.toInt.toNat + 1) x y).2 := (congrArg (fun z => z.2) h9)
            clear h9
            subst e_x4
            subst e_x6
            refine lv_lload hx hb dX9_divisor_53 (lv_at hl 1 rfl) ?_
            exact z_rl (v := ((zl_X9_divisor_28 (y.toInt.toNat + 1) x y).1)) E Z (by rw [zf_X9_divisor_e, if_pos c_1, if_pos c_2]; exact ⟨rfl, rfl⟩) dX9_divisor_55 (Nat.zero_le _) (Nat.zero_le _)
          · refine lv_lload hx hb dX9_divisor_35 (lv_at hl 1 rfl) ?_
            refine lv_lload hx hb dX9_divisor_37 (lv_at hl 0 rfl) ?_
            refine z_lremR X (by assumption) dX9_divisor_39 ?_
            refine lv_lstore (lv' := [(8, .long (zremL x4 x6)), (6, .long x6), (4, .long x4), (0, .long x), (2, .long y)]) hx hb dX9_divisor_40 hl (by decide) rfl (fun ls hl => ?_)
            refine lv_lload hx hb dX9_divisor_42 (lv_at hl 1 rfl) ?_
            refine lv_lstore (lv' := [(4, .long x6), (8, .long (zremL x4 x6)), (6, .long x6), (0, .long x), (2, .long y)]) hx hb dX9_divisor_44 hl (by decide) rfl (fun ls hl => ?_)
            refine lv_lload hx hb dX9_divisor_46 (lv_at hl 1 rfl) ?_
            refine lv_lstore (lv' := [(6, .long (zremL x4 x6)), (4, .long x6), (8, .long (zremL x4 x6)), (0, .long x), (2, .long y)]) hx hb dX9_divisor_48 hl (by decide) rfl (fun ls hl => ?_)
            refine lv_goto (tgt := 28) hx hb dX9_divisor_50 (by decide) ?_
            exact ih28 x6 (zremL x4 x6) (zgl1 i1 i2 (by assumption) hin28) (by have h9 := hR28; rw [zl_X9_divisor_28_s, if_neg c_3] at h9; exact h9) i2 (zgl i1 i2 (by assumption)).1 _ _ Z ls (lv_sub hl [0, 1, 3, 4] rfl)
      exact loop_28 (y.toInt.toNat + 1) x y (Nat.lt_succ_self _) rfl (by first | assumption | exact zneg_nn (by assumption) (by assumption)) (by first | assumption | exact zneg_nn (by assumption) (by assumption)) _ _ Z ls (lv_sub hl [0, 1, 2, 3] rfl)
    · refine lv_lload_n hx hb dX9_divisor_20 rfl (lv_at hl 2 rfl) ?_
      refine lv_lneg hx hb dX9_divisor_21 ?_
      refine lv_goto (tgt := 26) hx hb dX9_divisor_22 (by decide) ?_
      refine lv_lstore (lv' := [(6, .long (-y)), (4, .long x), (0, .long x), (2, .long y)]) hx hb dX9_divisor_26 hl (by decide) rfl (fun ls hl => ?_)
      have loop_28 : ∀ (n28 : Nat) (x4 : Int64) (x6 : Int64), x6.toInt.toNat < n28 → zl_X9_divisor_28 n28 x4 x6 = (zl_X9_divisor_28 ((-y).toInt.toNat + 1) x (-y)) → (0 ≤ x4) → (0 ≤ x6) → ∀ (H : Heap) (locs : List Loc), zM g B A s [] H locs → ∀ ls : Array Slot, lv_has ls 10 [(6, .long x6), (4, .long x4), (0, .long x), (2, .long y)] → W p l e R s m args below meth c H locs 0 0 Q (F0 m 28 ls []) := by
        intro n28
        induction n28 with
        | zero =>
          intro x4 x6 hin28 hR28 i1 i2 H locs Z ls hl
          exact absurd hin28 (Nat.not_lt_zero _)
        | succ n28 ih28 =>
          intro x4 x6 hin28 hR28 i1 i2 H locs Z ls hl
          refine lv_lload hx hb dX9_divisor_28 (lv_at hl 0 rfl) ?_
          refine lv_lconst (v := (0 : Int64)) hx hb dX9_divisor_30 (by decide) ?_
          refine z_lc_eq (tgt := 53) X dX9_divisor_31 dX9_divisor_32 (by decide) (fun c_4 => ?_) (fun c_4 => ?_)
          · have h9 := hR28
            rw [zl_X9_divisor_28_s, if_pos c_4] at h9
            have e_x4 : x4 = (zl_X9_divisor_28 ((-y).toInt.toNat + 1) x (-y)).1 := (congrArg (fun z => z.1) h9)
            have e_x6 : x6 = (zl_X9_divisor_28 ((-y).toInt.toNat + 1) x (-y)).2 := (congrArg (fun z => z.2) h9)
            clear h9
            subst e_x4
            subst e_x6
            refine lv_lload hx hb dX9_divisor_53 (lv_at hl 1 rfl) ?_
            exact z_rl (v := ((zl_X9_divisor_28 ((-y).toInt.toNat + 1) x (-y)).1)) E Z (by rw [zf_X9_divisor_e, if_pos c_1, if_neg c_2]; exact ⟨rfl, rfl⟩) dX9_divisor_55 (Nat.zero_le _) (Nat.zero_le _)
          · refine lv_lload hx hb dX9_divisor_35 (lv_at hl 1 rfl) ?_
            refine lv_lload hx hb dX9_divisor_37 (lv_at hl 0 rfl) ?_
            refine z_lremR X (by assumption) dX9_divisor_39 ?_
            refine lv_lstore (lv' := [(8, .long (zremL x4 x6)), (6, .long x6), (4, .long x4), (0, .long x), (2, .long y)]) hx hb dX9_divisor_40 hl (by decide) rfl (fun ls hl => ?_)
            refine lv_lload hx hb dX9_divisor_42 (lv_at hl 1 rfl) ?_
            refine lv_lstore (lv' := [(4, .long x6), (8, .long (zremL x4 x6)), (6, .long x6), (0, .long x), (2, .long y)]) hx hb dX9_divisor_44 hl (by decide) rfl (fun ls hl => ?_)
            refine lv_lload hx hb dX9_divisor_46 (lv_at hl 1 rfl) ?_
            refine lv_lstore (lv' := [(6, .long (zremL x4 x6)), (4, .long x6), (8, .long (zremL x4 x6)), (0, .long x), (2, .long y)]) hx hb dX9_divisor_48 hl (by decide) rfl (fun ls hl => ?_)
            refine lv_goto (tgt := 28) hx hb dX9_divisor_50 (by decide) ?_
            exact ih28 x6 (zremL x4 x6) (zgl1 i1 i2 (by assumption) hin28) (by have h9 := hR28; rw [zl_X9_divisor_28_s, if_neg c_4] at h9; exact h9) i2 (zgl i1 i2 (by assumption)).1 _ _ Z ls (lv_sub hl [0, 1, 3, 4] rfl)
      exact loop_28 ((-y).toInt.toNat + 1) x (-y) (Nat.lt_succ_self _) rfl (by first | assumption | exact zneg_nn (by assumption) (by assumption)) (by first | assumption | exact zneg_nn (by assumption) (by assumption)) _ _ Z ls (lv_sub hl [0, 1, 2, 3] rfl)
  · refine lv_lload_n hx hb dX9_divisor_6 rfl (lv_at hl 0 rfl) ?_
    refine lv_lneg hx hb dX9_divisor_7 ?_
    refine lv_goto (tgt := 12) hx hb dX9_divisor_8 (by decide) ?_
    refine lv_lstore (lv' := [(4, .long (-x)), (0, .long x), (2, .long y)]) hx hb dX9_divisor_12 hl (by decide) rfl (fun ls hl => ?_)
    refine lv_lload_n hx hb dX9_divisor_14 rfl (lv_at hl 2 rfl) ?_
    refine lv_lconst (v := (0 : Int64)) hx hb dX9_divisor_15 (by decide) ?_
    refine z_lc_ge (tgt := 25) X dX9_divisor_16 dX9_divisor_17 (by decide) (fun c_5 => ?_) (fun c_5 => ?_)
    · refine lv_lload_n hx hb dX9_divisor_25 rfl (lv_at hl 2 rfl) ?_
      refine lv_lstore (lv' := [(6, .long y), (4, .long (-x)), (0, .long x), (2, .long y)]) hx hb dX9_divisor_26 hl (by decide) rfl (fun ls hl => ?_)
      have loop_28 : ∀ (n28 : Nat) (x4 : Int64) (x6 : Int64), x6.toInt.toNat < n28 → zl_X9_divisor_28 n28 x4 x6 = (zl_X9_divisor_28 (y.toInt.toNat + 1) (-x) y) → (0 ≤ x4) → (0 ≤ x6) → ∀ (H : Heap) (locs : List Loc), zM g B A s [] H locs → ∀ ls : Array Slot, lv_has ls 10 [(6, .long x6), (4, .long x4), (0, .long x), (2, .long y)] → W p l e R s m args below meth c H locs 0 0 Q (F0 m 28 ls []) := by
        intro n28
        induction n28 with
        | zero =>
          intro x4 x6 hin28 hR28 i1 i2 H locs Z ls hl
          exact absurd hin28 (Nat.not_lt_zero _)
        | succ n28 ih28 =>
          intro x4 x6 hin28 hR28 i1 i2 H locs Z ls hl
          refine lv_lload hx hb dX9_divisor_28 (lv_at hl 0 rfl) ?_
          refine lv_lconst (v := (0 : Int64)) hx hb dX9_divisor_30 (by decide) ?_
          refine z_lc_eq (tgt := 53) X dX9_divisor_31 dX9_divisor_32 (by decide) (fun c_6 => ?_) (fun c_6 => ?_)
          · have h9 := hR28
            rw [zl_X9_divisor_28_s, if_pos c_6] at h9
            have e_x4 : x4 = (zl_X9_divisor_28 (y.toInt.toNat + 1) (-x) y).1 := (congrArg (fun z => z.1) h9)
            have e_x6 : x6 = (zl_X9_divisor_28 (y.toInt.toNat + 1) (-x) y).2 := (congrArg (fun z => z.2) h9)
            clear h9
            subst e_x4
            subst e_x6
            refine lv_lload hx hb dX9_divisor_53 (lv_at hl 1 rfl) ?_
            exact z_rl (v := ((zl_X9_divisor_28 (y.toInt.toNat + 1) (-x) y).1)) E Z (by rw [zf_X9_divisor_e, if_neg c_1, if_pos c_5]; exact ⟨rfl, rfl⟩) dX9_divisor_55 (Nat.zero_le _) (Nat.zero_le _)
          · refine lv_lload hx hb dX9_divisor_35 (lv_at hl 1 rfl) ?_
            refine lv_lload hx hb dX9_divisor_37 (lv_at hl 0 rfl) ?_
            refine z_lremR X (by assumption) dX9_divisor_39 ?_
            refine lv_lstore (lv' := [(8, .long (zremL x4 x6)), (6, .long x6), (4, .long x4), (0, .long x), (2, .long y)]) hx hb dX9_divisor_40 hl (by decide) rfl (fun ls hl => ?_)
            refine lv_lload hx hb dX9_divisor_42 (lv_at hl 1 rfl) ?_
            refine lv_lstore (lv' := [(4, .long x6), (8, .long (zremL x4 x6)), (6, .long x6), (0, .long x), (2, .long y)]) hx hb dX9_divisor_44 hl (by decide) rfl (fun ls hl => ?_)
            refine lv_lload hx hb dX9_divisor_46 (lv_at hl 1 rfl) ?_
            refine lv_lstore (lv' := [(6, .long (zremL x4 x6)), (4, .long x6), (8, .long (zremL x4 x6)), (0, .long x), (2, .long y)]) hx hb dX9_divisor_48 hl (by decide) rfl (fun ls hl => ?_)
            refine lv_goto (tgt := 28) hx hb dX9_divisor_50 (by decide) ?_
            exact ih28 x6 (zremL x4 x6) (zgl1 i1 i2 (by assumption) hin28) (by have h9 := hR28; rw [zl_X9_divisor_28_s, if_neg c_6] at h9; exact h9) i2 (zgl i1 i2 (by assumption)).1 _ _ Z ls (lv_sub hl [0, 1, 3, 4] rfl)
      exact loop_28 (y.toInt.toNat + 1) (-x) y (Nat.lt_succ_self _) rfl (by first | assumption | exact zneg_nn (by assumption) (by assumption)) (by first | assumption | exact zneg_nn (by assumption) (by assumption)) _ _ Z ls (lv_sub hl [0, 1, 2, 3] rfl)
    · refine lv_lload_n hx hb dX9_divisor_20 rfl (lv_at hl 2 rfl) ?_
      refine lv_lneg hx hb dX9_divisor_21 ?_
      refine lv_goto (tgt := 26) hx hb dX9_divisor_22 (by decide) ?_
      refine lv_lstore (lv' := [(6, .long (-y)), (4, .long (-x)), (0, .long x), (2, .long y)]) hx hb dX9_divisor_26 hl (by decide) rfl (fun ls hl => ?_)
      have loop_28 : ∀ (n28 : Nat) (x4 : Int64) (x6 : Int64), x6.toInt.toNat < n28 → zl_X9_divisor_28 n28 x4 x6 = (zl_X9_divisor_28 ((-y).toInt.toNat + 1) (-x) (-y)) → (0 ≤ x4) → (0 ≤ x6) → ∀ (H : Heap) (locs : List Loc), zM g B A s [] H locs → ∀ ls : Array Slot, lv_has ls 10 [(6, .long x6), (4, .long x4), (0, .long x), (2, .long y)] → W p l e R s m args below meth c H locs 0 0 Q (F0 m 28 ls []) := by
        intro n28
        induction n28 with
        | zero =>
          intro x4 x6 hin28 hR28 i1 i2 H locs Z ls hl
          exact absurd hin28 (Nat.not_lt_zero _)
        | succ n28 ih28 =>
          intro x4 x6 hin28 hR28 i1 i2 H locs Z ls hl
          refine lv_lload hx hb dX9_divisor_28 (lv_at hl 0 rfl) ?_
          refine lv_lconst (v := (0 : Int64)) hx hb dX9_divisor_30 (by decide) ?_
          refine z_lc_eq (tgt := 53) X dX9_divisor_31 dX9_divisor_32 (by decide) (fun c_7 => ?_) (fun c_7 => ?_)
          · have h9 := hR28
            rw [zl_X9_divisor_28_s, if_pos c_7] at h9
            have e_x4 : x4 = (zl_X9_divisor_28 ((-y).toInt.toNat + 1) (-x) (-y)).1 := (congrArg (fun z => z.1) h9)
            have e_x6 : x6 = (zl_X9_divisor_28 ((-y).toInt.toNat + 1) (-x) (-y)).2 := (congrArg (fun z => z.2) h9)
            clear h9
            subst e_x4
            subst e_x6
            refine lv_lload hx hb dX9_divisor_53 (lv_at hl 1 rfl) ?_
            exact z_rl (v := ((zl_X9_divisor_28 ((-y).toInt.toNat + 1) (-x) (-y)).1)) E Z (by rw [zf_X9_divisor_e, if_neg c_1, if_neg c_5]; exact ⟨rfl, rfl⟩) dX9_divisor_55 (Nat.zero_le _) (Nat.zero_le _)
          · refine lv_lload hx hb dX9_divisor_35 (lv_at hl 1 rfl) ?_
            refine lv_lload hx hb dX9_divisor_37 (lv_at hl 0 rfl) ?_
            refine z_lremR X (by assumption) dX9_divisor_39 ?_
            refine lv_lstore (lv' := [(8, .long (zremL x4 x6)), (6, .long x6), (4, .long x4), (0, .long x), (2, .long y)]) hx hb dX9_divisor_40 hl (by decide) rfl (fun ls hl => ?_)
            refine lv_lload hx hb dX9_divisor_42 (lv_at hl 1 rfl) ?_
            refine lv_lstore (lv' := [(4, .long x6), (8, .long (zremL x4 x6)), (6, .long x6), (0, .long x), (2, .long y)]) hx hb dX9_divisor_44 hl (by decide) rfl (fun ls hl => ?_)
            refine lv_lload hx hb dX9_divisor_46 (lv_at hl 1 rfl) ?_
            refine lv_lstore (lv' := [(6, .long (zremL x4 x6)), (4, .long x6), (8, .long (zremL x4 x6)), (0, .long x), (2, .long y)]) hx hb dX9_divisor_48 hl (by decide) rfl (fun ls hl => ?_)
            refine lv_goto (tgt := 28) hx hb dX9_divisor_50 (by decide) ?_
            exact ih28 x6 (zremL x4 x6) (zgl1 i1 i2 (by assumption) hin28) (by have h9 := hR28; rw [zl_X9_divisor_28_s, if_neg c_7] at h9; exact h9) i2 (zgl i1 i2 (by assumption)).1 _ _ Z ls (lv_sub hl [0, 1, 3, 4] rfl)
      exact loop_28 ((-y).toInt.toNat + 1) (-x) (-y) (Nat.lt_succ_self _) rfl (by first | assumption | exact zneg_nn (by assumption) (by assumption)) (by first | assumption | exact zneg_nn (by assumption) (by assumption)) _ _ Z ls (lv_sub hl [0, 1, 2, 3] rfl)
def zf_X9_partOf (x : Int64) (y : Int64) (t : Int32) : Int64 := (if (0 : Int64) ≤ y then (if t = 0 then (x / (zf_X9_divisor x y)) else (y / (zf_X9_divisor x y))) else (if t = 0 then (x / (-(zf_X9_divisor x y))) else (y / (-(zf_X9_divisor x y)))))
theorem zf_X9_partOf_e (x : Int64) (y : Int64) (t : Int32) : zf_X9_partOf x y t = (if (0 : Int64) ≤ y then (if t = 0 then (x / (zf_X9_divisor x y)) else (y / (zf_X9_divisor x y))) else (if t = 0 then (x / (-(zf_X9_divisor x y))) else (y / (-(zf_X9_divisor x y))))) := rfl
set_option maxHeartbeats 4000000 in
set_option maxRecDepth 100000 in
theorem zc_X9_partOf (l : Launch) (g : zG) (B : Nat) (x : Int64) (y : Int64) (t : Int32) (hx0 : ¬ x = -9223372036854775808) (hy0 : ¬ y = -9223372036854775808) (hd : ¬ (zf_X9_divisor x y) = 0) : zMet l g B yX9_partOf cX9_partOf 7 (some .long) 2 70 0 0 [.long x, .long y, .int t] [] (zDet (some (.long (zf_X9_partOf x y t))) []) := by
  refine z_in (plainFor_of_name (by decide)) (Nat.le_of_ble_eq_true rfl) (fun p e R s m args below meth c A Q hRf hRl hRc hRs X Z hnm E ls hl => ?_)
  have hx := X.1
  have hb := X.2.1
  have hown := X.2.2.2.1
  have hts := X.2.2.2.2.1
  have hl : lv_has ls 7 [(0, .long x), (2, .long y), (4, .int t)] := hl
  refine lv_lload_n hx hb dX9_partOf_0 rfl (lv_at hl 0 rfl) ?_
  refine lv_lload_n hx hb dX9_partOf_1 rfl (lv_at hl 1 rfl) ?_
  refine z_callS (mc := 0) (ms := 0) (As := [.long x, .long y]) (rest := []) (st2 := [.long (zf_X9_divisor x y)]) (cs2 := []) X Z [] [] [] (zc_X9_divisor l g B x y (by first | assumption | omega | decide) (by first | assumption | omega | decide)) wM_X9_48 wS_X9_divisor wK_X9_divisor wZ_X9 2 0 0 rfl (by decide +kernel) rfl (by decide) rfl rfl rfl (by decide) rfl hl.1 rfl rfl (by rw [hRf, hRl]; exact ⟨Nat.le_of_ble_eq_true rfl, Nat.le_of_ble_eq_true rfl⟩) (Nat.le_of_ble_eq_true rfl) ⟨Nat.zero_le _, Nat.zero_le _⟩ dX9_partOf_2 (fun H locs Z => ?_)
  refine lv_lstore (lv' := [(5, .long (zf_X9_divisor x y)), (0, .long x), (2, .long y), (4, .int t)]) hx hb dX9_partOf_5 hl (by decide) rfl (fun ls hl => ?_)
  refine lv_lload_n hx hb dX9_partOf_7 rfl (lv_at hl 2 rfl) ?_
  refine lv_lconst (v := (0 : Int64)) hx hb dX9_partOf_8 (by decide) ?_
  refine z_lc_ge (tgt := 19) X dX9_partOf_9 dX9_partOf_10 (by decide) (fun c_1 => ?_) (fun c_1 => ?_)
  · refine lv_lload hx hb dX9_partOf_19 (lv_at hl 0 rfl) ?_
    refine lv_lstore (lv' := [(5, .long (zf_X9_divisor x y)), (0, .long x), (2, .long y), (4, .int t)]) hx hb dX9_partOf_21 hl (by decide) rfl (fun ls hl => ?_)
    refine lv_iload hx hb dX9_partOf_23 (lv_at hl 3 rfl) ?_
    refine lv_if_ne (tgt := 35) hx hb dX9_partOf_25 (by decide) (fun c_2 => ?_) (fun c_2 => ?_)
    · refine lv_lload_n hx hb dX9_partOf_35 rfl (lv_at hl 2 rfl) ?_
      refine lv_lload hx hb dX9_partOf_36 (lv_at hl 0 rfl) ?_
      refine lv_ldiv hx hb dX9_partOf_38 (by first | assumption | exact zneg0 (by assumption)) ?_
      exact z_rl (v := (y / (zf_X9_divisor x y))) E Z (by rw [zf_X9_partOf_e, if_pos c_1, if_neg c_2]; exact ⟨rfl, rfl⟩) dX9_partOf_39 (Nat.zero_le _) (Nat.zero_le _)
    · refine lv_lload_n hx hb dX9_partOf_28 rfl (lv_at hl 1 rfl) ?_
      refine lv_lload hx hb dX9_partOf_29 (lv_at hl 0 rfl) ?_
      refine lv_ldiv hx hb dX9_partOf_31 (by first | assumption | exact zneg0 (by assumption)) ?_
      refine lv_goto (tgt := 39) hx hb dX9_partOf_32 (by decide) ?_
      exact z_rl (v := (x / (zf_X9_divisor x y))) E Z (by rw [zf_X9_partOf_e, if_pos c_1, if_pos c_2]; exact ⟨rfl, rfl⟩) dX9_partOf_39 (Nat.zero_le _) (Nat.zero_le _)
  · refine lv_lload hx hb dX9_partOf_13 (lv_at hl 0 rfl) ?_
    refine lv_lneg hx hb dX9_partOf_15 ?_
    refine lv_goto (tgt := 21) hx hb dX9_partOf_16 (by decide) ?_
    refine lv_lstore (lv' := [(5, .long (-(zf_X9_divisor x y))), (0, .long x), (2, .long y), (4, .int t)]) hx hb dX9_partOf_21 hl (by decide) rfl (fun ls hl => ?_)
    refine lv_iload hx hb dX9_partOf_23 (lv_at hl 3 rfl) ?_
    refine lv_if_ne (tgt := 35) hx hb dX9_partOf_25 (by decide) (fun c_3 => ?_) (fun c_3 => ?_)
    · refine lv_lload_n hx hb dX9_partOf_35 rfl (lv_at hl 2 rfl) ?_
      refine lv_lload hx hb dX9_partOf_36 (lv_at hl 0 rfl) ?_
      refine lv_ldiv hx hb dX9_partOf_38 (by first | assumption | exact zneg0 (by assumption)) ?_
      exact z_rl (v := (y / (-(zf_X9_divisor x y)))) E Z (by rw [zf_X9_partOf_e, if_neg c_1, if_neg c_3]; exact ⟨rfl, rfl⟩) dX9_partOf_39 (Nat.zero_le _) (Nat.zero_le _)
    · refine lv_lload_n hx hb dX9_partOf_28 rfl (lv_at hl 1 rfl) ?_
      refine lv_lload hx hb dX9_partOf_29 (lv_at hl 0 rfl) ?_
      refine lv_ldiv hx hb dX9_partOf_31 (by first | assumption | exact zneg0 (by assumption)) ?_
      refine lv_goto (tgt := 39) hx hb dX9_partOf_32 (by decide) ?_
      exact z_rl (v := (x / (-(zf_X9_divisor x y)))) E Z (by rw [zf_X9_partOf_e, if_neg c_1, if_pos c_3]; exact ⟨rfl, rfl⟩) dX9_partOf_39 (Nat.zero_le _) (Nat.zero_le _)
def zf_X9_floor (x : Int64) (y : Int64) : Int64 := (if (0 : Int64) ≤ (zremL x y) then (x / y) else ((x / y) - (1 : Int64)))
theorem zf_X9_floor_e (x : Int64) (y : Int64) : zf_X9_floor x y = (if (0 : Int64) ≤ (zremL x y) then (x / y) else ((x / y) - (1 : Int64))) := rfl
set_option maxHeartbeats 4000000 in
set_option maxRecDepth 100000 in
theorem zc_X9_floor (l : Launch) (g : zG) (B : Nat) (x : Int64) (y : Int64) (hy : ¬ y = 0) : zMet l g B yX9_floor cX9_floor 6 (some .long) 1 20 0 0 [.long x, .long y] [] (zDet (some (.long (zf_X9_floor x y))) []) := by
  refine z_in (plainFor_of_name (by decide)) (Nat.le_of_ble_eq_true rfl) (fun p e R s m args below meth c A Q hRf hRl hRc hRs X Z hnm E ls hl => ?_)
  have hx := X.1
  have hb := X.2.1
  have hown := X.2.2.2.1
  have hts := X.2.2.2.2.1
  have hl : lv_has ls 6 [(0, .long x), (2, .long y)] := hl
  refine lv_lload_n hx hb dX9_floor_0 rfl (lv_at hl 0 rfl) ?_
  refine lv_lload_n hx hb dX9_floor_1 rfl (lv_at hl 1 rfl) ?_
  refine lv_ldiv hx hb dX9_floor_2 hy ?_
  refine lv_lstore (lv' := [(4, .long (x / y)), (0, .long x), (2, .long y)]) hx hb dX9_floor_3 hl (by decide) rfl (fun ls hl => ?_)
  refine lv_lload_n hx hb dX9_floor_5 rfl (lv_at hl 1 rfl) ?_
  refine lv_lload_n hx hb dX9_floor_6 rfl (lv_at hl 2 rfl) ?_
  refine z_lremR X hy dX9_floor_7 ?_
  refine lv_lconst (v := (0 : Int64)) hx hb dX9_floor_8 (by decide) ?_
  refine z_lc_ge (tgt := 20) X dX9_floor_9 dX9_floor_10 (by decide) (fun c_1 => ?_) (fun c_1 => ?_)
  · refine lv_lload hx hb dX9_floor_20 (lv_at hl 0 rfl) ?_
    exact z_rl (v := (x / y)) E Z (by rw [zf_X9_floor_e, if_pos c_1]; exact ⟨rfl, rfl⟩) dX9_floor_22 (Nat.zero_le _) (Nat.zero_le _)
  · refine lv_lload hx hb dX9_floor_13 (lv_at hl 0 rfl) ?_
    refine lv_lconst (v := (1 : Int64)) hx hb dX9_floor_15 (by decide) ?_
    refine lv_lsub hx hb dX9_floor_16 ?_
    refine lv_goto (tgt := 22) hx hb dX9_floor_17 (by decide) ?_
    exact z_rl (v := ((x / y) - (1 : Int64))) E Z (by rw [zf_X9_floor_e, if_neg c_1]; exact ⟨rfl, rfl⟩) dX9_floor_22 (Nat.zero_le _) (Nat.zero_le _)
def zl_X9_saves_51 (MNow : Nat → Int64) (MSav : Nat) : Nat → Nat → (Nat → Int64) → (Nat → Int64)
  | 0, _, p1 => p1
  | n51 + 1, j51, p1 => zl_X9_saves_51 MNow MSav n51 (j51 + 1) (vp_updL p1 ((318 * MSav) + j51) (MNow j51))
theorem zl_X9_saves_51_s (MNow : Nat → Int64) (MSav : Nat) (n51 : Nat) (j51 : Nat) (p1 : Nat → Int64) : zl_X9_saves_51 MNow MSav (n51 + 1) j51 p1 = zl_X9_saves_51 MNow MSav n51 (j51 + 1) (vp_updL p1 ((318 * MSav) + j51) (MNow j51)) := rfl
def zl_X9_saves_51_2 (MNow : Nat → Int64) (MSav : Nat) : Nat → Nat → (Nat → Int64) → (Nat → Int64)
  | 0, _, p1 => p1
  | n51 + 1, j51, p1 => zl_X9_saves_51_2 MNow MSav n51 (j51 + 1) (vp_updL p1 ((318 * (MSav - 1)) + j51) (MNow j51))
theorem zl_X9_saves_51_2_s (MNow : Nat → Int64) (MSav : Nat) (n51 : Nat) (j51 : Nat) (p1 : Nat → Int64) : zl_X9_saves_51_2 MNow MSav (n51 + 1) j51 p1 = zl_X9_saves_51_2 MNow MSav n51 (j51 + 1) (vp_updL p1 ((318 * (MSav - 1)) + j51) (MNow j51)) := rfl
def zl_X9_saves_10 : Nat → Nat → (Nat → Int64) → (Nat → Int64)
  | 0, _, p1 => p1
  | n10 + 1, j10, p1 => zl_X9_saves_10 n10 (j10 + 1) (vp_updL p1 j10 (p1 (j10 + 318)))
theorem zl_X9_saves_10_s (n10 : Nat) (j10 : Nat) (p1 : Nat → Int64) : zl_X9_saves_10 (n10 + 1) j10 p1 = zl_X9_saves_10 n10 (j10 + 1) (vp_updL p1 j10 (p1 (j10 + 318))) := rfl
def zf_X9_saves (MNow : Nat → Int64) (MPast : Nat → Int64) (MSav : Nat) : (Nat → Int64) × Nat := (if MSav = 4 then ((zl_X9_saves_51_2 MNow MSav 318 0 (zl_X9_saves_10 954 0 MPast)), ((MSav - 1) + 1)) else ((zl_X9_saves_51 MNow MSav 318 0 MPast), (MSav + 1)))
theorem zf_X9_saves_e (MNow : Nat → Int64) (MPast : Nat → Int64) (MSav : Nat) : zf_X9_saves MNow MPast MSav = (if MSav = 4 then ((zl_X9_saves_51_2 MNow MSav 318 0 (zl_X9_saves_10 954 0 MPast)), ((MSav - 1) + 1)) else ((zl_X9_saves_51 MNow MSav 318 0 MPast), (MSav + 1))) := rfl
set_option maxHeartbeats 4000000 in
set_option maxRecDepth 100000 in
theorem zc_X9_saves (l : Launch) (g : zG) (B : Nat) (md : Nat → Nat) (MNow : Nat → Int64) (MPast : Nat → Int64) (MSav : Nat) (MRef : Int32) (MThen : Nat → Int64) (MLev : Nat → Int64) (MFst : Int32) (MWay : Nat → Int64) (MMost : Nat → Int32) (MHash : Int64) (hs : MSav ≤ 4) : zMet l g B yX9_saves cX9_saves 2 none 1 60 0 0 [.ref (md 0)] [wMod g md MNow MPast MSav MRef MThen MLev MFst MWay MMost MHash] (zDet (none) [wMod g md MNow ((zf_X9_saves MNow MPast MSav).1) ((zf_X9_saves MNow MPast MSav).2) MRef MThen MLev MFst MWay MMost MHash]) := by
  refine z_in (plainFor_of_name (by decide)) (Nat.le_of_ble_eq_true rfl) (fun p e R s m args below meth c A Q hRf hRl hRc hRs X Z hnm E ls hl => ?_)
  have hx := X.1
  have hb := X.2.1
  have hown := X.2.2.2.1
  have hts := X.2.2.2.2.1
  have hl : lv_has ls 2 [(0, .ref (md 0))] := hl
  refine lv_aload_n hx hb dX9_saves_0 rfl (lv_at hl 0 rfl) ?_
  refine z_get X Z 0 rfl (rfl : zCl[7]? = some (RX9, TX9, 10)) zU_X9 2 (by decide) wF_X9_52 rfl rfl dX9_saves_1 ?_
  refine lv_iconst (v := (4 : Int32)) hx hb dX9_saves_4 (by decide) ?_
  refine z_icmp_ne (a := MSav) (b := 4) (tgt := 49) X rfl rfl (by omega) (by omega) dX9_saves_5 (by decide) (fun c_1 => ?_) (fun c_1 => ?_)
  · refine lv_iconst (v := (0 : Int32)) hx hb dX9_saves_49 (by decide) ?_
    refine lv_istore_n (lv' := [(1, .int (0 : Int32)), (0, .ref (md 0))]) hx hb dX9_saves_50 rfl hl (by decide) rfl (fun ls hl => ?_)
    have loop_51 : ∀ (n51 j51 : Nat) (p1 : Nat → Int64), j51 + n51 = 318 → zl_X9_saves_51 MNow MSav n51 j51 p1 = (zl_X9_saves_51 MNow MSav 318 0 MPast) → ∀ (H : Heap) (locs : List Loc), zM g B A s [wMod g md MNow p1 MSav MRef MThen MLev MFst MWay MMost MHash] H locs → ∀ ls : Array Slot, lv_has ls 2 [(1, .int (nI j51)), (0, .ref (md 0))] → W p l e R s m args below meth c H locs 0 0 Q (F0 m 51 ls []) := by
      intro n51
      induction n51 with
      | zero =>
        intro j51 p1 hin51 hR51 H locs Z ls hl
        have e_p1 : (zl_X9_saves_51 MNow MSav 318 0 MPast) = p1 := hR51.symm
        subst e_p1
        refine lv_iload_n hx hb dX9_saves_51 rfl (lv_at hl 0 rfl) ?_
        refine lv_sipush (v := (318 : Int32)) hx hb dX9_saves_52 (by decide) ?_
        refine z_icmp_ge (a := j51) (b := 318) (tgt := 85) X rfl rfl (by omega) (by omega) dX9_saves_55 (by decide) (fun c_2 => ?_) (fun c_2 => ?_)
        · refine lv_aload_n hx hb dX9_saves_85 rfl (lv_at hl 1 rfl) ?_
          refine lv_dup hx hb dX9_saves_86 rfl ?_
          refine z_get X Z 0 rfl (rfl : zCl[7]? = some (RX9, TX9, 10)) zU_X9 2 (by decide) wF_X9_52 rfl rfl dX9_saves_87 ?_
          refine lv_iconst (v := (1 : Int32)) hx hb dX9_saves_90 (by decide) ?_
          refine z_iadd (a := MSav) (b := 1) X rfl rfl dX9_saves_91 ?_
          refine z_put (cs2 := [wMod g md MNow (zl_X9_saves_51 MNow MSav 318 0 MPast) (MSav + 1) MRef MThen MLev MFst MWay MMost MHash]) (v := .int (nI (MSav + 1))) X Z 0 rfl (rfl : zCl[7]? = some (RX9, TX9, 10)) zU_X9 tyX9 tyX9_ok nmX9 2 (by decide) wF_X9_52 rfl rfl rfl rfl (Nat.le_of_ble_eq_true rfl) rfl dX9_saves_92 (fun H locs Z => ?_)
          exact z_rv E Z (by rw [zf_X9_saves_e, if_neg c_1]; dsimp only; exact ⟨rfl, rfl⟩) dX9_saves_95 (Nat.zero_le _) (Nat.zero_le _)
        · (exfalso; omega)
      | succ n51 ih51 =>
        intro j51 p1 hin51 hR51 H locs Z ls hl
        refine lv_iload_n hx hb dX9_saves_51 rfl (lv_at hl 0 rfl) ?_
        refine lv_sipush (v := (318 : Int32)) hx hb dX9_saves_52 (by decide) ?_
        refine z_icmp_ge (a := j51) (b := 318) (tgt := 85) X rfl rfl (by omega) (by omega) dX9_saves_55 (by decide) (fun c_3 => ?_) (fun c_3 => ?_)
        · (exfalso; omega)
        · refine lv_aload_n hx hb dX9_saves_58 rfl (lv_at hl 1 rfl) ?_
          refine z_get X Z 0 rfl (rfl : zCl[7]? = some (RX9, TX9, 10)) zU_X9 1 (by decide) wF_X9_13 rfl rfl dX9_saves_59 ?_
          refine lv_sipush (v := (318 : Int32)) hx hb dX9_saves_62 (by decide) ?_
          refine lv_aload_n hx hb dX9_saves_65 rfl (lv_at hl 1 rfl) ?_
          refine z_get X Z 0 rfl (rfl : zCl[7]? = some (RX9, TX9, 10)) zU_X9 2 (by decide) wF_X9_52 rfl rfl dX9_saves_66 ?_
          refine z_imul (a := 318) (b := MSav) X rfl rfl dX9_saves_69 ?_
          refine lv_iload_n hx hb dX9_saves_70 rfl (lv_at hl 0 rfl) ?_
          refine z_iadd (a := (318 * MSav)) (b := j51) X rfl rfl dX9_saves_71 ?_
          refine lv_aload_n hx hb dX9_saves_72 rfl (lv_at hl 1 rfl) ?_
          refine z_get X Z 0 rfl (rfl : zCl[7]? = some (RX9, TX9, 10)) zU_X9 0 (by decide) wF_X9_7 rfl rfl dX9_saves_73 ?_
          refine lv_iload_n hx hb dX9_saves_76 rfl (lv_at hl 0 rfl) ?_
          refine z_lald (j := j51) X Z 1 rfl rfl (by omega) (by decide) dX9_saves_77 ?_
          refine z_last (cs2 := [wMod g md MNow (vp_updL p1 ((318 * MSav) + j51) (MNow j51)) MSav MRef MThen MLev MFst MWay MMost MHash]) (j := ((318 * MSav) + j51)) (x := (MNow j51)) X Z 2 rfl rfl (by omega) (by decide) rfl dX9_saves_78 (fun H locs Z => ?_)
          refine z_iinc (b := (j51 + 1)) (st := 1) (lv' := [(1, .int (nI (j51 + 1))), (0, .ref (md 0))]) X dX9_saves_79 hl (k := 0) rfl rfl (by decide) (by omega) (by decide) rfl (fun ls hl => ?_)
          refine lv_goto (tgt := 51) hx hb dX9_saves_82 (by decide) ?_
          exact ih51 (j51 + 1) (vp_updL p1 ((318 * MSav) + j51) (MNow j51)) (by omega) (by have h9 := hR51; rw [zl_X9_saves_51_s] at h9; exact h9) _ _ Z ls (lv_sub hl [0, 1] rfl)
    exact loop_51 318 0 MPast (by omega) rfl _ _ Z ls (lv_sub hl [0, 1] rfl)
  · refine lv_iconst (v := (0 : Int32)) hx hb dX9_saves_8 (by decide) ?_
    refine lv_istore_n (lv' := [(1, .int (0 : Int32)), (0, .ref (md 0))]) hx hb dX9_saves_9 rfl hl (by decide) rfl (fun ls hl => ?_)
    have loop_10 : ∀ (n10 j10 : Nat) (p1 : Nat → Int64), j10 + n10 = 954 → zl_X9_saves_10 n10 j10 p1 = (zl_X9_saves_10 954 0 MPast) → ∀ (H : Heap) (locs : List Loc), zM g B A s [wMod g md MNow p1 MSav MRef MThen MLev MFst MWay MMost MHash] H locs → ∀ ls : Array Slot, lv_has ls 2 [(1, .int (nI j10)), (0, .ref (md 0))] → W p l e R s m args below meth c H locs 0 0 Q (F0 m 10 ls []) := by
      intro n10
      induction n10 with
      | zero =>
        intro j10 p1 hin10 hR10 H locs Z ls hl
        have e_p1 : (zl_X9_saves_10 954 0 MPast) = p1 := hR10.symm
        subst e_p1
        refine lv_iload_n hx hb dX9_saves_10 rfl (lv_at hl 0 rfl) ?_
        refine lv_sipush (v := (954 : Int32)) hx hb dX9_saves_11 (by decide) ?_
        refine z_icmp_ge (a := j10) (b := 954) (tgt := 39) X rfl rfl (by omega) (by omega) dX9_saves_14 (by decide) (fun c_4 => ?_) (fun c_4 => ?_)
        · refine lv_aload_n hx hb dX9_saves_39 rfl (lv_at hl 1 rfl) ?_
          refine lv_dup hx hb dX9_saves_40 rfl ?_
          refine z_get X Z 0 rfl (rfl : zCl[7]? = some (RX9, TX9, 10)) zU_X9 2 (by decide) wF_X9_52 rfl rfl dX9_saves_41 ?_
          refine lv_iconst (v := (1 : Int32)) hx hb dX9_saves_44 (by decide) ?_
          refine z_isub (a := MSav) (b := 1) X rfl rfl (by omega) dX9_saves_45 ?_
          refine z_put (cs2 := [wMod g md MNow (zl_X9_saves_10 954 0 MPast) (MSav - 1) MRef MThen MLev MFst MWay MMost MHash]) (v := .int (nI (MSav - 1))) X Z 0 rfl (rfl : zCl[7]? = some (RX9, TX9, 10)) zU_X9 tyX9 tyX9_ok nmX9 2 (by decide) wF_X9_52 rfl rfl rfl rfl (Nat.le_of_ble_eq_true rfl) rfl dX9_saves_46 (fun H locs Z => ?_)
          refine lv_iconst (v := (0 : Int32)) hx hb dX9_saves_49 (by decide) ?_
          refine lv_istore_n (lv' := [(1, .int (0 : Int32)), (0, .ref (md 0))]) hx hb dX9_saves_50 rfl hl (by decide) rfl (fun ls hl => ?_)
          have loop_51 : ∀ (n51 j51 : Nat) (p1 : Nat → Int64), j51 + n51 = 318 → zl_X9_saves_51_2 MNow MSav n51 j51 p1 = (zl_X9_saves_51_2 MNow MSav 318 0 (zl_X9_saves_10 954 0 MPast)) → ∀ (H : Heap) (locs : List Loc), zM g B A s [wMod g md MNow p1 (MSav - 1) MRef MThen MLev MFst MWay MMost MHash] H locs → ∀ ls : Array Slot, lv_has ls 2 [(1, .int (nI j51)), (0, .ref (md 0))] → W p l e R s m args below meth c H locs 0 0 Q (F0 m 51 ls []) := by
            intro n51
            induction n51 with
            | zero =>
              intro j51 p1 hin51 hR51 H locs Z ls hl
              have e_p1 : (zl_X9_saves_51_2 MNow MSav 318 0 (zl_X9_saves_10 954 0 MPast)) = p1 := hR51.symm
              subst e_p1
              refine lv_iload_n hx hb dX9_saves_51 rfl (lv_at hl 0 rfl) ?_
              refine lv_sipush (v := (318 : Int32)) hx hb dX9_saves_52 (by decide) ?_
              refine z_icmp_ge (a := j51) (b := 318) (tgt := 85) X rfl rfl (by omega) (by omega) dX9_saves_55 (by decide) (fun c_5 => ?_) (fun c_5 => ?_)
              · refine lv_aload_n hx hb dX9_saves_85 rfl (lv_at hl 1 rfl) ?_
                refine lv_dup hx hb dX9_saves_86 rfl ?_
                refine z_get X Z 0 rfl (rfl : zCl[7]? = some (RX9, TX9, 10)) zU_X9 2 (by decide) wF_X9_52 rfl rfl dX9_saves_87 ?_
                refine lv_iconst (v := (1 : Int32)) hx hb dX9_saves_90 (by decide) ?_
                refine z_iadd (a := (MSav - 1)) (b := 1) X rfl rfl dX9_saves_91 ?_
                refine z_put (cs2 := [wMod g md MNow (zl_X9_saves_51_2 MNow MSav 318 0 (zl_X9_saves_10 954 0 MPast)) ((MSav - 1) + 1) MRef MThen MLev MFst MWay MMost MHash]) (v := .int (nI ((MSav - 1) + 1))) X Z 0 rfl (rfl : zCl[7]? = some (RX9, TX9, 10)) zU_X9 tyX9 tyX9_ok nmX9 2 (by decide) wF_X9_52 rfl rfl rfl rfl (Nat.le_of_ble_eq_true rfl) rfl dX9_saves_92 (fun H locs Z => ?_)
                exact z_rv E Z (by rw [zf_X9_saves_e, if_pos c_1]; dsimp only; exact ⟨rfl, rfl⟩) dX9_saves_95 (Nat.zero_le _) (Nat.zero_le _)
              · (exfalso; omega)
            | succ n51 ih51 =>
              intro j51 p1 hin51 hR51 H locs Z ls hl
              refine lv_iload_n hx hb dX9_saves_51 rfl (lv_at hl 0 rfl) ?_
              refine lv_sipush (v := (318 : Int32)) hx hb dX9_saves_52 (by decide) ?_
              refine z_icmp_ge (a := j51) (b := 318) (tgt := 85) X rfl rfl (by omega) (by omega) dX9_saves_55 (by decide) (fun c_6 => ?_) (fun c_6 => ?_)
              · (exfalso; omega)
              · refine lv_aload_n hx hb dX9_saves_58 rfl (lv_at hl 1 rfl) ?_
                refine z_get X Z 0 rfl (rfl : zCl[7]? = some (RX9, TX9, 10)) zU_X9 1 (by decide) wF_X9_13 rfl rfl dX9_saves_59 ?_
                refine lv_sipush (v := (318 : Int32)) hx hb dX9_saves_62 (by decide) ?_
                refine lv_aload_n hx hb dX9_saves_65 rfl (lv_at hl 1 rfl) ?_
                refine z_get X Z 0 rfl (rfl : zCl[7]? = some (RX9, TX9, 10)) zU_X9 2 (by decide) wF_X9_52 rfl rfl dX9_saves_66 ?_
                refine z_imul (a := 318) (b := (MSav - 1)) X rfl rfl dX9_saves_69 ?_
                refine lv_iload_n hx hb dX9_saves_70 rfl (lv_at hl 0 rfl) ?_
                refine z_iadd (a := (318 * (MSav - 1))) (b := j51) X rfl rfl dX9_saves_71 ?_
                refine lv_aload_n hx hb dX9_saves_72 rfl (lv_at hl 1 rfl) ?_
                refine z_get X Z 0 rfl (rfl : zCl[7]? = some (RX9, TX9, 10)) zU_X9 0 (by decide) wF_X9_7 rfl rfl dX9_saves_73 ?_
                refine lv_iload_n hx hb dX9_saves_76 rfl (lv_at hl 0 rfl) ?_
                refine z_lald (j := j51) X Z 1 rfl rfl (by omega) (by decide) dX9_saves_77 ?_
                refine z_last (cs2 := [wMod g md MNow (vp_updL p1 ((318 * (MSav - 1)) + j51) (MNow j51)) (MSav - 1) MRef MThen MLev MFst MWay MMost MHash]) (j := ((318 * (MSav - 1)) + j51)) (x := (MNow j51)) X Z 2 rfl rfl (by omega) (by decide) rfl dX9_saves_78 (fun H locs Z => ?_)
                refine z_iinc (b := (j51 + 1)) (st := 1) (lv' := [(1, .int (nI (j51 + 1))), (0, .ref (md 0))]) X dX9_saves_79 hl (k := 0) rfl rfl (by decide) (by omega) (by decide) rfl (fun ls hl => ?_)
                refine lv_goto (tgt := 51) hx hb dX9_saves_82 (by decide) ?_
                exact ih51 (j51 + 1) (vp_updL p1 ((318 * (MSav - 1)) + j51) (MNow j51)) (by omega) (by have h9 := hR51; rw [zl_X9_saves_51_2_s] at h9; exact h9) _ _ Z ls (lv_sub hl [0, 1] rfl)
          exact loop_51 318 0 (zl_X9_saves_10 954 0 MPast) (by omega) rfl _ _ Z ls (lv_sub hl [0, 1] rfl)
        · (exfalso; omega)
      | succ n10 ih10 =>
        intro j10 p1 hin10 hR10 H locs Z ls hl
        refine lv_iload_n hx hb dX9_saves_10 rfl (lv_at hl 0 rfl) ?_
        refine lv_sipush (v := (954 : Int32)) hx hb dX9_saves_11 (by decide) ?_
        refine z_icmp_ge (a := j10) (b := 954) (tgt := 39) X rfl rfl (by omega) (by omega) dX9_saves_14 (by decide) (fun c_7 => ?_) (fun c_7 => ?_)
        · (exfalso; omega)
        · refine lv_aload_n hx hb dX9_saves_17 rfl (lv_at hl 1 rfl) ?_
          refine z_get X Z 0 rfl (rfl : zCl[7]? = some (RX9, TX9, 10)) zU_X9 1 (by decide) wF_X9_13 rfl rfl dX9_saves_18 ?_
          refine lv_iload_n hx hb dX9_saves_21 rfl (lv_at hl 0 rfl) ?_
          refine lv_aload_n hx hb dX9_saves_22 rfl (lv_at hl 1 rfl) ?_
          refine z_get X Z 0 rfl (rfl : zCl[7]? = some (RX9, TX9, 10)) zU_X9 1 (by decide) wF_X9_13 rfl rfl dX9_saves_23 ?_
          refine lv_iload_n hx hb dX9_saves_26 rfl (lv_at hl 0 rfl) ?_
          refine lv_sipush (v := (318 : Int32)) hx hb dX9_saves_27 (by decide) ?_
          refine z_iadd (a := j10) (b := 318) X rfl rfl dX9_saves_30 ?_
          refine z_lald (j := (j10 + 318)) X Z 2 rfl rfl (by omega) (by decide) dX9_saves_31 ?_
          refine z_last (cs2 := [wMod g md MNow (vp_updL p1 j10 (p1 (j10 + 318))) MSav MRef MThen MLev MFst MWay MMost MHash]) (j := j10) (x := (p1 (j10 + 318))) X Z 2 rfl rfl (by omega) (by decide) rfl dX9_saves_32 (fun H locs Z => ?_)
          refine z_iinc (b := (j10 + 1)) (st := 1) (lv' := [(1, .int (nI (j10 + 1))), (0, .ref (md 0))]) X dX9_saves_33 hl (k := 0) rfl rfl (by decide) (by omega) (by decide) rfl (fun ls hl => ?_)
          refine lv_goto (tgt := 10) hx hb dX9_saves_36 (by decide) ?_
          exact ih10 (j10 + 1) (vp_updL p1 j10 (p1 (j10 + 318))) (by omega) (by have h9 := hR10; rw [zl_X9_saves_10_s] at h9; exact h9) _ _ Z ls (lv_sub hl [0, 1] rfl)
    exact loop_10 954 0 MPast (by omega) rfl _ _ Z ls (lv_sub hl [0, 1] rfl)
def zl_X9_undo_33 (MPast : Nat → Int64) (MSav : Nat) : Nat → Nat → (Nat → Int64) → (Nat → Int64)
  | 0, _, v1 => v1
  | n33 + 1, j33, v1 => zl_X9_undo_33 MPast MSav n33 (j33 + 1) (vp_updL v1 j33 (MPast ((318 * (MSav - 1)) + j33)))
theorem zl_X9_undo_33_s (MPast : Nat → Int64) (MSav : Nat) (n33 : Nat) (j33 : Nat) (v1 : Nat → Int64) : zl_X9_undo_33 MPast MSav (n33 + 1) j33 v1 = zl_X9_undo_33 MPast MSav n33 (j33 + 1) (vp_updL v1 j33 (MPast ((318 * (MSav - 1)) + j33))) := rfl
def zf_X9_undo (MNow : Nat → Int64) (MPast : Nat → Int64) (MSav : Nat) : Nat × Int32 × Nat × (Nat → Int64) := (if MSav = 0 then (0, (zf_X9_refused_1), MSav, MNow) else ((MSav - 1), (zf_X9_refused_0), (MSav - 1), (zl_X9_undo_33 MPast MSav 318 0 MNow)))
theorem zf_X9_undo_e (MNow : Nat → Int64) (MPast : Nat → Int64) (MSav : Nat) : zf_X9_undo MNow MPast MSav = (if MSav = 0 then (0, (zf_X9_refused_1), MSav, MNow) else ((MSav - 1), (zf_X9_refused_0), (MSav - 1), (zl_X9_undo_33 MPast MSav 318 0 MNow))) := rfl
set_option maxHeartbeats 4000000 in
set_option maxRecDepth 100000 in
theorem zc_X9_undo (l : Launch) (g : zG) (B : Nat) (md : Nat → Nat) (MNow : Nat → Int64) (MPast : Nat → Int64) (MSav : Nat) (MRef : Int32) (MThen : Nat → Int64) (MLev : Nat → Int64) (MFst : Int32) (MWay : Nat → Int64) (MMost : Nat → Int32) (MHash : Int64) (hs : MSav ≤ 4) : zMet l g B yX9_undo cX9_undo 2 (some .int) 2 60 0 0 [.ref (md 0)] [wMod g md MNow MPast MSav MRef MThen MLev MFst MWay MMost MHash] (zDet (some (.int (nI ((zf_X9_undo MNow MPast MSav).1)))) [wMod g md ((zf_X9_undo MNow MPast MSav).2.2.2) MPast ((zf_X9_undo MNow MPast MSav).2.2.1) ((zf_X9_undo MNow MPast MSav).2.1) MThen MLev MFst MWay MMost MHash]) := by
  refine z_in (plainFor_of_name (by decide)) (Nat.le_of_ble_eq_true rfl) (fun p e R s m args below meth c A Q hRf hRl hRc hRs X Z hnm E ls hl => ?_)
  have hx := X.1
  have hb := X.2.1
  have hown := X.2.2.2.1
  have hts := X.2.2.2.2.1
  have hl : lv_has ls 2 [(0, .ref (md 0))] := hl
  refine lv_aload_n hx hb dX9_undo_0 rfl (lv_at hl 0 rfl) ?_
  refine lv_aload_n hx hb dX9_undo_1 rfl (lv_at hl 0 rfl) ?_
  refine z_get X Z 0 rfl (rfl : zCl[7]? = some (RX9, TX9, 10)) zU_X9 2 (by decide) wF_X9_52 rfl rfl dX9_undo_2 ?_
  refine z_ifneN (a := MSav) (tgt := 12) X rfl (by omega) dX9_undo_5 (by decide) (fun c_1 => ?_) (fun c_1 => ?_)
  · refine lv_iconst (v := (0 : Int32)) hx hb dX9_undo_12 (by decide) ?_
    refine z_callV (mc := 0) (ms := 0) (As := [.int (0 : Int32)]) (rest := []) (st2 := [.int (0 : Int32)]) (cs2 := [wMod g md MNow MPast MSav (zf_X9_refused_0) MThen MLev MFst MWay MMost MHash]) X Z [0] [] [0] 0 7 (zc_X9_refused_0 l g B md MNow MPast MSav MRef MThen MLev MFst MWay MMost MHash) wM_X9_55 wS_X9_refused wV_X9_refused wK_X9_refused wZ_X9 1 1 1 rfl (by decide +kernel) rfl (by decide) rfl rfl rfl (by decide) rfl rfl (rfl : zCl[7]? = some (RX9, TX9, 10)) hl.1 rfl rfl (by rw [hRf, hRl]; exact ⟨Nat.le_of_ble_eq_true rfl, Nat.le_of_ble_eq_true rfl⟩) (Nat.le_of_ble_eq_true rfl) ⟨Nat.zero_le _, Nat.zero_le _⟩ dX9_undo_13 (fun H locs Z => ?_)
    refine lv_if_eq (tgt := 21) hx hb dX9_undo_16 (by decide) (fun c_2 => ?_) (fun c_2 => ?_)
    · refine lv_aload_n hx hb dX9_undo_21 rfl (lv_at hl 0 rfl) ?_
      refine lv_dup hx hb dX9_undo_22 rfl ?_
      refine z_get X Z 0 rfl (rfl : zCl[7]? = some (RX9, TX9, 10)) zU_X9 2 (by decide) wF_X9_52 rfl rfl dX9_undo_23 ?_
      refine lv_iconst (v := (1 : Int32)) hx hb dX9_undo_26 (by decide) ?_
      refine z_isub (a := MSav) (b := 1) X rfl rfl (by omega) dX9_undo_27 ?_
      refine z_put (cs2 := [wMod g md MNow MPast (MSav - 1) (zf_X9_refused_0) MThen MLev MFst MWay MMost MHash]) (v := .int (nI (MSav - 1))) X Z 0 rfl (rfl : zCl[7]? = some (RX9, TX9, 10)) zU_X9 tyX9 tyX9_ok nmX9 2 (by decide) wF_X9_52 rfl rfl rfl rfl (Nat.le_of_ble_eq_true rfl) rfl dX9_undo_28 (fun H locs Z => ?_)
      refine lv_iconst (v := (0 : Int32)) hx hb dX9_undo_31 (by decide) ?_
      refine lv_istore_n (lv' := [(1, .int (0 : Int32)), (0, .ref (md 0))]) hx hb dX9_undo_32 rfl hl (by decide) rfl (fun ls hl => ?_)
      have loop_33 : ∀ (n33 j33 : Nat) (v1 : Nat → Int64), j33 + n33 = 318 → zl_X9_undo_33 MPast MSav n33 j33 v1 = (zl_X9_undo_33 MPast MSav 318 0 MNow) → ∀ (H : Heap) (locs : List Loc), zM g B A s [wMod g md v1 MPast (MSav - 1) (zf_X9_refused_0) MThen MLev MFst MWay MMost MHash] H locs → ∀ ls : Array Slot, lv_has ls 2 [(1, .int (nI j33)), (0, .ref (md 0))] → W p l e R s m args below meth c H locs 0 0 Q (F0 m 33 ls []) := by
        intro n33
        induction n33 with
        | zero =>
          intro j33 v1 hin33 hR33 H locs Z ls hl
          have e_v1 : (zl_X9_undo_33 MPast MSav 318 0 MNow) = v1 := hR33.symm
          subst e_v1
          refine lv_iload_n hx hb dX9_undo_33 rfl (lv_at hl 0 rfl) ?_
          refine lv_sipush (v := (318 : Int32)) hx hb dX9_undo_34 (by decide) ?_
          refine z_icmp_ge (a := j33) (b := 318) (tgt := 67) X rfl rfl (by omega) (by omega) dX9_undo_37 (by decide) (fun c_3 => ?_) (fun c_3 => ?_)
          · refine lv_aload_n hx hb dX9_undo_67 rfl (lv_at hl 1 rfl) ?_
            refine z_get X Z 0 rfl (rfl : zCl[7]? = some (RX9, TX9, 10)) zU_X9 2 (by decide) wF_X9_52 rfl rfl dX9_undo_68 ?_
            exact z_ri (v := nI (MSav - 1)) E Z rfl (by rw [zf_X9_undo_e, if_neg c_1]; dsimp only; exact ⟨rfl, rfl⟩) dX9_undo_71 (Nat.zero_le _) (Nat.zero_le _)
          · (exfalso; omega)
        | succ n33 ih33 =>
          intro j33 v1 hin33 hR33 H locs Z ls hl
          refine lv_iload_n hx hb dX9_undo_33 rfl (lv_at hl 0 rfl) ?_
          refine lv_sipush (v := (318 : Int32)) hx hb dX9_undo_34 (by decide) ?_
          refine z_icmp_ge (a := j33) (b := 318) (tgt := 67) X rfl rfl (by omega) (by omega) dX9_undo_37 (by decide) (fun c_4 => ?_) (fun c_4 => ?_)
          · (exfalso; omega)
          · refine lv_aload_n hx hb dX9_undo_40 rfl (lv_at hl 1 rfl) ?_
            refine z_get X Z 0 rfl (rfl : zCl[7]? = some (RX9, TX9, 10)) zU_X9 0 (by decide) wF_X9_7 rfl rfl dX9_undo_41 ?_
            refine lv_iload_n hx hb dX9_undo_44 rfl (lv_at hl 0 rfl) ?_
            refine lv_aload_n hx hb dX9_undo_45 rfl (lv_at hl 1 rfl) ?_
            refine z_get X Z 0 rfl (rfl : zCl[7]? = some (RX9, TX9, 10)) zU_X9 1 (by decide) wF_X9_13 rfl rfl dX9_undo_46 ?_
            refine lv_sipush (v := (318 : Int32)) hx hb dX9_undo_49 (by decide) ?_
            refine lv_aload_n hx hb dX9_undo_52 rfl (lv_at hl 1 rfl) ?_
            refine z_get X Z 0 rfl (rfl : zCl[7]? = some (RX9, TX9, 10)) zU_X9 2 (by decide) wF_X9_52 rfl rfl dX9_undo_53 ?_
            refine z_imul (a := 318) (b := (MSav - 1)) X rfl rfl dX9_undo_56 ?_
            refine lv_iload_n hx hb dX9_undo_57 rfl (lv_at hl 0 rfl) ?_
            refine z_iadd (a := (318 * (MSav - 1))) (b := j33) X rfl rfl dX9_undo_58 ?_
            refine z_lald (j := ((318 * (MSav - 1)) + j33)) X Z 2 rfl rfl (by omega) (by decide) dX9_undo_59 ?_
            refine z_last (cs2 := [wMod g md (vp_updL v1 j33 (MPast ((318 * (MSav - 1)) + j33))) MPast (MSav - 1) (zf_X9_refused_0) MThen MLev MFst MWay MMost MHash]) (j := j33) (x := (MPast ((318 * (MSav - 1)) + j33))) X Z 1 rfl rfl (by omega) (by decide) rfl dX9_undo_60 (fun H locs Z => ?_)
            refine z_iinc (b := (j33 + 1)) (st := 1) (lv' := [(1, .int (nI (j33 + 1))), (0, .ref (md 0))]) X dX9_undo_61 hl (k := 0) rfl rfl (by decide) (by omega) (by decide) rfl (fun ls hl => ?_)
            refine lv_goto (tgt := 33) hx hb dX9_undo_64 (by decide) ?_
            exact ih33 (j33 + 1) (vp_updL v1 j33 (MPast ((318 * (MSav - 1)) + j33))) (by omega) (by have h9 := hR33; rw [zl_X9_undo_33_s] at h9; exact h9) _ _ Z ls (lv_sub hl [0, 1] rfl)
      exact loop_33 318 0 MNow (by omega) rfl _ _ Z ls (lv_sub hl [0, 1] rfl)
    · (exact absurd c_2 (by decide))
  · refine lv_iconst (v := (1 : Int32)) hx hb dX9_undo_8 (by decide) ?_
    refine lv_goto (tgt := 13) hx hb dX9_undo_9 (by decide) ?_
    refine z_callV (mc := 0) (ms := 0) (As := [.int (1 : Int32)]) (rest := []) (st2 := [.int (1 : Int32)]) (cs2 := [wMod g md MNow MPast MSav (zf_X9_refused_1) MThen MLev MFst MWay MMost MHash]) X Z [0] [] [0] 0 7 (zc_X9_refused_1 l g B md MNow MPast MSav MRef MThen MLev MFst MWay MMost MHash) wM_X9_55 wS_X9_refused wV_X9_refused wK_X9_refused wZ_X9 1 1 1 rfl (by decide +kernel) rfl (by decide) rfl rfl rfl (by decide) rfl rfl (rfl : zCl[7]? = some (RX9, TX9, 10)) hl.1 rfl rfl (by rw [hRf, hRl]; exact ⟨Nat.le_of_ble_eq_true rfl, Nat.le_of_ble_eq_true rfl⟩) (Nat.le_of_ble_eq_true rfl) ⟨Nat.zero_le _, Nat.zero_le _⟩ dX9_undo_13 (fun H locs Z => ?_)
    refine lv_if_eq (tgt := 21) hx hb dX9_undo_16 (by decide) (fun c_5 => ?_) (fun c_5 => ?_)
    · (exact absurd c_5 (by decide))
    · refine lv_iconst (v := (0 : Int32)) hx hb dX9_undo_19 (by decide) ?_
      exact z_ri (v := nI 0) E Z rfl (by rw [zf_X9_undo_e, if_pos c_1]; dsimp only; exact ⟨rfl, rfl⟩) dX9_undo_20 (Nat.zero_le _) (Nat.zero_le _)
def zf_X9_cellX (MNow : Nat → Int64) (k : Nat) : Int64 := (MNow (0 + (3 * (k % 3))))
theorem zf_X9_cellX_e (MNow : Nat → Int64) (k : Nat) : zf_X9_cellX MNow k = (MNow (0 + (3 * (k % 3)))) := rfl
set_option maxHeartbeats 4000000 in
set_option maxRecDepth 100000 in
theorem zc_X9_cellX (l : Launch) (g : zG) (B : Nat) (md : Nat → Nat) (MNow : Nat → Int64) (MPast : Nat → Int64) (MSav : Nat) (MRef : Int32) (MThen : Nat → Int64) (MLev : Nat → Int64) (MFst : Int32) (MWay : Nat → Int64) (MMost : Nat → Int32) (MHash : Int64) (k : Nat) (hk : k ≤ 5) : zMet l g B yX9_cellX cX9_cellX 2 (some .long) 1 20 0 0 [.ref (md 0), .int (nI k)] [wMod g md MNow MPast MSav MRef MThen MLev MFst MWay MMost MHash] (zDet (some (.long (zf_X9_cellX MNow k))) [wMod g md MNow MPast MSav MRef MThen MLev MFst MWay MMost MHash]) := by
  refine z_in (plainFor_of_name (by decide)) (Nat.le_of_ble_eq_true rfl) (fun p e R s m args below meth c A Q hRf hRl hRc hRs X Z hnm E ls hl => ?_)
  have hx := X.1
  have hb := X.2.1
  have hown := X.2.2.2.1
  have hts := X.2.2.2.2.1
  have hl : lv_has ls 2 [(0, .ref (md 0)), (1, .int (nI k))] := hl
  refine lv_aload_n hx hb dX9_cellX_0 rfl (lv_at hl 0 rfl) ?_
  refine z_get X Z 0 rfl (rfl : zCl[7]? = some (RX9, TX9, 10)) zU_X9 0 (by decide) wF_X9_7 rfl rfl dX9_cellX_1 ?_
  refine lv_iconst (v := (0 : Int32)) hx hb dX9_cellX_4 (by decide) ?_
  refine lv_iconst (v := (3 : Int32)) hx hb dX9_cellX_5 (by decide) ?_
  refine lv_iload_n hx hb dX9_cellX_6 rfl (lv_at hl 1 rfl) ?_
  refine lv_iconst (v := (3 : Int32)) hx hb dX9_cellX_7 (by decide) ?_
  refine z_irem (a := k) (b := 3) X rfl rfl (by omega) (by omega) (by omega) dX9_cellX_8 ?_
  refine z_imul (a := 3) (b := (k % 3)) X rfl rfl dX9_cellX_9 ?_
  refine z_iadd (a := 0) (b := (3 * (k % 3))) X rfl rfl dX9_cellX_10 ?_
  refine z_lald (j := (0 + (3 * (k % 3)))) X Z 1 rfl rfl (by omega) (by decide) dX9_cellX_11 ?_
  exact z_rl (v := (MNow (0 + (3 * (k % 3))))) E Z (by rw [zf_X9_cellX_e]; exact ⟨rfl, rfl⟩) dX9_cellX_12 (Nat.zero_le _) (Nat.zero_le _)
def zf_X9_cellY (MNow : Nat → Int64) (k : Nat) : Int64 := (MNow ((0 + (3 * (k % 3))) + 1))
theorem zf_X9_cellY_e (MNow : Nat → Int64) (k : Nat) : zf_X9_cellY MNow k = (MNow ((0 + (3 * (k % 3))) + 1)) := rfl
set_option maxHeartbeats 4000000 in
set_option maxRecDepth 100000 in
theorem zc_X9_cellY (l : Launch) (g : zG) (B : Nat) (md : Nat → Nat) (MNow : Nat → Int64) (MPast : Nat → Int64) (MSav : Nat) (MRef : Int32) (MThen : Nat → Int64) (MLev : Nat → Int64) (MFst : Int32) (MWay : Nat → Int64) (MMost : Nat → Int32) (MHash : Int64) (k : Nat) (hk : k ≤ 5) : zMet l g B yX9_cellY cX9_cellY 2 (some .long) 1 20 0 0 [.ref (md 0), .int (nI k)] [wMod g md MNow MPast MSav MRef MThen MLev MFst MWay MMost MHash] (zDet (some (.long (zf_X9_cellY MNow k))) [wMod g md MNow MPast MSav MRef MThen MLev MFst MWay MMost MHash]) := by
  refine z_in (plainFor_of_name (by decide)) (Nat.le_of_ble_eq_true rfl) (fun p e R s m args below meth c A Q hRf hRl hRc hRs X Z hnm E ls hl => ?_)
  have hx := X.1
  have hb := X.2.1
  have hown := X.2.2.2.1
  have hts := X.2.2.2.2.1
  have hl : lv_has ls 2 [(0, .ref (md 0)), (1, .int (nI k))] := hl
  refine lv_aload_n hx hb dX9_cellY_0 rfl (lv_at hl 0 rfl) ?_
  refine z_get X Z 0 rfl (rfl : zCl[7]? = some (RX9, TX9, 10)) zU_X9 0 (by decide) wF_X9_7 rfl rfl dX9_cellY_1 ?_
  refine lv_iconst (v := (0 : Int32)) hx hb dX9_cellY_4 (by decide) ?_
  refine lv_iconst (v := (3 : Int32)) hx hb dX9_cellY_5 (by decide) ?_
  refine lv_iload_n hx hb dX9_cellY_6 rfl (lv_at hl 1 rfl) ?_
  refine lv_iconst (v := (3 : Int32)) hx hb dX9_cellY_7 (by decide) ?_
  refine z_irem (a := k) (b := 3) X rfl rfl (by omega) (by omega) (by omega) dX9_cellY_8 ?_
  refine z_imul (a := 3) (b := (k % 3)) X rfl rfl dX9_cellY_9 ?_
  refine z_iadd (a := 0) (b := (3 * (k % 3))) X rfl rfl dX9_cellY_10 ?_
  refine lv_iconst (v := (1 : Int32)) hx hb dX9_cellY_11 (by decide) ?_
  refine z_iadd (a := (0 + (3 * (k % 3)))) (b := 1) X rfl rfl dX9_cellY_12 ?_
  refine z_lald (j := ((0 + (3 * (k % 3))) + 1)) X Z 1 rfl rfl (by omega) (by decide) dX9_cellY_13 ?_
  exact z_rl (v := (MNow ((0 + (3 * (k % 3))) + 1))) E Z (by rw [zf_X9_cellY_e]; exact ⟨rfl, rfl⟩) dX9_cellY_14 (Nat.zero_le _) (Nat.zero_le _)
def zf_X9_area (MNow : Nat → Int64) : Int64 := ((((zf_X9_cellX MNow 1) - (zf_X9_cellX MNow 0)) * ((zf_X9_cellY MNow 2) - (zf_X9_cellY MNow 0))) - (((zf_X9_cellX MNow 2) - (zf_X9_cellX MNow 0)) * ((zf_X9_cellY MNow 1) - (zf_X9_cellY MNow 0))))
theorem zf_X9_area_e (MNow : Nat → Int64) : zf_X9_area MNow = ((((zf_X9_cellX MNow 1) - (zf_X9_cellX MNow 0)) * ((zf_X9_cellY MNow 2) - (zf_X9_cellY MNow 0))) - (((zf_X9_cellX MNow 2) - (zf_X9_cellX MNow 0)) * ((zf_X9_cellY MNow 1) - (zf_X9_cellY MNow 0)))) := rfl
set_option maxHeartbeats 4000000 in
set_option maxRecDepth 100000 in
theorem zc_X9_area (l : Launch) (g : zG) (B : Nat) (md : Nat → Nat) (MNow : Nat → Int64) (MPast : Nat → Int64) (MSav : Nat) (MRef : Int32) (MThen : Nat → Int64) (MLev : Nat → Int64) (MFst : Int32) (MWay : Nat → Int64) (MMost : Nat → Int32) (MHash : Int64) : zMet l g B yX9_area cX9_area 1 (some .long) 2 60 0 0 [.ref (md 0)] [wMod g md MNow MPast MSav MRef MThen MLev MFst MWay MMost MHash] (zDet (some (.long (zf_X9_area MNow))) [wMod g md MNow MPast MSav MRef MThen MLev MFst MWay MMost MHash]) := by
  refine z_in (plainFor_of_name (by decide)) (Nat.le_of_ble_eq_true rfl) (fun p e R s m args below meth c A Q hRf hRl hRc hRs X Z hnm E ls hl => ?_)
  have hx := X.1
  have hb := X.2.1
  have hown := X.2.2.2.1
  have hts := X.2.2.2.2.1
  have hl : lv_has ls 1 [(0, .ref (md 0))] := hl
  refine lv_aload_n hx hb dX9_area_0 rfl (lv_at hl 0 rfl) ?_
  refine lv_iconst (v := (1 : Int32)) hx hb dX9_area_1 (by decide) ?_
  refine z_callV (mc := 0) (ms := 0) (As := [.int (1 : Int32)]) (rest := []) (st2 := [.long (zf_X9_cellX MNow 1)]) (cs2 := [wMod g md MNow MPast MSav MRef MThen MLev MFst MWay MMost MHash]) X Z [0] [] [0] 0 7 (zc_X9_cellX l g B md MNow MPast MSav MRef MThen MLev MFst MWay MMost MHash 1 (by first | assumption | omega | decide)) wM_X9_59 wS_X9_cellX wV_X9_cellX wK_X9_cellX wZ_X9 1 1 1 rfl (by decide +kernel) rfl (by decide) rfl rfl rfl (by decide) rfl rfl (rfl : zCl[7]? = some (RX9, TX9, 10)) hl.1 rfl rfl (by rw [hRf, hRl]; exact ⟨Nat.le_of_ble_eq_true rfl, Nat.le_of_ble_eq_true rfl⟩) (Nat.le_of_ble_eq_true rfl) ⟨Nat.zero_le _, Nat.zero_le _⟩ dX9_area_2 (fun H locs Z => ?_)
  refine lv_aload_n hx hb dX9_area_5 rfl (lv_at hl 0 rfl) ?_
  refine lv_iconst (v := (0 : Int32)) hx hb dX9_area_6 (by decide) ?_
  refine z_callV (mc := 0) (ms := 0) (As := [.int (0 : Int32)]) (rest := [.long (zf_X9_cellX MNow 1)]) (st2 := [.long (zf_X9_cellX MNow 0), .long (zf_X9_cellX MNow 1)]) (cs2 := [wMod g md MNow MPast MSav MRef MThen MLev MFst MWay MMost MHash]) X Z [0] [] [0] 0 7 (zc_X9_cellX l g B md MNow MPast MSav MRef MThen MLev MFst MWay MMost MHash 0 (by first | assumption | omega | decide)) wM_X9_59 wS_X9_cellX wV_X9_cellX wK_X9_cellX wZ_X9 1 1 1 rfl (by decide +kernel) rfl (by decide) rfl rfl rfl (by decide) rfl rfl (rfl : zCl[7]? = some (RX9, TX9, 10)) hl.1 rfl rfl (by rw [hRf, hRl]; exact ⟨Nat.le_of_ble_eq_true rfl, Nat.le_of_ble_eq_true rfl⟩) (Nat.le_of_ble_eq_true rfl) ⟨Nat.zero_le _, Nat.zero_le _⟩ dX9_area_7 (fun H locs Z => ?_)
  refine lv_lsub hx hb dX9_area_10 ?_
  refine lv_aload_n hx hb dX9_area_11 rfl (lv_at hl 0 rfl) ?_
  refine lv_iconst (v := (2 : Int32)) hx hb dX9_area_12 (by decide) ?_
  refine z_callV (mc := 0) (ms := 0) (As := [.int (2 : Int32)]) (rest := [.long ((zf_X9_cellX MNow 1) - (zf_X9_cellX MNow 0))]) (st2 := [.long (zf_X9_cellY MNow 2), .long ((zf_X9_cellX MNow 1) - (zf_X9_cellX MNow 0))]) (cs2 := [wMod g md MNow MPast MSav MRef MThen MLev MFst MWay MMost MHash]) X Z [0] [] [0] 0 7 (zc_X9_cellY l g B md MNow MPast MSav MRef MThen MLev MFst MWay MMost MHash 2 (by first | assumption | omega | decide)) wM_X9_63 wS_X9_cellY wV_X9_cellY wK_X9_cellY wZ_X9 1 1 1 rfl (by decide +kernel) rfl (by decide) rfl rfl rfl (by decide) rfl rfl (rfl : zCl[7]? = some (RX9, TX9, 10)) hl.1 rfl rfl (by rw [hRf, hRl]; exact ⟨Nat.le_of_ble_eq_true rfl, Nat.le_of_ble_eq_true rfl⟩) (Nat.le_of_ble_eq_true rfl) ⟨Nat.zero_le _, Nat.zero_le _⟩ dX9_area_13 (fun H locs Z => ?_)
  refine lv_aload_n hx hb dX9_area_16 rfl (lv_at hl 0 rfl) ?_
  refine lv_iconst (v := (0 : Int32)) hx hb dX9_area_17 (by decide) ?_
  refine z_callV (mc := 0) (ms := 0) (As := [.int (0 : Int32)]) (rest := [.long (zf_X9_cellY MNow 2), .long ((zf_X9_cellX MNow 1) - (zf_X9_cellX MNow 0))]) (st2 := [.long (zf_X9_cellY MNow 0), .long (zf_X9_cellY MNow 2), .long ((zf_X9_cellX MNow 1) - (zf_X9_cellX MNow 0))]) (cs2 := [wMod g md MNow MPast MSav MRef MThen MLev MFst MWay MMost MHash]) X Z [0] [] [0] 0 7 (zc_X9_cellY l g B md MNow MPast MSav MRef MThen MLev MFst MWay MMost MHash 0 (by first | assumption | omega | decide)) wM_X9_63 wS_X9_cellY wV_X9_cellY wK_X9_cellY wZ_X9 1 1 1 rfl (by decide +kernel) rfl (by decide) rfl rfl rfl (by decide) rfl rfl (rfl : zCl[7]? = some (RX9, TX9, 10)) hl.1 rfl rfl (by rw [hRf, hRl]; exact ⟨Nat.le_of_ble_eq_true rfl, Nat.le_of_ble_eq_true rfl⟩) (Nat.le_of_ble_eq_true rfl) ⟨Nat.zero_le _, Nat.zero_le _⟩ dX9_area_18 (fun H locs Z => ?_)
  refine lv_lsub hx hb dX9_area_21 ?_
  refine lv_lmul hx hb dX9_area_22 ?_
  refine lv_aload_n hx hb dX9_area_23 rfl (lv_at hl 0 rfl) ?_
  refine lv_iconst (v := (2 : Int32)) hx hb dX9_area_24 (by decide) ?_
  refine z_callV (mc := 0) (ms := 0) (As := [.int (2 : Int32)]) (rest := [.long (((zf_X9_cellX MNow 1) - (zf_X9_cellX MNow 0)) * ((zf_X9_cellY MNow 2) - (zf_X9_cellY MNow 0)))]) (st2 := [.long (zf_X9_cellX MNow 2), .long (((zf_X9_cellX MNow 1) - (zf_X9_cellX MNow 0)) * ((zf_X9_cellY MNow 2) - (zf_X9_cellY MNow 0)))]) (cs2 := [wMod g md MNow MPast MSav MRef MThen MLev MFst MWay MMost MHash]) X Z [0] [] [0] 0 7 (zc_X9_cellX l g B md MNow MPast MSav MRef MThen MLev MFst MWay MMost MHash 2 (by first | assumption | omega | decide)) wM_X9_59 wS_X9_cellX wV_X9_cellX wK_X9_cellX wZ_X9 1 1 1 rfl (by decide +kernel) rfl (by decide) rfl rfl rfl (by decide) rfl rfl (rfl : zCl[7]? = some (RX9, TX9, 10)) hl.1 rfl rfl (by rw [hRf, hRl]; exact ⟨Nat.le_of_ble_eq_true rfl, Nat.le_of_ble_eq_true rfl⟩) (Nat.le_of_ble_eq_true rfl) ⟨Nat.zero_le _, Nat.zero_le _⟩ dX9_area_25 (fun H locs Z => ?_)
  refine lv_aload_n hx hb dX9_area_28 rfl (lv_at hl 0 rfl) ?_
  refine lv_iconst (v := (0 : Int32)) hx hb dX9_area_29 (by decide) ?_
  refine z_callV (mc := 0) (ms := 0) (As := [.int (0 : Int32)]) (rest := [.long (zf_X9_cellX MNow 2), .long (((zf_X9_cellX MNow 1) - (zf_X9_cellX MNow 0)) * ((zf_X9_cellY MNow 2) - (zf_X9_cellY MNow 0)))]) (st2 := [.long (zf_X9_cellX MNow 0), .long (zf_X9_cellX MNow 2), .long (((zf_X9_cellX MNow 1) - (zf_X9_cellX MNow 0)) * ((zf_X9_cellY MNow 2) - (zf_X9_cellY MNow 0)))]) (cs2 := [wMod g md MNow MPast MSav MRef MThen MLev MFst MWay MMost MHash]) X Z [0] [] [0] 0 7 (zc_X9_cellX l g B md MNow MPast MSav MRef MThen MLev MFst MWay MMost MHash 0 (by first | assumption | omega | decide)) wM_X9_59 wS_X9_cellX wV_X9_cellX wK_X9_cellX wZ_X9 1 1 1 rfl (by decide +kernel) rfl (by decide) rfl rfl rfl (by decide) rfl rfl (rfl : zCl[7]? = some (RX9, TX9, 10)) hl.1 rfl rfl (by rw [hRf, hRl]; exact ⟨Nat.le_of_ble_eq_true rfl, Nat.le_of_ble_eq_true rfl⟩) (Nat.le_of_ble_eq_true rfl) ⟨Nat.zero_le _, Nat.zero_le _⟩ dX9_area_30 (fun H locs Z => ?_)
  refine lv_lsub hx hb dX9_area_33 ?_
  refine lv_aload_n hx hb dX9_area_34 rfl (lv_at hl 0 rfl) ?_
  refine lv_iconst (v := (1 : Int32)) hx hb dX9_area_35 (by decide) ?_
  refine z_callV (mc := 0) (ms := 0) (As := [.int (1 : Int32)]) (rest := [.long ((zf_X9_cellX MNow 2) - (zf_X9_cellX MNow 0)), .long (((zf_X9_cellX MNow 1) - (zf_X9_cellX MNow 0)) * ((zf_X9_cellY MNow 2) - (zf_X9_cellY MNow 0)))]) (st2 := [.long (zf_X9_cellY MNow 1), .long ((zf_X9_cellX MNow 2) - (zf_X9_cellX MNow 0)), .long (((zf_X9_cellX MNow 1) - (zf_X9_cellX MNow 0)) * ((zf_X9_cellY MNow 2) - (zf_X9_cellY MNow 0)))]) (cs2 := [wMod g md MNow MPast MSav MRef MThen MLev MFst MWay MMost MHash]) X Z [0] [] [0] 0 7 (zc_X9_cellY l g B md MNow MPast MSav MRef MThen MLev MFst MWay MMost MHash 1 (by first | assumption | omega | decide)) wM_X9_63 wS_X9_cellY wV_X9_cellY wK_X9_cellY wZ_X9 1 1 1 rfl (by decide +kernel) rfl (by decide) rfl rfl rfl (by decide) rfl rfl (rfl : zCl[7]? = some (RX9, TX9, 10)) hl.1 rfl rfl (by rw [hRf, hRl]; exact ⟨Nat.le_of_ble_eq_true rfl, Nat.le_of_ble_eq_true rfl⟩) (Nat.le_of_ble_eq_true rfl) ⟨Nat.zero_le _, Nat.zero_le _⟩ dX9_area_36 (fun H locs Z => ?_)
  refine lv_aload_n hx hb dX9_area_39 rfl (lv_at hl 0 rfl) ?_
  refine lv_iconst (v := (0 : Int32)) hx hb dX9_area_40 (by decide) ?_
  refine z_callV (mc := 0) (ms := 0) (As := [.int (0 : Int32)]) (rest := [.long (zf_X9_cellY MNow 1), .long ((zf_X9_cellX MNow 2) - (zf_X9_cellX MNow 0)), .long (((zf_X9_cellX MNow 1) - (zf_X9_cellX MNow 0)) * ((zf_X9_cellY MNow 2) - (zf_X9_cellY MNow 0)))]) (st2 := [.long (zf_X9_cellY MNow 0), .long (zf_X9_cellY MNow 1), .long ((zf_X9_cellX MNow 2) - (zf_X9_cellX MNow 0)), .long (((zf_X9_cellX MNow 1) - (zf_X9_cellX MNow 0)) * ((zf_X9_cellY MNow 2) - (zf_X9_cellY MNow 0)))]) (cs2 := [wMod g md MNow MPast MSav MRef MThen MLev MFst MWay MMost MHash]) X Z [0] [] [0] 0 7 (zc_X9_cellY l g B md MNow MPast MSav MRef MThen MLev MFst MWay MMost MHash 0 (by first | assumption | omega | decide)) wM_X9_63 wS_X9_cellY wV_X9_cellY wK_X9_cellY wZ_X9 1 1 1 rfl (by decide +kernel) rfl (by decide) rfl rfl rfl (by decide) rfl rfl (rfl : zCl[7]? = some (RX9, TX9, 10)) hl.1 rfl rfl (by rw [hRf, hRl]; exact ⟨Nat.le_of_ble_eq_true rfl, Nat.le_of_ble_eq_true rfl⟩) (Nat.le_of_ble_eq_true rfl) ⟨Nat.zero_le _, Nat.zero_le _⟩ dX9_area_41 (fun H locs Z => ?_)
  refine lv_lsub hx hb dX9_area_44 ?_
  refine lv_lmul hx hb dX9_area_45 ?_
  refine lv_lsub hx hb dX9_area_46 ?_
  exact z_rl (v := ((((zf_X9_cellX MNow 1) - (zf_X9_cellX MNow 0)) * ((zf_X9_cellY MNow 2) - (zf_X9_cellY MNow 0))) - (((zf_X9_cellX MNow 2) - (zf_X9_cellX MNow 0)) * ((zf_X9_cellY MNow 1) - (zf_X9_cellY MNow 0))))) E Z (by rw [zf_X9_area_e]; exact ⟨rfl, rfl⟩) dX9_area_47 (Nat.zero_le _) (Nat.zero_le _)
def zf_X9_share (MNow : Nat → Int64) (k : Nat) (w : Int64) (x : Int64) (y : Int64) : Int64 := ((((((zf_X9_cellX MNow (k + 1)) * (zf_X9_cellY MNow (k + 2))) - ((zf_X9_cellX MNow (k + 2)) * (zf_X9_cellY MNow (k + 1)))) * w) + (((zf_X9_cellY MNow (k + 1)) - (zf_X9_cellY MNow (k + 2))) * x)) + (((zf_X9_cellX MNow (k + 2)) - (zf_X9_cellX MNow (k + 1))) * y))
theorem zf_X9_share_e (MNow : Nat → Int64) (k : Nat) (w : Int64) (x : Int64) (y : Int64) : zf_X9_share MNow k w x y = ((((((zf_X9_cellX MNow (k + 1)) * (zf_X9_cellY MNow (k + 2))) - ((zf_X9_cellX MNow (k + 2)) * (zf_X9_cellY MNow (k + 1)))) * w) + (((zf_X9_cellY MNow (k + 1)) - (zf_X9_cellY MNow (k + 2))) * x)) + (((zf_X9_cellX MNow (k + 2)) - (zf_X9_cellX MNow (k + 1))) * y)) := rfl
set_option maxHeartbeats 4000000 in
set_option maxRecDepth 100000 in
theorem zc_X9_share (l : Launch) (g : zG) (B : Nat) (md : Nat → Nat) (MNow : Nat → Int64) (MPast : Nat → Int64) (MSav : Nat) (MRef : Int32) (MThen : Nat → Int64) (MLev : Nat → Int64) (MFst : Int32) (MWay : Nat → Int64) (MMost : Nat → Int32) (MHash : Int64) (k : Nat) (w : Int64) (x : Int64) (y : Int64) (hk : k < 3) : zMet l g B yX9_share cX9_share 16 (some .long) 2 60 0 0 [.ref (md 0), .int (nI k), .long w, .long x, .long y] [wMod g md MNow MPast MSav MRef MThen MLev MFst MWay MMost MHash] (zDet (some (.long (zf_X9_share MNow k w x y))) [wMod g md MNow MPast MSav MRef MThen MLev MFst MWay MMost MHash]) := by
  refine z_in (plainFor_of_name (by decide)) (Nat.le_of_ble_eq_true rfl) (fun p e R s m args below meth c A Q hRf hRl hRc hRs X Z hnm E ls hl => ?_)
  have hx := X.1
  have hb := X.2.1
  have hown := X.2.2.2.1
  have hts := X.2.2.2.2.1
  have hl : lv_has ls 16 [(0, .ref (md 0)), (1, .int (nI k)), (2, .long w), (4, .long x), (6, .long y)] := hl
  refine lv_aload_n hx hb dX9_share_0 rfl (lv_at hl 0 rfl) ?_
  refine lv_iload_n hx hb dX9_share_1 rfl (lv_at hl 1 rfl) ?_
  refine lv_iconst (v := (1 : Int32)) hx hb dX9_share_2 (by decide) ?_
  refine z_iadd (a := k) (b := 1) X rfl rfl dX9_share_3 ?_
  refine z_callV (mc := 0) (ms := 0) (As := [.int (nI (k + 1))]) (rest := []) (st2 := [.long (zf_X9_cellX MNow (k + 1))]) (cs2 := [wMod g md MNow MPast MSav MRef MThen MLev MFst MWay MMost MHash]) X Z [0] [] [0] 0 7 (zc_X9_cellX l g B md MNow MPast MSav MRef MThen MLev MFst MWay MMost MHash (k + 1) (by first | assumption | omega | decide)) wM_X9_59 wS_X9_cellX wV_X9_cellX wK_X9_cellX wZ_X9 1 1 1 rfl (by decide +kernel) rfl (by decide) rfl rfl rfl (by decide) rfl rfl (rfl : zCl[7]? = some (RX9, TX9, 10)) hl.1 rfl rfl (by rw [hRf, hRl]; exact ⟨Nat.le_of_ble_eq_true rfl, Nat.le_of_ble_eq_true rfl⟩) (Nat.le_of_ble_eq_true rfl) ⟨Nat.zero_le _, Nat.zero_le _⟩ dX9_share_4 (fun H locs Z => ?_)
  refine lv_lstore (lv' := [(8, .long (zf_X9_cellX MNow (k + 1))), (0, .ref (md 0)), (1, .int (nI k)), (2, .long w), (4, .long x), (6, .long y)]) hx hb dX9_share_7 hl (by decide) rfl (fun ls hl => ?_)
  refine lv_aload_n hx hb dX9_share_9 rfl (lv_at hl 1 rfl) ?_
  refine lv_iload_n hx hb dX9_share_10 rfl (lv_at hl 2 rfl) ?_
  refine lv_iconst (v := (1 : Int32)) hx hb dX9_share_11 (by decide) ?_
  refine z_iadd (a := k) (b := 1) X rfl rfl dX9_share_12 ?_
  refine z_callV (mc := 0) (ms := 0) (As := [.int (nI (k + 1))]) (rest := []) (st2 := [.long (zf_X9_cellY MNow (k + 1))]) (cs2 := [wMod g md MNow MPast MSav MRef MThen MLev MFst MWay MMost MHash]) X Z [0] [] [0] 0 7 (zc_X9_cellY l g B md MNow MPast MSav MRef MThen MLev MFst MWay MMost MHash (k + 1) (by first | assumption | omega | decide)) wM_X9_63 wS_X9_cellY wV_X9_cellY wK_X9_cellY wZ_X9 1 1 1 rfl (by decide +kernel) rfl (by decide) rfl rfl rfl (by decide) rfl rfl (rfl : zCl[7]? = some (RX9, TX9, 10)) hl.1 rfl rfl (by rw [hRf, hRl]; exact ⟨Nat.le_of_ble_eq_true rfl, Nat.le_of_ble_eq_true rfl⟩) (Nat.le_of_ble_eq_true rfl) ⟨Nat.zero_le _, Nat.zero_le _⟩ dX9_share_13 (fun H locs Z => ?_)
  refine lv_lstore (lv' := [(10, .long (zf_X9_cellY MNow (k + 1))), (8, .long (zf_X9_cellX MNow (k + 1))), (0, .ref (md 0)), (1, .int (nI k)), (2, .long w), (4, .long x), (6, .long y)]) hx hb dX9_share_16 hl (by decide) rfl (fun ls hl => ?_)
  refine lv_aload_n hx hb dX9_share_18 rfl (lv_at hl 2 rfl) ?_
  refine lv_iload_n hx hb dX9_share_19 rfl (lv_at hl 3 rfl) ?_
  refine lv_iconst (v := (2 : Int32)) hx hb dX9_share_20 (by decide) ?_
  refine z_iadd (a := k) (b := 2) X rfl rfl dX9_share_21 ?_
  refine z_callV (mc := 0) (ms := 0) (As := [.int (nI (k + 2))]) (rest := []) (st2 := [.long (zf_X9_cellX MNow (k + 2))]) (cs2 := [wMod g md MNow MPast MSav MRef MThen MLev MFst MWay MMost MHash]) X Z [0] [] [0] 0 7 (zc_X9_cellX l g B md MNow MPast MSav MRef MThen MLev MFst MWay MMost MHash (k + 2) (by first | assumption | omega | decide)) wM_X9_59 wS_X9_cellX wV_X9_cellX wK_X9_cellX wZ_X9 1 1 1 rfl (by decide +kernel) rfl (by decide) rfl rfl rfl (by decide) rfl rfl (rfl : zCl[7]? = some (RX9, TX9, 10)) hl.1 rfl rfl (by rw [hRf, hRl]; exact ⟨Nat.le_of_ble_eq_true rfl, Nat.le_of_ble_eq_true rfl⟩) (Nat.le_of_ble_eq_true rfl) ⟨Nat.zero_le _, Nat.zero_le _⟩ dX9_share_22 (fun H locs Z => ?_)
  refine lv_lstore (lv' := [(12, .long (zf_X9_cellX MNow (k + 2))), (10, .long (zf_X9_cellY MNow (k + 1))), (8, .long (zf_X9_cellX MNow (k + 1))), (0, .ref (md 0)), (1, .int (nI k)), (2, .long w), (4, .long x), (6, .long y)]) hx hb dX9_share_25 hl (by decide) rfl (fun ls hl => ?_)
  refine lv_aload_n hx hb dX9_share_27 rfl (lv_at hl 3 rfl) ?_
  refine lv_iload_n hx hb dX9_share_28 rfl (lv_at hl 4 rfl) ?_
  refine lv_iconst (v := (2 : Int32)) hx hb dX9_share_29 (by decide) ?_
  refine z_iadd (a := k) (b := 2) X rfl rfl dX9_share_30 ?_
  refine z_callV (mc := 0) (ms := 0) (As := [.int (nI (k + 2))]) (rest := []) (st2 := [.long (zf_X9_cellY MNow (k + 2))]) (cs2 := [wMod g md MNow MPast MSav MRef MThen MLev MFst MWay MMost MHash]) X Z [0] [] [0] 0 7 (zc_X9_cellY l g B md MNow MPast MSav MRef MThen MLev MFst MWay MMost MHash (k + 2) (by first | assumption | omega | decide)) wM_X9_63 wS_X9_cellY wV_X9_cellY wK_X9_cellY wZ_X9 1 1 1 rfl (by decide +kernel) rfl (by decide) rfl rfl rfl (by decide) rfl rfl (rfl : zCl[7]? = some (RX9, TX9, 10)) hl.1 rfl rfl (by rw [hRf, hRl]; exact ⟨Nat.le_of_ble_eq_true rfl, Nat.le_of_ble_eq_true rfl⟩) (Nat.le_of_ble_eq_true rfl) ⟨Nat.zero_le _, Nat.zero_le _⟩ dX9_share_31 (fun H locs Z => ?_)
  refine lv_lstore (lv' := [(14, .long (zf_X9_cellY MNow (k + 2))), (12, .long (zf_X9_cellX MNow (k + 2))), (10, .long (zf_X9_cellY MNow (k + 1))), (8, .long (zf_X9_cellX MNow (k + 1))), (0, .ref (md 0)), (1, .int (nI k)), (2, .long w), (4, .long x), (6, .long y)]) hx hb dX9_share_34 hl (by decide) rfl (fun ls hl => ?_)
  refine lv_lload hx hb dX9_share_36 (lv_at hl 3 rfl) ?_
  refine lv_lload hx hb dX9_share_38 (lv_at hl 0 rfl) ?_
  refine lv_lmul hx hb dX9_share_40 ?_
  refine lv_lload hx hb dX9_share_41 (lv_at hl 1 rfl) ?_
  refine lv_lload hx hb dX9_share_43 (lv_at hl 2 rfl) ?_
  refine lv_lmul hx hb dX9_share_45 ?_
  refine lv_lsub hx hb dX9_share_46 ?_
  refine lv_lload_n hx hb dX9_share_47 rfl (lv_at hl 6 rfl) ?_
  refine lv_lmul hx hb dX9_share_48 ?_
  refine lv_lload hx hb dX9_share_49 (lv_at hl 2 rfl) ?_
  refine lv_lload hx hb dX9_share_51 (lv_at hl 0 rfl) ?_
  refine lv_lsub hx hb dX9_share_53 ?_
  refine lv_lload hx hb dX9_share_54 (lv_at hl 7 rfl) ?_
  refine lv_lmul hx hb dX9_share_56 ?_
  refine lv_ladd hx hb dX9_share_57 ?_
  refine lv_lload hx hb dX9_share_58 (lv_at hl 1 rfl) ?_
  refine lv_lload hx hb dX9_share_60 (lv_at hl 3 rfl) ?_
  refine lv_lsub hx hb dX9_share_62 ?_
  refine lv_lload hx hb dX9_share_63 (lv_at hl 8 rfl) ?_
  refine lv_lmul hx hb dX9_share_65 ?_
  refine lv_ladd hx hb dX9_share_66 ?_
  exact z_rl (v := ((((((zf_X9_cellX MNow (k + 1)) * (zf_X9_cellY MNow (k + 2))) - ((zf_X9_cellX MNow (k + 2)) * (zf_X9_cellY MNow (k + 1)))) * w) + (((zf_X9_cellY MNow (k + 1)) - (zf_X9_cellY MNow (k + 2))) * x)) + (((zf_X9_cellX MNow (k + 2)) - (zf_X9_cellX MNow (k + 1))) * y))) E Z (by rw [zf_X9_share_e]; exact ⟨rfl, rfl⟩) dX9_share_67 (Nat.zero_le _) (Nat.zero_le _)
def zl_X9_loadOf_12 (MNow : Nat → Int64) : Nat → Nat → Int64 → Int64 → Int64 → Int64 × Int64 × Int64
  | 0, _, x2, x4, x6 => (x2, x4, x6)
  | n12 + 1, j12, x2, x4, x6 => zl_X9_loadOf_12 MNow n12 (j12 + 1) (x2 + (MNow ((10 + 3 * j12) + 2))) (x4 + ((MNow ((10 + 3 * j12) + 2)) * (MNow (10 + 3 * j12)))) (x6 + ((MNow ((10 + 3 * j12) + 2)) * (MNow ((10 + 3 * j12) + 1))))
theorem zl_X9_loadOf_12_s (MNow : Nat → Int64) (n12 : Nat) (j12 : Nat) (x2 : Int64) (x4 : Int64) (x6 : Int64) : zl_X9_loadOf_12 MNow (n12 + 1) j12 x2 x4 x6 = zl_X9_loadOf_12 MNow n12 (j12 + 1) (x2 + (MNow ((10 + 3 * j12) + 2))) (x4 + ((MNow ((10 + 3 * j12) + 2)) * (MNow (10 + 3 * j12)))) (x6 + ((MNow ((10 + 3 * j12) + 2)) * (MNow ((10 + 3 * j12) + 1)))) := rfl
def zf_X9_loadOf (MNow : Nat → Int64) (k : Nat) : Int64 := (if (0 : Int64) ≤ (zf_X9_area MNow) then (zf_X9_share MNow k ((zl_X9_loadOf_12 MNow (zc (MNow 9)) 0 (0 : Int64) (0 : Int64) (0 : Int64)).1) ((zl_X9_loadOf_12 MNow (zc (MNow 9)) 0 (0 : Int64) (0 : Int64) (0 : Int64)).2.1) ((zl_X9_loadOf_12 MNow (zc (MNow 9)) 0 (0 : Int64) (0 : Int64) (0 : Int64)).2.2)) else (-(zf_X9_share MNow k ((zl_X9_loadOf_12 MNow (zc (MNow 9)) 0 (0 : Int64) (0 : Int64) (0 : Int64)).1) ((zl_X9_loadOf_12 MNow (zc (MNow 9)) 0 (0 : Int64) (0 : Int64) (0 : Int64)).2.1) ((zl_X9_loadOf_12 MNow (zc (MNow 9)) 0 (0 : Int64) (0 : Int64) (0 : Int64)).2.2))))
theorem zf_X9_loadOf_e (MNow : Nat → Int64) (k : Nat) : zf_X9_loadOf MNow k = (if (0 : Int64) ≤ (zf_X9_area MNow) then (zf_X9_share MNow k ((zl_X9_loadOf_12 MNow (zc (MNow 9)) 0 (0 : Int64) (0 : Int64) (0 : Int64)).1) ((zl_X9_loadOf_12 MNow (zc (MNow 9)) 0 (0 : Int64) (0 : Int64) (0 : Int64)).2.1) ((zl_X9_loadOf_12 MNow (zc (MNow 9)) 0 (0 : Int64) (0 : Int64) (0 : Int64)).2.2)) else (-(zf_X9_share MNow k ((zl_X9_loadOf_12 MNow (zc (MNow 9)) 0 (0 : Int64) (0 : Int64) (0 : Int64)).1) ((zl_X9_loadOf_12 MNow (zc (MNow 9)) 0 (0 : Int64) (0 : Int64) (0 : Int64)).2.1) ((zl_X9_loadOf_12 MNow (zc (MNow 9)) 0 (0 : Int64) (0 : Int64) (0 : Int64)).2.2)))) := rfl
set_option maxHeartbeats 4000000 in
set_option maxRecDepth 100000 in
theorem zc_X9_loadOf (l : Launch) (g : zG) (B : Nat) (md : Nat → Nat) (MNow : Nat → Int64) (MPast : Nat → Int64) (MSav : Nat) (MRef : Int32) (MThen : Nat → Int64) (MLev : Nat → Int64) (MFst : Int32) (MWay : Nat → Int64) (MMost : Nat → Int32) (MHash : Int64) (k : Nat) (hN : zNow MNow) (hk : k < 3) : zMet l g B yX9_loadOf cX9_loadOf 10 (some .long) 3 120 0 0 [.ref (md 0), .int (nI k)] [wMod g md MNow MPast MSav MRef MThen MLev MFst MWay MMost MHash] (zDet (some (.long (zf_X9_loadOf MNow k))) [wMod g md MNow MPast MSav MRef MThen MLev MFst MWay MMost MHash]) := by
  refine z_in (plainFor_of_name (by decide)) (Nat.le_of_ble_eq_true rfl) (fun p e R s m args below meth c A Q hRf hRl hRc hRs X Z hnm E ls hl => ?_)
  have hx := X.1
  have hb := X.2.1
  have hown := X.2.2.2.1
  have hts := X.2.2.2.2.1
  have hl : lv_has ls 10 [(0, .ref (md 0)), (1, .int (nI k))] := hl
  have hN2 := hN; obtain ⟨he9, hb9, he34, hb34, he43, hb43, he284, hb284, he301, hb301⟩ := hN2
  refine lv_lconst (v := (0 : Int64)) hx hb dX9_loadOf_0 (by decide) ?_
  refine lv_lstore_n (lv' := [(2, .long (0 : Int64)), (0, .ref (md 0)), (1, .int (nI k))]) hx hb dX9_loadOf_1 rfl hl (by decide) rfl (fun ls hl => ?_)
  refine lv_lconst (v := (0 : Int64)) hx hb dX9_loadOf_2 (by decide) ?_
  refine lv_lstore (lv' := [(4, .long (0 : Int64)), (2, .long (0 : Int64)), (0, .ref (md 0)), (1, .int (nI k))]) hx hb dX9_loadOf_3 hl (by decide) rfl (fun ls hl => ?_)
  refine lv_lconst (v := (0 : Int64)) hx hb dX9_loadOf_5 (by decide) ?_
  refine lv_lstore (lv' := [(6, .long (0 : Int64)), (4, .long (0 : Int64)), (2, .long (0 : Int64)), (0, .ref (md 0)), (1, .int (nI k))]) hx hb dX9_loadOf_6 hl (by decide) rfl (fun ls hl => ?_)
  refine lv_bipush (v := (10 : Int32)) hx hb dX9_loadOf_8 (by decide) ?_
  refine lv_istore (lv' := [(8, .int (10 : Int32)), (6, .long (0 : Int64)), (4, .long (0 : Int64)), (2, .long (0 : Int64)), (0, .ref (md 0)), (1, .int (nI k))]) hx hb dX9_loadOf_10 hl (by decide) rfl (fun ls hl => ?_)
  have loop_12 : ∀ (n12 j12 : Nat) (x2 : Int64) (x4 : Int64) (x6 : Int64), j12 + n12 = (zc (MNow 9)) → zl_X9_loadOf_12 MNow n12 j12 x2 x4 x6 = (zl_X9_loadOf_12 MNow (zc (MNow 9)) 0 (0 : Int64) (0 : Int64) (0 : Int64)) → ∀ (H : Heap) (locs : List Loc), zM g B A s [wMod g md MNow MPast MSav MRef MThen MLev MFst MWay MMost MHash] H locs → ∀ ls : Array Slot, lv_has ls 10 [(8, .int (nI (10 + 3 * j12))), (6, .long x6), (4, .long x4), (2, .long x2), (0, .ref (md 0)), (1, .int (nI k))] → W p l e R s m args below meth c H locs 0 0 Q (F0 m 12 ls []) := by
    intro n12
    induction n12 with
    | zero =>
      intro j12 x2 x4 x6 hin12 hR12 H locs Z ls hl
      have e_x2 : (zl_X9_loadOf_12 MNow (zc (MNow 9)) 0 (0 : Int64) (0 : Int64) (0 : Int64)).1 = x2 := (by rw [← hR12]; rfl)
      have e_x4 : (zl_X9_loadOf_12 MNow (zc (MNow 9)) 0 (0 : Int64) (0 : Int64) (0 : Int64)).2.1 = x4 := (by rw [← hR12]; rfl)
      have e_x6 : (zl_X9_loadOf_12 MNow (zc (MNow 9)) 0 (0 : Int64) (0 : Int64) (0 : Int64)).2.2 = x6 := (by rw [← hR12]; rfl)
      subst e_x2
      subst e_x4
      subst e_x6
      refine lv_iload hx hb dX9_loadOf_12 (lv_at hl 0 rfl) ?_
      refine lv_bipush (v := (10 : Int32)) hx hb dX9_loadOf_14 (by decide) ?_
      refine lv_iconst (v := (3 : Int32)) hx hb dX9_loadOf_16 (by decide) ?_
      refine lv_aload_n hx hb dX9_loadOf_17 rfl (lv_at hl 4 rfl) ?_
      refine lv_bipush (v := (9 : Int32)) hx hb dX9_loadOf_18 (by decide) ?_
      refine z_callV (mc := 0) (ms := 0) (As := [.int (9 : Int32)]) (rest := [.int (3 : Int32), .int (10 : Int32), .int (nI (10 + 3 * j12))]) (st2 := [.int (nI (zc (MNow 9))), .int (3 : Int32), .int (10 : Int32), .int (nI (10 + 3 * j12))]) (cs2 := [wMod g md MNow MPast MSav MRef MThen MLev MFst MWay MMost MHash]) X Z [0] [] [0] 0 7 (zc_X9_many l g B md MNow MPast MSav MRef MThen MLev MFst MWay MMost MHash 9 (zc (MNow 9)) (by first | assumption | omega | decide) (by first | assumption | omega | decide)) wM_X9_66 wS_X9_many wV_X9_many wK_X9_many wZ_X9 1 1 1 rfl (by decide +kernel) rfl (by decide) rfl rfl rfl (by decide) rfl rfl (rfl : zCl[7]? = some (RX9, TX9, 10)) hl.1 rfl rfl (by rw [hRf, hRl]; exact ⟨Nat.le_of_ble_eq_true rfl, Nat.le_of_ble_eq_true rfl⟩) (Nat.le_of_ble_eq_true rfl) ⟨Nat.zero_le _, Nat.zero_le _⟩ dX9_loadOf_20 (fun H locs Z => ?_)
      refine z_imul (a := 3) (b := (zc (MNow 9))) X rfl rfl dX9_loadOf_23 ?_
      refine z_iadd (a := 10) (b := (3 * (zc (MNow 9)))) X rfl rfl dX9_loadOf_24 ?_
      refine z_icmp_ge (a := (10 + 3 * j12)) (b := (10 + (3 * (zc (MNow 9))))) (tgt := 92) X rfl rfl (by omega) (by omega) dX9_loadOf_25 (by decide) (fun c_1 => ?_) (fun c_1 => ?_)
      · refine lv_aload_n hx hb dX9_loadOf_92 rfl (lv_at hl 4 rfl) ?_
        refine lv_iload_n hx hb dX9_loadOf_93 rfl (lv_at hl 5 rfl) ?_
        refine lv_lload_n hx hb dX9_loadOf_94 rfl (lv_at hl 3 rfl) ?_
        refine lv_lload hx hb dX9_loadOf_95 (lv_at hl 2 rfl) ?_
        refine lv_lload hx hb dX9_loadOf_97 (lv_at hl 1 rfl) ?_
        refine z_callV (mc := 0) (ms := 0) (As := [.int (nI k), .long ((zl_X9_loadOf_12 MNow (zc (MNow 9)) 0 (0 : Int64) (0 : Int64) (0 : Int64)).1), .long ((zl_X9_loadOf_12 MNow (zc (MNow 9)) 0 (0 : Int64) (0 : Int64) (0 : Int64)).2.1), .long ((zl_X9_loadOf_12 MNow (zc (MNow 9)) 0 (0 : Int64) (0 : Int64) (0 : Int64)).2.2)]) (rest := []) (st2 := [.long (zf_X9_share MNow k ((zl_X9_loadOf_12 MNow (zc (MNow 9)) 0 (0 : Int64) (0 : Int64) (0 : Int64)).1) ((zl_X9_loadOf_12 MNow (zc (MNow 9)) 0 (0 : Int64) (0 : Int64) (0 : Int64)).2.1) ((zl_X9_loadOf_12 MNow (zc (MNow 9)) 0 (0 : Int64) (0 : Int64) (0 : Int64)).2.2))]) (cs2 := [wMod g md MNow MPast MSav MRef MThen MLev MFst MWay MMost MHash]) X Z [0] [] [0] 0 7 (zc_X9_share l g B md MNow MPast MSav MRef MThen MLev MFst MWay MMost MHash k ((zl_X9_loadOf_12 MNow (zc (MNow 9)) 0 (0 : Int64) (0 : Int64) (0 : Int64)).1) ((zl_X9_loadOf_12 MNow (zc (MNow 9)) 0 (0 : Int64) (0 : Int64) (0 : Int64)).2.1) ((zl_X9_loadOf_12 MNow (zc (MNow 9)) 0 (0 : Int64) (0 : Int64) (0 : Int64)).2.2) (by first | assumption | omega | decide)) wM_X9_70 wS_X9_share wV_X9_share wK_X9_share wZ_X9 4 1 1 rfl (by decide +kernel) rfl (by decide) rfl rfl rfl (by decide) rfl rfl (rfl : zCl[7]? = some (RX9, TX9, 10)) hl.1 rfl rfl (by rw [hRf, hRl]; exact ⟨Nat.le_of_ble_eq_true rfl, Nat.le_of_ble_eq_true rfl⟩) (Nat.le_of_ble_eq_true rfl) ⟨Nat.zero_le _, Nat.zero_le _⟩ dX9_loadOf_99 (fun H locs Z => ?_)
        refine lv_lstore (lv' := [(8, .long (zf_X9_share MNow k ((zl_X9_loadOf_12 MNow (zc (MNow 9)) 0 (0 : Int64) (0 : Int64) (0 : Int64)).1) ((zl_X9_loadOf_12 MNow (zc (MNow 9)) 0 (0 : Int64) (0 : Int64) (0 : Int64)).2.1) ((zl_X9_loadOf_12 MNow (zc (MNow 9)) 0 (0 : Int64) (0 : Int64) (0 : Int64)).2.2))), (6, .long ((zl_X9_loadOf_12 MNow (zc (MNow 9)) 0 (0 : Int64) (0 : Int64) (0 : Int64)).2.2)), (4, .long ((zl_X9_loadOf_12 MNow (zc (MNow 9)) 0 (0 : Int64) (0 : Int64) (0 : Int64)).2.1)), (2, .long ((zl_X9_loadOf_12 MNow (zc (MNow 9)) 0 (0 : Int64) (0 : Int64) (0 : Int64)).1)), (0, .ref (md 0)), (1, .int (nI k))]) hx hb dX9_loadOf_102 hl (by decide) rfl (fun ls hl => ?_)
        refine lv_aload_n hx hb dX9_loadOf_104 rfl (lv_at hl 4 rfl) ?_
        refine z_callV (mc := 0) (ms := 0) (As := []) (rest := []) (st2 := [.long (zf_X9_area MNow)]) (cs2 := [wMod g md MNow MPast MSav MRef MThen MLev MFst MWay MMost MHash]) X Z [0] [] [0] 0 7 (zc_X9_area l g B md MNow MPast MSav MRef MThen MLev MFst MWay MMost MHash) wM_X9_74 wS_X9_area wV_X9_area wK_X9_area wZ_X9 0 1 1 rfl (by decide +kernel) rfl (by decide) rfl rfl rfl (by decide) rfl rfl (rfl : zCl[7]? = some (RX9, TX9, 10)) hl.1 rfl rfl (by rw [hRf, hRl]; exact ⟨Nat.le_of_ble_eq_true rfl, Nat.le_of_ble_eq_true rfl⟩) (Nat.le_of_ble_eq_true rfl) ⟨Nat.zero_le _, Nat.zero_le _⟩ dX9_loadOf_105 (fun H locs Z => ?_)
        refine lv_lconst (v := (0 : Int64)) hx hb dX9_loadOf_108 (by decide) ?_
        refine z_lc_ge (tgt := 119) X dX9_loadOf_109 dX9_loadOf_110 (by decide) (fun c_2 => ?_) (fun c_2 => ?_)
        · refine lv_lload hx hb dX9_loadOf_119 (lv_at hl 0 rfl) ?_
          exact z_rl (v := (zf_X9_share MNow k ((zl_X9_loadOf_12 MNow (zc (MNow 9)) 0 (0 : Int64) (0 : Int64) (0 : Int64)).1) ((zl_X9_loadOf_12 MNow (zc (MNow 9)) 0 (0 : Int64) (0 : Int64) (0 : Int64)).2.1) ((zl_X9_loadOf_12 MNow (zc (MNow 9)) 0 (0 : Int64) (0 : Int64) (0 : Int64)).2.2))) E Z (by rw [zf_X9_loadOf_e, if_pos c_2]; exact ⟨rfl, rfl⟩) dX9_loadOf_121 (Nat.zero_le _) (Nat.zero_le _)
        · refine lv_lload hx hb dX9_loadOf_113 (lv_at hl 0 rfl) ?_
          refine lv_lneg hx hb dX9_loadOf_115 ?_
          refine lv_goto (tgt := 121) hx hb dX9_loadOf_116 (by decide) ?_
          exact z_rl (v := (-(zf_X9_share MNow k ((zl_X9_loadOf_12 MNow (zc (MNow 9)) 0 (0 : Int64) (0 : Int64) (0 : Int64)).1) ((zl_X9_loadOf_12 MNow (zc (MNow 9)) 0 (0 : Int64) (0 : Int64) (0 : Int64)).2.1) ((zl_X9_loadOf_12 MNow (zc (MNow 9)) 0 (0 : Int64) (0 : Int64) (0 : Int64)).2.2)))) E Z (by rw [zf_X9_loadOf_e, if_neg c_2]; exact ⟨rfl, rfl⟩) dX9_loadOf_121 (Nat.zero_le _) (Nat.zero_le _)
      · (exfalso; omega)
    | succ n12 ih12 =>
      intro j12 x2 x4 x6 hin12 hR12 H locs Z ls hl
      refine lv_iload hx hb dX9_loadOf_12 (lv_at hl 0 rfl) ?_
      refine lv_bipush (v := (10 : Int32)) hx hb dX9_loadOf_14 (by decide) ?_
      refine lv_iconst (v := (3 : Int32)) hx hb dX9_loadOf_16 (by decide) ?_
      refine lv_aload_n hx hb dX9_loadOf_17 rfl (lv_at hl 4 rfl) ?_
      refine lv_bipush (v := (9 : Int32)) hx hb dX9_loadOf_18 (by decide) ?_
      refine z_callV (mc := 0) (ms := 0) (As := [.int (9 : Int32)]) (rest := [.int (3 : Int32), .int (10 : Int32), .int (nI (10 + 3 * j12))]) (st2 := [.int (nI (zc (MNow 9))), .int (3 : Int32), .int (10 : Int32), .int (nI (10 + 3 * j12))]) (cs2 := [wMod g md MNow MPast MSav MRef MThen MLev MFst MWay MMost MHash]) X Z [0] [] [0] 0 7 (zc_X9_many l g B md MNow MPast MSav MRef MThen MLev MFst MWay MMost MHash 9 (zc (MNow 9)) (by first | assumption | omega | decide) (by first | assumption | omega | decide)) wM_X9_66 wS_X9_many wV_X9_many wK_X9_many wZ_X9 1 1 1 rfl (by decide +kernel) rfl (by decide) rfl rfl rfl (by decide) rfl rfl (rfl : zCl[7]? = some (RX9, TX9, 10)) hl.1 rfl rfl (by rw [hRf, hRl]; exact ⟨Nat.le_of_ble_eq_true rfl, Nat.le_of_ble_eq_true rfl⟩) (Nat.le_of_ble_eq_true rfl) ⟨Nat.zero_le _, Nat.zero_le _⟩ dX9_loadOf_20 (fun H locs Z => ?_)
      refine z_imul (a := 3) (b := (zc (MNow 9))) X rfl rfl dX9_loadOf_23 ?_
      refine z_iadd (a := 10) (b := (3 * (zc (MNow 9)))) X rfl rfl dX9_loadOf_24 ?_
      refine z_icmp_ge (a := (10 + 3 * j12)) (b := (10 + (3 * (zc (MNow 9))))) (tgt := 92) X rfl rfl (by omega) (by omega) dX9_loadOf_25 (by decide) (fun c_3 => ?_) (fun c_3 => ?_)
      · (exfalso; omega)
      · refine lv_lload_n hx hb dX9_loadOf_28 rfl (lv_at hl 3 rfl) ?_
        refine lv_aload_n hx hb dX9_loadOf_29 rfl (lv_at hl 4 rfl) ?_
        refine z_get X Z 0 rfl (rfl : zCl[7]? = some (RX9, TX9, 10)) zU_X9 0 (by decide) wF_X9_7 rfl rfl dX9_loadOf_30 ?_
        refine lv_iload hx hb dX9_loadOf_33 (lv_at hl 0 rfl) ?_
        refine lv_iconst (v := (2 : Int32)) hx hb dX9_loadOf_35 (by decide) ?_
        refine z_iadd (a := (10 + 3 * j12)) (b := 2) X rfl rfl dX9_loadOf_36 ?_
        refine z_lald (j := ((10 + 3 * j12) + 2)) X Z 1 rfl rfl (by omega) (by decide) dX9_loadOf_37 ?_
        refine lv_ladd hx hb dX9_loadOf_38 ?_
        refine lv_lstore_n (lv' := [(2, .long (x2 + (MNow ((10 + 3 * j12) + 2)))), (8, .int (nI (10 + 3 * j12))), (6, .long x6), (4, .long x4), (0, .ref (md 0)), (1, .int (nI k))]) hx hb dX9_loadOf_39 rfl hl (by decide) rfl (fun ls hl => ?_)
        refine lv_lload hx hb dX9_loadOf_40 (lv_at hl 3 rfl) ?_
        refine lv_aload_n hx hb dX9_loadOf_42 rfl (lv_at hl 4 rfl) ?_
        refine z_get X Z 0 rfl (rfl : zCl[7]? = some (RX9, TX9, 10)) zU_X9 0 (by decide) wF_X9_7 rfl rfl dX9_loadOf_43 ?_
        refine lv_iload hx hb dX9_loadOf_46 (lv_at hl 1 rfl) ?_
        refine lv_iconst (v := (2 : Int32)) hx hb dX9_loadOf_48 (by decide) ?_
        refine z_iadd (a := (10 + 3 * j12)) (b := 2) X rfl rfl dX9_loadOf_49 ?_
        refine z_lald (j := ((10 + 3 * j12) + 2)) X Z 1 rfl rfl (by omega) (by decide) dX9_loadOf_50 ?_
        refine lv_aload_n hx hb dX9_loadOf_51 rfl (lv_at hl 4 rfl) ?_
        refine z_get X Z 0 rfl (rfl : zCl[7]? = some (RX9, TX9, 10)) zU_X9 0 (by decide) wF_X9_7 rfl rfl dX9_loadOf_52 ?_
        refine lv_iload hx hb dX9_loadOf_55 (lv_at hl 1 rfl) ?_
        refine z_lald (j := (10 + 3 * j12)) X Z 1 rfl rfl (by omega) (by decide) dX9_loadOf_57 ?_
        refine lv_lmul hx hb dX9_loadOf_58 ?_
        refine lv_ladd hx hb dX9_loadOf_59 ?_
        refine lv_lstore (lv' := [(4, .long (x4 + ((MNow ((10 + 3 * j12) + 2)) * (MNow (10 + 3 * j12))))), (2, .long (x2 + (MNow ((10 + 3 * j12) + 2)))), (8, .int (nI (10 + 3 * j12))), (6, .long x6), (0, .ref (md 0)), (1, .int (nI k))]) hx hb dX9_loadOf_60 hl (by decide) rfl (fun ls hl => ?_)
        refine lv_lload hx hb dX9_loadOf_62 (lv_at hl 3 rfl) ?_
        refine lv_aload_n hx hb dX9_loadOf_64 rfl (lv_at hl 4 rfl) ?_
        refine z_get X Z 0 rfl (rfl : zCl[7]? = some (RX9, TX9, 10)) zU_X9 0 (by decide) wF_X9_7 rfl rfl dX9_loadOf_65 ?_
        refine lv_iload hx hb dX9_loadOf_68 (lv_at hl 2 rfl) ?_
        refine lv_iconst (v := (2 : Int32)) hx hb dX9_loadOf_70 (by decide) ?_
        refine z_iadd (a := (10 + 3 * j12)) (b := 2) X rfl rfl dX9_loadOf_71 ?_
        refine z_lald (j := ((10 + 3 * j12) + 2)) X Z 1 rfl rfl (by omega) (by decide) dX9_loadOf_72 ?_
        refine lv_aload_n hx hb dX9_loadOf_73 rfl (lv_at hl 4 rfl) ?_
        refine z_get X Z 0 rfl (rfl : zCl[7]? = some (RX9, TX9, 10)) zU_X9 0 (by decide) wF_X9_7 rfl rfl dX9_loadOf_74 ?_
        refine lv_iload hx hb dX9_loadOf_77 (lv_at hl 2 rfl) ?_
        refine lv_iconst (v := (1 : Int32)) hx hb dX9_loadOf_79 (by decide) ?_
        refine z_iadd (a := (10 + 3 * j12)) (b := 1) X rfl rfl dX9_loadOf_80 ?_
        refine z_lald (j := ((10 + 3 * j12) + 1)) X Z 1 rfl rfl (by omega) (by decide) dX9_loadOf_81 ?_
        refine lv_lmul hx hb dX9_loadOf_82 ?_
        refine lv_ladd hx hb dX9_loadOf_83 ?_
        refine lv_lstore (lv' := [(6, .long (x6 + ((MNow ((10 + 3 * j12) + 2)) * (MNow ((10 + 3 * j12) + 1))))), (4, .long (x4 + ((MNow ((10 + 3 * j12) + 2)) * (MNow (10 + 3 * j12))))), (2, .long (x2 + (MNow ((10 + 3 * j12) + 2)))), (8, .int (nI (10 + 3 * j12))), (0, .ref (md 0)), (1, .int (nI k))]) hx hb dX9_loadOf_84 hl (by decide) rfl (fun ls hl => ?_)
        refine z_iinc (b := (10 + 3 * (j12 + 1))) (st := 3) (lv' := [(8, .int (nI (10 + 3 * (j12 + 1)))), (6, .long (x6 + ((MNow ((10 + 3 * j12) + 2)) * (MNow ((10 + 3 * j12) + 1))))), (4, .long (x4 + ((MNow ((10 + 3 * j12) + 2)) * (MNow (10 + 3 * j12))))), (2, .long (x2 + (MNow ((10 + 3 * j12) + 2)))), (0, .ref (md 0)), (1, .int (nI k))]) X dX9_loadOf_86 hl (k := 3) rfl rfl (by decide) (by omega) (by decide) rfl (fun ls hl => ?_)
        refine lv_goto (tgt := 12) hx hb dX9_loadOf_89 (by decide) ?_
        exact ih12 (j12 + 1) (x2 + (MNow ((10 + 3 * j12) + 2))) (x4 + ((MNow ((10 + 3 * j12) + 2)) * (MNow (10 + 3 * j12)))) (x6 + ((MNow ((10 + 3 * j12) + 2)) * (MNow ((10 + 3 * j12) + 1)))) (by omega) (by have h9 := hR12; rw [zl_X9_loadOf_12_s] at h9; exact h9) _ _ Z ls (lv_sub hl [0, 1, 2, 3, 4, 5] rfl)
  exact loop_12 (zc (MNow 9)) 0 (0 : Int64) (0 : Int64) (0 : Int64) (by omega) rfl _ _ Z ls (lv_sub hl [0, 1, 2, 3, 4, 5] rfl)
def zf_X9_size (MNow : Nat → Int64) : Int64 := (if (0 : Int64) ≤ (zf_X9_area MNow) then (zf_X9_area MNow) else (-(zf_X9_area MNow)))
theorem zf_X9_size_e (MNow : Nat → Int64) : zf_X9_size MNow = (if (0 : Int64) ≤ (zf_X9_area MNow) then (zf_X9_area MNow) else (-(zf_X9_area MNow))) := rfl
set_option maxHeartbeats 4000000 in
set_option maxRecDepth 100000 in
theorem zc_X9_size (l : Launch) (g : zG) (B : Nat) (md : Nat → Nat) (MNow : Nat → Int64) (MPast : Nat → Int64) (MSav : Nat) (MRef : Int32) (MThen : Nat → Int64) (MLev : Nat → Int64) (MFst : Int32) (MWay : Nat → Int64) (MMost : Nat → Int32) (MHash : Int64) : zMet l g B yX9_size cX9_size 1 (some .long) 3 100 0 0 [.ref (md 0)] [wMod g md MNow MPast MSav MRef MThen MLev MFst MWay MMost MHash] (zDet (some (.long (zf_X9_size MNow))) [wMod g md MNow MPast MSav MRef MThen MLev MFst MWay MMost MHash]) := by
  refine z_in (plainFor_of_name (by decide)) (Nat.le_of_ble_eq_true rfl) (fun p e R s m args below meth c A Q hRf hRl hRc hRs X Z hnm E ls hl => ?_)
  have hx := X.1
  have hb := X.2.1
  have hown := X.2.2.2.1
  have hts := X.2.2.2.2.1
  have hl : lv_has ls 1 [(0, .ref (md 0))] := hl
  refine lv_aload_n hx hb dX9_size_0 rfl (lv_at hl 0 rfl) ?_
  refine z_callV (mc := 0) (ms := 0) (As := []) (rest := []) (st2 := [.long (zf_X9_area MNow)]) (cs2 := [wMod g md MNow MPast MSav MRef MThen MLev MFst MWay MMost MHash]) X Z [0] [] [0] 0 7 (zc_X9_area l g B md MNow MPast MSav MRef MThen MLev MFst MWay MMost MHash) wM_X9_74 wS_X9_area wV_X9_area wK_X9_area wZ_X9 0 1 1 rfl (by decide +kernel) rfl (by decide) rfl rfl rfl (by decide) rfl rfl (rfl : zCl[7]? = some (RX9, TX9, 10)) hl.1 rfl rfl (by rw [hRf, hRl]; exact ⟨Nat.le_of_ble_eq_true rfl, Nat.le_of_ble_eq_true rfl⟩) (Nat.le_of_ble_eq_true rfl) ⟨Nat.zero_le _, Nat.zero_le _⟩ dX9_size_1 (fun H locs Z => ?_)
  refine lv_lconst (v := (0 : Int64)) hx hb dX9_size_4 (by decide) ?_
  refine z_lc_ge (tgt := 17) X dX9_size_5 dX9_size_6 (by decide) (fun c_1 => ?_) (fun c_1 => ?_)
  · refine lv_aload_n hx hb dX9_size_17 rfl (lv_at hl 0 rfl) ?_
    refine z_callV (mc := 0) (ms := 0) (As := []) (rest := []) (st2 := [.long (zf_X9_area MNow)]) (cs2 := [wMod g md MNow MPast MSav MRef MThen MLev MFst MWay MMost MHash]) X Z [0] [] [0] 0 7 (zc_X9_area l g B md MNow MPast MSav MRef MThen MLev MFst MWay MMost MHash) wM_X9_74 wS_X9_area wV_X9_area wK_X9_area wZ_X9 0 1 1 rfl (by decide +kernel) rfl (by decide) rfl rfl rfl (by decide) rfl rfl (rfl : zCl[7]? = some (RX9, TX9, 10)) hl.1 rfl rfl (by rw [hRf, hRl]; exact ⟨Nat.le_of_ble_eq_true rfl, Nat.le_of_ble_eq_true rfl⟩) (Nat.le_of_ble_eq_true rfl) ⟨Nat.zero_le _, Nat.zero_le _⟩ dX9_size_18 (fun H locs Z => ?_)
    exact z_rl (v := (zf_X9_area MNow)) E Z (by rw [zf_X9_size_e, if_pos c_1]; exact ⟨rfl, rfl⟩) dX9_size_21 (Nat.zero_le _) (Nat.zero_le _)
  · refine lv_aload_n hx hb dX9_size_9 rfl (lv_at hl 0 rfl) ?_
    refine z_callV (mc := 0) (ms := 0) (As := []) (rest := []) (st2 := [.long (zf_X9_area MNow)]) (cs2 := [wMod g md MNow MPast MSav MRef MThen MLev MFst MWay MMost MHash]) X Z [0] [] [0] 0 7 (zc_X9_area l g B md MNow MPast MSav MRef MThen MLev MFst MWay MMost MHash) wM_X9_74 wS_X9_area wV_X9_area wK_X9_area wZ_X9 0 1 1 rfl (by decide +kernel) rfl (by decide) rfl rfl rfl (by decide) rfl rfl (rfl : zCl[7]? = some (RX9, TX9, 10)) hl.1 rfl rfl (by rw [hRf, hRl]; exact ⟨Nat.le_of_ble_eq_true rfl, Nat.le_of_ble_eq_true rfl⟩) (Nat.le_of_ble_eq_true rfl) ⟨Nat.zero_le _, Nat.zero_le _⟩ dX9_size_10 (fun H locs Z => ?_)
    refine lv_lneg hx hb dX9_size_13 ?_
    refine lv_goto (tgt := 21) hx hb dX9_size_14 (by decide) ?_
    exact z_rl (v := (-(zf_X9_area MNow))) E Z (by rw [zf_X9_size_e, if_neg c_1]; exact ⟨rfl, rfl⟩) dX9_size_21 (Nat.zero_le _) (Nat.zero_le _)
def zf_X9_capacity (MNow : Nat → Int64) (k : Nat) : Int64 := ((MNow ((0 + (3 * k)) + 2)) * (zf_X9_size MNow))
theorem zf_X9_capacity_e (MNow : Nat → Int64) (k : Nat) : zf_X9_capacity MNow k = ((MNow ((0 + (3 * k)) + 2)) * (zf_X9_size MNow)) := rfl
set_option maxHeartbeats 4000000 in
set_option maxRecDepth 100000 in
theorem zc_X9_capacity (l : Launch) (g : zG) (B : Nat) (md : Nat → Nat) (MNow : Nat → Int64) (MPast : Nat → Int64) (MSav : Nat) (MRef : Int32) (MThen : Nat → Int64) (MLev : Nat → Int64) (MFst : Int32) (MWay : Nat → Int64) (MMost : Nat → Int32) (MHash : Int64) (k : Nat) (hk : k < 3) : zMet l g B yX9_capacity cX9_capacity 2 (some .long) 4 130 0 0 [.ref (md 0), .int (nI k)] [wMod g md MNow MPast MSav MRef MThen MLev MFst MWay MMost MHash] (zDet (some (.long (zf_X9_capacity MNow k))) [wMod g md MNow MPast MSav MRef MThen MLev MFst MWay MMost MHash]) := by
  refine z_in (plainFor_of_name (by decide)) (Nat.le_of_ble_eq_true rfl) (fun p e R s m args below meth c A Q hRf hRl hRc hRs X Z hnm E ls hl => ?_)
  have hx := X.1
  have hb := X.2.1
  have hown := X.2.2.2.1
  have hts := X.2.2.2.2.1
  have hl : lv_has ls 2 [(0, .ref (md 0)), (1, .int (nI k))] := hl
  refine lv_aload_n hx hb dX9_capacity_0 rfl (lv_at hl 0 rfl) ?_
  refine z_get X Z 0 rfl (rfl : zCl[7]? = some (RX9, TX9, 10)) zU_X9 0 (by decide) wF_X9_7 rfl rfl dX9_capacity_1 ?_
  refine lv_iconst (v := (0 : Int32)) hx hb dX9_capacity_4 (by decide) ?_
  refine lv_iconst (v := (3 : Int32)) hx hb dX9_capacity_5 (by decide) ?_
  refine lv_iload_n hx hb dX9_capacity_6 rfl (lv_at hl 1 rfl) ?_
  refine z_imul (a := 3) (b := k) X rfl rfl dX9_capacity_7 ?_
  refine z_iadd (a := 0) (b := (3 * k)) X rfl rfl dX9_capacity_8 ?_
  refine lv_iconst (v := (2 : Int32)) hx hb dX9_capacity_9 (by decide) ?_
  refine z_iadd (a := (0 + (3 * k))) (b := 2) X rfl rfl dX9_capacity_10 ?_
  refine z_lald (j := ((0 + (3 * k)) + 2)) X Z 1 rfl rfl (by omega) (by decide) dX9_capacity_11 ?_
  refine lv_aload_n hx hb dX9_capacity_12 rfl (lv_at hl 0 rfl) ?_
  refine z_callV (mc := 0) (ms := 0) (As := []) (rest := [.long (MNow ((0 + (3 * k)) + 2))]) (st2 := [.long (zf_X9_size MNow), .long (MNow ((0 + (3 * k)) + 2))]) (cs2 := [wMod g md MNow MPast MSav MRef MThen MLev MFst MWay MMost MHash]) X Z [0] [] [0] 0 7 (zc_X9_size l g B md MNow MPast MSav MRef MThen MLev MFst MWay MMost MHash) wM_X9_98 wS_X9_size wV_X9_size wK_X9_size wZ_X9 0 1 1 rfl (by decide +kernel) rfl (by decide) rfl rfl rfl (by decide) rfl rfl (rfl : zCl[7]? = some (RX9, TX9, 10)) hl.1 rfl rfl (by rw [hRf, hRl]; exact ⟨Nat.le_of_ble_eq_true rfl, Nat.le_of_ble_eq_true rfl⟩) (Nat.le_of_ble_eq_true rfl) ⟨Nat.zero_le _, Nat.zero_le _⟩ dX9_capacity_13 (fun H locs Z => ?_)
  refine lv_lmul hx hb dX9_capacity_16 ?_
  exact z_rl (v := ((MNow ((0 + (3 * k)) + 2)) * (zf_X9_size MNow))) E Z (by rw [zf_X9_capacity_e]; exact ⟨rfl, rfl⟩) dX9_capacity_17 (Nat.zero_le _) (Nat.zero_le _)
def zf_X9_isStill (MNow : Nat → Int64) : Bool := (if (zf_X9_loadOf MNow 0) < (0 : Int64) then false else (if (zf_X9_loadOf MNow 1) < (0 : Int64) then false else (if (zf_X9_loadOf MNow 2) < (0 : Int64) then false else true)))
theorem zf_X9_isStill_e (MNow : Nat → Int64) : zf_X9_isStill MNow = (if (zf_X9_loadOf MNow 0) < (0 : Int64) then false else (if (zf_X9_loadOf MNow 1) < (0 : Int64) then false else (if (zf_X9_loadOf MNow 2) < (0 : Int64) then false else true))) := rfl
set_option maxHeartbeats 4000000 in
set_option maxRecDepth 100000 in
theorem zc_X9_isStill (l : Launch) (g : zG) (B : Nat) (md : Nat → Nat) (MNow : Nat → Int64) (MPast : Nat → Int64) (MSav : Nat) (MRef : Int32) (MThen : Nat → Int64) (MLev : Nat → Int64) (MFst : Int32) (MWay : Nat → Int64) (MMost : Nat → Int32) (MHash : Int64) (hN : zNow MNow) : zMet l g B yX9_isStill cX9_isStill 1 (some .boolean) 4 160 0 0 [.ref (md 0)] [wMod g md MNow MPast MSav MRef MThen MLev MFst MWay MMost MHash] (zDet (some (.int (zB (zf_X9_isStill MNow)))) [wMod g md MNow MPast MSav MRef MThen MLev MFst MWay MMost MHash]) := by
  refine z_in (plainFor_of_name (by decide)) (Nat.le_of_ble_eq_true rfl) (fun p e R s m args below meth c A Q hRf hRl hRc hRs X Z hnm E ls hl => ?_)
  have hx := X.1
  have hb := X.2.1
  have hown := X.2.2.2.1
  have hts := X.2.2.2.2.1
  have hl : lv_has ls 1 [(0, .ref (md 0))] := hl
  have hN2 := hN; obtain ⟨he9, hb9, he34, hb34, he43, hb43, he284, hb284, he301, hb301⟩ := hN2
  refine lv_aload_n hx hb dX9_isStill_0 rfl (lv_at hl 0 rfl) ?_
  refine lv_iconst (v := (0 : Int32)) hx hb dX9_isStill_1 (by decide) ?_
  refine z_callV (mc := 0) (ms := 0) (As := [.int (0 : Int32)]) (rest := []) (st2 := [.long (zf_X9_loadOf MNow 0)]) (cs2 := [wMod g md MNow MPast MSav MRef MThen MLev MFst MWay MMost MHash]) X Z [0] [] [0] 0 7 (zc_X9_loadOf l g B md MNow MPast MSav MRef MThen MLev MFst MWay MMost MHash 0 (by first | assumption | omega | decide) (by first | assumption | omega | decide)) wM_X9_95 wS_X9_loadOf wV_X9_loadOf wK_X9_loadOf wZ_X9 1 1 1 rfl (by decide +kernel) rfl (by decide) rfl rfl rfl (by decide) rfl rfl (rfl : zCl[7]? = some (RX9, TX9, 10)) hl.1 rfl rfl (by rw [hRf, hRl]; exact ⟨Nat.le_of_ble_eq_true rfl, Nat.le_of_ble_eq_true rfl⟩) (Nat.le_of_ble_eq_true rfl) ⟨Nat.zero_le _, Nat.zero_le _⟩ dX9_isStill_2 (fun H locs Z => ?_)
  refine lv_lconst (v := (0 : Int64)) hx hb dX9_isStill_5 (by decide) ?_
  refine z_lc_lt (tgt := 34) X dX9_isStill_6 dX9_isStill_7 (by decide) (fun c_1 => ?_) (fun c_1 => ?_)
  · refine lv_iconst (v := (0 : Int32)) hx hb dX9_isStill_34 (by decide) ?_
    exact z_ri (v := zB false) E Z (zB_narrow _) (by rw [zf_X9_isStill_e, if_pos c_1]; exact ⟨rfl, rfl⟩) dX9_isStill_35 (Nat.zero_le _) (Nat.zero_le _)
  · refine lv_aload_n hx hb dX9_isStill_10 rfl (lv_at hl 0 rfl) ?_
    refine lv_iconst (v := (1 : Int32)) hx hb dX9_isStill_11 (by decide) ?_
    refine z_callV (mc := 0) (ms := 0) (As := [.int (1 : Int32)]) (rest := []) (st2 := [.long (zf_X9_loadOf MNow 1)]) (cs2 := [wMod g md MNow MPast MSav MRef MThen MLev MFst MWay MMost MHash]) X Z [0] [] [0] 0 7 (zc_X9_loadOf l g B md MNow MPast MSav MRef MThen MLev MFst MWay MMost MHash 1 (by first | assumption | omega | decide) (by first | assumption | omega | decide)) wM_X9_95 wS_X9_loadOf wV_X9_loadOf wK_X9_loadOf wZ_X9 1 1 1 rfl (by decide +kernel) rfl (by decide) rfl rfl rfl (by decide) rfl rfl (rfl : zCl[7]? = some (RX9, TX9, 10)) hl.1 rfl rfl (by rw [hRf, hRl]; exact ⟨Nat.le_of_ble_eq_true rfl, Nat.le_of_ble_eq_true rfl⟩) (Nat.le_of_ble_eq_true rfl) ⟨Nat.zero_le _, Nat.zero_le _⟩ dX9_isStill_12 (fun H locs Z => ?_)
    refine lv_lconst (v := (0 : Int64)) hx hb dX9_isStill_15 (by decide) ?_
    refine z_lc_lt (tgt := 34) X dX9_isStill_16 dX9_isStill_17 (by decide) (fun c_2 => ?_) (fun c_2 => ?_)
    · refine lv_iconst (v := (0 : Int32)) hx hb dX9_isStill_34 (by decide) ?_
      exact z_ri (v := zB false) E Z (zB_narrow _) (by rw [zf_X9_isStill_e, if_neg c_1, if_pos c_2]; exact ⟨rfl, rfl⟩) dX9_isStill_35 (Nat.zero_le _) (Nat.zero_le _)
    · refine lv_aload_n hx hb dX9_isStill_20 rfl (lv_at hl 0 rfl) ?_
      refine lv_iconst (v := (2 : Int32)) hx hb dX9_isStill_21 (by decide) ?_
      refine z_callV (mc := 0) (ms := 0) (As := [.int (2 : Int32)]) (rest := []) (st2 := [.long (zf_X9_loadOf MNow 2)]) (cs2 := [wMod g md MNow MPast MSav MRef MThen MLev MFst MWay MMost MHash]) X Z [0] [] [0] 0 7 (zc_X9_loadOf l g B md MNow MPast MSav MRef MThen MLev MFst MWay MMost MHash 2 (by first | assumption | omega | decide) (by first | assumption | omega | decide)) wM_X9_95 wS_X9_loadOf wV_X9_loadOf wK_X9_loadOf wZ_X9 1 1 1 rfl (by decide +kernel) rfl (by decide) rfl rfl rfl (by decide) rfl rfl (rfl : zCl[7]? = some (RX9, TX9, 10)) hl.1 rfl rfl (by rw [hRf, hRl]; exact ⟨Nat.le_of_ble_eq_true rfl, Nat.le_of_ble_eq_true rfl⟩) (Nat.le_of_ble_eq_true rfl) ⟨Nat.zero_le _, Nat.zero_le _⟩ dX9_isStill_22 (fun H locs Z => ?_)
      refine lv_lconst (v := (0 : Int64)) hx hb dX9_isStill_25 (by decide) ?_
      refine z_lc_lt (tgt := 34) X dX9_isStill_26 dX9_isStill_27 (by decide) (fun c_3 => ?_) (fun c_3 => ?_)
      · refine lv_iconst (v := (0 : Int32)) hx hb dX9_isStill_34 (by decide) ?_
        exact z_ri (v := zB false) E Z (zB_narrow _) (by rw [zf_X9_isStill_e, if_neg c_1, if_neg c_2, if_pos c_3]; exact ⟨rfl, rfl⟩) dX9_isStill_35 (Nat.zero_le _) (Nat.zero_le _)
      · refine lv_iconst (v := (1 : Int32)) hx hb dX9_isStill_30 (by decide) ?_
        refine lv_goto (tgt := 35) hx hb dX9_isStill_31 (by decide) ?_
        exact z_ri (v := zB true) E Z (zB_narrow _) (by rw [zf_X9_isStill_e, if_neg c_1, if_neg c_2, if_neg c_3]; exact ⟨rfl, rfl⟩) dX9_isStill_35 (Nat.zero_le _) (Nat.zero_le _)
def zl_X9_overs_4 (MNow : Nat → Int64) : Nat → Nat → Int32 → Int32
  | 0, _, x1 => x1
  | n4 + 1, j4, x1 => (if (zf_X9_loadOf MNow j4) ≤ (zf_X9_capacity MNow j4) then zl_X9_overs_4 MNow n4 (j4 + 1) (x1 ||| (0 : Int32)) else zl_X9_overs_4 MNow n4 (j4 + 1) (x1 ||| ((1 : Int32) <<< ((nI j4) &&& 31))))
theorem zl_X9_overs_4_s (MNow : Nat → Int64) (n4 : Nat) (j4 : Nat) (x1 : Int32) : zl_X9_overs_4 MNow (n4 + 1) j4 x1 = (if (zf_X9_loadOf MNow j4) ≤ (zf_X9_capacity MNow j4) then zl_X9_overs_4 MNow n4 (j4 + 1) (x1 ||| (0 : Int32)) else zl_X9_overs_4 MNow n4 (j4 + 1) (x1 ||| ((1 : Int32) <<< ((nI j4) &&& 31)))) := rfl
def zf_X9_overs (MNow : Nat → Int64) : Int32 := (zl_X9_overs_4 MNow 3 0 (0 : Int32))
theorem zf_X9_overs_e (MNow : Nat → Int64) : zf_X9_overs MNow = (zl_X9_overs_4 MNow 3 0 (0 : Int32)) := rfl
set_option maxHeartbeats 4000000 in
set_option maxRecDepth 100000 in
theorem zc_X9_overs (l : Launch) (g : zG) (B : Nat) (md : Nat → Nat) (MNow : Nat → Int64) (MPast : Nat → Int64) (MSav : Nat) (MRef : Int32) (MThen : Nat → Int64) (MLev : Nat → Int64) (MFst : Int32) (MWay : Nat → Int64) (MMost : Nat → Int32) (MHash : Int64) (hN : zNow MNow) : zMet l g B yX9_overs cX9_overs 3 (some .int) 5 180 0 0 [.ref (md 0)] [wMod g md MNow MPast MSav MRef MThen MLev MFst MWay MMost MHash] (zDet (some (.int (zf_X9_overs MNow))) [wMod g md MNow MPast MSav MRef MThen MLev MFst MWay MMost MHash]) := by
  refine z_in (plainFor_of_name (by decide)) (Nat.le_of_ble_eq_true rfl) (fun p e R s m args below meth c A Q hRf hRl hRc hRs X Z hnm E ls hl => ?_)
  have hx := X.1
  have hb := X.2.1
  have hown := X.2.2.2.1
  have hts := X.2.2.2.2.1
  have hl : lv_has ls 3 [(0, .ref (md 0))] := hl
  have hN2 := hN; obtain ⟨he9, hb9, he34, hb34, he43, hb43, he284, hb284, he301, hb301⟩ := hN2
  refine lv_iconst (v := (0 : Int32)) hx hb dX9_overs_0 (by decide) ?_
  refine lv_istore_n (lv' := [(1, .int (0 : Int32)), (0, .ref (md 0))]) hx hb dX9_overs_1 rfl hl (by decide) rfl (fun ls hl => ?_)
  refine lv_iconst (v := (0 : Int32)) hx hb dX9_overs_2 (by decide) ?_
  refine lv_istore_n (lv' := [(2, .int (0 : Int32)), (1, .int (0 : Int32)), (0, .ref (md 0))]) hx hb dX9_overs_3 rfl hl (by decide) rfl (fun ls hl => ?_)
  have loop_4 : ∀ (n4 j4 : Nat) (x1 : Int32), j4 + n4 = 3 → zl_X9_overs_4 MNow n4 j4 x1 = (zl_X9_overs_4 MNow 3 0 (0 : Int32)) → ∀ (H : Heap) (locs : List Loc), zM g B A s [wMod g md MNow MPast MSav MRef MThen MLev MFst MWay MMost MHash] H locs → ∀ ls : Array Slot, lv_has ls 3 [(2, .int (nI j4)), (1, .int x1), (0, .ref (md 0))] → W p l e R s m args below meth c H locs 0 0 Q (F0 m 4 ls []) := by
    intro n4
    induction n4 with
    | zero =>
      intro j4 x1 hin4 hR4 H locs Z ls hl
      have e_x1 : (zl_X9_overs_4 MNow 3 0 (0 : Int32)) = x1 := hR4.symm
      subst e_x1
      refine lv_iload_n hx hb dX9_overs_4 rfl (lv_at hl 0 rfl) ?_
      refine lv_iconst (v := (3 : Int32)) hx hb dX9_overs_5 (by decide) ?_
      refine z_icmp_ge (a := j4) (b := 3) (tgt := 39) X rfl rfl (by omega) (by omega) dX9_overs_6 (by decide) (fun c_1 => ?_) (fun c_1 => ?_)
      · refine lv_iload_n hx hb dX9_overs_39 rfl (lv_at hl 1 rfl) ?_
        exact z_ri (v := (zl_X9_overs_4 MNow 3 0 (0 : Int32))) E Z rfl (by rw [zf_X9_overs_e]; exact ⟨rfl, rfl⟩) dX9_overs_40 (Nat.zero_le _) (Nat.zero_le _)
      · (exfalso; omega)
    | succ n4 ih4 =>
      intro j4 x1 hin4 hR4 H locs Z ls hl
      refine lv_iload_n hx hb dX9_overs_4 rfl (lv_at hl 0 rfl) ?_
      refine lv_iconst (v := (3 : Int32)) hx hb dX9_overs_5 (by decide) ?_
      refine z_icmp_ge (a := j4) (b := 3) (tgt := 39) X rfl rfl (by omega) (by omega) dX9_overs_6 (by decide) (fun c_2 => ?_) (fun c_2 => ?_)
      · (exfalso; omega)
      · refine lv_iload_n hx hb dX9_overs_9 rfl (lv_at hl 1 rfl) ?_
        refine lv_aload_n hx hb dX9_overs_10 rfl (lv_at hl 2 rfl) ?_
        refine lv_iload_n hx hb dX9_overs_11 rfl (lv_at hl 0 rfl) ?_
        refine z_callV (mc := 0) (ms := 0) (As := [.int (nI j4)]) (rest := [.int x1]) (st2 := [.long (zf_X9_loadOf MNow j4), .int x1]) (cs2 := [wMod g md MNow MPast MSav MRef MThen MLev MFst MWay MMost MHash]) X Z [0] [] [0] 0 7 (zc_X9_loadOf l g B md MNow MPast MSav MRef MThen MLev MFst MWay MMost MHash j4 (by first | assumption | omega | decide) (by first | assumption | omega | decide)) wM_X9_95 wS_X9_loadOf wV_X9_loadOf wK_X9_loadOf wZ_X9 1 1 1 rfl (by decide +kernel) rfl (by decide) rfl rfl rfl (by decide) rfl rfl (rfl : zCl[7]? = some (RX9, TX9, 10)) hl.1 rfl rfl (by rw [hRf, hRl]; exact ⟨Nat.le_of_ble_eq_true rfl, Nat.le_of_ble_eq_true rfl⟩) (Nat.le_of_ble_eq_true rfl) ⟨Nat.zero_le _, Nat.zero_le _⟩ dX9_overs_12 (fun H locs Z => ?_)
        refine lv_aload_n hx hb dX9_overs_15 rfl (lv_at hl 2 rfl) ?_
        refine lv_iload_n hx hb dX9_overs_16 rfl (lv_at hl 0 rfl) ?_
        refine z_callV (mc := 0) (ms := 0) (As := [.int (nI j4)]) (rest := [.long (zf_X9_loadOf MNow j4), .int x1]) (st2 := [.long (zf_X9_capacity MNow j4), .long (zf_X9_loadOf MNow j4), .int x1]) (cs2 := [wMod g md MNow MPast MSav MRef MThen MLev MFst MWay MMost MHash]) X Z [0] [] [0] 0 7 (zc_X9_capacity l g B md MNow MPast MSav MRef MThen MLev MFst MWay MMost MHash j4 (by first | assumption | omega | decide)) wM_X9_112 wS_X9_capacity wV_X9_capacity wK_X9_capacity wZ_X9 1 1 1 rfl (by decide +kernel) rfl (by decide) rfl rfl rfl (by decide) rfl rfl (rfl : zCl[7]? = some (RX9, TX9, 10)) hl.1 rfl rfl (by rw [hRf, hRl]; exact ⟨Nat.le_of_ble_eq_true rfl, Nat.le_of_ble_eq_true rfl⟩) (Nat.le_of_ble_eq_true rfl) ⟨Nat.zero_le _, Nat.zero_le _⟩ dX9_overs_17 (fun H locs Z => ?_)
        refine z_lc_le (tgt := 30) X dX9_overs_20 dX9_overs_21 (by decide) (fun c_3 => ?_) (fun c_3 => ?_)
        · refine lv_iconst (v := (0 : Int32)) hx hb dX9_overs_30 (by decide) ?_
          refine lv_ior hx hb dX9_overs_31 ?_
          refine lv_istore_n (lv' := [(1, .int (x1 ||| (0 : Int32))), (2, .int (nI j4)), (0, .ref (md 0))]) hx hb dX9_overs_32 rfl hl (by decide) rfl (fun ls hl => ?_)
          refine z_iinc (b := (j4 + 1)) (st := 1) (lv' := [(2, .int (nI (j4 + 1))), (1, .int (x1 ||| (0 : Int32))), (0, .ref (md 0))]) X dX9_overs_33 hl (k := 1) rfl rfl (by decide) (by omega) (by decide) rfl (fun ls hl => ?_)
          refine lv_goto (tgt := 4) hx hb dX9_overs_36 (by decide) ?_
          exact ih4 (j4 + 1) (x1 ||| (0 : Int32)) (by omega) (by have h9 := hR4; rw [zl_X9_overs_4_s, if_pos c_3] at h9; exact h9) _ _ Z ls (lv_sub hl [0, 1, 2] rfl)
        · refine lv_iconst (v := (1 : Int32)) hx hb dX9_overs_24 (by decide) ?_
          refine lv_iload_n hx hb dX9_overs_25 rfl (lv_at hl 0 rfl) ?_
          refine lv_ishl hx hb dX9_overs_26 ?_
          refine lv_goto (tgt := 31) hx hb dX9_overs_27 (by decide) ?_
          refine lv_ior hx hb dX9_overs_31 ?_
          refine lv_istore_n (lv' := [(1, .int (x1 ||| ((1 : Int32) <<< ((nI j4) &&& 31)))), (2, .int (nI j4)), (0, .ref (md 0))]) hx hb dX9_overs_32 rfl hl (by decide) rfl (fun ls hl => ?_)
          refine z_iinc (b := (j4 + 1)) (st := 1) (lv' := [(2, .int (nI (j4 + 1))), (1, .int (x1 ||| ((1 : Int32) <<< ((nI j4) &&& 31)))), (0, .ref (md 0))]) X dX9_overs_33 hl (k := 1) rfl rfl (by decide) (by omega) (by decide) rfl (fun ls hl => ?_)
          refine lv_goto (tgt := 4) hx hb dX9_overs_36 (by decide) ?_
          exact ih4 (j4 + 1) (x1 ||| ((1 : Int32) <<< ((nI j4) &&& 31))) (by omega) (by have h9 := hR4; rw [zl_X9_overs_4_s, if_neg c_3] at h9; exact h9) _ _ Z ls (lv_sub hl [0, 1, 2] rfl)
  exact loop_4 3 0 (0 : Int32) (by omega) rfl _ _ Z ls (lv_sub hl [0, 1, 2] rfl)
set_option maxHeartbeats 4000000 in
set_option maxRecDepth 100000 in
theorem zc_X9_chanceAt (l : Launch) (g : zG) (B : Nat) (md : Nat → Nat) (MNow : Nat → Int64) (MPast : Nat → Int64) (MSav : Nat) (MRef : Int32) (MThen : Nat → Int64) (MLev : Nat → Int64) (MFst : Int32) (MWay : Nat → Int64) (MMost : Nat → Int32) (MHash : Int64) (t : Nat) (k : Nat) : zMet l g B yX9_chanceAt cX9_chanceAt 3 (some .int) 1 20 0 0 [.ref (md 0), .int (nI t), .int (nI k)] [wMod g md MNow MPast MSav MRef MThen MLev MFst MWay MMost MHash] (zDet (some (.int (nI (44 + 3 * (8 * t + k))))) [wMod g md MNow MPast MSav MRef MThen MLev MFst MWay MMost MHash]) := by
  refine z_in (plainFor_of_name (by decide)) (Nat.le_of_ble_eq_true rfl) (fun p e R s m args below meth c A Q hRf hRl hRc hRs X Z hnm E ls hl => ?_)
  have hx := X.1
  have hb := X.2.1
  have hown := X.2.2.2.1
  have hts := X.2.2.2.2.1
  have hl : lv_has ls 3 [(0, .ref (md 0)), (1, .int (nI t)), (2, .int (nI k))] := hl
  refine lv_bipush (v := (44 : Int32)) hx hb dX9_chanceAt_0 (by decide) ?_
  refine lv_iconst (v := (3 : Int32)) hx hb dX9_chanceAt_2 (by decide) ?_
  refine lv_bipush (v := (8 : Int32)) hx hb dX9_chanceAt_3 (by decide) ?_
  refine lv_iload_n hx hb dX9_chanceAt_5 rfl (lv_at hl 1 rfl) ?_
  refine z_imul (a := 8) (b := t) X rfl rfl dX9_chanceAt_6 ?_
  refine lv_iload_n hx hb dX9_chanceAt_7 rfl (lv_at hl 2 rfl) ?_
  refine z_iadd (a := (8 * t)) (b := k) X rfl rfl dX9_chanceAt_8 ?_
  refine z_imul (a := 3) (b := ((8 * t) + k)) X rfl rfl dX9_chanceAt_9 ?_
  refine z_iadd (a := 44) (b := (3 * ((8 * t) + k))) X rfl rfl dX9_chanceAt_10 ?_
  exact z_ri (v := nI (44 + (3 * ((8 * t) + k)))) E Z rfl ⟨rfl, rfl⟩ dX9_chanceAt_11 (Nat.zero_le _) (Nat.zero_le _)
def zf_X9_laysChances (MNow : Nat → Int64) (t : Nat) (k : Nat) (x : Int32) (y : Int32) : (Nat → Int64) := (vp_updL (vp_updL (vp_updL MNow (44 + 3 * (8 * t + k)) x.toInt64) ((44 + 3 * (8 * t + k)) + 1) y.toInt64) ((44 + 3 * (8 * t + k)) + 2) ((((10 : Int32) - x) - y).toInt64))
theorem zf_X9_laysChances_e (MNow : Nat → Int64) (t : Nat) (k : Nat) (x : Int32) (y : Int32) : zf_X9_laysChances MNow t k x y = (vp_updL (vp_updL (vp_updL MNow (44 + 3 * (8 * t + k)) x.toInt64) ((44 + 3 * (8 * t + k)) + 1) y.toInt64) ((44 + 3 * (8 * t + k)) + 2) ((((10 : Int32) - x) - y).toInt64)) := rfl
set_option maxHeartbeats 4000000 in
set_option maxRecDepth 100000 in
theorem zc_X9_laysChances (l : Launch) (g : zG) (B : Nat) (md : Nat → Nat) (MNow : Nat → Int64) (MPast : Nat → Int64) (MSav : Nat) (MRef : Int32) (MThen : Nat → Int64) (MLev : Nat → Int64) (MFst : Int32) (MWay : Nat → Int64) (MMost : Nat → Int32) (MHash : Int64) (t : Nat) (k : Nat) (x : Int32) (y : Int32) (ht : t < 10) (hk : k < 8) : zMet l g B yX9_laysChances cX9_laysChances 6 none 2 60 0 0 [.ref (md 0), .int (nI t), .int (nI k), .int x, .int y] [wMod g md MNow MPast MSav MRef MThen MLev MFst MWay MMost MHash] (zDet (none) [wMod g md (zf_X9_laysChances MNow t k x y) MPast MSav MRef MThen MLev MFst MWay MMost MHash]) := by
  refine z_in (plainFor_of_name (by decide)) (Nat.le_of_ble_eq_true rfl) (fun p e R s m args below meth c A Q hRf hRl hRc hRs X Z hnm E ls hl => ?_)
  have hx := X.1
  have hb := X.2.1
  have hown := X.2.2.2.1
  have hts := X.2.2.2.2.1
  have hl : lv_has ls 6 [(0, .ref (md 0)), (1, .int (nI t)), (2, .int (nI k)), (3, .int x), (4, .int y)] := hl
  refine lv_aload_n hx hb dX9_laysChances_0 rfl (lv_at hl 0 rfl) ?_
  refine lv_iload_n hx hb dX9_laysChances_1 rfl (lv_at hl 1 rfl) ?_
  refine lv_iload_n hx hb dX9_laysChances_2 rfl (lv_at hl 2 rfl) ?_
  refine z_callV (mc := 0) (ms := 0) (As := [.int (nI t), .int (nI k)]) (rest := []) (st2 := [.int (nI (44 + 3 * (8 * t + k)))]) (cs2 := [wMod g md MNow MPast MSav MRef MThen MLev MFst MWay MMost MHash]) X Z [0] [] [0] 0 7 (zc_X9_chanceAt l g B md MNow MPast MSav MRef MThen MLev MFst MWay MMost MHash t k) wM_X9_125 wS_X9_chanceAt wV_X9_chanceAt wK_X9_chanceAt wZ_X9 2 1 1 rfl (by decide +kernel) rfl (by decide) rfl rfl rfl (by decide) rfl rfl (rfl : zCl[7]? = some (RX9, TX9, 10)) hl.1 rfl rfl (by rw [hRf, hRl]; exact ⟨Nat.le_of_ble_eq_true rfl, Nat.le_of_ble_eq_true rfl⟩) (Nat.le_of_ble_eq_true rfl) ⟨Nat.zero_le _, Nat.zero_le _⟩ dX9_laysChances_3 (fun H locs Z => ?_)
  refine lv_istore (lv' := [(5, .int (nI (44 + 3 * (8 * t + k)))), (0, .ref (md 0)), (1, .int (nI t)), (2, .int (nI k)), (3, .int x), (4, .int y)]) hx hb dX9_laysChances_6 hl (by decide) rfl (fun ls hl => ?_)
  refine lv_aload_n hx hb dX9_laysChances_8 rfl (lv_at hl 1 rfl) ?_
  refine z_get X Z 0 rfl (rfl : zCl[7]? = some (RX9, TX9, 10)) zU_X9 0 (by decide) wF_X9_7 rfl rfl dX9_laysChances_9 ?_
  refine lv_iload hx hb dX9_laysChances_12 (lv_at hl 0 rfl) ?_
  refine lv_iload_n hx hb dX9_laysChances_14 rfl (lv_at hl 4 rfl) ?_
  refine lv_i2l hx hb dX9_laysChances_15 rfl ?_
  refine z_last (cs2 := [wMod g md (vp_updL MNow (44 + 3 * (8 * t + k)) x.toInt64) MPast MSav MRef MThen MLev MFst MWay MMost MHash]) (j := (44 + 3 * (8 * t + k))) (x := x.toInt64) X Z 1 rfl rfl (by omega) (by decide) rfl dX9_laysChances_16 (fun H locs Z => ?_)
  refine lv_aload_n hx hb dX9_laysChances_17 rfl (lv_at hl 1 rfl) ?_
  refine z_get X Z 0 rfl (rfl : zCl[7]? = some (RX9, TX9, 10)) zU_X9 0 (by decide) wF_X9_7 rfl rfl dX9_laysChances_18 ?_
  refine lv_iload hx hb dX9_laysChances_21 (lv_at hl 0 rfl) ?_
  refine lv_iconst (v := (1 : Int32)) hx hb dX9_laysChances_23 (by decide) ?_
  refine z_iadd (a := (44 + 3 * (8 * t + k))) (b := 1) X rfl rfl dX9_laysChances_24 ?_
  refine lv_iload hx hb dX9_laysChances_25 (lv_at hl 5 rfl) ?_
  refine lv_i2l hx hb dX9_laysChances_27 rfl ?_
  refine z_last (cs2 := [wMod g md (vp_updL (vp_updL MNow (44 + 3 * (8 * t + k)) x.toInt64) ((44 + 3 * (8 * t + k)) + 1) y.toInt64) MPast MSav MRef MThen MLev MFst MWay MMost MHash]) (j := ((44 + 3 * (8 * t + k)) + 1)) (x := y.toInt64) X Z 1 rfl rfl (by omega) (by decide) rfl dX9_laysChances_28 (fun H locs Z => ?_)
  refine lv_aload_n hx hb dX9_laysChances_29 rfl (lv_at hl 1 rfl) ?_
  refine z_get X Z 0 rfl (rfl : zCl[7]? = some (RX9, TX9, 10)) zU_X9 0 (by decide) wF_X9_7 rfl rfl dX9_laysChances_30 ?_
  refine lv_iload hx hb dX9_laysChances_33 (lv_at hl 0 rfl) ?_
  refine lv_iconst (v := (2 : Int32)) hx hb dX9_laysChances_35 (by decide) ?_
  refine z_iadd (a := (44 + 3 * (8 * t + k))) (b := 2) X rfl rfl dX9_laysChances_36 ?_
  refine lv_bipush (v := (10 : Int32)) hx hb dX9_laysChances_37 (by decide) ?_
  refine lv_iload_n hx hb dX9_laysChances_39 rfl (lv_at hl 4 rfl) ?_
  refine lv_isub hx hb dX9_laysChances_40 ?_
  refine lv_iload hx hb dX9_laysChances_41 (lv_at hl 5 rfl) ?_
  refine lv_isub hx hb dX9_laysChances_43 ?_
  refine lv_i2l hx hb dX9_laysChances_44 rfl ?_
  refine z_last (cs2 := [wMod g md (vp_updL (vp_updL (vp_updL MNow (44 + 3 * (8 * t + k)) x.toInt64) ((44 + 3 * (8 * t + k)) + 1) y.toInt64) ((44 + 3 * (8 * t + k)) + 2) ((((10 : Int32) - x) - y).toInt64)) MPast MSav MRef MThen MLev MFst MWay MMost MHash]) (j := ((44 + 3 * (8 * t + k)) + 2)) (x := ((((10 : Int32) - x) - y).toInt64)) X Z 1 rfl rfl (by omega) (by decide) rfl dX9_laysChances_45 (fun H locs Z => ?_)
  exact z_rv E Z (by rw [zf_X9_laysChances_e]; exact ⟨rfl, rfl⟩) dX9_laysChances_46 (Nat.zero_le _) (Nat.zero_le _)
def zf_X9_isHypothesis (MNow : Nat → Int64) (x : Int32) : Bool := (zf_X9_within x.toInt64 (0 : Int64) (((nI (zc (MNow 34))) - (1 : Int32)).toInt64))
theorem zf_X9_isHypothesis_e (MNow : Nat → Int64) (x : Int32) : zf_X9_isHypothesis MNow x = (zf_X9_within x.toInt64 (0 : Int64) (((nI (zc (MNow 34))) - (1 : Int32)).toInt64)) := rfl
set_option maxHeartbeats 4000000 in
set_option maxRecDepth 100000 in
theorem zc_X9_isHypothesis (l : Launch) (g : zG) (B : Nat) (md : Nat → Nat) (MNow : Nat → Int64) (MPast : Nat → Int64) (MSav : Nat) (MRef : Int32) (MThen : Nat → Int64) (MLev : Nat → Int64) (MFst : Int32) (MWay : Nat → Int64) (MMost : Nat → Int32) (MHash : Int64) (x : Int32) (hN : zNow MNow) : zMet l g B yX9_isHypothesis cX9_isHypothesis 2 (some .boolean) 2 60 0 0 [.ref (md 0), .int x] [wMod g md MNow MPast MSav MRef MThen MLev MFst MWay MMost MHash] (zDet (some (.int (zB (zf_X9_isHypothesis MNow x)))) [wMod g md MNow MPast MSav MRef MThen MLev MFst MWay MMost MHash]) := by
  refine z_in (plainFor_of_name (by decide)) (Nat.le_of_ble_eq_true rfl) (fun p e R s m args below meth c A Q hRf hRl hRc hRs X Z hnm E ls hl => ?_)
  have hx := X.1
  have hb := X.2.1
  have hown := X.2.2.2.1
  have hts := X.2.2.2.2.1
  have hl : lv_has ls 2 [(0, .ref (md 0)), (1, .int x)] := hl
  have hN2 := hN; obtain ⟨he9, hb9, he34, hb34, he43, hb43, he284, hb284, he301, hb301⟩ := hN2
  refine lv_iload_n hx hb dX9_isHypothesis_0 rfl (lv_at hl 1 rfl) ?_
  refine lv_i2l hx hb dX9_isHypothesis_1 rfl ?_
  refine lv_lconst (v := (0 : Int64)) hx hb dX9_isHypothesis_2 (by decide) ?_
  refine lv_aload_n hx hb dX9_isHypothesis_3 rfl (lv_at hl 0 rfl) ?_
  refine lv_bipush (v := (34 : Int32)) hx hb dX9_isHypothesis_4 (by decide) ?_
  refine z_callV (mc := 0) (ms := 0) (As := [.int (34 : Int32)]) (rest := [.long (0 : Int64), .long x.toInt64]) (st2 := [.int (nI (zc (MNow 34))), .long (0 : Int64), .long x.toInt64]) (cs2 := [wMod g md MNow MPast MSav MRef MThen MLev MFst MWay MMost MHash]) X Z [0] [] [0] 0 7 (zc_X9_many l g B md MNow MPast MSav MRef MThen MLev MFst MWay MMost MHash 34 (zc (MNow 34)) (by first | assumption | omega | decide) (by first | assumption | omega | decide)) wM_X9_66 wS_X9_many wV_X9_many wK_X9_many wZ_X9 1 1 1 rfl (by decide +kernel) rfl (by decide) rfl rfl rfl (by decide) rfl rfl (rfl : zCl[7]? = some (RX9, TX9, 10)) hl.1 rfl rfl (by rw [hRf, hRl]; exact ⟨Nat.le_of_ble_eq_true rfl, Nat.le_of_ble_eq_true rfl⟩) (Nat.le_of_ble_eq_true rfl) ⟨Nat.zero_le _, Nat.zero_le _⟩ dX9_isHypothesis_6 (fun H locs Z => ?_)
  refine lv_iconst (v := (1 : Int32)) hx hb dX9_isHypothesis_9 (by decide) ?_
  refine lv_isub hx hb dX9_isHypothesis_10 ?_
  refine lv_i2l hx hb dX9_isHypothesis_11 rfl ?_
  refine z_callS (mc := 0) (ms := 0) (As := [.long x.toInt64, .long (0 : Int64), .long (((nI (zc (MNow 34))) - (1 : Int32)).toInt64)]) (rest := []) (st2 := [.int (zB (zf_X9_within x.toInt64 (0 : Int64) (((nI (zc (MNow 34))) - (1 : Int32)).toInt64)))]) (cs2 := [wMod g md MNow MPast MSav MRef MThen MLev MFst MWay MMost MHash]) X Z [] [0] [0] (zc_X9_within l g B x.toInt64 (0 : Int64) (((nI (zc (MNow 34))) - (1 : Int32)).toInt64)) wM_X9_44 wS_X9_within wK_X9_within wZ_X9 3 1 1 rfl (by decide +kernel) rfl (by decide) rfl rfl rfl (by decide) rfl hl.1 rfl rfl (by rw [hRf, hRl]; exact ⟨Nat.le_of_ble_eq_true rfl, Nat.le_of_ble_eq_true rfl⟩) (Nat.le_of_ble_eq_true rfl) ⟨Nat.zero_le _, Nat.zero_le _⟩ dX9_isHypothesis_12 (fun H locs Z => ?_)
  exact z_ri (v := zB (zf_X9_within x.toInt64 (0 : Int64) (((nI (zc (MNow 34))) - (1 : Int32)).toInt64))) E Z (zB_narrow _) (by rw [zf_X9_isHypothesis_e]; exact ⟨rfl, rfl⟩) dX9_isHypothesis_15 (Nat.zero_le _) (Nat.zero_le _)
def zf_X9_isTest (MNow : Nat → Int64) (x : Int32) : Bool := (zf_X9_within x.toInt64 (0 : Int64) (((nI (zc (MNow 43))) - (1 : Int32)).toInt64))
theorem zf_X9_isTest_e (MNow : Nat → Int64) (x : Int32) : zf_X9_isTest MNow x = (zf_X9_within x.toInt64 (0 : Int64) (((nI (zc (MNow 43))) - (1 : Int32)).toInt64)) := rfl
set_option maxHeartbeats 4000000 in
set_option maxRecDepth 100000 in
theorem zc_X9_isTest (l : Launch) (g : zG) (B : Nat) (md : Nat → Nat) (MNow : Nat → Int64) (MPast : Nat → Int64) (MSav : Nat) (MRef : Int32) (MThen : Nat → Int64) (MLev : Nat → Int64) (MFst : Int32) (MWay : Nat → Int64) (MMost : Nat → Int32) (MHash : Int64) (x : Int32) (hN : zNow MNow) : zMet l g B yX9_isTest cX9_isTest 2 (some .boolean) 2 60 0 0 [.ref (md 0), .int x] [wMod g md MNow MPast MSav MRef MThen MLev MFst MWay MMost MHash] (zDet (some (.int (zB (zf_X9_isTest MNow x)))) [wMod g md MNow MPast MSav MRef MThen MLev MFst MWay MMost MHash]) := by
  refine z_in (plainFor_of_name (by decide)) (Nat.le_of_ble_eq_true rfl) (fun p e R s m args below meth c A Q hRf hRl hRc hRs X Z hnm E ls hl => ?_)
  have hx := X.1
  have hb := X.2.1
  have hown := X.2.2.2.1
  have hts := X.2.2.2.2.1
  have hl : lv_has ls 2 [(0, .ref (md 0)), (1, .int x)] := hl
  have hN2 := hN; obtain ⟨he9, hb9, he34, hb34, he43, hb43, he284, hb284, he301, hb301⟩ := hN2
  refine lv_iload_n hx hb dX9_isTest_0 rfl (lv_at hl 1 rfl) ?_
  refine lv_i2l hx hb dX9_isTest_1 rfl ?_
  refine lv_lconst (v := (0 : Int64)) hx hb dX9_isTest_2 (by decide) ?_
  refine lv_aload_n hx hb dX9_isTest_3 rfl (lv_at hl 0 rfl) ?_
  refine lv_bipush (v := (43 : Int32)) hx hb dX9_isTest_4 (by decide) ?_
  refine z_callV (mc := 0) (ms := 0) (As := [.int (43 : Int32)]) (rest := [.long (0 : Int64), .long x.toInt64]) (st2 := [.int (nI (zc (MNow 43))), .long (0 : Int64), .long x.toInt64]) (cs2 := [wMod g md MNow MPast MSav MRef MThen MLev MFst MWay MMost MHash]) X Z [0] [] [0] 0 7 (zc_X9_many l g B md MNow MPast MSav MRef MThen MLev MFst MWay MMost MHash 43 (zc (MNow 43)) (by first | assumption | omega | decide) (by first | assumption | omega | decide)) wM_X9_66 wS_X9_many wV_X9_many wK_X9_many wZ_X9 1 1 1 rfl (by decide +kernel) rfl (by decide) rfl rfl rfl (by decide) rfl rfl (rfl : zCl[7]? = some (RX9, TX9, 10)) hl.1 rfl rfl (by rw [hRf, hRl]; exact ⟨Nat.le_of_ble_eq_true rfl, Nat.le_of_ble_eq_true rfl⟩) (Nat.le_of_ble_eq_true rfl) ⟨Nat.zero_le _, Nat.zero_le _⟩ dX9_isTest_6 (fun H locs Z => ?_)
  refine lv_iconst (v := (1 : Int32)) hx hb dX9_isTest_9 (by decide) ?_
  refine lv_isub hx hb dX9_isTest_10 ?_
  refine lv_i2l hx hb dX9_isTest_11 rfl ?_
  refine z_callS (mc := 0) (ms := 0) (As := [.long x.toInt64, .long (0 : Int64), .long (((nI (zc (MNow 43))) - (1 : Int32)).toInt64)]) (rest := []) (st2 := [.int (zB (zf_X9_within x.toInt64 (0 : Int64) (((nI (zc (MNow 43))) - (1 : Int32)).toInt64)))]) (cs2 := [wMod g md MNow MPast MSav MRef MThen MLev MFst MWay MMost MHash]) X Z [] [0] [0] (zc_X9_within l g B x.toInt64 (0 : Int64) (((nI (zc (MNow 43))) - (1 : Int32)).toInt64)) wM_X9_44 wS_X9_within wK_X9_within wZ_X9 3 1 1 rfl (by decide +kernel) rfl (by decide) rfl rfl rfl (by decide) rfl hl.1 rfl rfl (by rw [hRf, hRl]; exact ⟨Nat.le_of_ble_eq_true rfl, Nat.le_of_ble_eq_true rfl⟩) (Nat.le_of_ble_eq_true rfl) ⟨Nat.zero_le _, Nat.zero_le _⟩ dX9_isTest_12 (fun H locs Z => ?_)
  exact z_ri (v := zB (zf_X9_within x.toInt64 (0 : Int64) (((nI (zc (MNow 43))) - (1 : Int32)).toInt64))) E Z (zB_narrow _) (by rw [zf_X9_isTest_e]; exact ⟨rfl, rfl⟩) dX9_isTest_15 (Nat.zero_le _) (Nat.zero_le _)
def zl_X9_weights_4 (MNow : Nat → Int64) : Nat → Nat → Int64 → Int64
  | 0, _, x1 => x1
  | n4 + 1, j4, x1 => zl_X9_weights_4 MNow n4 (j4 + 1) (x1 + (MNow (35 + j4)))
theorem zl_X9_weights_4_s (MNow : Nat → Int64) (n4 : Nat) (j4 : Nat) (x1 : Int64) : zl_X9_weights_4 MNow (n4 + 1) j4 x1 = zl_X9_weights_4 MNow n4 (j4 + 1) (x1 + (MNow (35 + j4))) := rfl
def zf_X9_weights (MNow : Nat → Int64) : Int64 := (zl_X9_weights_4 MNow 8 0 (0 : Int64))
theorem zf_X9_weights_e (MNow : Nat → Int64) : zf_X9_weights MNow = (zl_X9_weights_4 MNow 8 0 (0 : Int64)) := rfl
set_option maxHeartbeats 4000000 in
set_option maxRecDepth 100000 in
theorem zc_X9_weights (l : Launch) (g : zG) (B : Nat) (md : Nat → Nat) (MNow : Nat → Int64) (MPast : Nat → Int64) (MSav : Nat) (MRef : Int32) (MThen : Nat → Int64) (MLev : Nat → Int64) (MFst : Int32) (MWay : Nat → Int64) (MMost : Nat → Int32) (MHash : Int64) : zMet l g B yX9_weights cX9_weights 4 (some .long) 1 60 0 0 [.ref (md 0)] [wMod g md MNow MPast MSav MRef MThen MLev MFst MWay MMost MHash] (zDet (some (.long (zf_X9_weights MNow))) [wMod g md MNow MPast MSav MRef MThen MLev MFst MWay MMost MHash]) := by
  refine z_in (plainFor_of_name (by decide)) (Nat.le_of_ble_eq_true rfl) (fun p e R s m args below meth c A Q hRf hRl hRc hRs X Z hnm E ls hl => ?_)
  have hx := X.1
  have hb := X.2.1
  have hown := X.2.2.2.1
  have hts := X.2.2.2.2.1
  have hl : lv_has ls 4 [(0, .ref (md 0))] := hl
  refine lv_lconst (v := (0 : Int64)) hx hb dX9_weights_0 (by decide) ?_
  refine lv_lstore_n (lv' := [(1, .long (0 : Int64)), (0, .ref (md 0))]) hx hb dX9_weights_1 rfl hl (by decide) rfl (fun ls hl => ?_)
  refine lv_iconst (v := (0 : Int32)) hx hb dX9_weights_2 (by decide) ?_
  refine lv_istore_n (lv' := [(3, .int (0 : Int32)), (1, .long (0 : Int64)), (0, .ref (md 0))]) hx hb dX9_weights_3 rfl hl (by decide) rfl (fun ls hl => ?_)
  have loop_4 : ∀ (n4 j4 : Nat) (x1 : Int64), j4 + n4 = 8 → zl_X9_weights_4 MNow n4 j4 x1 = (zl_X9_weights_4 MNow 8 0 (0 : Int64)) → ∀ (H : Heap) (locs : List Loc), zM g B A s [wMod g md MNow MPast MSav MRef MThen MLev MFst MWay MMost MHash] H locs → ∀ ls : Array Slot, lv_has ls 4 [(3, .int (nI j4)), (1, .long x1), (0, .ref (md 0))] → W p l e R s m args below meth c H locs 0 0 Q (F0 m 4 ls []) := by
    intro n4
    induction n4 with
    | zero =>
      intro j4 x1 hin4 hR4 H locs Z ls hl
      have e_x1 : (zl_X9_weights_4 MNow 8 0 (0 : Int64)) = x1 := hR4.symm
      subst e_x1
      refine lv_iload_n hx hb dX9_weights_4 rfl (lv_at hl 0 rfl) ?_
      refine lv_bipush (v := (8 : Int32)) hx hb dX9_weights_5 (by decide) ?_
      refine z_icmp_ge (a := j4) (b := 8) (tgt := 28) X rfl rfl (by omega) (by omega) dX9_weights_7 (by decide) (fun c_1 => ?_) (fun c_1 => ?_)
      · refine lv_lload_n hx hb dX9_weights_28 rfl (lv_at hl 1 rfl) ?_
        exact z_rl (v := (zl_X9_weights_4 MNow 8 0 (0 : Int64))) E Z (by rw [zf_X9_weights_e]; exact ⟨rfl, rfl⟩) dX9_weights_29 (Nat.zero_le _) (Nat.zero_le _)
      · (exfalso; omega)
    | succ n4 ih4 =>
      intro j4 x1 hin4 hR4 H locs Z ls hl
      refine lv_iload_n hx hb dX9_weights_4 rfl (lv_at hl 0 rfl) ?_
      refine lv_bipush (v := (8 : Int32)) hx hb dX9_weights_5 (by decide) ?_
      refine z_icmp_ge (a := j4) (b := 8) (tgt := 28) X rfl rfl (by omega) (by omega) dX9_weights_7 (by decide) (fun c_2 => ?_) (fun c_2 => ?_)
      · (exfalso; omega)
      · refine lv_lload_n hx hb dX9_weights_10 rfl (lv_at hl 1 rfl) ?_
        refine lv_aload_n hx hb dX9_weights_11 rfl (lv_at hl 2 rfl) ?_
        refine z_get X Z 0 rfl (rfl : zCl[7]? = some (RX9, TX9, 10)) zU_X9 0 (by decide) wF_X9_7 rfl rfl dX9_weights_12 ?_
        refine lv_bipush (v := (35 : Int32)) hx hb dX9_weights_15 (by decide) ?_
        refine lv_iload_n hx hb dX9_weights_17 rfl (lv_at hl 0 rfl) ?_
        refine z_iadd (a := 35) (b := j4) X rfl rfl dX9_weights_18 ?_
        refine z_lald (j := (35 + j4)) X Z 1 rfl rfl (by omega) (by decide) dX9_weights_19 ?_
        refine lv_ladd hx hb dX9_weights_20 ?_
        refine lv_lstore_n (lv' := [(1, .long (x1 + (MNow (35 + j4)))), (3, .int (nI j4)), (0, .ref (md 0))]) hx hb dX9_weights_21 rfl hl (by decide) rfl (fun ls hl => ?_)
        refine z_iinc (b := (j4 + 1)) (st := 1) (lv' := [(3, .int (nI (j4 + 1))), (1, .long (x1 + (MNow (35 + j4)))), (0, .ref (md 0))]) X dX9_weights_22 hl (k := 1) rfl rfl (by decide) (by omega) (by decide) rfl (fun ls hl => ?_)
        refine lv_goto (tgt := 4) hx hb dX9_weights_25 (by decide) ?_
        exact ih4 (j4 + 1) (x1 + (MNow (35 + j4))) (by omega) (by have h9 := hR4; rw [zl_X9_weights_4_s] at h9; exact h9) _ _ Z ls (lv_sub hl [0, 1, 2] rfl)
  exact loop_4 8 0 (0 : Int64) (by omega) rfl _ _ Z ls (lv_sub hl [0, 1, 2] rfl)
def zl_X9_goes_3 (MNow : Nat → Int64) (u : Nat) (t : Nat) (k : Nat) : Nat → Nat → (Nat → Int64) → (Nat → Int64)
  | 0, _, v1 => v1
  | n3 + 1, j3, v1 => zl_X9_goes_3 MNow u t k n3 (j3 + 1) (vp_updL v1 (((8 * u) + 8) + j3) ((v1 ((8 * u) + j3)) * (MNow ((44 + 3 * (8 * t + j3)) + k))))
theorem zl_X9_goes_3_s (MNow : Nat → Int64) (u : Nat) (t : Nat) (k : Nat) (n3 : Nat) (j3 : Nat) (v1 : Nat → Int64) : zl_X9_goes_3 MNow u t k (n3 + 1) j3 v1 = zl_X9_goes_3 MNow u t k n3 (j3 + 1) (vp_updL v1 (((8 * u) + 8) + j3) ((v1 ((8 * u) + j3)) * (MNow ((44 + 3 * (8 * t + j3)) + k)))) := rfl
def zf_X9_goes (MNow : Nat → Int64) (MLev : Nat → Int64) (u : Nat) (t : Nat) (k : Nat) : (Nat → Int64) := (zl_X9_goes_3 MNow u t k 8 0 MLev)
theorem zf_X9_goes_e (MNow : Nat → Int64) (MLev : Nat → Int64) (u : Nat) (t : Nat) (k : Nat) : zf_X9_goes MNow MLev u t k = (zl_X9_goes_3 MNow u t k 8 0 MLev) := rfl
set_option maxHeartbeats 4000000 in
set_option maxRecDepth 100000 in
theorem zc_X9_goes (l : Launch) (g : zG) (B : Nat) (md : Nat → Nat) (MNow : Nat → Int64) (MPast : Nat → Int64) (MSav : Nat) (MRef : Int32) (MThen : Nat → Int64) (MLev : Nat → Int64) (MFst : Int32) (MWay : Nat → Int64) (MMost : Nat → Int32) (MHash : Int64) (u : Nat) (t : Nat) (k : Nat) (hu : u ≤ 2) (ht : t < 10) (hk : k < 3) : zMet l g B yX9_goes cX9_goes 5 none 2 60 0 0 [.ref (md 0), .int (nI u), .int (nI t), .int (nI k)] [wMod g md MNow MPast MSav MRef MThen MLev MFst MWay MMost MHash] (zDet (none) [wMod g md MNow MPast MSav MRef MThen (zf_X9_goes MNow MLev u t k) MFst MWay MMost MHash]) := by
  refine z_in (plainFor_of_name (by decide)) (Nat.le_of_ble_eq_true rfl) (fun p e R s m args below meth c A Q hRf hRl hRc hRs X Z hnm E ls hl => ?_)
  have hx := X.1
  have hb := X.2.1
  have hown := X.2.2.2.1
  have hts := X.2.2.2.2.1
  have hl : lv_has ls 5 [(0, .ref (md 0)), (1, .int (nI u)), (2, .int (nI t)), (3, .int (nI k))] := hl
  refine lv_iconst (v := (0 : Int32)) hx hb dX9_goes_0 (by decide) ?_
  refine lv_istore (lv' := [(4, .int (0 : Int32)), (0, .ref (md 0)), (1, .int (nI u)), (2, .int (nI t)), (3, .int (nI k))]) hx hb dX9_goes_1 hl (by decide) rfl (fun ls hl => ?_)
  have loop_3 : ∀ (n3 j3 : Nat) (v1 : Nat → Int64), j3 + n3 = 8 → zl_X9_goes_3 MNow u t k n3 j3 v1 = (zl_X9_goes_3 MNow u t k 8 0 MLev) → ∀ (H : Heap) (locs : List Loc), zM g B A s [wMod g md MNow MPast MSav MRef MThen v1 MFst MWay MMost MHash] H locs → ∀ ls : Array Slot, lv_has ls 5 [(4, .int (nI j3)), (0, .ref (md 0)), (1, .int (nI u)), (2, .int (nI t)), (3, .int (nI k))] → W p l e R s m args below meth c H locs 0 0 Q (F0 m 3 ls []) := by
    intro n3
    induction n3 with
    | zero =>
      intro j3 v1 hin3 hR3 H locs Z ls hl
      have e_v1 : (zl_X9_goes_3 MNow u t k 8 0 MLev) = v1 := hR3.symm
      subst e_v1
      refine lv_iload hx hb dX9_goes_3 (lv_at hl 0 rfl) ?_
      refine lv_bipush (v := (8 : Int32)) hx hb dX9_goes_5 (by decide) ?_
      refine z_icmp_ge (a := j3) (b := 8) (tgt := 58) X rfl rfl (by omega) (by omega) dX9_goes_7 (by decide) (fun c_1 => ?_) (fun c_1 => ?_)
      · exact z_rv E Z (by rw [zf_X9_goes_e]; exact ⟨rfl, rfl⟩) dX9_goes_58 (Nat.zero_le _) (Nat.zero_le _)
      · (exfalso; omega)
    | succ n3 ih3 =>
      intro j3 v1 hin3 hR3 H locs Z ls hl
      refine lv_iload hx hb dX9_goes_3 (lv_at hl 0 rfl) ?_
      refine lv_bipush (v := (8 : Int32)) hx hb dX9_goes_5 (by decide) ?_
      refine z_icmp_ge (a := j3) (b := 8) (tgt := 58) X rfl rfl (by omega) (by omega) dX9_goes_7 (by decide) (fun c_2 => ?_) (fun c_2 => ?_)
      · (exfalso; omega)
      · refine lv_aload_n hx hb dX9_goes_10 rfl (lv_at hl 1 rfl) ?_
        refine z_get X Z 0 rfl (rfl : zCl[7]? = some (RX9, TX9, 10)) zU_X9 5 (by decide) wF_X9_19 rfl rfl dX9_goes_11 ?_
        refine lv_bipush (v := (8 : Int32)) hx hb dX9_goes_14 (by decide) ?_
        refine lv_iload_n hx hb dX9_goes_16 rfl (lv_at hl 2 rfl) ?_
        refine z_imul (a := 8) (b := u) X rfl rfl dX9_goes_17 ?_
        refine lv_bipush (v := (8 : Int32)) hx hb dX9_goes_18 (by decide) ?_
        refine z_iadd (a := (8 * u)) (b := 8) X rfl rfl dX9_goes_20 ?_
        refine lv_iload hx hb dX9_goes_21 (lv_at hl 0 rfl) ?_
        refine z_iadd (a := ((8 * u) + 8)) (b := j3) X rfl rfl dX9_goes_23 ?_
        refine lv_aload_n hx hb dX9_goes_24 rfl (lv_at hl 1 rfl) ?_
        refine z_get X Z 0 rfl (rfl : zCl[7]? = some (RX9, TX9, 10)) zU_X9 5 (by decide) wF_X9_19 rfl rfl dX9_goes_25 ?_
        refine lv_bipush (v := (8 : Int32)) hx hb dX9_goes_28 (by decide) ?_
        refine lv_iload_n hx hb dX9_goes_30 rfl (lv_at hl 2 rfl) ?_
        refine z_imul (a := 8) (b := u) X rfl rfl dX9_goes_31 ?_
        refine lv_iload hx hb dX9_goes_32 (lv_at hl 0 rfl) ?_
        refine z_iadd (a := (8 * u)) (b := j3) X rfl rfl dX9_goes_34 ?_
        refine z_lald (j := ((8 * u) + j3)) X Z 4 rfl rfl (by omega) (by decide) dX9_goes_35 ?_
        refine lv_aload_n hx hb dX9_goes_36 rfl (lv_at hl 1 rfl) ?_
        refine z_get X Z 0 rfl (rfl : zCl[7]? = some (RX9, TX9, 10)) zU_X9 0 (by decide) wF_X9_7 rfl rfl dX9_goes_37 ?_
        refine lv_aload_n hx hb dX9_goes_40 rfl (lv_at hl 1 rfl) ?_
        refine lv_iload_n hx hb dX9_goes_41 rfl (lv_at hl 3 rfl) ?_
        refine lv_iload hx hb dX9_goes_42 (lv_at hl 0 rfl) ?_
        refine z_callV (mc := 0) (ms := 0) (As := [.int (nI t), .int (nI j3)]) (rest := [.ref (md 1), .long (v1 ((8 * u) + j3)), .int (nI (((8 * u) + 8) + j3)), .ref (md 4)]) (st2 := [.int (nI (44 + 3 * (8 * t + j3))), .ref (md 1), .long (v1 ((8 * u) + j3)), .int (nI (((8 * u) + 8) + j3)), .ref (md 4)]) (cs2 := [wMod g md MNow MPast MSav MRef MThen v1 MFst MWay MMost MHash]) X Z [0] [] [0] 0 7 (zc_X9_chanceAt l g B md MNow MPast MSav MRef MThen v1 MFst MWay MMost MHash t j3) wM_X9_125 wS_X9_chanceAt wV_X9_chanceAt wK_X9_chanceAt wZ_X9 2 1 1 rfl (by decide +kernel) rfl (by decide) rfl rfl rfl (by decide) rfl rfl (rfl : zCl[7]? = some (RX9, TX9, 10)) hl.1 rfl rfl (by rw [hRf, hRl]; exact ⟨Nat.le_of_ble_eq_true rfl, Nat.le_of_ble_eq_true rfl⟩) (Nat.le_of_ble_eq_true rfl) ⟨Nat.zero_le _, Nat.zero_le _⟩ dX9_goes_44 (fun H locs Z => ?_)
        refine lv_iload_n hx hb dX9_goes_47 rfl (lv_at hl 4 rfl) ?_
        refine z_iadd (a := (44 + 3 * (8 * t + j3))) (b := k) X rfl rfl dX9_goes_48 ?_
        refine z_lald (j := ((44 + 3 * (8 * t + j3)) + k)) X Z 1 rfl rfl (by omega) (by decide) dX9_goes_49 ?_
        refine lv_lmul hx hb dX9_goes_50 ?_
        refine z_last (cs2 := [wMod g md MNow MPast MSav MRef MThen (vp_updL v1 (((8 * u) + 8) + j3) ((v1 ((8 * u) + j3)) * (MNow ((44 + 3 * (8 * t + j3)) + k)))) MFst MWay MMost MHash]) (j := (((8 * u) + 8) + j3)) (x := ((v1 ((8 * u) + j3)) * (MNow ((44 + 3 * (8 * t + j3)) + k)))) X Z 4 rfl rfl (by omega) (by decide) rfl dX9_goes_51 (fun H locs Z => ?_)
        refine z_iinc (b := (j3 + 1)) (st := 1) (lv' := [(4, .int (nI (j3 + 1))), (0, .ref (md 0)), (1, .int (nI u)), (2, .int (nI t)), (3, .int (nI k))]) X dX9_goes_52 hl (k := 0) rfl rfl (by decide) (by omega) (by decide) rfl (fun ls hl => ?_)
        refine lv_goto (tgt := 3) hx hb dX9_goes_55 (by decide) ?_
        exact ih3 (j3 + 1) (vp_updL v1 (((8 * u) + 8) + j3) ((v1 ((8 * u) + j3)) * (MNow ((44 + 3 * (8 * t + j3)) + k)))) (by omega) (by have h9 := hR3; rw [zl_X9_goes_3_s] at h9; exact h9) _ _ Z ls (lv_sub hl [0, 1, 2, 3, 4] rfl)
  exact loop_3 8 0 MLev (by omega) rfl _ _ Z ls (lv_sub hl [0, 1, 2, 3, 4] rfl)
def zl_X9_greatest_5 (MLev : Nat → Int64) (u : Nat) : Nat → Nat → Int64 → Int64
  | 0, _, x2 => x2
  | n5 + 1, j5, x2 => (if (MLev ((8 * u) + j5)) ≤ x2 then zl_X9_greatest_5 MLev u n5 (j5 + 1) x2 else zl_X9_greatest_5 MLev u n5 (j5 + 1) (MLev ((8 * u) + j5)))
theorem zl_X9_greatest_5_s (MLev : Nat → Int64) (u : Nat) (n5 : Nat) (j5 : Nat) (x2 : Int64) : zl_X9_greatest_5 MLev u (n5 + 1) j5 x2 = (if (MLev ((8 * u) + j5)) ≤ x2 then zl_X9_greatest_5 MLev u n5 (j5 + 1) x2 else zl_X9_greatest_5 MLev u n5 (j5 + 1) (MLev ((8 * u) + j5))) := rfl
def zf_X9_greatest (MLev : Nat → Int64) (u : Nat) : Int64 := (zl_X9_greatest_5 MLev u 8 0 (0 : Int64))
theorem zf_X9_greatest_e (MLev : Nat → Int64) (u : Nat) : zf_X9_greatest MLev u = (zl_X9_greatest_5 MLev u 8 0 (0 : Int64)) := rfl
set_option maxHeartbeats 4000000 in
set_option maxRecDepth 100000 in
theorem zc_X9_greatest (l : Launch) (g : zG) (B : Nat) (md : Nat → Nat) (MNow : Nat → Int64) (MPast : Nat → Int64) (MSav : Nat) (MRef : Int32) (MThen : Nat → Int64) (MLev : Nat → Int64) (MFst : Int32) (MWay : Nat → Int64) (MMost : Nat → Int32) (MHash : Int64) (u : Nat) (hu : u ≤ 3) : zMet l g B yX9_greatest cX9_greatest 5 (some .long) 1 60 0 0 [.ref (md 0), .int (nI u)] [wMod g md MNow MPast MSav MRef MThen MLev MFst MWay MMost MHash] (zDet (some (.long (zf_X9_greatest MLev u))) [wMod g md MNow MPast MSav MRef MThen MLev MFst MWay MMost MHash]) := by
  refine z_in (plainFor_of_name (by decide)) (Nat.le_of_ble_eq_true rfl) (fun p e R s m args below meth c A Q hRf hRl hRc hRs X Z hnm E ls hl => ?_)
  have hx := X.1
  have hb := X.2.1
  have hown := X.2.2.2.1
  have hts := X.2.2.2.2.1
  have hl : lv_has ls 5 [(0, .ref (md 0)), (1, .int (nI u))] := hl
  refine lv_lconst (v := (0 : Int64)) hx hb dX9_greatest_0 (by decide) ?_
  refine lv_lstore_n (lv' := [(2, .long (0 : Int64)), (0, .ref (md 0)), (1, .int (nI u))]) hx hb dX9_greatest_1 rfl hl (by decide) rfl (fun ls hl => ?_)
  refine lv_iconst (v := (0 : Int32)) hx hb dX9_greatest_2 (by decide) ?_
  refine lv_istore (lv' := [(4, .int (0 : Int32)), (2, .long (0 : Int64)), (0, .ref (md 0)), (1, .int (nI u))]) hx hb dX9_greatest_3 hl (by decide) rfl (fun ls hl => ?_)
  have loop_5 : ∀ (n5 j5 : Nat) (x2 : Int64), j5 + n5 = 8 → zl_X9_greatest_5 MLev u n5 j5 x2 = (zl_X9_greatest_5 MLev u 8 0 (0 : Int64)) → ∀ (H : Heap) (locs : List Loc), zM g B A s [wMod g md MNow MPast MSav MRef MThen MLev MFst MWay MMost MHash] H locs → ∀ ls : Array Slot, lv_has ls 5 [(4, .int (nI j5)), (2, .long x2), (0, .ref (md 0)), (1, .int (nI u))] → W p l e R s m args below meth c H locs 0 0 Q (F0 m 5 ls []) := by
    intro n5
    induction n5 with
    | zero =>
      intro j5 x2 hin5 hR5 H locs Z ls hl
      have e_x2 : (zl_X9_greatest_5 MLev u 8 0 (0 : Int64)) = x2 := hR5.symm
      subst e_x2
      refine lv_iload hx hb dX9_greatest_5 (lv_at hl 0 rfl) ?_
      refine lv_bipush (v := (8 : Int32)) hx hb dX9_greatest_7 (by decide) ?_
      refine z_icmp_ge (a := j5) (b := 8) (tgt := 52) X rfl rfl (by omega) (by omega) dX9_greatest_9 (by decide) (fun c_1 => ?_) (fun c_1 => ?_)
      · refine lv_lload_n hx hb dX9_greatest_52 rfl (lv_at hl 1 rfl) ?_
        exact z_rl (v := (zl_X9_greatest_5 MLev u 8 0 (0 : Int64))) E Z (by rw [zf_X9_greatest_e]; exact ⟨rfl, rfl⟩) dX9_greatest_53 (Nat.zero_le _) (Nat.zero_le _)
      · (exfalso; omega)
    | succ n5 ih5 =>
      intro j5 x2 hin5 hR5 H locs Z ls hl
      refine lv_iload hx hb dX9_greatest_5 (lv_at hl 0 rfl) ?_
      refine lv_bipush (v := (8 : Int32)) hx hb dX9_greatest_7 (by decide) ?_
      refine z_icmp_ge (a := j5) (b := 8) (tgt := 52) X rfl rfl (by omega) (by omega) dX9_greatest_9 (by decide) (fun c_2 => ?_) (fun c_2 => ?_)
      · (exfalso; omega)
      · refine lv_aload_n hx hb dX9_greatest_12 rfl (lv_at hl 2 rfl) ?_
        refine z_get X Z 0 rfl (rfl : zCl[7]? = some (RX9, TX9, 10)) zU_X9 5 (by decide) wF_X9_19 rfl rfl dX9_greatest_13 ?_
        refine lv_bipush (v := (8 : Int32)) hx hb dX9_greatest_16 (by decide) ?_
        refine lv_iload_n hx hb dX9_greatest_18 rfl (lv_at hl 3 rfl) ?_
        refine z_imul (a := 8) (b := u) X rfl rfl dX9_greatest_19 ?_
        refine lv_iload hx hb dX9_greatest_20 (lv_at hl 0 rfl) ?_
        refine z_iadd (a := (8 * u)) (b := j5) X rfl rfl dX9_greatest_22 ?_
        refine z_lald (j := ((8 * u) + j5)) X Z 4 rfl rfl (by omega) (by decide) dX9_greatest_23 ?_
        refine lv_lload_n hx hb dX9_greatest_24 rfl (lv_at hl 1 rfl) ?_
        refine z_lc_le (tgt := 44) X dX9_greatest_25 dX9_greatest_26 (by decide) (fun c_3 => ?_) (fun c_3 => ?_)
        · refine lv_lload_n hx hb dX9_greatest_44 rfl (lv_at hl 1 rfl) ?_
          refine lv_lstore_n (lv' := [(2, .long x2), (4, .int (nI j5)), (0, .ref (md 0)), (1, .int (nI u))]) hx hb dX9_greatest_45 rfl hl (by decide) rfl (fun ls hl => ?_)
          refine z_iinc (b := (j5 + 1)) (st := 1) (lv' := [(4, .int (nI (j5 + 1))), (2, .long x2), (0, .ref (md 0)), (1, .int (nI u))]) X dX9_greatest_46 hl (k := 1) rfl rfl (by decide) (by omega) (by decide) rfl (fun ls hl => ?_)
          refine lv_goto (tgt := 5) hx hb dX9_greatest_49 (by decide) ?_
          exact ih5 (j5 + 1) x2 (by omega) (by have h9 := hR5; rw [zl_X9_greatest_5_s, if_pos c_3] at h9; exact h9) _ _ Z ls (lv_sub hl [0, 1, 2, 3] rfl)
        · refine lv_aload_n hx hb dX9_greatest_29 rfl (lv_at hl 2 rfl) ?_
          refine z_get X Z 0 rfl (rfl : zCl[7]? = some (RX9, TX9, 10)) zU_X9 5 (by decide) wF_X9_19 rfl rfl dX9_greatest_30 ?_
          refine lv_bipush (v := (8 : Int32)) hx hb dX9_greatest_33 (by decide) ?_
          refine lv_iload_n hx hb dX9_greatest_35 rfl (lv_at hl 3 rfl) ?_
          refine z_imul (a := 8) (b := u) X rfl rfl dX9_greatest_36 ?_
          refine lv_iload hx hb dX9_greatest_37 (lv_at hl 0 rfl) ?_
          refine z_iadd (a := (8 * u)) (b := j5) X rfl rfl dX9_greatest_39 ?_
          refine z_lald (j := ((8 * u) + j5)) X Z 4 rfl rfl (by omega) (by decide) dX9_greatest_40 ?_
          refine lv_goto (tgt := 45) hx hb dX9_greatest_41 (by decide) ?_
          refine lv_lstore_n (lv' := [(2, .long (MLev ((8 * u) + j5))), (4, .int (nI j5)), (0, .ref (md 0)), (1, .int (nI u))]) hx hb dX9_greatest_45 rfl hl (by decide) rfl (fun ls hl => ?_)
          refine z_iinc (b := (j5 + 1)) (st := 1) (lv' := [(4, .int (nI (j5 + 1))), (2, .long (MLev ((8 * u) + j5))), (0, .ref (md 0)), (1, .int (nI u))]) X dX9_greatest_46 hl (k := 1) rfl rfl (by decide) (by omega) (by decide) rfl (fun ls hl => ?_)
          refine lv_goto (tgt := 5) hx hb dX9_greatest_49 (by decide) ?_
          exact ih5 (j5 + 1) (MLev ((8 * u) + j5)) (by omega) (by have h9 := hR5; rw [zl_X9_greatest_5_s, if_neg c_3] at h9; exact h9) _ _ Z ls (lv_sub hl [0, 1, 2, 3] rfl)
  exact loop_5 8 0 (0 : Int64) (by omega) rfl _ _ Z ls (lv_sub hl [0, 1, 2, 3] rfl)
def zl_X9_lastOne_24 (MNow : Nat → Int64) (u : Nat) (j7 : Nat) : Nat → Nat → Int64 → (Nat → Int64) → Int64 × (Nat → Int64)
  | 0, _, y5, v2 => (y5, v2)
  | n24 + 1, j24, y5, v2 => zl_X9_lastOne_24 MNow u j7 n24 (j24 + 1) (y5 + (zf_X9_greatest (zf_X9_goes MNow v2 u j7 j24) (u + 1))) (zf_X9_goes MNow v2 u j7 j24)
theorem zl_X9_lastOne_24_s (MNow : Nat → Int64) (u : Nat) (j7 : Nat) (n24 : Nat) (j24 : Nat) (y5 : Int64) (v2 : Nat → Int64) : zl_X9_lastOne_24 MNow u j7 (n24 + 1) j24 y5 v2 = zl_X9_lastOne_24 MNow u j7 n24 (j24 + 1) (y5 + (zf_X9_greatest (zf_X9_goes MNow v2 u j7 j24) (u + 1))) (zf_X9_goes MNow v2 u j7 j24) := rfl
def zl_X9_lastOne_7 (MNow : Nat → Int64) (u : Nat) : Nat → Nat → Int64 → (Nat → Int64) → Int32 → Int64 × (Nat → Int64) × Int32
  | 0, _, x2, v1, f1 => (x2, v1, f1)
  | n7 + 1, j7, x2, v1, f1 => (if u = 0 then (if ((zl_X9_lastOne_24 MNow u j7 3 0 (0 : Int64) v1).1) ≤ x2 then (if ((zl_X9_lastOne_24 MNow u j7 3 0 (0 : Int64) v1).1) ≤ x2 then zl_X9_lastOne_7 MNow u n7 (j7 + 1) x2 ((zl_X9_lastOne_24 MNow u j7 3 0 (0 : Int64) v1).2) f1 else zl_X9_lastOne_7 MNow u n7 (j7 + 1) ((zl_X9_lastOne_24 MNow u j7 3 0 (0 : Int64) v1).1) ((zl_X9_lastOne_24 MNow u j7 3 0 (0 : Int64) v1).2) f1) else (if ((zl_X9_lastOne_24 MNow u j7 3 0 (0 : Int64) v1).1) ≤ x2 then zl_X9_lastOne_7 MNow u n7 (j7 + 1) x2 ((zl_X9_lastOne_24 MNow u j7 3 0 (0 : Int64) v1).2) (nI j7) else zl_X9_lastOne_7 MNow u n7 (j7 + 1) ((zl_X9_lastOne_24 MNow u j7 3 0 (0 : Int64) v1).1) ((zl_X9_lastOne_24 MNow u j7 3 0 (0 : Int64) v1).2) (nI j7))) else (if ((zl_X9_lastOne_24 MNow u j7 3 0 (0 : Int64) v1).1) ≤ x2 then zl_X9_lastOne_7 MNow u n7 (j7 + 1) x2 ((zl_X9_lastOne_24 MNow u j7 3 0 (0 : Int64) v1).2) f1 else zl_X9_lastOne_7 MNow u n7 (j7 + 1) ((zl_X9_lastOne_24 MNow u j7 3 0 (0 : Int64) v1).1) ((zl_X9_lastOne_24 MNow u j7 3 0 (0 : Int64) v1).2) f1))
theorem zl_X9_lastOne_7_s (MNow : Nat → Int64) (u : Nat) (n7 : Nat) (j7 : Nat) (x2 : Int64) (v1 : Nat → Int64) (f1 : Int32) : zl_X9_lastOne_7 MNow u (n7 + 1) j7 x2 v1 f1 = (if u = 0 then (if ((zl_X9_lastOne_24 MNow u j7 3 0 (0 : Int64) v1).1) ≤ x2 then (if ((zl_X9_lastOne_24 MNow u j7 3 0 (0 : Int64) v1).1) ≤ x2 then zl_X9_lastOne_7 MNow u n7 (j7 + 1) x2 ((zl_X9_lastOne_24 MNow u j7 3 0 (0 : Int64) v1).2) f1 else zl_X9_lastOne_7 MNow u n7 (j7 + 1) ((zl_X9_lastOne_24 MNow u j7 3 0 (0 : Int64) v1).1) ((zl_X9_lastOne_24 MNow u j7 3 0 (0 : Int64) v1).2) f1) else (if ((zl_X9_lastOne_24 MNow u j7 3 0 (0 : Int64) v1).1) ≤ x2 then zl_X9_lastOne_7 MNow u n7 (j7 + 1) x2 ((zl_X9_lastOne_24 MNow u j7 3 0 (0 : Int64) v1).2) (nI j7) else zl_X9_lastOne_7 MNow u n7 (j7 + 1) ((zl_X9_lastOne_24 MNow u j7 3 0 (0 : Int64) v1).1) ((zl_X9_lastOne_24 MNow u j7 3 0 (0 : Int64) v1).2) (nI j7))) else (if ((zl_X9_lastOne_24 MNow u j7 3 0 (0 : Int64) v1).1) ≤ x2 then zl_X9_lastOne_7 MNow u n7 (j7 + 1) x2 ((zl_X9_lastOne_24 MNow u j7 3 0 (0 : Int64) v1).2) f1 else zl_X9_lastOne_7 MNow u n7 (j7 + 1) ((zl_X9_lastOne_24 MNow u j7 3 0 (0 : Int64) v1).1) ((zl_X9_lastOne_24 MNow u j7 3 0 (0 : Int64) v1).2) f1)) := rfl
def zf_X9_lastOne (MNow : Nat → Int64) (MLev : Nat → Int64) (MFst : Int32) (u : Nat) : Int64 × (Nat → Int64) × Int32 := (((zl_X9_lastOne_7 MNow u (zc (MNow 43)) 0 (-1 : Int64) MLev MFst).1), ((zl_X9_lastOne_7 MNow u (zc (MNow 43)) 0 (-1 : Int64) MLev MFst).2.1), ((zl_X9_lastOne_7 MNow u (zc (MNow 43)) 0 (-1 : Int64) MLev MFst).2.2))
theorem zf_X9_lastOne_e (MNow : Nat → Int64) (MLev : Nat → Int64) (MFst : Int32) (u : Nat) : zf_X9_lastOne MNow MLev MFst u = (((zl_X9_lastOne_7 MNow u (zc (MNow 43)) 0 (-1 : Int64) MLev MFst).1), ((zl_X9_lastOne_7 MNow u (zc (MNow 43)) 0 (-1 : Int64) MLev MFst).2.1), ((zl_X9_lastOne_7 MNow u (zc (MNow 43)) 0 (-1 : Int64) MLev MFst).2.2)) := rfl
set_option maxHeartbeats 4000000 in
set_option maxRecDepth 100000 in
theorem zc_X9_lastOne (l : Launch) (g : zG) (B : Nat) (md : Nat → Nat) (MNow : Nat → Int64) (MPast : Nat → Int64) (MSav : Nat) (MRef : Int32) (MThen : Nat → Int64) (MLev : Nat → Int64) (MFst : Int32) (MWay : Nat → Int64) (MMost : Nat → Int32) (MHash : Int64) (u : Nat) (hN : zNow MNow) (hu : u ≤ 2) : zMet l g B yX9_lastOne cX9_lastOne 8 (some .long) 3 140 0 0 [.ref (md 0), .int (nI u)] [wMod g md MNow MPast MSav MRef MThen MLev MFst MWay MMost MHash] (zDet (some (.long ((zf_X9_lastOne MNow MLev MFst u).1))) [wMod g md MNow MPast MSav MRef MThen ((zf_X9_lastOne MNow MLev MFst u).2.1) ((zf_X9_lastOne MNow MLev MFst u).2.2) MWay MMost MHash]) := by
  refine z_in (plainFor_of_name (by decide)) (Nat.le_of_ble_eq_true rfl) (fun p e R s m args below meth c A Q hRf hRl hRc hRs X Z hnm E ls hl => ?_)
  have hx := X.1
  have hb := X.2.1
  have hown := X.2.2.2.1
  have hts := X.2.2.2.2.1
  have hl : lv_has ls 8 [(0, .ref (md 0)), (1, .int (nI u))] := hl
  have hN2 := hN; obtain ⟨he9, hb9, he34, hb34, he43, hb43, he284, hb284, he301, hb301⟩ := hN2
  refine lv_ldc2 (v := (-1 : Int64)) hx hb hown (hts _ wL_X9_148) dX9_lastOne_0 ?_
  refine lv_lstore_n (lv' := [(2, .long (-1 : Int64)), (0, .ref (md 0)), (1, .int (nI u))]) hx hb dX9_lastOne_3 rfl hl (by decide) rfl (fun ls hl => ?_)
  refine lv_iconst (v := (0 : Int32)) hx hb dX9_lastOne_4 (by decide) ?_
  refine lv_istore (lv' := [(4, .int (0 : Int32)), (2, .long (-1 : Int64)), (0, .ref (md 0)), (1, .int (nI u))]) hx hb dX9_lastOne_5 hl (by decide) rfl (fun ls hl => ?_)
  have loop_7 : ∀ (n7 j7 : Nat) (x2 : Int64) (v1 : Nat → Int64) (f1 : Int32), j7 + n7 = (zc (MNow 43)) → zl_X9_lastOne_7 MNow u n7 j7 x2 v1 f1 = (zl_X9_lastOne_7 MNow u (zc (MNow 43)) 0 (-1 : Int64) MLev MFst) → ∀ (H : Heap) (locs : List Loc), zM g B A s [wMod g md MNow MPast MSav MRef MThen v1 f1 MWay MMost MHash] H locs → ∀ ls : Array Slot, lv_has ls 8 [(4, .int (nI j7)), (2, .long x2), (0, .ref (md 0)), (1, .int (nI u))] → W p l e R s m args below meth c H locs 0 0 Q (F0 m 7 ls []) := by
    intro n7
    induction n7 with
    | zero =>
      intro j7 x2 v1 f1 hin7 hR7 H locs Z ls hl
      have e_x2 : (zl_X9_lastOne_7 MNow u (zc (MNow 43)) 0 (-1 : Int64) MLev MFst).1 = x2 := (by rw [← hR7]; rfl)
      have e_v1 : (zl_X9_lastOne_7 MNow u (zc (MNow 43)) 0 (-1 : Int64) MLev MFst).2.1 = v1 := (by rw [← hR7]; rfl)
      have e_f1 : (zl_X9_lastOne_7 MNow u (zc (MNow 43)) 0 (-1 : Int64) MLev MFst).2.2 = f1 := (by rw [← hR7]; rfl)
      subst e_x2
      subst e_v1
      subst e_f1
      refine lv_iload hx hb dX9_lastOne_7 (lv_at hl 0 rfl) ?_
      refine lv_aload_n hx hb dX9_lastOne_9 rfl (lv_at hl 2 rfl) ?_
      refine lv_bipush (v := (43 : Int32)) hx hb dX9_lastOne_10 (by decide) ?_
      refine z_callV (mc := 0) (ms := 0) (As := [.int (43 : Int32)]) (rest := [.int (nI j7)]) (st2 := [.int (nI (zc (MNow 43))), .int (nI j7)]) (cs2 := [wMod g md MNow MPast MSav MRef MThen ((zl_X9_lastOne_7 MNow u (zc (MNow 43)) 0 (-1 : Int64) MLev MFst).2.1) ((zl_X9_lastOne_7 MNow u (zc (MNow 43)) 0 (-1 : Int64) MLev MFst).2.2) MWay MMost MHash]) X Z [0] [] [0] 0 7 (zc_X9_many l g B md MNow MPast MSav MRef MThen ((zl_X9_lastOne_7 MNow u (zc (MNow 43)) 0 (-1 : Int64) MLev MFst).2.1) ((zl_X9_lastOne_7 MNow u (zc (MNow 43)) 0 (-1 : Int64) MLev MFst).2.2) MWay MMost MHash 43 (zc (MNow 43)) (by first | assumption | omega | decide) (by first | assumption | omega | decide)) wM_X9_66 wS_X9_many wV_X9_many wK_X9_many wZ_X9 1 1 1 rfl (by decide +kernel) rfl (by decide) rfl rfl rfl (by decide) rfl rfl (rfl : zCl[7]? = some (RX9, TX9, 10)) hl.1 rfl rfl (by rw [hRf, hRl]; exact ⟨Nat.le_of_ble_eq_true rfl, Nat.le_of_ble_eq_true rfl⟩) (Nat.le_of_ble_eq_true rfl) ⟨Nat.zero_le _, Nat.zero_le _⟩ dX9_lastOne_12 (fun H locs Z => ?_)
      refine z_icmp_ge (a := j7) (b := (zc (MNow 43))) (tgt := 101) X rfl rfl (by omega) (by omega) dX9_lastOne_15 (by decide) (fun c_1 => ?_) (fun c_1 => ?_)
      · refine lv_lload_n hx hb dX9_lastOne_101 rfl (lv_at hl 1 rfl) ?_
        exact z_rl (v := ((zl_X9_lastOne_7 MNow u (zc (MNow 43)) 0 (-1 : Int64) MLev MFst).1)) E Z (by rw [zf_X9_lastOne_e]; dsimp only; exact ⟨rfl, rfl⟩) dX9_lastOne_102 (Nat.zero_le _) (Nat.zero_le _)
      · (exfalso; omega)
    | succ n7 ih7 =>
      intro j7 x2 v1 f1 hin7 hR7 H locs Z ls hl
      refine lv_iload hx hb dX9_lastOne_7 (lv_at hl 0 rfl) ?_
      refine lv_aload_n hx hb dX9_lastOne_9 rfl (lv_at hl 2 rfl) ?_
      refine lv_bipush (v := (43 : Int32)) hx hb dX9_lastOne_10 (by decide) ?_
      refine z_callV (mc := 0) (ms := 0) (As := [.int (43 : Int32)]) (rest := [.int (nI j7)]) (st2 := [.int (nI (zc (MNow 43))), .int (nI j7)]) (cs2 := [wMod g md MNow MPast MSav MRef MThen v1 f1 MWay MMost MHash]) X Z [0] [] [0] 0 7 (zc_X9_many l g B md MNow MPast MSav MRef MThen v1 f1 MWay MMost MHash 43 (zc (MNow 43)) (by first | assumption | omega | decide) (by first | assumption | omega | decide)) wM_X9_66 wS_X9_many wV_X9_many wK_X9_many wZ_X9 1 1 1 rfl (by decide +kernel) rfl (by decide) rfl rfl rfl (by decide) rfl rfl (rfl : zCl[7]? = some (RX9, TX9, 10)) hl.1 rfl rfl (by rw [hRf, hRl]; exact ⟨Nat.le_of_ble_eq_true rfl, Nat.le_of_ble_eq_true rfl⟩) (Nat.le_of_ble_eq_true rfl) ⟨Nat.zero_le _, Nat.zero_le _⟩ dX9_lastOne_12 (fun H locs Z => ?_)
      refine z_icmp_ge (a := j7) (b := (zc (MNow 43))) (tgt := 101) X rfl rfl (by omega) (by omega) dX9_lastOne_15 (by decide) (fun c_2 => ?_) (fun c_2 => ?_)
      · (exfalso; omega)
      · refine lv_lconst (v := (0 : Int64)) hx hb dX9_lastOne_18 (by decide) ?_
        refine lv_lstore (lv' := [(5, .long (0 : Int64)), (4, .int (nI j7)), (2, .long x2), (0, .ref (md 0)), (1, .int (nI u))]) hx hb dX9_lastOne_19 hl (by decide) rfl (fun ls hl => ?_)
        refine lv_iconst (v := (0 : Int32)) hx hb dX9_lastOne_21 (by decide) ?_
        refine lv_istore (lv' := [(7, .int (0 : Int32)), (5, .long (0 : Int64)), (4, .int (nI j7)), (2, .long x2), (0, .ref (md 0)), (1, .int (nI u))]) hx hb dX9_lastOne_22 hl (by decide) rfl (fun ls hl => ?_)
        have loop_24 : ∀ (n24 j24 : Nat) (y5 : Int64) (v2 : Nat → Int64), j24 + n24 = 3 → zl_X9_lastOne_24 MNow u j7 n24 j24 y5 v2 = (zl_X9_lastOne_24 MNow u j7 3 0 (0 : Int64) v1) → ∀ (H : Heap) (locs : List Loc), zM g B A s [wMod g md MNow MPast MSav MRef MThen v2 f1 MWay MMost MHash] H locs → ∀ ls : Array Slot, lv_has ls 8 [(7, .int (nI j24)), (5, .long y5), (4, .int (nI j7)), (2, .long x2), (0, .ref (md 0)), (1, .int (nI u))] → W p l e R s m args below meth c H locs 0 0 Q (F0 m 24 ls []) := by
          intro n24
          induction n24 with
          | zero =>
            intro j24 y5 v2 hin24 hR24 H locs Z ls hl
            have e_y5 : (zl_X9_lastOne_24 MNow u j7 3 0 (0 : Int64) v1).1 = y5 := (by rw [← hR24]; rfl)
            have e_v2 : (zl_X9_lastOne_24 MNow u j7 3 0 (0 : Int64) v1).2 = v2 := (by rw [← hR24]; rfl)
            subst e_y5
            subst e_v2
            refine lv_iload hx hb dX9_lastOne_24 (lv_at hl 0 rfl) ?_
            refine lv_iconst (v := (3 : Int32)) hx hb dX9_lastOne_26 (by decide) ?_
            refine z_icmp_ge (a := j24) (b := 3) (tgt := 57) X rfl rfl (by omega) (by omega) dX9_lastOne_27 (by decide) (fun c_3 => ?_) (fun c_3 => ?_)
            · refine lv_aload_n hx hb dX9_lastOne_57 rfl (lv_at hl 4 rfl) ?_
              refine lv_iload_n hx hb dX9_lastOne_58 rfl (lv_at hl 5 rfl) ?_
              refine z_ifneN (a := u) (tgt := 74) X rfl (by omega) dX9_lastOne_59 (by decide) (fun c_4 => ?_) (fun c_4 => ?_)
              · refine lv_aload_n hx hb dX9_lastOne_74 rfl (lv_at hl 4 rfl) ?_
                refine z_get X Z 0 rfl (rfl : zCl[7]? = some (RX9, TX9, 10)) zU_X9 6 (by decide) wF_X9_157 rfl rfl dX9_lastOne_75 ?_
                refine z_put (cs2 := [wMod g md MNow MPast MSav MRef MThen ((zl_X9_lastOne_24 MNow u j7 3 0 (0 : Int64) v1).2) f1 MWay MMost MHash]) (v := .int f1) X Z 0 rfl (rfl : zCl[7]? = some (RX9, TX9, 10)) zU_X9 tyX9 tyX9_ok nmX9 6 (by decide) wF_X9_157 rfl rfl rfl rfl (Nat.le_of_ble_eq_true rfl) rfl dX9_lastOne_78 (fun H locs Z => ?_)
                refine lv_lload hx hb dX9_lastOne_81 (lv_at hl 1 rfl) ?_
                refine lv_lload_n hx hb dX9_lastOne_83 rfl (lv_at hl 3 rfl) ?_
                refine z_lc_le (tgt := 93) X dX9_lastOne_84 dX9_lastOne_85 (by decide) (fun c_5 => ?_) (fun c_5 => ?_)
                · refine lv_lload_n hx hb dX9_lastOne_93 rfl (lv_at hl 3 rfl) ?_
                  refine lv_lstore_n (lv' := [(2, .long x2), (7, .int (nI j24)), (5, .long ((zl_X9_lastOne_24 MNow u j7 3 0 (0 : Int64) v1).1)), (4, .int (nI j7)), (0, .ref (md 0)), (1, .int (nI u))]) hx hb dX9_lastOne_94 rfl hl (by decide) rfl (fun ls hl => ?_)
                  refine z_iinc (b := (j7 + 1)) (st := 1) (lv' := [(4, .int (nI (j7 + 1))), (2, .long x2), (7, .int (nI j24)), (5, .long ((zl_X9_lastOne_24 MNow u j7 3 0 (0 : Int64) v1).1)), (0, .ref (md 0)), (1, .int (nI u))]) X dX9_lastOne_95 hl (k := 3) rfl rfl (by decide) (by omega) (by decide) rfl (fun ls hl => ?_)
                  refine lv_goto (tgt := 7) hx hb dX9_lastOne_98 (by decide) ?_
                  exact ih7 (j7 + 1) x2 ((zl_X9_lastOne_24 MNow u j7 3 0 (0 : Int64) v1).2) f1 (by omega) (by have h9 := hR7; rw [zl_X9_lastOne_7_s, if_neg c_4, if_pos c_5] at h9; exact h9) _ _ Z ls (lv_sub hl [0, 1, 4, 5] rfl)
                · refine lv_lload hx hb dX9_lastOne_88 (lv_at hl 1 rfl) ?_
                  refine lv_goto (tgt := 94) hx hb dX9_lastOne_90 (by decide) ?_
                  refine lv_lstore_n (lv' := [(2, .long ((zl_X9_lastOne_24 MNow u j7 3 0 (0 : Int64) v1).1)), (7, .int (nI j24)), (5, .long ((zl_X9_lastOne_24 MNow u j7 3 0 (0 : Int64) v1).1)), (4, .int (nI j7)), (0, .ref (md 0)), (1, .int (nI u))]) hx hb dX9_lastOne_94 rfl hl (by decide) rfl (fun ls hl => ?_)
                  refine z_iinc (b := (j7 + 1)) (st := 1) (lv' := [(4, .int (nI (j7 + 1))), (2, .long ((zl_X9_lastOne_24 MNow u j7 3 0 (0 : Int64) v1).1)), (7, .int (nI j24)), (5, .long ((zl_X9_lastOne_24 MNow u j7 3 0 (0 : Int64) v1).1)), (0, .ref (md 0)), (1, .int (nI u))]) X dX9_lastOne_95 hl (k := 3) rfl rfl (by decide) (by omega) (by decide) rfl (fun ls hl => ?_)
                  refine lv_goto (tgt := 7) hx hb dX9_lastOne_98 (by decide) ?_
                  exact ih7 (j7 + 1) ((zl_X9_lastOne_24 MNow u j7 3 0 (0 : Int64) v1).1) ((zl_X9_lastOne_24 MNow u j7 3 0 (0 : Int64) v1).2) f1 (by omega) (by have h9 := hR7; rw [zl_X9_lastOne_7_s, if_neg c_4, if_neg c_5] at h9; exact h9) _ _ Z ls (lv_sub hl [0, 1, 4, 5] rfl)
              · refine lv_lload hx hb dX9_lastOne_62 (lv_at hl 1 rfl) ?_
                refine lv_lload_n hx hb dX9_lastOne_64 rfl (lv_at hl 3 rfl) ?_
                refine z_lc_le (tgt := 74) X dX9_lastOne_65 dX9_lastOne_66 (by decide) (fun c_6 => ?_) (fun c_6 => ?_)
                · refine lv_aload_n hx hb dX9_lastOne_74 rfl (lv_at hl 4 rfl) ?_
                  refine z_get X Z 0 rfl (rfl : zCl[7]? = some (RX9, TX9, 10)) zU_X9 6 (by decide) wF_X9_157 rfl rfl dX9_lastOne_75 ?_
                  refine z_put (cs2 := [wMod g md MNow MPast MSav MRef MThen ((zl_X9_lastOne_24 MNow u j7 3 0 (0 : Int64) v1).2) f1 MWay MMost MHash]) (v := .int f1) X Z 0 rfl (rfl : zCl[7]? = some (RX9, TX9, 10)) zU_X9 tyX9 tyX9_ok nmX9 6 (by decide) wF_X9_157 rfl rfl rfl rfl (Nat.le_of_ble_eq_true rfl) rfl dX9_lastOne_78 (fun H locs Z => ?_)
                  refine lv_lload hx hb dX9_lastOne_81 (lv_at hl 1 rfl) ?_
                  refine lv_lload_n hx hb dX9_lastOne_83 rfl (lv_at hl 3 rfl) ?_
                  refine z_lc_le (tgt := 93) X dX9_lastOne_84 dX9_lastOne_85 (by decide) (fun c_7 => ?_) (fun c_7 => ?_)
                  · refine lv_lload_n hx hb dX9_lastOne_93 rfl (lv_at hl 3 rfl) ?_
                    refine lv_lstore_n (lv' := [(2, .long x2), (7, .int (nI j24)), (5, .long ((zl_X9_lastOne_24 MNow u j7 3 0 (0 : Int64) v1).1)), (4, .int (nI j7)), (0, .ref (md 0)), (1, .int (nI u))]) hx hb dX9_lastOne_94 rfl hl (by decide) rfl (fun ls hl => ?_)
                    refine z_iinc (b := (j7 + 1)) (st := 1) (lv' := [(4, .int (nI (j7 + 1))), (2, .long x2), (7, .int (nI j24)), (5, .long ((zl_X9_lastOne_24 MNow u j7 3 0 (0 : Int64) v1).1)), (0, .ref (md 0)), (1, .int (nI u))]) X dX9_lastOne_95 hl (k := 3) rfl rfl (by decide) (by omega) (by decide) rfl (fun ls hl => ?_)
                    refine lv_goto (tgt := 7) hx hb dX9_lastOne_98 (by decide) ?_
                    exact ih7 (j7 + 1) x2 ((zl_X9_lastOne_24 MNow u j7 3 0 (0 : Int64) v1).2) f1 (by omega) (by have h9 := hR7; rw [zl_X9_lastOne_7_s, if_pos c_4, if_pos c_6, if_pos c_7] at h9; exact h9) _ _ Z ls (lv_sub hl [0, 1, 4, 5] rfl)
                  · refine lv_lload hx hb dX9_lastOne_88 (lv_at hl 1 rfl) ?_
                    refine lv_goto (tgt := 94) hx hb dX9_lastOne_90 (by decide) ?_
                    refine lv_lstore_n (lv' := [(2, .long ((zl_X9_lastOne_24 MNow u j7 3 0 (0 : Int64) v1).1)), (7, .int (nI j24)), (5, .long ((zl_X9_lastOne_24 MNow u j7 3 0 (0 : Int64) v1).1)), (4, .int (nI j7)), (0, .ref (md 0)), (1, .int (nI u))]) hx hb dX9_lastOne_94 rfl hl (by decide) rfl (fun ls hl => ?_)
                    refine z_iinc (b := (j7 + 1)) (st := 1) (lv' := [(4, .int (nI (j7 + 1))), (2, .long ((zl_X9_lastOne_24 MNow u j7 3 0 (0 : Int64) v1).1)), (7, .int (nI j24)), (5, .long ((zl_X9_lastOne_24 MNow u j7 3 0 (0 : Int64) v1).1)), (0, .ref (md 0)), (1, .int (nI u))]) X dX9_lastOne_95 hl (k := 3) rfl rfl (by decide) (by omega) (by decide) rfl (fun ls hl => ?_)
                    refine lv_goto (tgt := 7) hx hb dX9_lastOne_98 (by decide) ?_
                    exact ih7 (j7 + 1) ((zl_X9_lastOne_24 MNow u j7 3 0 (0 : Int64) v1).1) ((zl_X9_lastOne_24 MNow u j7 3 0 (0 : Int64) v1).2) f1 (by omega) (by have h9 := hR7; rw [zl_X9_lastOne_7_s, if_pos c_4, if_pos c_6, if_neg c_7] at h9; exact h9) _ _ Z ls (lv_sub hl [0, 1, 4, 5] rfl)
                · refine lv_iload hx hb dX9_lastOne_69 (lv_at hl 2 rfl) ?_
                  refine lv_goto (tgt := 78) hx hb dX9_lastOne_71 (by decide) ?_
                  refine z_put (cs2 := [wMod g md MNow MPast MSav MRef MThen ((zl_X9_lastOne_24 MNow u j7 3 0 (0 : Int64) v1).2) (nI j7) MWay MMost MHash]) (v := .int (nI j7)) X Z 0 rfl (rfl : zCl[7]? = some (RX9, TX9, 10)) zU_X9 tyX9 tyX9_ok nmX9 6 (by decide) wF_X9_157 rfl rfl rfl rfl (Nat.le_of_ble_eq_true rfl) rfl dX9_lastOne_78 (fun H locs Z => ?_)
                  refine lv_lload hx hb dX9_lastOne_81 (lv_at hl 1 rfl) ?_
                  refine lv_lload_n hx hb dX9_lastOne_83 rfl (lv_at hl 3 rfl) ?_
                  refine z_lc_le (tgt := 93) X dX9_lastOne_84 dX9_lastOne_85 (by decide) (fun c_8 => ?_) (fun c_8 => ?_)
                  · refine lv_lload_n hx hb dX9_lastOne_93 rfl (lv_at hl 3 rfl) ?_
                    refine lv_lstore_n (lv' := [(2, .long x2), (7, .int (nI j24)), (5, .long ((zl_X9_lastOne_24 MNow u j7 3 0 (0 : Int64) v1).1)), (4, .int (nI j7)), (0, .ref (md 0)), (1, .int (nI u))]) hx hb dX9_lastOne_94 rfl hl (by decide) rfl (fun ls hl => ?_)
                    refine z_iinc (b := (j7 + 1)) (st := 1) (lv' := [(4, .int (nI (j7 + 1))), (2, .long x2), (7, .int (nI j24)), (5, .long ((zl_X9_lastOne_24 MNow u j7 3 0 (0 : Int64) v1).1)), (0, .ref (md 0)), (1, .int (nI u))]) X dX9_lastOne_95 hl (k := 3) rfl rfl (by decide) (by omega) (by decide) rfl (fun ls hl => ?_)
                    refine lv_goto (tgt := 7) hx hb dX9_lastOne_98 (by decide) ?_
                    exact ih7 (j7 + 1) x2 ((zl_X9_lastOne_24 MNow u j7 3 0 (0 : Int64) v1).2) (nI j7) (by omega) (by have h9 := hR7; rw [zl_X9_lastOne_7_s, if_pos c_4, if_neg c_6, if_pos c_8] at h9; exact h9) _ _ Z ls (lv_sub hl [0, 1, 4, 5] rfl)
                  · refine lv_lload hx hb dX9_lastOne_88 (lv_at hl 1 rfl) ?_
                    refine lv_goto (tgt := 94) hx hb dX9_lastOne_90 (by decide) ?_
                    refine lv_lstore_n (lv' := [(2, .long ((zl_X9_lastOne_24 MNow u j7 3 0 (0 : Int64) v1).1)), (7, .int (nI j24)), (5, .long ((zl_X9_lastOne_24 MNow u j7 3 0 (0 : Int64) v1).1)), (4, .int (nI j7)), (0, .ref (md 0)), (1, .int (nI u))]) hx hb dX9_lastOne_94 rfl hl (by decide) rfl (fun ls hl => ?_)
                    refine z_iinc (b := (j7 + 1)) (st := 1) (lv' := [(4, .int (nI (j7 + 1))), (2, .long ((zl_X9_lastOne_24 MNow u j7 3 0 (0 : Int64) v1).1)), (7, .int (nI j24)), (5, .long ((zl_X9_lastOne_24 MNow u j7 3 0 (0 : Int64) v1).1)), (0, .ref (md 0)), (1, .int (nI u))]) X dX9_lastOne_95 hl (k := 3) rfl rfl (by decide) (by omega) (by decide) rfl (fun ls hl => ?_)
                    refine lv_goto (tgt := 7) hx hb dX9_lastOne_98 (by decide) ?_
                    exact ih7 (j7 + 1) ((zl_X9_lastOne_24 MNow u j7 3 0 (0 : Int64) v1).1) ((zl_X9_lastOne_24 MNow u j7 3 0 (0 : Int64) v1).2) (nI j7) (by omega) (by have h9 := hR7; rw [zl_X9_lastOne_7_s, if_pos c_4, if_neg c_6, if_neg c_8] at h9; exact h9) _ _ Z ls (lv_sub hl [0, 1, 4, 5] rfl)
            · (exfalso; omega)
          | succ n24 ih24 =>
            intro j24 y5 v2 hin24 hR24 H locs Z ls hl
            refine lv_iload hx hb dX9_lastOne_24 (lv_at hl 0 rfl) ?_
            refine lv_iconst (v := (3 : Int32)) hx hb dX9_lastOne_26 (by decide) ?_
            refine z_icmp_ge (a := j24) (b := 3) (tgt := 57) X rfl rfl (by omega) (by omega) dX9_lastOne_27 (by decide) (fun c_9 => ?_) (fun c_9 => ?_)
            · (exfalso; omega)
            · refine lv_aload_n hx hb dX9_lastOne_30 rfl (lv_at hl 4 rfl) ?_
              refine lv_iload_n hx hb dX9_lastOne_31 rfl (lv_at hl 5 rfl) ?_
              refine lv_iload hx hb dX9_lastOne_32 (lv_at hl 2 rfl) ?_
              refine lv_iload hx hb dX9_lastOne_34 (lv_at hl 0 rfl) ?_
              refine z_callV (mc := 0) (ms := 0) (As := [.int (nI u), .int (nI j7), .int (nI j24)]) (rest := []) (st2 := []) (cs2 := [wMod g md MNow MPast MSav MRef MThen (zf_X9_goes MNow v2 u j7 j24) f1 MWay MMost MHash]) X Z [0] [] [0] 0 7 (zc_X9_goes l g B md MNow MPast MSav MRef MThen v2 f1 MWay MMost MHash u j7 j24 (by first | assumption | omega | decide) (by first | assumption | omega | decide) (by first | assumption | omega | decide)) wM_X9_150 wS_X9_goes wV_X9_goes wK_X9_goes wZ_X9 3 1 1 rfl (by decide +kernel) rfl (by decide) rfl rfl rfl (by decide) rfl rfl (rfl : zCl[7]? = some (RX9, TX9, 10)) hl.1 rfl rfl (by rw [hRf, hRl]; exact ⟨Nat.le_of_ble_eq_true rfl, Nat.le_of_ble_eq_true rfl⟩) (Nat.le_of_ble_eq_true rfl) ⟨Nat.zero_le _, Nat.zero_le _⟩ dX9_lastOne_36 (fun H locs Z => ?_)
              refine lv_lload hx hb dX9_lastOne_39 (lv_at hl 1 rfl) ?_
              refine lv_aload_n hx hb dX9_lastOne_41 rfl (lv_at hl 4 rfl) ?_
              refine lv_iload_n hx hb dX9_lastOne_42 rfl (lv_at hl 5 rfl) ?_
              refine lv_iconst (v := (1 : Int32)) hx hb dX9_lastOne_43 (by decide) ?_
              refine z_iadd (a := u) (b := 1) X rfl rfl dX9_lastOne_44 ?_
              refine z_callV (mc := 0) (ms := 0) (As := [.int (nI (u + 1))]) (rest := [.long y5]) (st2 := [.long (zf_X9_greatest (zf_X9_goes MNow v2 u j7 j24) (u + 1)), .long y5]) (cs2 := [wMod g md MNow MPast MSav MRef MThen (zf_X9_goes MNow v2 u j7 j24) f1 MWay MMost MHash]) X Z [0] [] [0] 0 7 (zc_X9_greatest l g B md MNow MPast MSav MRef MThen (zf_X9_goes MNow v2 u j7 j24) f1 MWay MMost MHash (u + 1) (by first | assumption | omega | decide)) wM_X9_154 wS_X9_greatest wV_X9_greatest wK_X9_greatest wZ_X9 1 1 1 rfl (by decide +kernel) rfl (by decide) rfl rfl rfl (by decide) rfl rfl (rfl : zCl[7]? = some (RX9, TX9, 10)) hl.1 rfl rfl (by rw [hRf, hRl]; exact ⟨Nat.le_of_ble_eq_true rfl, Nat.le_of_ble_eq_true rfl⟩) (Nat.le_of_ble_eq_true rfl) ⟨Nat.zero_le _, Nat.zero_le _⟩ dX9_lastOne_45 (fun H locs Z => ?_)
              refine lv_ladd hx hb dX9_lastOne_48 ?_
              refine lv_lstore (lv' := [(5, .long (y5 + (zf_X9_greatest (zf_X9_goes MNow v2 u j7 j24) (u + 1)))), (7, .int (nI j24)), (4, .int (nI j7)), (2, .long x2), (0, .ref (md 0)), (1, .int (nI u))]) hx hb dX9_lastOne_49 hl (by decide) rfl (fun ls hl => ?_)
              refine z_iinc (b := (j24 + 1)) (st := 1) (lv' := [(7, .int (nI (j24 + 1))), (5, .long (y5 + (zf_X9_greatest (zf_X9_goes MNow v2 u j7 j24) (u + 1)))), (4, .int (nI j7)), (2, .long x2), (0, .ref (md 0)), (1, .int (nI u))]) X dX9_lastOne_51 hl (k := 1) rfl rfl (by decide) (by omega) (by decide) rfl (fun ls hl => ?_)
              refine lv_goto (tgt := 24) hx hb dX9_lastOne_54 (by decide) ?_
              exact ih24 (j24 + 1) (y5 + (zf_X9_greatest (zf_X9_goes MNow v2 u j7 j24) (u + 1))) (zf_X9_goes MNow v2 u j7 j24) (by omega) (by have h9 := hR24; rw [zl_X9_lastOne_24_s] at h9; exact h9) _ _ Z ls (lv_sub hl [0, 1, 2, 3, 4, 5] rfl)
        exact loop_24 3 0 (0 : Int64) v1 (by omega) rfl _ _ Z ls (lv_sub hl [0, 1, 2, 3, 4, 5] rfl)
  exact loop_7 (zc (MNow 43)) 0 (-1 : Int64) MLev MFst (by omega) rfl _ _ Z ls (lv_sub hl [0, 1, 2, 3] rfl)
def zl_X9_lastTwo_24 (MNow : Nat → Int64) (u : Nat) (j7 : Nat) : Nat → Nat → Int64 → (Nat → Int64) → Int32 → Int64 × (Nat → Int64) × Int32
  | 0, _, y5, v2, f2 => (y5, v2, f2)
  | n24 + 1, j24, y5, v2, f2 => zl_X9_lastTwo_24 MNow u j7 n24 (j24 + 1) (y5 + ((zf_X9_lastOne MNow (zf_X9_goes MNow v2 u j7 j24) f2 (u + 1)).1)) ((zf_X9_lastOne MNow (zf_X9_goes MNow v2 u j7 j24) f2 (u + 1)).2.1) ((zf_X9_lastOne MNow (zf_X9_goes MNow v2 u j7 j24) f2 (u + 1)).2.2)
theorem zl_X9_lastTwo_24_s (MNow : Nat → Int64) (u : Nat) (j7 : Nat) (n24 : Nat) (j24 : Nat) (y5 : Int64) (v2 : Nat → Int64) (f2 : Int32) : zl_X9_lastTwo_24 MNow u j7 (n24 + 1) j24 y5 v2 f2 = zl_X9_lastTwo_24 MNow u j7 n24 (j24 + 1) (y5 + ((zf_X9_lastOne MNow (zf_X9_goes MNow v2 u j7 j24) f2 (u + 1)).1)) ((zf_X9_lastOne MNow (zf_X9_goes MNow v2 u j7 j24) f2 (u + 1)).2.1) ((zf_X9_lastOne MNow (zf_X9_goes MNow v2 u j7 j24) f2 (u + 1)).2.2) := rfl
def zl_X9_lastTwo_7 (MNow : Nat → Int64) (u : Nat) : Nat → Nat → Int64 → (Nat → Int64) → Int32 → Int64 × (Nat → Int64) × Int32
  | 0, _, x2, v1, f1 => (x2, v1, f1)
  | n7 + 1, j7, x2, v1, f1 => (if u = 0 then (if ((zl_X9_lastTwo_24 MNow u j7 3 0 (0 : Int64) v1 f1).1) ≤ x2 then (if ((zl_X9_lastTwo_24 MNow u j7 3 0 (0 : Int64) v1 f1).1) ≤ x2 then zl_X9_lastTwo_7 MNow u n7 (j7 + 1) x2 ((zl_X9_lastTwo_24 MNow u j7 3 0 (0 : Int64) v1 f1).2.1) ((zl_X9_lastTwo_24 MNow u j7 3 0 (0 : Int64) v1 f1).2.2) else zl_X9_lastTwo_7 MNow u n7 (j7 + 1) ((zl_X9_lastTwo_24 MNow u j7 3 0 (0 : Int64) v1 f1).1) ((zl_X9_lastTwo_24 MNow u j7 3 0 (0 : Int64) v1 f1).2.1) ((zl_X9_lastTwo_24 MNow u j7 3 0 (0 : Int64) v1 f1).2.2)) else (if ((zl_X9_lastTwo_24 MNow u j7 3 0 (0 : Int64) v1 f1).1) ≤ x2 then zl_X9_lastTwo_7 MNow u n7 (j7 + 1) x2 ((zl_X9_lastTwo_24 MNow u j7 3 0 (0 : Int64) v1 f1).2.1) (nI j7) else zl_X9_lastTwo_7 MNow u n7 (j7 + 1) ((zl_X9_lastTwo_24 MNow u j7 3 0 (0 : Int64) v1 f1).1) ((zl_X9_lastTwo_24 MNow u j7 3 0 (0 : Int64) v1 f1).2.1) (nI j7))) else (if ((zl_X9_lastTwo_24 MNow u j7 3 0 (0 : Int64) v1 f1).1) ≤ x2 then zl_X9_lastTwo_7 MNow u n7 (j7 + 1) x2 ((zl_X9_lastTwo_24 MNow u j7 3 0 (0 : Int64) v1 f1).2.1) ((zl_X9_lastTwo_24 MNow u j7 3 0 (0 : Int64) v1 f1).2.2) else zl_X9_lastTwo_7 MNow u n7 (j7 + 1) ((zl_X9_lastTwo_24 MNow u j7 3 0 (0 : Int64) v1 f1).1) ((zl_X9_lastTwo_24 MNow u j7 3 0 (0 : Int64) v1 f1).2.1) ((zl_X9_lastTwo_24 MNow u j7 3 0 (0 : Int64) v1 f1).2.2)))
theorem zl_X9_lastTwo_7_s (MNow : Nat → Int64) (u : Nat) (n7 : Nat) (j7 : Nat) (x2 : Int64) (v1 : Nat → Int64) (f1 : Int32) : zl_X9_lastTwo_7 MNow u (n7 + 1) j7 x2 v1 f1 = (if u = 0 then (if ((zl_X9_lastTwo_24 MNow u j7 3 0 (0 : Int64) v1 f1).1) ≤ x2 then (if ((zl_X9_lastTwo_24 MNow u j7 3 0 (0 : Int64) v1 f1).1) ≤ x2 then zl_X9_lastTwo_7 MNow u n7 (j7 + 1) x2 ((zl_X9_lastTwo_24 MNow u j7 3 0 (0 : Int64) v1 f1).2.1) ((zl_X9_lastTwo_24 MNow u j7 3 0 (0 : Int64) v1 f1).2.2) else zl_X9_lastTwo_7 MNow u n7 (j7 + 1) ((zl_X9_lastTwo_24 MNow u j7 3 0 (0 : Int64) v1 f1).1) ((zl_X9_lastTwo_24 MNow u j7 3 0 (0 : Int64) v1 f1).2.1) ((zl_X9_lastTwo_24 MNow u j7 3 0 (0 : Int64) v1 f1).2.2)) else (if ((zl_X9_lastTwo_24 MNow u j7 3 0 (0 : Int64) v1 f1).1) ≤ x2 then zl_X9_lastTwo_7 MNow u n7 (j7 + 1) x2 ((zl_X9_lastTwo_24 MNow u j7 3 0 (0 : Int64) v1 f1).2.1) (nI j7) else zl_X9_lastTwo_7 MNow u n7 (j7 + 1) ((zl_X9_lastTwo_24 MNow u j7 3 0 (0 : Int64) v1 f1).1) ((zl_X9_lastTwo_24 MNow u j7 3 0 (0 : Int64) v1 f1).2.1) (nI j7))) else (if ((zl_X9_lastTwo_24 MNow u j7 3 0 (0 : Int64) v1 f1).1) ≤ x2 then zl_X9_lastTwo_7 MNow u n7 (j7 + 1) x2 ((zl_X9_lastTwo_24 MNow u j7 3 0 (0 : Int64) v1 f1).2.1) ((zl_X9_lastTwo_24 MNow u j7 3 0 (0 : Int64) v1 f1).2.2) else zl_X9_lastTwo_7 MNow u n7 (j7 + 1) ((zl_X9_lastTwo_24 MNow u j7 3 0 (0 : Int64) v1 f1).1) ((zl_X9_lastTwo_24 MNow u j7 3 0 (0 : Int64) v1 f1).2.1) ((zl_X9_lastTwo_24 MNow u j7 3 0 (0 : Int64) v1 f1).2.2))) := rfl
def zf_X9_lastTwo (MNow : Nat → Int64) (MLev : Nat → Int64) (MFst : Int32) (u : Nat) : Int64 × (Nat → Int64) × Int32 := (((zl_X9_lastTwo_7 MNow u (zc (MNow 43)) 0 (-1 : Int64) MLev MFst).1), ((zl_X9_lastTwo_7 MNow u (zc (MNow 43)) 0 (-1 : Int64) MLev MFst).2.1), ((zl_X9_lastTwo_7 MNow u (zc (MNow 43)) 0 (-1 : Int64) MLev MFst).2.2))
theorem zf_X9_lastTwo_e (MNow : Nat → Int64) (MLev : Nat → Int64) (MFst : Int32) (u : Nat) : zf_X9_lastTwo MNow MLev MFst u = (((zl_X9_lastTwo_7 MNow u (zc (MNow 43)) 0 (-1 : Int64) MLev MFst).1), ((zl_X9_lastTwo_7 MNow u (zc (MNow 43)) 0 (-1 : Int64) MLev MFst).2.1), ((zl_X9_lastTwo_7 MNow u (zc (MNow 43)) 0 (-1 : Int64) MLev MFst).2.2)) := rfl
set_option maxHeartbeats 4000000 in
set_option maxRecDepth 100000 in
theorem zc_X9_lastTwo (l : Launch) (g : zG) (B : Nat) (md : Nat → Nat) (MNow : Nat → Int64) (MPast : Nat → Int64) (MSav : Nat) (MRef : Int32) (MThen : Nat → Int64) (MLev : Nat → Int64) (MFst : Int32) (MWay : Nat → Int64) (MMost : Nat → Int32) (MHash : Int64) (u : Nat) (hN : zNow MNow) (hu : u ≤ 1) : zMet l g B yX9_lastTwo cX9_lastTwo 8 (some .long) 4 180 0 0 [.ref (md 0), .int (nI u)] [wMod g md MNow MPast MSav MRef MThen MLev MFst MWay MMost MHash] (zDet (some (.long ((zf_X9_lastTwo MNow MLev MFst u).1))) [wMod g md MNow MPast MSav MRef MThen ((zf_X9_lastTwo MNow MLev MFst u).2.1) ((zf_X9_lastTwo MNow MLev MFst u).2.2) MWay MMost MHash]) := by
  refine z_in (plainFor_of_name (by decide)) (Nat.le_of_ble_eq_true rfl) (fun p e R s m args below meth c A Q hRf hRl hRc hRs X Z hnm E ls hl => ?_)
  have hx := X.1
  have hb := X.2.1
  have hown := X.2.2.2.1
  have hts := X.2.2.2.2.1
  have hl : lv_has ls 8 [(0, .ref (md 0)), (1, .int (nI u))] := hl
  have hN2 := hN; obtain ⟨he9, hb9, he34, hb34, he43, hb43, he284, hb284, he301, hb301⟩ := hN2
  refine lv_ldc2 (v := (-1 : Int64)) hx hb hown (hts _ wL_X9_148) dX9_lastTwo_0 ?_
  refine lv_lstore_n (lv' := [(2, .long (-1 : Int64)), (0, .ref (md 0)), (1, .int (nI u))]) hx hb dX9_lastTwo_3 rfl hl (by decide) rfl (fun ls hl => ?_)
  refine lv_iconst (v := (0 : Int32)) hx hb dX9_lastTwo_4 (by decide) ?_
  refine lv_istore (lv' := [(4, .int (0 : Int32)), (2, .long (-1 : Int64)), (0, .ref (md 0)), (1, .int (nI u))]) hx hb dX9_lastTwo_5 hl (by decide) rfl (fun ls hl => ?_)
  have loop_7 : ∀ (n7 j7 : Nat) (x2 : Int64) (v1 : Nat → Int64) (f1 : Int32), j7 + n7 = (zc (MNow 43)) → zl_X9_lastTwo_7 MNow u n7 j7 x2 v1 f1 = (zl_X9_lastTwo_7 MNow u (zc (MNow 43)) 0 (-1 : Int64) MLev MFst) → ∀ (H : Heap) (locs : List Loc), zM g B A s [wMod g md MNow MPast MSav MRef MThen v1 f1 MWay MMost MHash] H locs → ∀ ls : Array Slot, lv_has ls 8 [(4, .int (nI j7)), (2, .long x2), (0, .ref (md 0)), (1, .int (nI u))] → W p l e R s m args below meth c H locs 0 0 Q (F0 m 7 ls []) := by
    intro n7
    induction n7 with
    | zero =>
      intro j7 x2 v1 f1 hin7 hR7 H locs Z ls hl
      have e_x2 : (zl_X9_lastTwo_7 MNow u (zc (MNow 43)) 0 (-1 : Int64) MLev MFst).1 = x2 := (by rw [← hR7]; rfl)
      have e_v1 : (zl_X9_lastTwo_7 MNow u (zc (MNow 43)) 0 (-1 : Int64) MLev MFst).2.1 = v1 := (by rw [← hR7]; rfl)
      have e_f1 : (zl_X9_lastTwo_7 MNow u (zc (MNow 43)) 0 (-1 : Int64) MLev MFst).2.2 = f1 := (by rw [← hR7]; rfl)
      subst e_x2
      subst e_v1
      subst e_f1
      refine lv_iload hx hb dX9_lastTwo_7 (lv_at hl 0 rfl) ?_
      refine lv_aload_n hx hb dX9_lastTwo_9 rfl (lv_at hl 2 rfl) ?_
      refine lv_bipush (v := (43 : Int32)) hx hb dX9_lastTwo_10 (by decide) ?_
      refine z_callV (mc := 0) (ms := 0) (As := [.int (43 : Int32)]) (rest := [.int (nI j7)]) (st2 := [.int (nI (zc (MNow 43))), .int (nI j7)]) (cs2 := [wMod g md MNow MPast MSav MRef MThen ((zl_X9_lastTwo_7 MNow u (zc (MNow 43)) 0 (-1 : Int64) MLev MFst).2.1) ((zl_X9_lastTwo_7 MNow u (zc (MNow 43)) 0 (-1 : Int64) MLev MFst).2.2) MWay MMost MHash]) X Z [0] [] [0] 0 7 (zc_X9_many l g B md MNow MPast MSav MRef MThen ((zl_X9_lastTwo_7 MNow u (zc (MNow 43)) 0 (-1 : Int64) MLev MFst).2.1) ((zl_X9_lastTwo_7 MNow u (zc (MNow 43)) 0 (-1 : Int64) MLev MFst).2.2) MWay MMost MHash 43 (zc (MNow 43)) (by first | assumption | omega | decide) (by first | assumption | omega | decide)) wM_X9_66 wS_X9_many wV_X9_many wK_X9_many wZ_X9 1 1 1 rfl (by decide +kernel) rfl (by decide) rfl rfl rfl (by decide) rfl rfl (rfl : zCl[7]? = some (RX9, TX9, 10)) hl.1 rfl rfl (by rw [hRf, hRl]; exact ⟨Nat.le_of_ble_eq_true rfl, Nat.le_of_ble_eq_true rfl⟩) (Nat.le_of_ble_eq_true rfl) ⟨Nat.zero_le _, Nat.zero_le _⟩ dX9_lastTwo_12 (fun H locs Z => ?_)
      refine z_icmp_ge (a := j7) (b := (zc (MNow 43))) (tgt := 101) X rfl rfl (by omega) (by omega) dX9_lastTwo_15 (by decide) (fun c_1 => ?_) (fun c_1 => ?_)
      · refine lv_lload_n hx hb dX9_lastTwo_101 rfl (lv_at hl 1 rfl) ?_
        exact z_rl (v := ((zl_X9_lastTwo_7 MNow u (zc (MNow 43)) 0 (-1 : Int64) MLev MFst).1)) E Z (by rw [zf_X9_lastTwo_e]; dsimp only; exact ⟨rfl, rfl⟩) dX9_lastTwo_102 (Nat.zero_le _) (Nat.zero_le _)
      · (exfalso; omega)
    | succ n7 ih7 =>
      intro j7 x2 v1 f1 hin7 hR7 H locs Z ls hl
      refine lv_iload hx hb dX9_lastTwo_7 (lv_at hl 0 rfl) ?_
      refine lv_aload_n hx hb dX9_lastTwo_9 rfl (lv_at hl 2 rfl) ?_
      refine lv_bipush (v := (43 : Int32)) hx hb dX9_lastTwo_10 (by decide) ?_
      refine z_callV (mc := 0) (ms := 0) (As := [.int (43 : Int32)]) (rest := [.int (nI j7)]) (st2 := [.int (nI (zc (MNow 43))), .int (nI j7)]) (cs2 := [wMod g md MNow MPast MSav MRef MThen v1 f1 MWay MMost MHash]) X Z [0] [] [0] 0 7 (zc_X9_many l g B md MNow MPast MSav MRef MThen v1 f1 MWay MMost MHash 43 (zc (MNow 43)) (by first | assumption | omega | decide) (by first | assumption | omega | decide)) wM_X9_66 wS_X9_many wV_X9_many wK_X9_many wZ_X9 1 1 1 rfl (by decide +kernel) rfl (by decide) rfl rfl rfl (by decide) rfl rfl (rfl : zCl[7]? = some (RX9, TX9, 10)) hl.1 rfl rfl (by rw [hRf, hRl]; exact ⟨Nat.le_of_ble_eq_true rfl, Nat.le_of_ble_eq_true rfl⟩) (Nat.le_of_ble_eq_true rfl) ⟨Nat.zero_le _, Nat.zero_le _⟩ dX9_lastTwo_12 (fun H locs Z => ?_)
      refine z_icmp_ge (a := j7) (b := (zc (MNow 43))) (tgt := 101) X rfl rfl (by omega) (by omega) dX9_lastTwo_15 (by decide) (fun c_2 => ?_) (fun c_2 => ?_)
      · (exfalso; omega)
      · refine lv_lconst (v := (0 : Int64)) hx hb dX9_lastTwo_18 (by decide) ?_
        refine lv_lstore (lv' := [(5, .long (0 : Int64)), (4, .int (nI j7)), (2, .long x2), (0, .ref (md 0)), (1, .int (nI u))]) hx hb dX9_lastTwo_19 hl (by decide) rfl (fun ls hl => ?_)
        refine lv_iconst (v := (0 : Int32)) hx hb dX9_lastTwo_21 (by decide) ?_
        refine lv_istore (lv' := [(7, .int (0 : Int32)), (5, .long (0 : Int64)), (4, .int (nI j7)), (2, .long x2), (0, .ref (md 0)), (1, .int (nI u))]) hx hb dX9_lastTwo_22 hl (by decide) rfl (fun ls hl => ?_)
        have loop_24 : ∀ (n24 j24 : Nat) (y5 : Int64) (v2 : Nat → Int64) (f2 : Int32), j24 + n24 = 3 → zl_X9_lastTwo_24 MNow u j7 n24 j24 y5 v2 f2 = (zl_X9_lastTwo_24 MNow u j7 3 0 (0 : Int64) v1 f1) → ∀ (H : Heap) (locs : List Loc), zM g B A s [wMod g md MNow MPast MSav MRef MThen v2 f2 MWay MMost MHash] H locs → ∀ ls : Array Slot, lv_has ls 8 [(7, .int (nI j24)), (5, .long y5), (4, .int (nI j7)), (2, .long x2), (0, .ref (md 0)), (1, .int (nI u))] → W p l e R s m args below meth c H locs 0 0 Q (F0 m 24 ls []) := by
          intro n24
          induction n24 with
          | zero =>
            intro j24 y5 v2 f2 hin24 hR24 H locs Z ls hl
            have e_y5 : (zl_X9_lastTwo_24 MNow u j7 3 0 (0 : Int64) v1 f1).1 = y5 := (by rw [← hR24]; rfl)
            have e_v2 : (zl_X9_lastTwo_24 MNow u j7 3 0 (0 : Int64) v1 f1).2.1 = v2 := (by rw [← hR24]; rfl)
            have e_f2 : (zl_X9_lastTwo_24 MNow u j7 3 0 (0 : Int64) v1 f1).2.2 = f2 := (by rw [← hR24]; rfl)
            subst e_y5
            subst e_v2
            subst e_f2
            refine lv_iload hx hb dX9_lastTwo_24 (lv_at hl 0 rfl) ?_
            refine lv_iconst (v := (3 : Int32)) hx hb dX9_lastTwo_26 (by decide) ?_
            refine z_icmp_ge (a := j24) (b := 3) (tgt := 57) X rfl rfl (by omega) (by omega) dX9_lastTwo_27 (by decide) (fun c_3 => ?_) (fun c_3 => ?_)
            · refine lv_aload_n hx hb dX9_lastTwo_57 rfl (lv_at hl 4 rfl) ?_
              refine lv_iload_n hx hb dX9_lastTwo_58 rfl (lv_at hl 5 rfl) ?_
              refine z_ifneN (a := u) (tgt := 74) X rfl (by omega) dX9_lastTwo_59 (by decide) (fun c_4 => ?_) (fun c_4 => ?_)
              · refine lv_aload_n hx hb dX9_lastTwo_74 rfl (lv_at hl 4 rfl) ?_
                refine z_get X Z 0 rfl (rfl : zCl[7]? = some (RX9, TX9, 10)) zU_X9 6 (by decide) wF_X9_157 rfl rfl dX9_lastTwo_75 ?_
                refine z_put (cs2 := [wMod g md MNow MPast MSav MRef MThen ((zl_X9_lastTwo_24 MNow u j7 3 0 (0 : Int64) v1 f1).2.1) ((zl_X9_lastTwo_24 MNow u j7 3 0 (0 : Int64) v1 f1).2.2) MWay MMost MHash]) (v := .int ((zl_X9_lastTwo_24 MNow u j7 3 0 (0 : Int64) v1 f1).2.2)) X Z 0 rfl (rfl : zCl[7]? = some (RX9, TX9, 10)) zU_X9 tyX9 tyX9_ok nmX9 6 (by decide) wF_X9_157 rfl rfl rfl rfl (Nat.le_of_ble_eq_true rfl) rfl dX9_lastTwo_78 (fun H locs Z => ?_)
                refine lv_lload hx hb dX9_lastTwo_81 (lv_at hl 1 rfl) ?_
                refine lv_lload_n hx hb dX9_lastTwo_83 rfl (lv_at hl 3 rfl) ?_
                refine z_lc_le (tgt := 93) X dX9_lastTwo_84 dX9_lastTwo_85 (by decide) (fun c_5 => ?_) (fun c_5 => ?_)
                · refine lv_lload_n hx hb dX9_lastTwo_93 rfl (lv_at hl 3 rfl) ?_
                  refine lv_lstore_n (lv' := [(2, .long x2), (7, .int (nI j24)), (5, .long ((zl_X9_lastTwo_24 MNow u j7 3 0 (0 : Int64) v1 f1).1)), (4, .int (nI j7)), (0, .ref (md 0)), (1, .int (nI u))]) hx hb dX9_lastTwo_94 rfl hl (by decide) rfl (fun ls hl => ?_)
                  refine z_iinc (b := (j7 + 1)) (st := 1) (lv' := [(4, .int (nI (j7 + 1))), (2, .long x2), (7, .int (nI j24)), (5, .long ((zl_X9_lastTwo_24 MNow u j7 3 0 (0 : Int64) v1 f1).1)), (0, .ref (md 0)), (1, .int (nI u))]) X dX9_lastTwo_95 hl (k := 3) rfl rfl (by decide) (by omega) (by decide) rfl (fun ls hl => ?_)
                  refine lv_goto (tgt := 7) hx hb dX9_lastTwo_98 (by decide) ?_
                  exact ih7 (j7 + 1) x2 ((zl_X9_lastTwo_24 MNow u j7 3 0 (0 : Int64) v1 f1).2.1) ((zl_X9_lastTwo_24 MNow u j7 3 0 (0 : Int64) v1 f1).2.2) (by omega) (by have h9 := hR7; rw [zl_X9_lastTwo_7_s, if_neg c_4, if_pos c_5] at h9; exact h9) _ _ Z ls (lv_sub hl [0, 1, 4, 5] rfl)
                · refine lv_lload hx hb dX9_lastTwo_88 (lv_at hl 1 rfl) ?_
                  refine lv_goto (tgt := 94) hx hb dX9_lastTwo_90 (by decide) ?_
                  refine lv_lstore_n (lv' := [(2, .long ((zl_X9_lastTwo_24 MNow u j7 3 0 (0 : Int64) v1 f1).1)), (7, .int (nI j24)), (5, .long ((zl_X9_lastTwo_24 MNow u j7 3 0 (0 : Int64) v1 f1).1)), (4, .int (nI j7)), (0, .ref (md 0)), (1, .int (nI u))]) hx hb dX9_lastTwo_94 rfl hl (by decide) rfl (fun ls hl => ?_)
                  refine z_iinc (b := (j7 + 1)) (st := 1) (lv' := [(4, .int (nI (j7 + 1))), (2, .long ((zl_X9_lastTwo_24 MNow u j7 3 0 (0 : Int64) v1 f1).1)), (7, .int (nI j24)), (5, .long ((zl_X9_lastTwo_24 MNow u j7 3 0 (0 : Int64) v1 f1).1)), (0, .ref (md 0)), (1, .int (nI u))]) X dX9_lastTwo_95 hl (k := 3) rfl rfl (by decide) (by omega) (by decide) rfl (fun ls hl => ?_)
                  refine lv_goto (tgt := 7) hx hb dX9_lastTwo_98 (by decide) ?_
                  exact ih7 (j7 + 1) ((zl_X9_lastTwo_24 MNow u j7 3 0 (0 : Int64) v1 f1).1) ((zl_X9_lastTwo_24 MNow u j7 3 0 (0 : Int64) v1 f1).2.1) ((zl_X9_lastTwo_24 MNow u j7 3 0 (0 : Int64) v1 f1).2.2) (by omega) (by have h9 := hR7; rw [zl_X9_lastTwo_7_s, if_neg c_4, if_neg c_5] at h9; exact h9) _ _ Z ls (lv_sub hl [0, 1, 4, 5] rfl)
              · refine lv_lload hx hb dX9_lastTwo_62 (lv_at hl 1 rfl) ?_
                refine lv_lload_n hx hb dX9_lastTwo_64 rfl (lv_at hl 3 rfl) ?_
                refine z_lc_le (tgt := 74) X dX9_lastTwo_65 dX9_lastTwo_66 (by decide) (fun c_6 => ?_) (fun c_6 => ?_)
                · refine lv_aload_n hx hb dX9_lastTwo_74 rfl (lv_at hl 4 rfl) ?_
                  refine z_get X Z 0 rfl (rfl : zCl[7]? = some (RX9, TX9, 10)) zU_X9 6 (by decide) wF_X9_157 rfl rfl dX9_lastTwo_75 ?_
                  refine z_put (cs2 := [wMod g md MNow MPast MSav MRef MThen ((zl_X9_lastTwo_24 MNow u j7 3 0 (0 : Int64) v1 f1).2.1) ((zl_X9_lastTwo_24 MNow u j7 3 0 (0 : Int64) v1 f1).2.2) MWay MMost MHash]) (v := .int ((zl_X9_lastTwo_24 MNow u j7 3 0 (0 : Int64) v1 f1).2.2)) X Z 0 rfl (rfl : zCl[7]? = some (RX9, TX9, 10)) zU_X9 tyX9 tyX9_ok nmX9 6 (by decide) wF_X9_157 rfl rfl rfl rfl (Nat.le_of_ble_eq_true rfl) rfl dX9_lastTwo_78 (fun H locs Z => ?_)
                  refine lv_lload hx hb dX9_lastTwo_81 (lv_at hl 1 rfl) ?_
                  refine lv_lload_n hx hb dX9_lastTwo_83 rfl (lv_at hl 3 rfl) ?_
                  refine z_lc_le (tgt := 93) X dX9_lastTwo_84 dX9_lastTwo_85 (by decide) (fun c_7 => ?_) (fun c_7 => ?_)
                  · refine lv_lload_n hx hb dX9_lastTwo_93 rfl (lv_at hl 3 rfl) ?_
                    refine lv_lstore_n (lv' := [(2, .long x2), (7, .int (nI j24)), (5, .long ((zl_X9_lastTwo_24 MNow u j7 3 0 (0 : Int64) v1 f1).1)), (4, .int (nI j7)), (0, .ref (md 0)), (1, .int (nI u))]) hx hb dX9_lastTwo_94 rfl hl (by decide) rfl (fun ls hl => ?_)
                    refine z_iinc (b := (j7 + 1)) (st := 1) (lv' := [(4, .int (nI (j7 + 1))), (2, .long x2), (7, .int (nI j24)), (5, .long ((zl_X9_lastTwo_24 MNow u j7 3 0 (0 : Int64) v1 f1).1)), (0, .ref (md 0)), (1, .int (nI u))]) X dX9_lastTwo_95 hl (k := 3) rfl rfl (by decide) (by omega) (by decide) rfl (fun ls hl => ?_)
                    refine lv_goto (tgt := 7) hx hb dX9_lastTwo_98 (by decide) ?_
                    exact ih7 (j7 + 1) x2 ((zl_X9_lastTwo_24 MNow u j7 3 0 (0 : Int64) v1 f1).2.1) ((zl_X9_lastTwo_24 MNow u j7 3 0 (0 : Int64) v1 f1).2.2) (by omega) (by have h9 := hR7; rw [zl_X9_lastTwo_7_s, if_pos c_4, if_pos c_6, if_pos c_7] at h9; exact h9) _ _ Z ls (lv_sub hl [0, 1, 4, 5] rfl)
                  · refine lv_lload hx hb dX9_lastTwo_88 (lv_at hl 1 rfl) ?_
                    refine lv_goto (tgt := 94) hx hb dX9_lastTwo_90 (by decide) ?_
                    refine lv_lstore_n (lv' := [(2, .long ((zl_X9_lastTwo_24 MNow u j7 3 0 (0 : Int64) v1 f1).1)), (7, .int (nI j24)), (5, .long ((zl_X9_lastTwo_24 MNow u j7 3 0 (0 : Int64) v1 f1).1)), (4, .int (nI j7)), (0, .ref (md 0)), (1, .int (nI u))]) hx hb dX9_lastTwo_94 rfl hl (by decide) rfl (fun ls hl => ?_)
                    refine z_iinc (b := (j7 + 1)) (st := 1) (lv' := [(4, .int (nI (j7 + 1))), (2, .long ((zl_X9_lastTwo_24 MNow u j7 3 0 (0 : Int64) v1 f1).1)), (7, .int (nI j24)), (5, .long ((zl_X9_lastTwo_24 MNow u j7 3 0 (0 : Int64) v1 f1).1)), (0, .ref (md 0)), (1, .int (nI u))]) X dX9_lastTwo_95 hl (k := 3) rfl rfl (by decide) (by omega) (by decide) rfl (fun ls hl => ?_)
                    refine lv_goto (tgt := 7) hx hb dX9_lastTwo_98 (by decide) ?_
                    exact ih7 (j7 + 1) ((zl_X9_lastTwo_24 MNow u j7 3 0 (0 : Int64) v1 f1).1) ((zl_X9_lastTwo_24 MNow u j7 3 0 (0 : Int64) v1 f1).2.1) ((zl_X9_lastTwo_24 MNow u j7 3 0 (0 : Int64) v1 f1).2.2) (by omega) (by have h9 := hR7; rw [zl_X9_lastTwo_7_s, if_pos c_4, if_pos c_6, if_neg c_7] at h9; exact h9) _ _ Z ls (lv_sub hl [0, 1, 4, 5] rfl)
                · refine lv_iload hx hb dX9_lastTwo_69 (lv_at hl 2 rfl) ?_
                  refine lv_goto (tgt := 78) hx hb dX9_lastTwo_71 (by decide) ?_
                  refine z_put (cs2 := [wMod g md MNow MPast MSav MRef MThen ((zl_X9_lastTwo_24 MNow u j7 3 0 (0 : Int64) v1 f1).2.1) (nI j7) MWay MMost MHash]) (v := .int (nI j7)) X Z 0 rfl (rfl : zCl[7]? = some (RX9, TX9, 10)) zU_X9 tyX9 tyX9_ok nmX9 6 (by decide) wF_X9_157 rfl rfl rfl rfl (Nat.le_of_ble_eq_true rfl) rfl dX9_lastTwo_78 (fun H locs Z => ?_)
                  refine lv_lload hx hb dX9_lastTwo_81 (lv_at hl 1 rfl) ?_
                  refine lv_lload_n hx hb dX9_lastTwo_83 rfl (lv_at hl 3 rfl) ?_
                  refine z_lc_le (tgt := 93) X dX9_lastTwo_84 dX9_lastTwo_85 (by decide) (fun c_8 => ?_) (fun c_8 => ?_)
                  · refine lv_lload_n hx hb dX9_lastTwo_93 rfl (lv_at hl 3 rfl) ?_
                    refine lv_lstore_n (lv' := [(2, .long x2), (7, .int (nI j24)), (5, .long ((zl_X9_lastTwo_24 MNow u j7 3 0 (0 : Int64) v1 f1).1)), (4, .int (nI j7)), (0, .ref (md 0)), (1, .int (nI u))]) hx hb dX9_lastTwo_94 rfl hl (by decide) rfl (fun ls hl => ?_)
                    refine z_iinc (b := (j7 + 1)) (st := 1) (lv' := [(4, .int (nI (j7 + 1))), (2, .long x2), (7, .int (nI j24)), (5, .long ((zl_X9_lastTwo_24 MNow u j7 3 0 (0 : Int64) v1 f1).1)), (0, .ref (md 0)), (1, .int (nI u))]) X dX9_lastTwo_95 hl (k := 3) rfl rfl (by decide) (by omega) (by decide) rfl (fun ls hl => ?_)
                    refine lv_goto (tgt := 7) hx hb dX9_lastTwo_98 (by decide) ?_
                    exact ih7 (j7 + 1) x2 ((zl_X9_lastTwo_24 MNow u j7 3 0 (0 : Int64) v1 f1).2.1) (nI j7) (by omega) (by have h9 := hR7; rw [zl_X9_lastTwo_7_s, if_pos c_4, if_neg c_6, if_pos c_8] at h9; exact h9) _ _ Z ls (lv_sub hl [0, 1, 4, 5] rfl)
                  · refine lv_lload hx hb dX9_lastTwo_88 (lv_at hl 1 rfl) ?_
                    refine lv_goto (tgt := 94) hx hb dX9_lastTwo_90 (by decide) ?_
                    refine lv_lstore_n (lv' := [(2, .long ((zl_X9_lastTwo_24 MNow u j7 3 0 (0 : Int64) v1 f1).1)), (7, .int (nI j24)), (5, .long ((zl_X9_lastTwo_24 MNow u j7 3 0 (0 : Int64) v1 f1).1)), (4, .int (nI j7)), (0, .ref (md 0)), (1, .int (nI u))]) hx hb dX9_lastTwo_94 rfl hl (by decide) rfl (fun ls hl => ?_)
                    refine z_iinc (b := (j7 + 1)) (st := 1) (lv' := [(4, .int (nI (j7 + 1))), (2, .long ((zl_X9_lastTwo_24 MNow u j7 3 0 (0 : Int64) v1 f1).1)), (7, .int (nI j24)), (5, .long ((zl_X9_lastTwo_24 MNow u j7 3 0 (0 : Int64) v1 f1).1)), (0, .ref (md 0)), (1, .int (nI u))]) X dX9_lastTwo_95 hl (k := 3) rfl rfl (by decide) (by omega) (by decide) rfl (fun ls hl => ?_)
                    refine lv_goto (tgt := 7) hx hb dX9_lastTwo_98 (by decide) ?_
                    exact ih7 (j7 + 1) ((zl_X9_lastTwo_24 MNow u j7 3 0 (0 : Int64) v1 f1).1) ((zl_X9_lastTwo_24 MNow u j7 3 0 (0 : Int64) v1 f1).2.1) (nI j7) (by omega) (by have h9 := hR7; rw [zl_X9_lastTwo_7_s, if_pos c_4, if_neg c_6, if_neg c_8] at h9; exact h9) _ _ Z ls (lv_sub hl [0, 1, 4, 5] rfl)
            · (exfalso; omega)
          | succ n24 ih24 =>
            intro j24 y5 v2 f2 hin24 hR24 H locs Z ls hl
            refine lv_iload hx hb dX9_lastTwo_24 (lv_at hl 0 rfl) ?_
            refine lv_iconst (v := (3 : Int32)) hx hb dX9_lastTwo_26 (by decide) ?_
            refine z_icmp_ge (a := j24) (b := 3) (tgt := 57) X rfl rfl (by omega) (by omega) dX9_lastTwo_27 (by decide) (fun c_9 => ?_) (fun c_9 => ?_)
            · (exfalso; omega)
            · refine lv_aload_n hx hb dX9_lastTwo_30 rfl (lv_at hl 4 rfl) ?_
              refine lv_iload_n hx hb dX9_lastTwo_31 rfl (lv_at hl 5 rfl) ?_
              refine lv_iload hx hb dX9_lastTwo_32 (lv_at hl 2 rfl) ?_
              refine lv_iload hx hb dX9_lastTwo_34 (lv_at hl 0 rfl) ?_
              refine z_callV (mc := 0) (ms := 0) (As := [.int (nI u), .int (nI j7), .int (nI j24)]) (rest := []) (st2 := []) (cs2 := [wMod g md MNow MPast MSav MRef MThen (zf_X9_goes MNow v2 u j7 j24) f2 MWay MMost MHash]) X Z [0] [] [0] 0 7 (zc_X9_goes l g B md MNow MPast MSav MRef MThen v2 f2 MWay MMost MHash u j7 j24 (by first | assumption | omega | decide) (by first | assumption | omega | decide) (by first | assumption | omega | decide)) wM_X9_150 wS_X9_goes wV_X9_goes wK_X9_goes wZ_X9 3 1 1 rfl (by decide +kernel) rfl (by decide) rfl rfl rfl (by decide) rfl rfl (rfl : zCl[7]? = some (RX9, TX9, 10)) hl.1 rfl rfl (by rw [hRf, hRl]; exact ⟨Nat.le_of_ble_eq_true rfl, Nat.le_of_ble_eq_true rfl⟩) (Nat.le_of_ble_eq_true rfl) ⟨Nat.zero_le _, Nat.zero_le _⟩ dX9_lastTwo_36 (fun H locs Z => ?_)
              refine lv_lload hx hb dX9_lastTwo_39 (lv_at hl 1 rfl) ?_
              refine lv_aload_n hx hb dX9_lastTwo_41 rfl (lv_at hl 4 rfl) ?_
              refine lv_iload_n hx hb dX9_lastTwo_42 rfl (lv_at hl 5 rfl) ?_
              refine lv_iconst (v := (1 : Int32)) hx hb dX9_lastTwo_43 (by decide) ?_
              refine z_iadd (a := u) (b := 1) X rfl rfl dX9_lastTwo_44 ?_
              refine z_callV (mc := 0) (ms := 0) (As := [.int (nI (u + 1))]) (rest := [.long y5]) (st2 := [.long ((zf_X9_lastOne MNow (zf_X9_goes MNow v2 u j7 j24) f2 (u + 1)).1), .long y5]) (cs2 := [wMod g md MNow MPast MSav MRef MThen ((zf_X9_lastOne MNow (zf_X9_goes MNow v2 u j7 j24) f2 (u + 1)).2.1) ((zf_X9_lastOne MNow (zf_X9_goes MNow v2 u j7 j24) f2 (u + 1)).2.2) MWay MMost MHash]) X Z [0] [] [0] 0 7 (zc_X9_lastOne l g B md MNow MPast MSav MRef MThen (zf_X9_goes MNow v2 u j7 j24) f2 MWay MMost MHash (u + 1) (by first | assumption | omega | decide) (by first | assumption | omega | decide)) wM_X9_160 wS_X9_lastOne wV_X9_lastOne wK_X9_lastOne wZ_X9 1 1 1 rfl (by decide +kernel) rfl (by decide) rfl rfl rfl (by decide) rfl rfl (rfl : zCl[7]? = some (RX9, TX9, 10)) hl.1 rfl rfl (by rw [hRf, hRl]; exact ⟨Nat.le_of_ble_eq_true rfl, Nat.le_of_ble_eq_true rfl⟩) (Nat.le_of_ble_eq_true rfl) ⟨Nat.zero_le _, Nat.zero_le _⟩ dX9_lastTwo_45 (fun H locs Z => ?_)
              refine lv_ladd hx hb dX9_lastTwo_48 ?_
              refine lv_lstore (lv' := [(5, .long (y5 + ((zf_X9_lastOne MNow (zf_X9_goes MNow v2 u j7 j24) f2 (u + 1)).1))), (7, .int (nI j24)), (4, .int (nI j7)), (2, .long x2), (0, .ref (md 0)), (1, .int (nI u))]) hx hb dX9_lastTwo_49 hl (by decide) rfl (fun ls hl => ?_)
              refine z_iinc (b := (j24 + 1)) (st := 1) (lv' := [(7, .int (nI (j24 + 1))), (5, .long (y5 + ((zf_X9_lastOne MNow (zf_X9_goes MNow v2 u j7 j24) f2 (u + 1)).1))), (4, .int (nI j7)), (2, .long x2), (0, .ref (md 0)), (1, .int (nI u))]) X dX9_lastTwo_51 hl (k := 1) rfl rfl (by decide) (by omega) (by decide) rfl (fun ls hl => ?_)
              refine lv_goto (tgt := 24) hx hb dX9_lastTwo_54 (by decide) ?_
              exact ih24 (j24 + 1) (y5 + ((zf_X9_lastOne MNow (zf_X9_goes MNow v2 u j7 j24) f2 (u + 1)).1)) ((zf_X9_lastOne MNow (zf_X9_goes MNow v2 u j7 j24) f2 (u + 1)).2.1) ((zf_X9_lastOne MNow (zf_X9_goes MNow v2 u j7 j24) f2 (u + 1)).2.2) (by omega) (by have h9 := hR24; rw [zl_X9_lastTwo_24_s] at h9; exact h9) _ _ Z ls (lv_sub hl [0, 1, 2, 3, 4, 5] rfl)
        exact loop_24 3 0 (0 : Int64) v1 f1 (by omega) rfl _ _ Z ls (lv_sub hl [0, 1, 2, 3, 4, 5] rfl)
  exact loop_7 (zc (MNow 43)) 0 (-1 : Int64) MLev MFst (by omega) rfl _ _ Z ls (lv_sub hl [0, 1, 2, 3] rfl)
def zl_X9_allThree_22 (MNow : Nat → Int64) (j6 : Nat) : Nat → Nat → Int64 → (Nat → Int64) → Int32 → Int64 × (Nat → Int64) × Int32
  | 0, _, y5, v2, f2 => (y5, v2, f2)
  | n22 + 1, j22, y5, v2, f2 => zl_X9_allThree_22 MNow j6 n22 (j22 + 1) (y5 + ((zf_X9_lastTwo MNow (zf_X9_goes MNow v2 0 j6 j22) f2 1).1)) ((zf_X9_lastTwo MNow (zf_X9_goes MNow v2 0 j6 j22) f2 1).2.1) ((zf_X9_lastTwo MNow (zf_X9_goes MNow v2 0 j6 j22) f2 1).2.2)
theorem zl_X9_allThree_22_s (MNow : Nat → Int64) (j6 : Nat) (n22 : Nat) (j22 : Nat) (y5 : Int64) (v2 : Nat → Int64) (f2 : Int32) : zl_X9_allThree_22 MNow j6 (n22 + 1) j22 y5 v2 f2 = zl_X9_allThree_22 MNow j6 n22 (j22 + 1) (y5 + ((zf_X9_lastTwo MNow (zf_X9_goes MNow v2 0 j6 j22) f2 1).1)) ((zf_X9_lastTwo MNow (zf_X9_goes MNow v2 0 j6 j22) f2 1).2.1) ((zf_X9_lastTwo MNow (zf_X9_goes MNow v2 0 j6 j22) f2 1).2.2) := rfl
def zl_X9_allThree_6 (MNow : Nat → Int64) : Nat → Nat → Int64 → (Nat → Int64) → Int32 → Int64 × (Nat → Int64) × Int32
  | 0, _, x2, v1, f1 => (x2, v1, f1)
  | n6 + 1, j6, x2, v1, f1 => (if ((zl_X9_allThree_22 MNow j6 3 0 (0 : Int64) v1 f1).1) ≤ x2 then (if ((zl_X9_allThree_22 MNow j6 3 0 (0 : Int64) v1 f1).1) ≤ x2 then zl_X9_allThree_6 MNow n6 (j6 + 1) x2 ((zl_X9_allThree_22 MNow j6 3 0 (0 : Int64) v1 f1).2.1) ((zl_X9_allThree_22 MNow j6 3 0 (0 : Int64) v1 f1).2.2) else zl_X9_allThree_6 MNow n6 (j6 + 1) ((zl_X9_allThree_22 MNow j6 3 0 (0 : Int64) v1 f1).1) ((zl_X9_allThree_22 MNow j6 3 0 (0 : Int64) v1 f1).2.1) ((zl_X9_allThree_22 MNow j6 3 0 (0 : Int64) v1 f1).2.2)) else (if ((zl_X9_allThree_22 MNow j6 3 0 (0 : Int64) v1 f1).1) ≤ x2 then zl_X9_allThree_6 MNow n6 (j6 + 1) x2 ((zl_X9_allThree_22 MNow j6 3 0 (0 : Int64) v1 f1).2.1) (nI j6) else zl_X9_allThree_6 MNow n6 (j6 + 1) ((zl_X9_allThree_22 MNow j6 3 0 (0 : Int64) v1 f1).1) ((zl_X9_allThree_22 MNow j6 3 0 (0 : Int64) v1 f1).2.1) (nI j6)))
theorem zl_X9_allThree_6_s (MNow : Nat → Int64) (n6 : Nat) (j6 : Nat) (x2 : Int64) (v1 : Nat → Int64) (f1 : Int32) : zl_X9_allThree_6 MNow (n6 + 1) j6 x2 v1 f1 = (if ((zl_X9_allThree_22 MNow j6 3 0 (0 : Int64) v1 f1).1) ≤ x2 then (if ((zl_X9_allThree_22 MNow j6 3 0 (0 : Int64) v1 f1).1) ≤ x2 then zl_X9_allThree_6 MNow n6 (j6 + 1) x2 ((zl_X9_allThree_22 MNow j6 3 0 (0 : Int64) v1 f1).2.1) ((zl_X9_allThree_22 MNow j6 3 0 (0 : Int64) v1 f1).2.2) else zl_X9_allThree_6 MNow n6 (j6 + 1) ((zl_X9_allThree_22 MNow j6 3 0 (0 : Int64) v1 f1).1) ((zl_X9_allThree_22 MNow j6 3 0 (0 : Int64) v1 f1).2.1) ((zl_X9_allThree_22 MNow j6 3 0 (0 : Int64) v1 f1).2.2)) else (if ((zl_X9_allThree_22 MNow j6 3 0 (0 : Int64) v1 f1).1) ≤ x2 then zl_X9_allThree_6 MNow n6 (j6 + 1) x2 ((zl_X9_allThree_22 MNow j6 3 0 (0 : Int64) v1 f1).2.1) (nI j6) else zl_X9_allThree_6 MNow n6 (j6 + 1) ((zl_X9_allThree_22 MNow j6 3 0 (0 : Int64) v1 f1).1) ((zl_X9_allThree_22 MNow j6 3 0 (0 : Int64) v1 f1).2.1) (nI j6))) := rfl
def zf_X9_allThree (MNow : Nat → Int64) (MLev : Nat → Int64) (MFst : Int32) : Int64 × (Nat → Int64) × Int32 := (((zl_X9_allThree_6 MNow (zc (MNow 43)) 0 (-1 : Int64) MLev MFst).1), ((zl_X9_allThree_6 MNow (zc (MNow 43)) 0 (-1 : Int64) MLev MFst).2.1), ((zl_X9_allThree_6 MNow (zc (MNow 43)) 0 (-1 : Int64) MLev MFst).2.2))
theorem zf_X9_allThree_e (MNow : Nat → Int64) (MLev : Nat → Int64) (MFst : Int32) : zf_X9_allThree MNow MLev MFst = (((zl_X9_allThree_6 MNow (zc (MNow 43)) 0 (-1 : Int64) MLev MFst).1), ((zl_X9_allThree_6 MNow (zc (MNow 43)) 0 (-1 : Int64) MLev MFst).2.1), ((zl_X9_allThree_6 MNow (zc (MNow 43)) 0 (-1 : Int64) MLev MFst).2.2)) := rfl
set_option maxHeartbeats 4000000 in
set_option maxRecDepth 100000 in
theorem zc_X9_allThree (l : Launch) (g : zG) (B : Nat) (md : Nat → Nat) (MNow : Nat → Int64) (MPast : Nat → Int64) (MSav : Nat) (MRef : Int32) (MThen : Nat → Int64) (MLev : Nat → Int64) (MFst : Int32) (MWay : Nat → Int64) (MMost : Nat → Int32) (MHash : Int64) (hN : zNow MNow) : zMet l g B yX9_allThree cX9_allThree 7 (some .long) 5 220 0 0 [.ref (md 0)] [wMod g md MNow MPast MSav MRef MThen MLev MFst MWay MMost MHash] (zDet (some (.long ((zf_X9_allThree MNow MLev MFst).1))) [wMod g md MNow MPast MSav MRef MThen ((zf_X9_allThree MNow MLev MFst).2.1) ((zf_X9_allThree MNow MLev MFst).2.2) MWay MMost MHash]) := by
  refine z_in (plainFor_of_name (by decide)) (Nat.le_of_ble_eq_true rfl) (fun p e R s m args below meth c A Q hRf hRl hRc hRs X Z hnm E ls hl => ?_)
  have hx := X.1
  have hb := X.2.1
  have hown := X.2.2.2.1
  have hts := X.2.2.2.2.1
  have hl : lv_has ls 7 [(0, .ref (md 0))] := hl
  have hN2 := hN; obtain ⟨he9, hb9, he34, hb34, he43, hb43, he284, hb284, he301, hb301⟩ := hN2
  refine lv_ldc2 (v := (-1 : Int64)) hx hb hown (hts _ wL_X9_148) dX9_allThree_0 ?_
  refine lv_lstore_n (lv' := [(1, .long (-1 : Int64)), (0, .ref (md 0))]) hx hb dX9_allThree_3 rfl hl (by decide) rfl (fun ls hl => ?_)
  refine lv_iconst (v := (0 : Int32)) hx hb dX9_allThree_4 (by decide) ?_
  refine lv_istore_n (lv' := [(3, .int (0 : Int32)), (1, .long (-1 : Int64)), (0, .ref (md 0))]) hx hb dX9_allThree_5 rfl hl (by decide) rfl (fun ls hl => ?_)
  have loop_6 : ∀ (n6 j6 : Nat) (x2 : Int64) (v1 : Nat → Int64) (f1 : Int32), j6 + n6 = (zc (MNow 43)) → zl_X9_allThree_6 MNow n6 j6 x2 v1 f1 = (zl_X9_allThree_6 MNow (zc (MNow 43)) 0 (-1 : Int64) MLev MFst) → ∀ (H : Heap) (locs : List Loc), zM g B A s [wMod g md MNow MPast MSav MRef MThen v1 f1 MWay MMost MHash] H locs → ∀ ls : Array Slot, lv_has ls 7 [(3, .int (nI j6)), (1, .long x2), (0, .ref (md 0))] → W p l e R s m args below meth c H locs 0 0 Q (F0 m 6 ls []) := by
    intro n6
    induction n6 with
    | zero =>
      intro j6 x2 v1 f1 hin6 hR6 H locs Z ls hl
      have e_x2 : (zl_X9_allThree_6 MNow (zc (MNow 43)) 0 (-1 : Int64) MLev MFst).1 = x2 := (by rw [← hR6]; rfl)
      have e_v1 : (zl_X9_allThree_6 MNow (zc (MNow 43)) 0 (-1 : Int64) MLev MFst).2.1 = v1 := (by rw [← hR6]; rfl)
      have e_f1 : (zl_X9_allThree_6 MNow (zc (MNow 43)) 0 (-1 : Int64) MLev MFst).2.2 = f1 := (by rw [← hR6]; rfl)
      subst e_x2
      subst e_v1
      subst e_f1
      refine lv_iload_n hx hb dX9_allThree_6 rfl (lv_at hl 0 rfl) ?_
      refine lv_aload_n hx hb dX9_allThree_7 rfl (lv_at hl 2 rfl) ?_
      refine lv_bipush (v := (43 : Int32)) hx hb dX9_allThree_8 (by decide) ?_
      refine z_callV (mc := 0) (ms := 0) (As := [.int (43 : Int32)]) (rest := [.int (nI j6)]) (st2 := [.int (nI (zc (MNow 43))), .int (nI j6)]) (cs2 := [wMod g md MNow MPast MSav MRef MThen ((zl_X9_allThree_6 MNow (zc (MNow 43)) 0 (-1 : Int64) MLev MFst).2.1) ((zl_X9_allThree_6 MNow (zc (MNow 43)) 0 (-1 : Int64) MLev MFst).2.2) MWay MMost MHash]) X Z [0] [] [0] 0 7 (zc_X9_many l g B md MNow MPast MSav MRef MThen ((zl_X9_allThree_6 MNow (zc (MNow 43)) 0 (-1 : Int64) MLev MFst).2.1) ((zl_X9_allThree_6 MNow (zc (MNow 43)) 0 (-1 : Int64) MLev MFst).2.2) MWay MMost MHash 43 (zc (MNow 43)) (by first | assumption | omega | decide) (by first | assumption | omega | decide)) wM_X9_66 wS_X9_many wV_X9_many wK_X9_many wZ_X9 1 1 1 rfl (by decide +kernel) rfl (by decide) rfl rfl rfl (by decide) rfl rfl (rfl : zCl[7]? = some (RX9, TX9, 10)) hl.1 rfl rfl (by rw [hRf, hRl]; exact ⟨Nat.le_of_ble_eq_true rfl, Nat.le_of_ble_eq_true rfl⟩) (Nat.le_of_ble_eq_true rfl) ⟨Nat.zero_le _, Nat.zero_le _⟩ dX9_allThree_10 (fun H locs Z => ?_)
      refine z_icmp_ge (a := j6) (b := (zc (MNow 43))) (tgt := 91) X rfl rfl (by omega) (by omega) dX9_allThree_13 (by decide) (fun c_1 => ?_) (fun c_1 => ?_)
      · refine lv_lload_n hx hb dX9_allThree_91 rfl (lv_at hl 1 rfl) ?_
        exact z_rl (v := ((zl_X9_allThree_6 MNow (zc (MNow 43)) 0 (-1 : Int64) MLev MFst).1)) E Z (by rw [zf_X9_allThree_e]; dsimp only; exact ⟨rfl, rfl⟩) dX9_allThree_92 (Nat.zero_le _) (Nat.zero_le _)
      · (exfalso; omega)
    | succ n6 ih6 =>
      intro j6 x2 v1 f1 hin6 hR6 H locs Z ls hl
      refine lv_iload_n hx hb dX9_allThree_6 rfl (lv_at hl 0 rfl) ?_
      refine lv_aload_n hx hb dX9_allThree_7 rfl (lv_at hl 2 rfl) ?_
      refine lv_bipush (v := (43 : Int32)) hx hb dX9_allThree_8 (by decide) ?_
      refine z_callV (mc := 0) (ms := 0) (As := [.int (43 : Int32)]) (rest := [.int (nI j6)]) (st2 := [.int (nI (zc (MNow 43))), .int (nI j6)]) (cs2 := [wMod g md MNow MPast MSav MRef MThen v1 f1 MWay MMost MHash]) X Z [0] [] [0] 0 7 (zc_X9_many l g B md MNow MPast MSav MRef MThen v1 f1 MWay MMost MHash 43 (zc (MNow 43)) (by first | assumption | omega | decide) (by first | assumption | omega | decide)) wM_X9_66 wS_X9_many wV_X9_many wK_X9_many wZ_X9 1 1 1 rfl (by decide +kernel) rfl (by decide) rfl rfl rfl (by decide) rfl rfl (rfl : zCl[7]? = some (RX9, TX9, 10)) hl.1 rfl rfl (by rw [hRf, hRl]; exact ⟨Nat.le_of_ble_eq_true rfl, Nat.le_of_ble_eq_true rfl⟩) (Nat.le_of_ble_eq_true rfl) ⟨Nat.zero_le _, Nat.zero_le _⟩ dX9_allThree_10 (fun H locs Z => ?_)
      refine z_icmp_ge (a := j6) (b := (zc (MNow 43))) (tgt := 91) X rfl rfl (by omega) (by omega) dX9_allThree_13 (by decide) (fun c_2 => ?_) (fun c_2 => ?_)
      · (exfalso; omega)
      · refine lv_lconst (v := (0 : Int64)) hx hb dX9_allThree_16 (by decide) ?_
        refine lv_lstore (lv' := [(4, .long (0 : Int64)), (3, .int (nI j6)), (1, .long x2), (0, .ref (md 0))]) hx hb dX9_allThree_17 hl (by decide) rfl (fun ls hl => ?_)
        refine lv_iconst (v := (0 : Int32)) hx hb dX9_allThree_19 (by decide) ?_
        refine lv_istore (lv' := [(6, .int (0 : Int32)), (4, .long (0 : Int64)), (3, .int (nI j6)), (1, .long x2), (0, .ref (md 0))]) hx hb dX9_allThree_20 hl (by decide) rfl (fun ls hl => ?_)
        have loop_22 : ∀ (n22 j22 : Nat) (y5 : Int64) (v2 : Nat → Int64) (f2 : Int32), j22 + n22 = 3 → zl_X9_allThree_22 MNow j6 n22 j22 y5 v2 f2 = (zl_X9_allThree_22 MNow j6 3 0 (0 : Int64) v1 f1) → ∀ (H : Heap) (locs : List Loc), zM g B A s [wMod g md MNow MPast MSav MRef MThen v2 f2 MWay MMost MHash] H locs → ∀ ls : Array Slot, lv_has ls 7 [(6, .int (nI j22)), (4, .long y5), (3, .int (nI j6)), (1, .long x2), (0, .ref (md 0))] → W p l e R s m args below meth c H locs 0 0 Q (F0 m 22 ls []) := by
          intro n22
          induction n22 with
          | zero =>
            intro j22 y5 v2 f2 hin22 hR22 H locs Z ls hl
            have e_y5 : (zl_X9_allThree_22 MNow j6 3 0 (0 : Int64) v1 f1).1 = y5 := (by rw [← hR22]; rfl)
            have e_v2 : (zl_X9_allThree_22 MNow j6 3 0 (0 : Int64) v1 f1).2.1 = v2 := (by rw [← hR22]; rfl)
            have e_f2 : (zl_X9_allThree_22 MNow j6 3 0 (0 : Int64) v1 f1).2.2 = f2 := (by rw [← hR22]; rfl)
            subst e_y5
            subst e_v2
            subst e_f2
            refine lv_iload hx hb dX9_allThree_22 (lv_at hl 0 rfl) ?_
            refine lv_iconst (v := (3 : Int32)) hx hb dX9_allThree_24 (by decide) ?_
            refine z_icmp_ge (a := j22) (b := 3) (tgt := 52) X rfl rfl (by omega) (by omega) dX9_allThree_25 (by decide) (fun c_3 => ?_) (fun c_3 => ?_)
            · refine lv_aload_n hx hb dX9_allThree_52 rfl (lv_at hl 4 rfl) ?_
              refine lv_lload hx hb dX9_allThree_53 (lv_at hl 1 rfl) ?_
              refine lv_lload_n hx hb dX9_allThree_55 rfl (lv_at hl 3 rfl) ?_
              refine z_lc_le (tgt := 64) X dX9_allThree_56 dX9_allThree_57 (by decide) (fun c_4 => ?_) (fun c_4 => ?_)
              · refine lv_aload_n hx hb dX9_allThree_64 rfl (lv_at hl 4 rfl) ?_
                refine z_get X Z 0 rfl (rfl : zCl[7]? = some (RX9, TX9, 10)) zU_X9 6 (by decide) wF_X9_157 rfl rfl dX9_allThree_65 ?_
                refine z_put (cs2 := [wMod g md MNow MPast MSav MRef MThen ((zl_X9_allThree_22 MNow j6 3 0 (0 : Int64) v1 f1).2.1) ((zl_X9_allThree_22 MNow j6 3 0 (0 : Int64) v1 f1).2.2) MWay MMost MHash]) (v := .int ((zl_X9_allThree_22 MNow j6 3 0 (0 : Int64) v1 f1).2.2)) X Z 0 rfl (rfl : zCl[7]? = some (RX9, TX9, 10)) zU_X9 tyX9 tyX9_ok nmX9 6 (by decide) wF_X9_157 rfl rfl rfl rfl (Nat.le_of_ble_eq_true rfl) rfl dX9_allThree_68 (fun H locs Z => ?_)
                refine lv_lload hx hb dX9_allThree_71 (lv_at hl 1 rfl) ?_
                refine lv_lload_n hx hb dX9_allThree_73 rfl (lv_at hl 3 rfl) ?_
                refine z_lc_le (tgt := 83) X dX9_allThree_74 dX9_allThree_75 (by decide) (fun c_5 => ?_) (fun c_5 => ?_)
                · refine lv_lload_n hx hb dX9_allThree_83 rfl (lv_at hl 3 rfl) ?_
                  refine lv_lstore_n (lv' := [(1, .long x2), (6, .int (nI j22)), (4, .long ((zl_X9_allThree_22 MNow j6 3 0 (0 : Int64) v1 f1).1)), (3, .int (nI j6)), (0, .ref (md 0))]) hx hb dX9_allThree_84 rfl hl (by decide) rfl (fun ls hl => ?_)
                  refine z_iinc (b := (j6 + 1)) (st := 1) (lv' := [(3, .int (nI (j6 + 1))), (1, .long x2), (6, .int (nI j22)), (4, .long ((zl_X9_allThree_22 MNow j6 3 0 (0 : Int64) v1 f1).1)), (0, .ref (md 0))]) X dX9_allThree_85 hl (k := 3) rfl rfl (by decide) (by omega) (by decide) rfl (fun ls hl => ?_)
                  refine lv_goto (tgt := 6) hx hb dX9_allThree_88 (by decide) ?_
                  exact ih6 (j6 + 1) x2 ((zl_X9_allThree_22 MNow j6 3 0 (0 : Int64) v1 f1).2.1) ((zl_X9_allThree_22 MNow j6 3 0 (0 : Int64) v1 f1).2.2) (by omega) (by have h9 := hR6; rw [zl_X9_allThree_6_s, if_pos c_4, if_pos c_5] at h9; exact h9) _ _ Z ls (lv_sub hl [0, 1, 4] rfl)
                · refine lv_lload hx hb dX9_allThree_78 (lv_at hl 1 rfl) ?_
                  refine lv_goto (tgt := 84) hx hb dX9_allThree_80 (by decide) ?_
                  refine lv_lstore_n (lv' := [(1, .long ((zl_X9_allThree_22 MNow j6 3 0 (0 : Int64) v1 f1).1)), (6, .int (nI j22)), (4, .long ((zl_X9_allThree_22 MNow j6 3 0 (0 : Int64) v1 f1).1)), (3, .int (nI j6)), (0, .ref (md 0))]) hx hb dX9_allThree_84 rfl hl (by decide) rfl (fun ls hl => ?_)
                  refine z_iinc (b := (j6 + 1)) (st := 1) (lv' := [(3, .int (nI (j6 + 1))), (1, .long ((zl_X9_allThree_22 MNow j6 3 0 (0 : Int64) v1 f1).1)), (6, .int (nI j22)), (4, .long ((zl_X9_allThree_22 MNow j6 3 0 (0 : Int64) v1 f1).1)), (0, .ref (md 0))]) X dX9_allThree_85 hl (k := 3) rfl rfl (by decide) (by omega) (by decide) rfl (fun ls hl => ?_)
                  refine lv_goto (tgt := 6) hx hb dX9_allThree_88 (by decide) ?_
                  exact ih6 (j6 + 1) ((zl_X9_allThree_22 MNow j6 3 0 (0 : Int64) v1 f1).1) ((zl_X9_allThree_22 MNow j6 3 0 (0 : Int64) v1 f1).2.1) ((zl_X9_allThree_22 MNow j6 3 0 (0 : Int64) v1 f1).2.2) (by omega) (by have h9 := hR6; rw [zl_X9_allThree_6_s, if_pos c_4, if_neg c_5] at h9; exact h9) _ _ Z ls (lv_sub hl [0, 1, 4] rfl)
              · refine lv_iload_n hx hb dX9_allThree_60 rfl (lv_at hl 2 rfl) ?_
                refine lv_goto (tgt := 68) hx hb dX9_allThree_61 (by decide) ?_
                refine z_put (cs2 := [wMod g md MNow MPast MSav MRef MThen ((zl_X9_allThree_22 MNow j6 3 0 (0 : Int64) v1 f1).2.1) (nI j6) MWay MMost MHash]) (v := .int (nI j6)) X Z 0 rfl (rfl : zCl[7]? = some (RX9, TX9, 10)) zU_X9 tyX9 tyX9_ok nmX9 6 (by decide) wF_X9_157 rfl rfl rfl rfl (Nat.le_of_ble_eq_true rfl) rfl dX9_allThree_68 (fun H locs Z => ?_)
                refine lv_lload hx hb dX9_allThree_71 (lv_at hl 1 rfl) ?_
                refine lv_lload_n hx hb dX9_allThree_73 rfl (lv_at hl 3 rfl) ?_
                refine z_lc_le (tgt := 83) X dX9_allThree_74 dX9_allThree_75 (by decide) (fun c_6 => ?_) (fun c_6 => ?_)
                · refine lv_lload_n hx hb dX9_allThree_83 rfl (lv_at hl 3 rfl) ?_
                  refine lv_lstore_n (lv' := [(1, .long x2), (6, .int (nI j22)), (4, .long ((zl_X9_allThree_22 MNow j6 3 0 (0 : Int64) v1 f1).1)), (3, .int (nI j6)), (0, .ref (md 0))]) hx hb dX9_allThree_84 rfl hl (by decide) rfl (fun ls hl => ?_)
                  refine z_iinc (b := (j6 + 1)) (st := 1) (lv' := [(3, .int (nI (j6 + 1))), (1, .long x2), (6, .int (nI j22)), (4, .long ((zl_X9_allThree_22 MNow j6 3 0 (0 : Int64) v1 f1).1)), (0, .ref (md 0))]) X dX9_allThree_85 hl (k := 3) rfl rfl (by decide) (by omega) (by decide) rfl (fun ls hl => ?_)
                  refine lv_goto (tgt := 6) hx hb dX9_allThree_88 (by decide) ?_
                  exact ih6 (j6 + 1) x2 ((zl_X9_allThree_22 MNow j6 3 0 (0 : Int64) v1 f1).2.1) (nI j6) (by omega) (by have h9 := hR6; rw [zl_X9_allThree_6_s, if_neg c_4, if_pos c_6] at h9; exact h9) _ _ Z ls (lv_sub hl [0, 1, 4] rfl)
                · refine lv_lload hx hb dX9_allThree_78 (lv_at hl 1 rfl) ?_
                  refine lv_goto (tgt := 84) hx hb dX9_allThree_80 (by decide) ?_
                  refine lv_lstore_n (lv' := [(1, .long ((zl_X9_allThree_22 MNow j6 3 0 (0 : Int64) v1 f1).1)), (6, .int (nI j22)), (4, .long ((zl_X9_allThree_22 MNow j6 3 0 (0 : Int64) v1 f1).1)), (3, .int (nI j6)), (0, .ref (md 0))]) hx hb dX9_allThree_84 rfl hl (by decide) rfl (fun ls hl => ?_)
                  refine z_iinc (b := (j6 + 1)) (st := 1) (lv' := [(3, .int (nI (j6 + 1))), (1, .long ((zl_X9_allThree_22 MNow j6 3 0 (0 : Int64) v1 f1).1)), (6, .int (nI j22)), (4, .long ((zl_X9_allThree_22 MNow j6 3 0 (0 : Int64) v1 f1).1)), (0, .ref (md 0))]) X dX9_allThree_85 hl (k := 3) rfl rfl (by decide) (by omega) (by decide) rfl (fun ls hl => ?_)
                  refine lv_goto (tgt := 6) hx hb dX9_allThree_88 (by decide) ?_
                  exact ih6 (j6 + 1) ((zl_X9_allThree_22 MNow j6 3 0 (0 : Int64) v1 f1).1) ((zl_X9_allThree_22 MNow j6 3 0 (0 : Int64) v1 f1).2.1) (nI j6) (by omega) (by have h9 := hR6; rw [zl_X9_allThree_6_s, if_neg c_4, if_neg c_6] at h9; exact h9) _ _ Z ls (lv_sub hl [0, 1, 4] rfl)
            · (exfalso; omega)
          | succ n22 ih22 =>
            intro j22 y5 v2 f2 hin22 hR22 H locs Z ls hl
            refine lv_iload hx hb dX9_allThree_22 (lv_at hl 0 rfl) ?_
            refine lv_iconst (v := (3 : Int32)) hx hb dX9_allThree_24 (by decide) ?_
            refine z_icmp_ge (a := j22) (b := 3) (tgt := 52) X rfl rfl (by omega) (by omega) dX9_allThree_25 (by decide) (fun c_7 => ?_) (fun c_7 => ?_)
            · (exfalso; omega)
            · refine lv_aload_n hx hb dX9_allThree_28 rfl (lv_at hl 4 rfl) ?_
              refine lv_iconst (v := (0 : Int32)) hx hb dX9_allThree_29 (by decide) ?_
              refine lv_iload_n hx hb dX9_allThree_30 rfl (lv_at hl 2 rfl) ?_
              refine lv_iload hx hb dX9_allThree_31 (lv_at hl 0 rfl) ?_
              refine z_callV (mc := 0) (ms := 0) (As := [.int (0 : Int32), .int (nI j6), .int (nI j22)]) (rest := []) (st2 := []) (cs2 := [wMod g md MNow MPast MSav MRef MThen (zf_X9_goes MNow v2 0 j6 j22) f2 MWay MMost MHash]) X Z [0] [] [0] 0 7 (zc_X9_goes l g B md MNow MPast MSav MRef MThen v2 f2 MWay MMost MHash 0 j6 j22 (by first | assumption | omega | decide) (by first | assumption | omega | decide) (by first | assumption | omega | decide)) wM_X9_150 wS_X9_goes wV_X9_goes wK_X9_goes wZ_X9 3 1 1 rfl (by decide +kernel) rfl (by decide) rfl rfl rfl (by decide) rfl rfl (rfl : zCl[7]? = some (RX9, TX9, 10)) hl.1 rfl rfl (by rw [hRf, hRl]; exact ⟨Nat.le_of_ble_eq_true rfl, Nat.le_of_ble_eq_true rfl⟩) (Nat.le_of_ble_eq_true rfl) ⟨Nat.zero_le _, Nat.zero_le _⟩ dX9_allThree_33 (fun H locs Z => ?_)
              refine lv_lload hx hb dX9_allThree_36 (lv_at hl 1 rfl) ?_
              refine lv_aload_n hx hb dX9_allThree_38 rfl (lv_at hl 4 rfl) ?_
              refine lv_iconst (v := (1 : Int32)) hx hb dX9_allThree_39 (by decide) ?_
              refine z_callV (mc := 0) (ms := 0) (As := [.int (1 : Int32)]) (rest := [.long y5]) (st2 := [.long ((zf_X9_lastTwo MNow (zf_X9_goes MNow v2 0 j6 j22) f2 1).1), .long y5]) (cs2 := [wMod g md MNow MPast MSav MRef MThen ((zf_X9_lastTwo MNow (zf_X9_goes MNow v2 0 j6 j22) f2 1).2.1) ((zf_X9_lastTwo MNow (zf_X9_goes MNow v2 0 j6 j22) f2 1).2.2) MWay MMost MHash]) X Z [0] [] [0] 0 7 (zc_X9_lastTwo l g B md MNow MPast MSav MRef MThen (zf_X9_goes MNow v2 0 j6 j22) f2 MWay MMost MHash 1 (by first | assumption | omega | decide) (by first | assumption | omega | decide)) wM_X9_163 wS_X9_lastTwo wV_X9_lastTwo wK_X9_lastTwo wZ_X9 1 1 1 rfl (by decide +kernel) rfl (by decide) rfl rfl rfl (by decide) rfl rfl (rfl : zCl[7]? = some (RX9, TX9, 10)) hl.1 rfl rfl (by rw [hRf, hRl]; exact ⟨Nat.le_of_ble_eq_true rfl, Nat.le_of_ble_eq_true rfl⟩) (Nat.le_of_ble_eq_true rfl) ⟨Nat.zero_le _, Nat.zero_le _⟩ dX9_allThree_40 (fun H locs Z => ?_)
              refine lv_ladd hx hb dX9_allThree_43 ?_
              refine lv_lstore (lv' := [(4, .long (y5 + ((zf_X9_lastTwo MNow (zf_X9_goes MNow v2 0 j6 j22) f2 1).1))), (6, .int (nI j22)), (3, .int (nI j6)), (1, .long x2), (0, .ref (md 0))]) hx hb dX9_allThree_44 hl (by decide) rfl (fun ls hl => ?_)
              refine z_iinc (b := (j22 + 1)) (st := 1) (lv' := [(6, .int (nI (j22 + 1))), (4, .long (y5 + ((zf_X9_lastTwo MNow (zf_X9_goes MNow v2 0 j6 j22) f2 1).1))), (3, .int (nI j6)), (1, .long x2), (0, .ref (md 0))]) X dX9_allThree_46 hl (k := 1) rfl rfl (by decide) (by omega) (by decide) rfl (fun ls hl => ?_)
              refine lv_goto (tgt := 22) hx hb dX9_allThree_49 (by decide) ?_
              exact ih22 (j22 + 1) (y5 + ((zf_X9_lastTwo MNow (zf_X9_goes MNow v2 0 j6 j22) f2 1).1)) ((zf_X9_lastTwo MNow (zf_X9_goes MNow v2 0 j6 j22) f2 1).2.1) ((zf_X9_lastTwo MNow (zf_X9_goes MNow v2 0 j6 j22) f2 1).2.2) (by omega) (by have h9 := hR22; rw [zl_X9_allThree_22_s] at h9; exact h9) _ _ Z ls (lv_sub hl [0, 1, 2, 3, 4] rfl)
        exact loop_22 3 0 (0 : Int64) v1 f1 (by omega) rfl _ _ Z ls (lv_sub hl [0, 1, 2, 3, 4] rfl)
  exact loop_6 (zc (MNow 43)) 0 (-1 : Int64) MLev MFst (by omega) rfl _ _ Z ls (lv_sub hl [0, 1, 2] rfl)
def zl_X9_plan_0_7 (MNow : Nat → Int64) : Nat → Nat → (Nat → Int64) → (Nat → Int64)
  | 0, _, v1 => v1
  | n7 + 1, j7, v1 => zl_X9_plan_0_7 MNow n7 (j7 + 1) (vp_updL v1 j7 (MNow (35 + j7)))
theorem zl_X9_plan_0_7_s (MNow : Nat → Int64) (n7 : Nat) (j7 : Nat) (v1 : Nat → Int64) : zl_X9_plan_0_7 MNow (n7 + 1) j7 v1 = zl_X9_plan_0_7 MNow n7 (j7 + 1) (vp_updL v1 j7 (MNow (35 + j7))) := rfl
def zf_X9_plan_0 (MNow : Nat → Int64) (MLev : Nat → Int64) : Int64 × (Nat → Int64) × Int32 := ((zf_X9_greatest (zl_X9_plan_0_7 MNow 8 0 MLev) 0), (zl_X9_plan_0_7 MNow 8 0 MLev), (-1 : Int32))
theorem zf_X9_plan_0_e (MNow : Nat → Int64) (MLev : Nat → Int64) : zf_X9_plan_0 MNow MLev = ((zf_X9_greatest (zl_X9_plan_0_7 MNow 8 0 MLev) 0), (zl_X9_plan_0_7 MNow 8 0 MLev), (-1 : Int32)) := rfl
set_option maxHeartbeats 4000000 in
set_option maxRecDepth 100000 in
theorem zc_X9_plan_0 (l : Launch) (g : zG) (B : Nat) (md : Nat → Nat) (MNow : Nat → Int64) (MPast : Nat → Int64) (MSav : Nat) (MRef : Int32) (MThen : Nat → Int64) (MLev : Nat → Int64) (MFst : Int32) (MWay : Nat → Int64) (MMost : Nat → Int32) (MHash : Int64) (hN : zNow MNow) : zMet l g B yX9_plan cX9_plan 3 (some .long) 6 260 0 0 [.ref (md 0), .int (0 : Int32)] [wMod g md MNow MPast MSav MRef MThen MLev MFst MWay MMost MHash] (zDet (some (.long ((zf_X9_plan_0 MNow MLev).1))) [wMod g md MNow MPast MSav MRef MThen ((zf_X9_plan_0 MNow MLev).2.1) ((zf_X9_plan_0 MNow MLev).2.2) MWay MMost MHash]) := by
  refine z_in (plainFor_of_name (by decide)) (Nat.le_of_ble_eq_true rfl) (fun p e R s m args below meth c A Q hRf hRl hRc hRs X Z hnm E ls hl => ?_)
  have hx := X.1
  have hb := X.2.1
  have hown := X.2.2.2.1
  have hts := X.2.2.2.2.1
  have hl : lv_has ls 3 [(0, .ref (md 0)), (1, .int (0 : Int32))] := hl
  have hN2 := hN; obtain ⟨he9, hb9, he34, hb34, he43, hb43, he284, hb284, he301, hb301⟩ := hN2
  refine lv_aload_n hx hb dX9_plan_0 rfl (lv_at hl 0 rfl) ?_
  refine lv_iconst (v := (-1 : Int32)) hx hb dX9_plan_1 (by decide) ?_
  refine z_put (cs2 := [wMod g md MNow MPast MSav MRef MThen MLev (-1 : Int32) MWay MMost MHash]) (v := .int (-1 : Int32)) X Z 0 rfl (rfl : zCl[7]? = some (RX9, TX9, 10)) zU_X9 tyX9 tyX9_ok nmX9 6 (by decide) wF_X9_157 rfl rfl rfl rfl (Nat.le_of_ble_eq_true rfl) rfl dX9_plan_2 (fun H locs Z => ?_)
  refine lv_iconst (v := (0 : Int32)) hx hb dX9_plan_5 (by decide) ?_
  refine lv_istore_n (lv' := [(2, .int (0 : Int32)), (0, .ref (md 0)), (1, .int (0 : Int32))]) hx hb dX9_plan_6 rfl hl (by decide) rfl (fun ls hl => ?_)
  have loop_7 : ∀ (n7 j7 : Nat) (v1 : Nat → Int64), j7 + n7 = 8 → zl_X9_plan_0_7 MNow n7 j7 v1 = (zl_X9_plan_0_7 MNow 8 0 MLev) → ∀ (H : Heap) (locs : List Loc), zM g B A s [wMod g md MNow MPast MSav MRef MThen v1 (-1 : Int32) MWay MMost MHash] H locs → ∀ ls : Array Slot, lv_has ls 3 [(2, .int (nI j7)), (0, .ref (md 0)), (1, .int (0 : Int32))] → W p l e R s m args below meth c H locs 0 0 Q (F0 m 7 ls []) := by
    intro n7
    induction n7 with
    | zero =>
      intro j7 v1 hin7 hR7 H locs Z ls hl
      have e_v1 : (zl_X9_plan_0_7 MNow 8 0 MLev) = v1 := hR7.symm
      subst e_v1
      refine lv_iload_n hx hb dX9_plan_7 rfl (lv_at hl 0 rfl) ?_
      refine lv_bipush (v := (8 : Int32)) hx hb dX9_plan_8 (by decide) ?_
      refine z_icmp_ge (a := j7) (b := 8) (tgt := 34) X rfl rfl (by omega) (by omega) dX9_plan_10 (by decide) (fun c_1 => ?_) (fun c_1 => ?_)
      · refine lv_iload_n hx hb dX9_plan_34 rfl (lv_at hl 2 rfl) ?_
        refine lv_tableIn (off := 25) (tgt := 60) hx hb dX9_plan_35 (by decide) (by decide) rfl (by decide) ?_
        refine lv_aload_n hx hb dX9_plan_60 rfl (lv_at hl 1 rfl) ?_
        refine lv_iconst (v := (0 : Int32)) hx hb dX9_plan_61 (by decide) ?_
        refine z_callV (mc := 0) (ms := 0) (As := [.int (0 : Int32)]) (rest := []) (st2 := [.long (zf_X9_greatest (zl_X9_plan_0_7 MNow 8 0 MLev) 0)]) (cs2 := [wMod g md MNow MPast MSav MRef MThen (zl_X9_plan_0_7 MNow 8 0 MLev) (-1 : Int32) MWay MMost MHash]) X Z [0] [] [0] 0 7 (zc_X9_greatest l g B md MNow MPast MSav MRef MThen (zl_X9_plan_0_7 MNow 8 0 MLev) (-1 : Int32) MWay MMost MHash 0 (by first | assumption | omega | decide)) wM_X9_154 wS_X9_greatest wV_X9_greatest wK_X9_greatest wZ_X9 1 1 1 rfl (by decide +kernel) rfl (by decide) rfl rfl rfl (by decide) rfl rfl (rfl : zCl[7]? = some (RX9, TX9, 10)) hl.1 rfl rfl (by rw [hRf, hRl]; exact ⟨Nat.le_of_ble_eq_true rfl, Nat.le_of_ble_eq_true rfl⟩) (Nat.le_of_ble_eq_true rfl) ⟨Nat.zero_le _, Nat.zero_le _⟩ dX9_plan_62 (fun H locs Z => ?_)
        exact z_rl (v := (zf_X9_greatest (zl_X9_plan_0_7 MNow 8 0 MLev) 0)) E Z (by rw [zf_X9_plan_0_e]; dsimp only; exact ⟨rfl, rfl⟩) dX9_plan_65 (Nat.zero_le _) (Nat.zero_le _)
      · (exfalso; omega)
    | succ n7 ih7 =>
      intro j7 v1 hin7 hR7 H locs Z ls hl
      refine lv_iload_n hx hb dX9_plan_7 rfl (lv_at hl 0 rfl) ?_
      refine lv_bipush (v := (8 : Int32)) hx hb dX9_plan_8 (by decide) ?_
      refine z_icmp_ge (a := j7) (b := 8) (tgt := 34) X rfl rfl (by omega) (by omega) dX9_plan_10 (by decide) (fun c_2 => ?_) (fun c_2 => ?_)
      · (exfalso; omega)
      · refine lv_aload_n hx hb dX9_plan_13 rfl (lv_at hl 1 rfl) ?_
        refine z_get X Z 0 rfl (rfl : zCl[7]? = some (RX9, TX9, 10)) zU_X9 5 (by decide) wF_X9_19 rfl rfl dX9_plan_14 ?_
        refine lv_iload_n hx hb dX9_plan_17 rfl (lv_at hl 0 rfl) ?_
        refine lv_aload_n hx hb dX9_plan_18 rfl (lv_at hl 1 rfl) ?_
        refine z_get X Z 0 rfl (rfl : zCl[7]? = some (RX9, TX9, 10)) zU_X9 0 (by decide) wF_X9_7 rfl rfl dX9_plan_19 ?_
        refine lv_bipush (v := (35 : Int32)) hx hb dX9_plan_22 (by decide) ?_
        refine lv_iload_n hx hb dX9_plan_24 rfl (lv_at hl 0 rfl) ?_
        refine z_iadd (a := 35) (b := j7) X rfl rfl dX9_plan_25 ?_
        refine z_lald (j := (35 + j7)) X Z 1 rfl rfl (by omega) (by decide) dX9_plan_26 ?_
        refine z_last (cs2 := [wMod g md MNow MPast MSav MRef MThen (vp_updL v1 j7 (MNow (35 + j7))) (-1 : Int32) MWay MMost MHash]) (j := j7) (x := (MNow (35 + j7))) X Z 4 rfl rfl (by omega) (by decide) rfl dX9_plan_27 (fun H locs Z => ?_)
        refine z_iinc (b := (j7 + 1)) (st := 1) (lv' := [(2, .int (nI (j7 + 1))), (0, .ref (md 0)), (1, .int (0 : Int32))]) X dX9_plan_28 hl (k := 0) rfl rfl (by decide) (by omega) (by decide) rfl (fun ls hl => ?_)
        refine lv_goto (tgt := 7) hx hb dX9_plan_31 (by decide) ?_
        exact ih7 (j7 + 1) (vp_updL v1 j7 (MNow (35 + j7))) (by omega) (by have h9 := hR7; rw [zl_X9_plan_0_7_s] at h9; exact h9) _ _ Z ls (lv_sub hl [0, 1, 2] rfl)
  exact loop_7 8 0 MLev (by omega) rfl _ _ Z ls (lv_sub hl [0, 1, 2] rfl)
def zl_X9_plan_1_7 (MNow : Nat → Int64) : Nat → Nat → (Nat → Int64) → (Nat → Int64)
  | 0, _, v1 => v1
  | n7 + 1, j7, v1 => zl_X9_plan_1_7 MNow n7 (j7 + 1) (vp_updL v1 j7 (MNow (35 + j7)))
theorem zl_X9_plan_1_7_s (MNow : Nat → Int64) (n7 : Nat) (j7 : Nat) (v1 : Nat → Int64) : zl_X9_plan_1_7 MNow (n7 + 1) j7 v1 = zl_X9_plan_1_7 MNow n7 (j7 + 1) (vp_updL v1 j7 (MNow (35 + j7))) := rfl
def zf_X9_plan_1 (MNow : Nat → Int64) (MLev : Nat → Int64) : Int64 × (Nat → Int64) × Int32 := (((zf_X9_lastOne MNow (zl_X9_plan_1_7 MNow 8 0 MLev) (-1 : Int32) 0).1), ((zf_X9_lastOne MNow (zl_X9_plan_1_7 MNow 8 0 MLev) (-1 : Int32) 0).2.1), ((zf_X9_lastOne MNow (zl_X9_plan_1_7 MNow 8 0 MLev) (-1 : Int32) 0).2.2))
theorem zf_X9_plan_1_e (MNow : Nat → Int64) (MLev : Nat → Int64) : zf_X9_plan_1 MNow MLev = (((zf_X9_lastOne MNow (zl_X9_plan_1_7 MNow 8 0 MLev) (-1 : Int32) 0).1), ((zf_X9_lastOne MNow (zl_X9_plan_1_7 MNow 8 0 MLev) (-1 : Int32) 0).2.1), ((zf_X9_lastOne MNow (zl_X9_plan_1_7 MNow 8 0 MLev) (-1 : Int32) 0).2.2)) := rfl
set_option maxHeartbeats 4000000 in
set_option maxRecDepth 100000 in
theorem zc_X9_plan_1 (l : Launch) (g : zG) (B : Nat) (md : Nat → Nat) (MNow : Nat → Int64) (MPast : Nat → Int64) (MSav : Nat) (MRef : Int32) (MThen : Nat → Int64) (MLev : Nat → Int64) (MFst : Int32) (MWay : Nat → Int64) (MMost : Nat → Int32) (MHash : Int64) (hN : zNow MNow) : zMet l g B yX9_plan cX9_plan 3 (some .long) 6 260 0 0 [.ref (md 0), .int (1 : Int32)] [wMod g md MNow MPast MSav MRef MThen MLev MFst MWay MMost MHash] (zDet (some (.long ((zf_X9_plan_1 MNow MLev).1))) [wMod g md MNow MPast MSav MRef MThen ((zf_X9_plan_1 MNow MLev).2.1) ((zf_X9_plan_1 MNow MLev).2.2) MWay MMost MHash]) := by
  refine z_in (plainFor_of_name (by decide)) (Nat.le_of_ble_eq_true rfl) (fun p e R s m args below meth c A Q hRf hRl hRc hRs X Z hnm E ls hl => ?_)
  have hx := X.1
  have hb := X.2.1
  have hown := X.2.2.2.1
  have hts := X.2.2.2.2.1
  have hl : lv_has ls 3 [(0, .ref (md 0)), (1, .int (1 : Int32))] := hl
  have hN2 := hN; obtain ⟨he9, hb9, he34, hb34, he43, hb43, he284, hb284, he301, hb301⟩ := hN2
  refine lv_aload_n hx hb dX9_plan_0 rfl (lv_at hl 0 rfl) ?_
  refine lv_iconst (v := (-1 : Int32)) hx hb dX9_plan_1 (by decide) ?_
  refine z_put (cs2 := [wMod g md MNow MPast MSav MRef MThen MLev (-1 : Int32) MWay MMost MHash]) (v := .int (-1 : Int32)) X Z 0 rfl (rfl : zCl[7]? = some (RX9, TX9, 10)) zU_X9 tyX9 tyX9_ok nmX9 6 (by decide) wF_X9_157 rfl rfl rfl rfl (Nat.le_of_ble_eq_true rfl) rfl dX9_plan_2 (fun H locs Z => ?_)
  refine lv_iconst (v := (0 : Int32)) hx hb dX9_plan_5 (by decide) ?_
  refine lv_istore_n (lv' := [(2, .int (0 : Int32)), (0, .ref (md 0)), (1, .int (1 : Int32))]) hx hb dX9_plan_6 rfl hl (by decide) rfl (fun ls hl => ?_)
  have loop_7 : ∀ (n7 j7 : Nat) (v1 : Nat → Int64), j7 + n7 = 8 → zl_X9_plan_1_7 MNow n7 j7 v1 = (zl_X9_plan_1_7 MNow 8 0 MLev) → ∀ (H : Heap) (locs : List Loc), zM g B A s [wMod g md MNow MPast MSav MRef MThen v1 (-1 : Int32) MWay MMost MHash] H locs → ∀ ls : Array Slot, lv_has ls 3 [(2, .int (nI j7)), (0, .ref (md 0)), (1, .int (1 : Int32))] → W p l e R s m args below meth c H locs 0 0 Q (F0 m 7 ls []) := by
    intro n7
    induction n7 with
    | zero =>
      intro j7 v1 hin7 hR7 H locs Z ls hl
      have e_v1 : (zl_X9_plan_1_7 MNow 8 0 MLev) = v1 := hR7.symm
      subst e_v1
      refine lv_iload_n hx hb dX9_plan_7 rfl (lv_at hl 0 rfl) ?_
      refine lv_bipush (v := (8 : Int32)) hx hb dX9_plan_8 (by decide) ?_
      refine z_icmp_ge (a := j7) (b := 8) (tgt := 34) X rfl rfl (by omega) (by omega) dX9_plan_10 (by decide) (fun c_1 => ?_) (fun c_1 => ?_)
      · refine lv_iload_n hx hb dX9_plan_34 rfl (lv_at hl 2 rfl) ?_
        refine lv_tableIn (off := 31) (tgt := 66) hx hb dX9_plan_35 (by decide) (by decide) rfl (by decide) ?_
        refine lv_aload_n hx hb dX9_plan_66 rfl (lv_at hl 1 rfl) ?_
        refine lv_iconst (v := (0 : Int32)) hx hb dX9_plan_67 (by decide) ?_
        refine z_callV (mc := 0) (ms := 0) (As := [.int (0 : Int32)]) (rest := []) (st2 := [.long ((zf_X9_lastOne MNow (zl_X9_plan_1_7 MNow 8 0 MLev) (-1 : Int32) 0).1)]) (cs2 := [wMod g md MNow MPast MSav MRef MThen ((zf_X9_lastOne MNow (zl_X9_plan_1_7 MNow 8 0 MLev) (-1 : Int32) 0).2.1) ((zf_X9_lastOne MNow (zl_X9_plan_1_7 MNow 8 0 MLev) (-1 : Int32) 0).2.2) MWay MMost MHash]) X Z [0] [] [0] 0 7 (zc_X9_lastOne l g B md MNow MPast MSav MRef MThen (zl_X9_plan_1_7 MNow 8 0 MLev) (-1 : Int32) MWay MMost MHash 0 (by first | assumption | omega | decide) (by first | assumption | omega | decide)) wM_X9_160 wS_X9_lastOne wV_X9_lastOne wK_X9_lastOne wZ_X9 1 1 1 rfl (by decide +kernel) rfl (by decide) rfl rfl rfl (by decide) rfl rfl (rfl : zCl[7]? = some (RX9, TX9, 10)) hl.1 rfl rfl (by rw [hRf, hRl]; exact ⟨Nat.le_of_ble_eq_true rfl, Nat.le_of_ble_eq_true rfl⟩) (Nat.le_of_ble_eq_true rfl) ⟨Nat.zero_le _, Nat.zero_le _⟩ dX9_plan_68 (fun H locs Z => ?_)
        exact z_rl (v := ((zf_X9_lastOne MNow (zl_X9_plan_1_7 MNow 8 0 MLev) (-1 : Int32) 0).1)) E Z (by rw [zf_X9_plan_1_e]; dsimp only; exact ⟨rfl, rfl⟩) dX9_plan_71 (Nat.zero_le _) (Nat.zero_le _)
      · (exfalso; omega)
    | succ n7 ih7 =>
      intro j7 v1 hin7 hR7 H locs Z ls hl
      refine lv_iload_n hx hb dX9_plan_7 rfl (lv_at hl 0 rfl) ?_
      refine lv_bipush (v := (8 : Int32)) hx hb dX9_plan_8 (by decide) ?_
      refine z_icmp_ge (a := j7) (b := 8) (tgt := 34) X rfl rfl (by omega) (by omega) dX9_plan_10 (by decide) (fun c_2 => ?_) (fun c_2 => ?_)
      · (exfalso; omega)
      · refine lv_aload_n hx hb dX9_plan_13 rfl (lv_at hl 1 rfl) ?_
        refine z_get X Z 0 rfl (rfl : zCl[7]? = some (RX9, TX9, 10)) zU_X9 5 (by decide) wF_X9_19 rfl rfl dX9_plan_14 ?_
        refine lv_iload_n hx hb dX9_plan_17 rfl (lv_at hl 0 rfl) ?_
        refine lv_aload_n hx hb dX9_plan_18 rfl (lv_at hl 1 rfl) ?_
        refine z_get X Z 0 rfl (rfl : zCl[7]? = some (RX9, TX9, 10)) zU_X9 0 (by decide) wF_X9_7 rfl rfl dX9_plan_19 ?_
        refine lv_bipush (v := (35 : Int32)) hx hb dX9_plan_22 (by decide) ?_
        refine lv_iload_n hx hb dX9_plan_24 rfl (lv_at hl 0 rfl) ?_
        refine z_iadd (a := 35) (b := j7) X rfl rfl dX9_plan_25 ?_
        refine z_lald (j := (35 + j7)) X Z 1 rfl rfl (by omega) (by decide) dX9_plan_26 ?_
        refine z_last (cs2 := [wMod g md MNow MPast MSav MRef MThen (vp_updL v1 j7 (MNow (35 + j7))) (-1 : Int32) MWay MMost MHash]) (j := j7) (x := (MNow (35 + j7))) X Z 4 rfl rfl (by omega) (by decide) rfl dX9_plan_27 (fun H locs Z => ?_)
        refine z_iinc (b := (j7 + 1)) (st := 1) (lv' := [(2, .int (nI (j7 + 1))), (0, .ref (md 0)), (1, .int (1 : Int32))]) X dX9_plan_28 hl (k := 0) rfl rfl (by decide) (by omega) (by decide) rfl (fun ls hl => ?_)
        refine lv_goto (tgt := 7) hx hb dX9_plan_31 (by decide) ?_
        exact ih7 (j7 + 1) (vp_updL v1 j7 (MNow (35 + j7))) (by omega) (by have h9 := hR7; rw [zl_X9_plan_1_7_s] at h9; exact h9) _ _ Z ls (lv_sub hl [0, 1, 2] rfl)
  exact loop_7 8 0 MLev (by omega) rfl _ _ Z ls (lv_sub hl [0, 1, 2] rfl)
def zl_X9_plan_2_7 (MNow : Nat → Int64) : Nat → Nat → (Nat → Int64) → (Nat → Int64)
  | 0, _, v1 => v1
  | n7 + 1, j7, v1 => zl_X9_plan_2_7 MNow n7 (j7 + 1) (vp_updL v1 j7 (MNow (35 + j7)))
theorem zl_X9_plan_2_7_s (MNow : Nat → Int64) (n7 : Nat) (j7 : Nat) (v1 : Nat → Int64) : zl_X9_plan_2_7 MNow (n7 + 1) j7 v1 = zl_X9_plan_2_7 MNow n7 (j7 + 1) (vp_updL v1 j7 (MNow (35 + j7))) := rfl
def zf_X9_plan_2 (MNow : Nat → Int64) (MLev : Nat → Int64) : Int64 × (Nat → Int64) × Int32 := (((zf_X9_lastTwo MNow (zl_X9_plan_2_7 MNow 8 0 MLev) (-1 : Int32) 0).1), ((zf_X9_lastTwo MNow (zl_X9_plan_2_7 MNow 8 0 MLev) (-1 : Int32) 0).2.1), ((zf_X9_lastTwo MNow (zl_X9_plan_2_7 MNow 8 0 MLev) (-1 : Int32) 0).2.2))
theorem zf_X9_plan_2_e (MNow : Nat → Int64) (MLev : Nat → Int64) : zf_X9_plan_2 MNow MLev = (((zf_X9_lastTwo MNow (zl_X9_plan_2_7 MNow 8 0 MLev) (-1 : Int32) 0).1), ((zf_X9_lastTwo MNow (zl_X9_plan_2_7 MNow 8 0 MLev) (-1 : Int32) 0).2.1), ((zf_X9_lastTwo MNow (zl_X9_plan_2_7 MNow 8 0 MLev) (-1 : Int32) 0).2.2)) := rfl
set_option maxHeartbeats 4000000 in
set_option maxRecDepth 100000 in
theorem zc_X9_plan_2 (l : Launch) (g : zG) (B : Nat) (md : Nat → Nat) (MNow : Nat → Int64) (MPast : Nat → Int64) (MSav : Nat) (MRef : Int32) (MThen : Nat → Int64) (MLev : Nat → Int64) (MFst : Int32) (MWay : Nat → Int64) (MMost : Nat → Int32) (MHash : Int64) (hN : zNow MNow) : zMet l g B yX9_plan cX9_plan 3 (some .long) 6 260 0 0 [.ref (md 0), .int (2 : Int32)] [wMod g md MNow MPast MSav MRef MThen MLev MFst MWay MMost MHash] (zDet (some (.long ((zf_X9_plan_2 MNow MLev).1))) [wMod g md MNow MPast MSav MRef MThen ((zf_X9_plan_2 MNow MLev).2.1) ((zf_X9_plan_2 MNow MLev).2.2) MWay MMost MHash]) := by
  refine z_in (plainFor_of_name (by decide)) (Nat.le_of_ble_eq_true rfl) (fun p e R s m args below meth c A Q hRf hRl hRc hRs X Z hnm E ls hl => ?_)
  have hx := X.1
  have hb := X.2.1
  have hown := X.2.2.2.1
  have hts := X.2.2.2.2.1
  have hl : lv_has ls 3 [(0, .ref (md 0)), (1, .int (2 : Int32))] := hl
  have hN2 := hN; obtain ⟨he9, hb9, he34, hb34, he43, hb43, he284, hb284, he301, hb301⟩ := hN2
  refine lv_aload_n hx hb dX9_plan_0 rfl (lv_at hl 0 rfl) ?_
  refine lv_iconst (v := (-1 : Int32)) hx hb dX9_plan_1 (by decide) ?_
  refine z_put (cs2 := [wMod g md MNow MPast MSav MRef MThen MLev (-1 : Int32) MWay MMost MHash]) (v := .int (-1 : Int32)) X Z 0 rfl (rfl : zCl[7]? = some (RX9, TX9, 10)) zU_X9 tyX9 tyX9_ok nmX9 6 (by decide) wF_X9_157 rfl rfl rfl rfl (Nat.le_of_ble_eq_true rfl) rfl dX9_plan_2 (fun H locs Z => ?_)
  refine lv_iconst (v := (0 : Int32)) hx hb dX9_plan_5 (by decide) ?_
  refine lv_istore_n (lv' := [(2, .int (0 : Int32)), (0, .ref (md 0)), (1, .int (2 : Int32))]) hx hb dX9_plan_6 rfl hl (by decide) rfl (fun ls hl => ?_)
  have loop_7 : ∀ (n7 j7 : Nat) (v1 : Nat → Int64), j7 + n7 = 8 → zl_X9_plan_2_7 MNow n7 j7 v1 = (zl_X9_plan_2_7 MNow 8 0 MLev) → ∀ (H : Heap) (locs : List Loc), zM g B A s [wMod g md MNow MPast MSav MRef MThen v1 (-1 : Int32) MWay MMost MHash] H locs → ∀ ls : Array Slot, lv_has ls 3 [(2, .int (nI j7)), (0, .ref (md 0)), (1, .int (2 : Int32))] → W p l e R s m args below meth c H locs 0 0 Q (F0 m 7 ls []) := by
    intro n7
    induction n7 with
    | zero =>
      intro j7 v1 hin7 hR7 H locs Z ls hl
      have e_v1 : (zl_X9_plan_2_7 MNow 8 0 MLev) = v1 := hR7.symm
      subst e_v1
      refine lv_iload_n hx hb dX9_plan_7 rfl (lv_at hl 0 rfl) ?_
      refine lv_bipush (v := (8 : Int32)) hx hb dX9_plan_8 (by decide) ?_
      refine z_icmp_ge (a := j7) (b := 8) (tgt := 34) X rfl rfl (by omega) (by omega) dX9_plan_10 (by decide) (fun c_1 => ?_) (fun c_1 => ?_)
      · refine lv_iload_n hx hb dX9_plan_34 rfl (lv_at hl 2 rfl) ?_
        refine lv_tableIn (off := 37) (tgt := 72) hx hb dX9_plan_35 (by decide) (by decide) rfl (by decide) ?_
        refine lv_aload_n hx hb dX9_plan_72 rfl (lv_at hl 1 rfl) ?_
        refine lv_iconst (v := (0 : Int32)) hx hb dX9_plan_73 (by decide) ?_
        refine z_callV (mc := 0) (ms := 0) (As := [.int (0 : Int32)]) (rest := []) (st2 := [.long ((zf_X9_lastTwo MNow (zl_X9_plan_2_7 MNow 8 0 MLev) (-1 : Int32) 0).1)]) (cs2 := [wMod g md MNow MPast MSav MRef MThen ((zf_X9_lastTwo MNow (zl_X9_plan_2_7 MNow 8 0 MLev) (-1 : Int32) 0).2.1) ((zf_X9_lastTwo MNow (zl_X9_plan_2_7 MNow 8 0 MLev) (-1 : Int32) 0).2.2) MWay MMost MHash]) X Z [0] [] [0] 0 7 (zc_X9_lastTwo l g B md MNow MPast MSav MRef MThen (zl_X9_plan_2_7 MNow 8 0 MLev) (-1 : Int32) MWay MMost MHash 0 (by first | assumption | omega | decide) (by first | assumption | omega | decide)) wM_X9_163 wS_X9_lastTwo wV_X9_lastTwo wK_X9_lastTwo wZ_X9 1 1 1 rfl (by decide +kernel) rfl (by decide) rfl rfl rfl (by decide) rfl rfl (rfl : zCl[7]? = some (RX9, TX9, 10)) hl.1 rfl rfl (by rw [hRf, hRl]; exact ⟨Nat.le_of_ble_eq_true rfl, Nat.le_of_ble_eq_true rfl⟩) (Nat.le_of_ble_eq_true rfl) ⟨Nat.zero_le _, Nat.zero_le _⟩ dX9_plan_74 (fun H locs Z => ?_)
        exact z_rl (v := ((zf_X9_lastTwo MNow (zl_X9_plan_2_7 MNow 8 0 MLev) (-1 : Int32) 0).1)) E Z (by rw [zf_X9_plan_2_e]; dsimp only; exact ⟨rfl, rfl⟩) dX9_plan_77 (Nat.zero_le _) (Nat.zero_le _)
      · (exfalso; omega)
    | succ n7 ih7 =>
      intro j7 v1 hin7 hR7 H locs Z ls hl
      refine lv_iload_n hx hb dX9_plan_7 rfl (lv_at hl 0 rfl) ?_
      refine lv_bipush (v := (8 : Int32)) hx hb dX9_plan_8 (by decide) ?_
      refine z_icmp_ge (a := j7) (b := 8) (tgt := 34) X rfl rfl (by omega) (by omega) dX9_plan_10 (by decide) (fun c_2 => ?_) (fun c_2 => ?_)
      · (exfalso; omega)
      · refine lv_aload_n hx hb dX9_plan_13 rfl (lv_at hl 1 rfl) ?_
        refine z_get X Z 0 rfl (rfl : zCl[7]? = some (RX9, TX9, 10)) zU_X9 5 (by decide) wF_X9_19 rfl rfl dX9_plan_14 ?_
        refine lv_iload_n hx hb dX9_plan_17 rfl (lv_at hl 0 rfl) ?_
        refine lv_aload_n hx hb dX9_plan_18 rfl (lv_at hl 1 rfl) ?_
        refine z_get X Z 0 rfl (rfl : zCl[7]? = some (RX9, TX9, 10)) zU_X9 0 (by decide) wF_X9_7 rfl rfl dX9_plan_19 ?_
        refine lv_bipush (v := (35 : Int32)) hx hb dX9_plan_22 (by decide) ?_
        refine lv_iload_n hx hb dX9_plan_24 rfl (lv_at hl 0 rfl) ?_
        refine z_iadd (a := 35) (b := j7) X rfl rfl dX9_plan_25 ?_
        refine z_lald (j := (35 + j7)) X Z 1 rfl rfl (by omega) (by decide) dX9_plan_26 ?_
        refine z_last (cs2 := [wMod g md MNow MPast MSav MRef MThen (vp_updL v1 j7 (MNow (35 + j7))) (-1 : Int32) MWay MMost MHash]) (j := j7) (x := (MNow (35 + j7))) X Z 4 rfl rfl (by omega) (by decide) rfl dX9_plan_27 (fun H locs Z => ?_)
        refine z_iinc (b := (j7 + 1)) (st := 1) (lv' := [(2, .int (nI (j7 + 1))), (0, .ref (md 0)), (1, .int (2 : Int32))]) X dX9_plan_28 hl (k := 0) rfl rfl (by decide) (by omega) (by decide) rfl (fun ls hl => ?_)
        refine lv_goto (tgt := 7) hx hb dX9_plan_31 (by decide) ?_
        exact ih7 (j7 + 1) (vp_updL v1 j7 (MNow (35 + j7))) (by omega) (by have h9 := hR7; rw [zl_X9_plan_2_7_s] at h9; exact h9) _ _ Z ls (lv_sub hl [0, 1, 2] rfl)
  exact loop_7 8 0 MLev (by omega) rfl _ _ Z ls (lv_sub hl [0, 1, 2] rfl)
def zl_X9_plan_3_7 (MNow : Nat → Int64) : Nat → Nat → (Nat → Int64) → (Nat → Int64)
  | 0, _, v1 => v1
  | n7 + 1, j7, v1 => zl_X9_plan_3_7 MNow n7 (j7 + 1) (vp_updL v1 j7 (MNow (35 + j7)))
theorem zl_X9_plan_3_7_s (MNow : Nat → Int64) (n7 : Nat) (j7 : Nat) (v1 : Nat → Int64) : zl_X9_plan_3_7 MNow (n7 + 1) j7 v1 = zl_X9_plan_3_7 MNow n7 (j7 + 1) (vp_updL v1 j7 (MNow (35 + j7))) := rfl
def zf_X9_plan_3 (MNow : Nat → Int64) (MLev : Nat → Int64) : Int64 × (Nat → Int64) × Int32 := (((zf_X9_allThree MNow (zl_X9_plan_3_7 MNow 8 0 MLev) (-1 : Int32)).1), ((zf_X9_allThree MNow (zl_X9_plan_3_7 MNow 8 0 MLev) (-1 : Int32)).2.1), ((zf_X9_allThree MNow (zl_X9_plan_3_7 MNow 8 0 MLev) (-1 : Int32)).2.2))
theorem zf_X9_plan_3_e (MNow : Nat → Int64) (MLev : Nat → Int64) : zf_X9_plan_3 MNow MLev = (((zf_X9_allThree MNow (zl_X9_plan_3_7 MNow 8 0 MLev) (-1 : Int32)).1), ((zf_X9_allThree MNow (zl_X9_plan_3_7 MNow 8 0 MLev) (-1 : Int32)).2.1), ((zf_X9_allThree MNow (zl_X9_plan_3_7 MNow 8 0 MLev) (-1 : Int32)).2.2)) := rfl
set_option maxHeartbeats 4000000 in
set_option maxRecDepth 100000 in
theorem zc_X9_plan_3 (l : Launch) (g : zG) (B : Nat) (md : Nat → Nat) (MNow : Nat → Int64) (MPast : Nat → Int64) (MSav : Nat) (MRef : Int32) (MThen : Nat → Int64) (MLev : Nat → Int64) (MFst : Int32) (MWay : Nat → Int64) (MMost : Nat → Int32) (MHash : Int64) (hN : zNow MNow) : zMet l g B yX9_plan cX9_plan 3 (some .long) 6 260 0 0 [.ref (md 0), .int (3 : Int32)] [wMod g md MNow MPast MSav MRef MThen MLev MFst MWay MMost MHash] (zDet (some (.long ((zf_X9_plan_3 MNow MLev).1))) [wMod g md MNow MPast MSav MRef MThen ((zf_X9_plan_3 MNow MLev).2.1) ((zf_X9_plan_3 MNow MLev).2.2) MWay MMost MHash]) := by
  refine z_in (plainFor_of_name (by decide)) (Nat.le_of_ble_eq_true rfl) (fun p e R s m args below meth c A Q hRf hRl hRc hRs X Z hnm E ls hl => ?_)
  have hx := X.1
  have hb := X.2.1
  have hown := X.2.2.2.1
  have hts := X.2.2.2.2.1
  have hl : lv_has ls 3 [(0, .ref (md 0)), (1, .int (3 : Int32))] := hl
  have hN2 := hN; obtain ⟨he9, hb9, he34, hb34, he43, hb43, he284, hb284, he301, hb301⟩ := hN2
  refine lv_aload_n hx hb dX9_plan_0 rfl (lv_at hl 0 rfl) ?_
  refine lv_iconst (v := (-1 : Int32)) hx hb dX9_plan_1 (by decide) ?_
  refine z_put (cs2 := [wMod g md MNow MPast MSav MRef MThen MLev (-1 : Int32) MWay MMost MHash]) (v := .int (-1 : Int32)) X Z 0 rfl (rfl : zCl[7]? = some (RX9, TX9, 10)) zU_X9 tyX9 tyX9_ok nmX9 6 (by decide) wF_X9_157 rfl rfl rfl rfl (Nat.le_of_ble_eq_true rfl) rfl dX9_plan_2 (fun H locs Z => ?_)
  refine lv_iconst (v := (0 : Int32)) hx hb dX9_plan_5 (by decide) ?_
  refine lv_istore_n (lv' := [(2, .int (0 : Int32)), (0, .ref (md 0)), (1, .int (3 : Int32))]) hx hb dX9_plan_6 rfl hl (by decide) rfl (fun ls hl => ?_)
  have loop_7 : ∀ (n7 j7 : Nat) (v1 : Nat → Int64), j7 + n7 = 8 → zl_X9_plan_3_7 MNow n7 j7 v1 = (zl_X9_plan_3_7 MNow 8 0 MLev) → ∀ (H : Heap) (locs : List Loc), zM g B A s [wMod g md MNow MPast MSav MRef MThen v1 (-1 : Int32) MWay MMost MHash] H locs → ∀ ls : Array Slot, lv_has ls 3 [(2, .int (nI j7)), (0, .ref (md 0)), (1, .int (3 : Int32))] → W p l e R s m args below meth c H locs 0 0 Q (F0 m 7 ls []) := by
    intro n7
    induction n7 with
    | zero =>
      intro j7 v1 hin7 hR7 H locs Z ls hl
      have e_v1 : (zl_X9_plan_3_7 MNow 8 0 MLev) = v1 := hR7.symm
      subst e_v1
      refine lv_iload_n hx hb dX9_plan_7 rfl (lv_at hl 0 rfl) ?_
      refine lv_bipush (v := (8 : Int32)) hx hb dX9_plan_8 (by decide) ?_
      refine z_icmp_ge (a := j7) (b := 8) (tgt := 34) X rfl rfl (by omega) (by omega) dX9_plan_10 (by decide) (fun c_1 => ?_) (fun c_1 => ?_)
      · refine lv_iload_n hx hb dX9_plan_34 rfl (lv_at hl 2 rfl) ?_
        refine lv_tableOut (tgt := 78) hx hb dX9_plan_35 (by decide) (by decide) ?_
        refine lv_aload_n hx hb dX9_plan_78 rfl (lv_at hl 1 rfl) ?_
        refine z_callV (mc := 0) (ms := 0) (As := []) (rest := []) (st2 := [.long ((zf_X9_allThree MNow (zl_X9_plan_3_7 MNow 8 0 MLev) (-1 : Int32)).1)]) (cs2 := [wMod g md MNow MPast MSav MRef MThen ((zf_X9_allThree MNow (zl_X9_plan_3_7 MNow 8 0 MLev) (-1 : Int32)).2.1) ((zf_X9_allThree MNow (zl_X9_plan_3_7 MNow 8 0 MLev) (-1 : Int32)).2.2) MWay MMost MHash]) X Z [0] [] [0] 0 7 (zc_X9_allThree l g B md MNow MPast MSav MRef MThen (zl_X9_plan_3_7 MNow 8 0 MLev) (-1 : Int32) MWay MMost MHash (by first | assumption | omega | decide)) wM_X9_166 wS_X9_allThree wV_X9_allThree wK_X9_allThree wZ_X9 0 1 1 rfl (by decide +kernel) rfl (by decide) rfl rfl rfl (by decide) rfl rfl (rfl : zCl[7]? = some (RX9, TX9, 10)) hl.1 rfl rfl (by rw [hRf, hRl]; exact ⟨Nat.le_of_ble_eq_true rfl, Nat.le_of_ble_eq_true rfl⟩) (Nat.le_of_ble_eq_true rfl) ⟨Nat.zero_le _, Nat.zero_le _⟩ dX9_plan_79 (fun H locs Z => ?_)
        exact z_rl (v := ((zf_X9_allThree MNow (zl_X9_plan_3_7 MNow 8 0 MLev) (-1 : Int32)).1)) E Z (by rw [zf_X9_plan_3_e]; dsimp only; exact ⟨rfl, rfl⟩) dX9_plan_82 (Nat.zero_le _) (Nat.zero_le _)
      · (exfalso; omega)
    | succ n7 ih7 =>
      intro j7 v1 hin7 hR7 H locs Z ls hl
      refine lv_iload_n hx hb dX9_plan_7 rfl (lv_at hl 0 rfl) ?_
      refine lv_bipush (v := (8 : Int32)) hx hb dX9_plan_8 (by decide) ?_
      refine z_icmp_ge (a := j7) (b := 8) (tgt := 34) X rfl rfl (by omega) (by omega) dX9_plan_10 (by decide) (fun c_2 => ?_) (fun c_2 => ?_)
      · (exfalso; omega)
      · refine lv_aload_n hx hb dX9_plan_13 rfl (lv_at hl 1 rfl) ?_
        refine z_get X Z 0 rfl (rfl : zCl[7]? = some (RX9, TX9, 10)) zU_X9 5 (by decide) wF_X9_19 rfl rfl dX9_plan_14 ?_
        refine lv_iload_n hx hb dX9_plan_17 rfl (lv_at hl 0 rfl) ?_
        refine lv_aload_n hx hb dX9_plan_18 rfl (lv_at hl 1 rfl) ?_
        refine z_get X Z 0 rfl (rfl : zCl[7]? = some (RX9, TX9, 10)) zU_X9 0 (by decide) wF_X9_7 rfl rfl dX9_plan_19 ?_
        refine lv_bipush (v := (35 : Int32)) hx hb dX9_plan_22 (by decide) ?_
        refine lv_iload_n hx hb dX9_plan_24 rfl (lv_at hl 0 rfl) ?_
        refine z_iadd (a := 35) (b := j7) X rfl rfl dX9_plan_25 ?_
        refine z_lald (j := (35 + j7)) X Z 1 rfl rfl (by omega) (by decide) dX9_plan_26 ?_
        refine z_last (cs2 := [wMod g md MNow MPast MSav MRef MThen (vp_updL v1 j7 (MNow (35 + j7))) (-1 : Int32) MWay MMost MHash]) (j := j7) (x := (MNow (35 + j7))) X Z 4 rfl rfl (by omega) (by decide) rfl dX9_plan_27 (fun H locs Z => ?_)
        refine z_iinc (b := (j7 + 1)) (st := 1) (lv' := [(2, .int (nI (j7 + 1))), (0, .ref (md 0)), (1, .int (3 : Int32))]) X dX9_plan_28 hl (k := 0) rfl rfl (by decide) (by omega) (by decide) rfl (fun ls hl => ?_)
        refine lv_goto (tgt := 7) hx hb dX9_plan_31 (by decide) ?_
        exact ih7 (j7 + 1) (vp_updL v1 j7 (MNow (35 + j7))) (by omega) (by have h9 := hR7; rw [zl_X9_plan_3_7_s] at h9; exact h9) _ _ Z ls (lv_sub hl [0, 1, 2] rfl)
  exact loop_7 8 0 MLev (by omega) rfl _ _ Z ls (lv_sub hl [0, 1, 2] rfl)
def zl_X9_tens_4 : Nat → Nat → Int64 → Int64
  | 0, _, x1 => x1
  | n4 + 1, j4, x1 => zl_X9_tens_4 n4 (j4 + 1) (x1 * (10 : Int64))
theorem zl_X9_tens_4_s (n4 : Nat) (j4 : Nat) (x1 : Int64) : zl_X9_tens_4 (n4 + 1) j4 x1 = zl_X9_tens_4 n4 (j4 + 1) (x1 * (10 : Int64)) := rfl
def zf_X9_tens (k : Nat) : Int64 := (zl_X9_tens_4 k 0 (1 : Int64))
theorem zf_X9_tens_e (k : Nat) : zf_X9_tens k = (zl_X9_tens_4 k 0 (1 : Int64)) := rfl
set_option maxHeartbeats 4000000 in
set_option maxRecDepth 100000 in
theorem zc_X9_tens (l : Launch) (g : zG) (B : Nat) (k : Nat) (hk : k ≤ 15) : zMet l g B yX9_tens cX9_tens 4 (some .long) 1 60 0 0 [.int (nI k)] [] (zDet (some (.long (zf_X9_tens k))) []) := by
  refine z_in (plainFor_of_name (by decide)) (Nat.le_of_ble_eq_true rfl) (fun p e R s m args below meth c A Q hRf hRl hRc hRs X Z hnm E ls hl => ?_)
  have hx := X.1
  have hb := X.2.1
  have hown := X.2.2.2.1
  have hts := X.2.2.2.2.1
  have hl : lv_has ls 4 [(0, .int (nI k))] := hl
  refine lv_lconst (v := (1 : Int64)) hx hb dX9_tens_0 (by decide) ?_
  refine lv_lstore_n (lv' := [(1, .long (1 : Int64)), (0, .int (nI k))]) hx hb dX9_tens_1 rfl hl (by decide) rfl (fun ls hl => ?_)
  refine lv_iconst (v := (0 : Int32)) hx hb dX9_tens_2 (by decide) ?_
  refine lv_istore_n (lv' := [(3, .int (0 : Int32)), (1, .long (1 : Int64)), (0, .int (nI k))]) hx hb dX9_tens_3 rfl hl (by decide) rfl (fun ls hl => ?_)
  have loop_4 : ∀ (n4 j4 : Nat) (x1 : Int64), j4 + n4 = k → zl_X9_tens_4 n4 j4 x1 = (zl_X9_tens_4 k 0 (1 : Int64)) → ∀ (H : Heap) (locs : List Loc), zM g B A s [] H locs → ∀ ls : Array Slot, lv_has ls 4 [(3, .int (nI j4)), (1, .long x1), (0, .int (nI k))] → W p l e R s m args below meth c H locs 0 0 Q (F0 m 4 ls []) := by
    intro n4
    induction n4 with
    | zero =>
      intro j4 x1 hin4 hR4 H locs Z ls hl
      have e_x1 : (zl_X9_tens_4 k 0 (1 : Int64)) = x1 := hR4.symm
      subst e_x1
      refine lv_iload_n hx hb dX9_tens_4 rfl (lv_at hl 0 rfl) ?_
      refine lv_iload_n hx hb dX9_tens_5 rfl (lv_at hl 2 rfl) ?_
      refine z_icmp_ge (a := j4) (b := k) (tgt := 21) X rfl rfl (by omega) (by omega) dX9_tens_6 (by decide) (fun c_1 => ?_) (fun c_1 => ?_)
      · refine lv_lload_n hx hb dX9_tens_21 rfl (lv_at hl 1 rfl) ?_
        exact z_rl (v := (zl_X9_tens_4 k 0 (1 : Int64))) E Z (by rw [zf_X9_tens_e]; exact ⟨rfl, rfl⟩) dX9_tens_22 (Nat.zero_le _) (Nat.zero_le _)
      · (exfalso; omega)
    | succ n4 ih4 =>
      intro j4 x1 hin4 hR4 H locs Z ls hl
      refine lv_iload_n hx hb dX9_tens_4 rfl (lv_at hl 0 rfl) ?_
      refine lv_iload_n hx hb dX9_tens_5 rfl (lv_at hl 2 rfl) ?_
      refine z_icmp_ge (a := j4) (b := k) (tgt := 21) X rfl rfl (by omega) (by omega) dX9_tens_6 (by decide) (fun c_2 => ?_) (fun c_2 => ?_)
      · (exfalso; omega)
      · refine lv_lload_n hx hb dX9_tens_9 rfl (lv_at hl 1 rfl) ?_
        refine lv_ldc2 (v := (10 : Int64)) hx hb hown (hts _ wL_X9_142) dX9_tens_10 ?_
        refine lv_lmul hx hb dX9_tens_13 ?_
        refine lv_lstore_n (lv' := [(1, .long (x1 * (10 : Int64))), (3, .int (nI j4)), (0, .int (nI k))]) hx hb dX9_tens_14 rfl hl (by decide) rfl (fun ls hl => ?_)
        refine z_iinc (b := (j4 + 1)) (st := 1) (lv' := [(3, .int (nI (j4 + 1))), (1, .long (x1 * (10 : Int64))), (0, .int (nI k))]) X dX9_tens_15 hl (k := 1) rfl rfl (by decide) (by omega) (by decide) rfl (fun ls hl => ?_)
        refine lv_goto (tgt := 4) hx hb dX9_tens_18 (by decide) ?_
        exact ih4 (j4 + 1) (x1 * (10 : Int64)) (by omega) (by have h9 := hR4; rw [zl_X9_tens_4_s] at h9; exact h9) _ _ Z ls (lv_sub hl [0, 1, 2] rfl)
  exact loop_4 k 0 (1 : Int64) (by omega) rfl _ _ Z ls (lv_sub hl [0, 1, 2] rfl)
def zl_X9_laysWays_40 (u : Nat) : Nat → (Nat → Int64) → (Nat → Int64)
  | 0, v2 => v2
  | n40 + 1, v2 => zl_X9_laysWays_40 u n40 (vp_updL v2 (n40 + 1) (((v2 (n40 + 1)) * (lN (10 - u))) + ((v2 ((n40 + 1) - 1)) * (lN u))))
theorem zl_X9_laysWays_40_s (u : Nat) (n40 : Nat) (v2 : Nat → Int64) : zl_X9_laysWays_40 u (n40 + 1) v2 = zl_X9_laysWays_40 u n40 (vp_updL v2 (n40 + 1) (((v2 (n40 + 1)) * (lN (10 - u))) + ((v2 ((n40 + 1) - 1)) * (lN u)))) := rfl
def zl_X9_laysWays_31 (u : Nat) : Nat → Nat → (Nat → Int64) → (Nat → Int64)
  | 0, _, v1 => v1
  | n31 + 1, j31, v1 => zl_X9_laysWays_31 u n31 (j31 + 1) (vp_updL (zl_X9_laysWays_40 u 16 v1) 0 (((zl_X9_laysWays_40 u 16 v1) 0) * (lN (10 - u))))
theorem zl_X9_laysWays_31_s (u : Nat) (n31 : Nat) (j31 : Nat) (v1 : Nat → Int64) : zl_X9_laysWays_31 u (n31 + 1) j31 v1 = zl_X9_laysWays_31 u n31 (j31 + 1) (vp_updL (zl_X9_laysWays_40 u 16 v1) 0 (((zl_X9_laysWays_40 u 16 v1) 0) * (lN (10 - u)))) := rfl
def zl_X9_laysWays_2 : Nat → Nat → (Nat → Int64) → (Nat → Int64)
  | 0, _, v1 => v1
  | n2 + 1, j2, v1 => (if j2 = 0 then zl_X9_laysWays_2 n2 (j2 + 1) (vp_updL v1 j2 (1 : Int64)) else zl_X9_laysWays_2 n2 (j2 + 1) (vp_updL v1 j2 (0 : Int64)))
theorem zl_X9_laysWays_2_s (n2 : Nat) (j2 : Nat) (v1 : Nat → Int64) : zl_X9_laysWays_2 (n2 + 1) j2 v1 = (if j2 = 0 then zl_X9_laysWays_2 n2 (j2 + 1) (vp_updL v1 j2 (1 : Int64)) else zl_X9_laysWays_2 n2 (j2 + 1) (vp_updL v1 j2 (0 : Int64))) := rfl
def zf_X9_laysWays (MWay : Nat → Int64) (t : Nat) (u : Nat) : (Nat → Int64) := (zl_X9_laysWays_31 u t 0 (zl_X9_laysWays_2 17 0 MWay))
theorem zf_X9_laysWays_e (MWay : Nat → Int64) (t : Nat) (u : Nat) : zf_X9_laysWays MWay t u = (zl_X9_laysWays_31 u t 0 (zl_X9_laysWays_2 17 0 MWay)) := rfl
set_option maxHeartbeats 4000000 in
set_option maxRecDepth 100000 in
theorem zc_X9_laysWays (l : Launch) (g : zG) (B : Nat) (md : Nat → Nat) (MNow : Nat → Int64) (MPast : Nat → Int64) (MSav : Nat) (MRef : Int32) (MThen : Nat → Int64) (MLev : Nat → Int64) (MFst : Int32) (MWay : Nat → Int64) (MMost : Nat → Int32) (MHash : Int64) (t : Nat) (u : Nat) (ht : t ≤ 15) (hu : u ≤ 10) : zMet l g B yX9_laysWays cX9_laysWays 5 none 1 60 0 0 [.ref (md 0), .int (nI t), .int (nI u)] [wMod g md MNow MPast MSav MRef MThen MLev MFst MWay MMost MHash] (zDet (none) [wMod g md MNow MPast MSav MRef MThen MLev MFst (zf_X9_laysWays MWay t u) MMost MHash]) := by
  refine z_in (plainFor_of_name (by decide)) (Nat.le_of_ble_eq_true rfl) (fun p e R s m args below meth c A Q hRf hRl hRc hRs X Z hnm E ls hl => ?_)
  have hx := X.1
  have hb := X.2.1
  have hown := X.2.2.2.1
  have hts := X.2.2.2.2.1
  have hl : lv_has ls 5 [(0, .ref (md 0)), (1, .int (nI t)), (2, .int (nI u))] := hl
  refine lv_iconst (v := (0 : Int32)) hx hb dX9_laysWays_0 (by decide) ?_
  refine lv_istore_n (lv' := [(3, .int (0 : Int32)), (0, .ref (md 0)), (1, .int (nI t)), (2, .int (nI u))]) hx hb dX9_laysWays_1 rfl hl (by decide) rfl (fun ls hl => ?_)
  have loop_2 : ∀ (n2 j2 : Nat) (v1 : Nat → Int64), j2 + n2 = 17 → zl_X9_laysWays_2 n2 j2 v1 = (zl_X9_laysWays_2 17 0 MWay) → ∀ (H : Heap) (locs : List Loc), zM g B A s [wMod g md MNow MPast MSav MRef MThen MLev MFst v1 MMost MHash] H locs → ∀ ls : Array Slot, lv_has ls 5 [(3, .int (nI j2)), (0, .ref (md 0)), (1, .int (nI t)), (2, .int (nI u))] → W p l e R s m args below meth c H locs 0 0 Q (F0 m 2 ls []) := by
    intro n2
    induction n2 with
    | zero =>
      intro j2 v1 hin2 hR2 H locs Z ls hl
      have e_v1 : (zl_X9_laysWays_2 17 0 MWay) = v1 := hR2.symm
      subst e_v1
      refine lv_iload_n hx hb dX9_laysWays_2 rfl (lv_at hl 0 rfl) ?_
      refine lv_bipush (v := (17 : Int32)) hx hb dX9_laysWays_3 (by decide) ?_
      refine z_icmp_ge (a := j2) (b := 17) (tgt := 29) X rfl rfl (by omega) (by omega) dX9_laysWays_5 (by decide) (fun c_1 => ?_) (fun c_1 => ?_)
      · refine lv_iconst (v := (0 : Int32)) hx hb dX9_laysWays_29 (by decide) ?_
        refine lv_istore_n (lv' := [(3, .int (0 : Int32)), (0, .ref (md 0)), (1, .int (nI t)), (2, .int (nI u))]) hx hb dX9_laysWays_30 rfl hl (by decide) rfl (fun ls hl => ?_)
        have loop_31 : ∀ (n31 j31 : Nat) (v1 : Nat → Int64), j31 + n31 = t → zl_X9_laysWays_31 u n31 j31 v1 = (zl_X9_laysWays_31 u t 0 (zl_X9_laysWays_2 17 0 MWay)) → ∀ (H : Heap) (locs : List Loc), zM g B A s [wMod g md MNow MPast MSav MRef MThen MLev MFst v1 MMost MHash] H locs → ∀ ls : Array Slot, lv_has ls 5 [(3, .int (nI j31)), (0, .ref (md 0)), (1, .int (nI t)), (2, .int (nI u))] → W p l e R s m args below meth c H locs 0 0 Q (F0 m 31 ls []) := by
          intro n31
          induction n31 with
          | zero =>
            intro j31 v1 hin31 hR31 H locs Z ls hl
            have e_v1 : (zl_X9_laysWays_31 u t 0 (zl_X9_laysWays_2 17 0 MWay)) = v1 := hR31.symm
            subst e_v1
            refine lv_iload_n hx hb dX9_laysWays_31 rfl (lv_at hl 0 rfl) ?_
            refine lv_iload_n hx hb dX9_laysWays_32 rfl (lv_at hl 2 rfl) ?_
            refine z_icmp_ge (a := j31) (b := t) (tgt := 104) X rfl rfl (by omega) (by omega) dX9_laysWays_33 (by decide) (fun c_2 => ?_) (fun c_2 => ?_)
            · exact z_rv E Z (by rw [zf_X9_laysWays_e]; exact ⟨rfl, rfl⟩) dX9_laysWays_104 (Nat.zero_le _) (Nat.zero_le _)
            · (exfalso; omega)
          | succ n31 ih31 =>
            intro j31 v1 hin31 hR31 H locs Z ls hl
            refine lv_iload_n hx hb dX9_laysWays_31 rfl (lv_at hl 0 rfl) ?_
            refine lv_iload_n hx hb dX9_laysWays_32 rfl (lv_at hl 2 rfl) ?_
            refine z_icmp_ge (a := j31) (b := t) (tgt := 104) X rfl rfl (by omega) (by omega) dX9_laysWays_33 (by decide) (fun c_3 => ?_) (fun c_3 => ?_)
            · (exfalso; omega)
            · refine lv_bipush (v := (16 : Int32)) hx hb dX9_laysWays_36 (by decide) ?_
              refine lv_istore (lv' := [(4, .int (16 : Int32)), (3, .int (nI j31)), (0, .ref (md 0)), (1, .int (nI t)), (2, .int (nI u))]) hx hb dX9_laysWays_38 hl (by decide) rfl (fun ls hl => ?_)
              have loop_40 : ∀ (n40 : Nat) (v2 : Nat → Int64), n40 ≤ 16 → zl_X9_laysWays_40 u n40 v2 = (zl_X9_laysWays_40 u 16 v1) → ∀ (H : Heap) (locs : List Loc), zM g B A s [wMod g md MNow MPast MSav MRef MThen MLev MFst v2 MMost MHash] H locs → ∀ ls : Array Slot, lv_has ls 5 [(4, .int (nI n40)), (3, .int (nI j31)), (0, .ref (md 0)), (1, .int (nI t)), (2, .int (nI u))] → W p l e R s m args below meth c H locs 0 0 Q (F0 m 40 ls []) := by
                intro n40
                induction n40 with
                | zero =>
                  intro v2 hin40 hR40 H locs Z ls hl
                  have e_v2 : (zl_X9_laysWays_40 u 16 v1) = v2 := hR40.symm
                  subst e_v2
                  have hl : lv_has ls 5 [(4, .int (0 : Int32)), (3, .int (nI j31)), (0, .ref (md 0)), (1, .int (nI t)), (2, .int (nI u))] := hl
                  refine lv_iload hx hb dX9_laysWays_40 (lv_at hl 0 rfl) ?_
                  refine lv_if_le (tgt := 84) hx hb dX9_laysWays_42 (by decide) (fun c_4 => ?_) (fun c_4 => ?_)
                  · refine lv_aload_n hx hb dX9_laysWays_84 rfl (lv_at hl 2 rfl) ?_
                    refine z_get X Z 0 rfl (rfl : zCl[7]? = some (RX9, TX9, 10)) zU_X9 7 (by decide) wF_X9_22 rfl rfl dX9_laysWays_85 ?_
                    refine lv_iconst (v := (0 : Int32)) hx hb dX9_laysWays_88 (by decide) ?_
                    refine lv_dup2_11 hx hb dX9_laysWays_89 rfl rfl ?_
                    refine z_lald (j := 0) X Z 5 rfl rfl (by omega) (by decide) dX9_laysWays_90 ?_
                    refine lv_bipush (v := (10 : Int32)) hx hb dX9_laysWays_91 (by decide) ?_
                    refine lv_iload_n hx hb dX9_laysWays_93 rfl (lv_at hl 4 rfl) ?_
                    refine z_isub (a := 10) (b := u) X rfl rfl (by omega) dX9_laysWays_94 ?_
                    refine z_i2l (a := (10 - u)) X rfl (by omega) dX9_laysWays_95 ?_
                    refine lv_lmul hx hb dX9_laysWays_96 ?_
                    refine z_last (cs2 := [wMod g md MNow MPast MSav MRef MThen MLev MFst (vp_updL (zl_X9_laysWays_40 u 16 v1) 0 (((zl_X9_laysWays_40 u 16 v1) 0) * (lN (10 - u)))) MMost MHash]) (j := 0) (x := (((zl_X9_laysWays_40 u 16 v1) 0) * (lN (10 - u)))) X Z 5 rfl rfl (by omega) (by decide) rfl dX9_laysWays_97 (fun H locs Z => ?_)
                    refine z_iinc (b := (j31 + 1)) (st := 1) (lv' := [(3, .int (nI (j31 + 1))), (4, .int (0 : Int32)), (0, .ref (md 0)), (1, .int (nI t)), (2, .int (nI u))]) X dX9_laysWays_98 hl (k := 1) rfl rfl (by decide) (by omega) (by decide) rfl (fun ls hl => ?_)
                    refine lv_goto (tgt := 31) hx hb dX9_laysWays_101 (by decide) ?_
                    exact ih31 (j31 + 1) (vp_updL (zl_X9_laysWays_40 u 16 v1) 0 (((zl_X9_laysWays_40 u 16 v1) 0) * (lN (10 - u)))) (by omega) (by have h9 := hR31; rw [zl_X9_laysWays_31_s] at h9; exact h9) _ _ Z ls (lv_sub hl [0, 2, 3, 4] rfl)
                  · (exact absurd c_4 (by decide))
                | succ n40 ih40 =>
                  intro v2 hin40 hR40 H locs Z ls hl
                  refine lv_iload hx hb dX9_laysWays_40 (lv_at hl 0 rfl) ?_
                  refine z_ifleN (a := (n40 + 1)) (tgt := 84) X rfl (by omega) dX9_laysWays_42 (by decide) (fun c_5 => ?_) (fun c_5 => ?_)
                  · (exfalso; omega)
                  · refine lv_aload_n hx hb dX9_laysWays_45 rfl (lv_at hl 2 rfl) ?_
                    refine z_get X Z 0 rfl (rfl : zCl[7]? = some (RX9, TX9, 10)) zU_X9 7 (by decide) wF_X9_22 rfl rfl dX9_laysWays_46 ?_
                    refine lv_iload hx hb dX9_laysWays_49 (lv_at hl 0 rfl) ?_
                    refine lv_aload_n hx hb dX9_laysWays_51 rfl (lv_at hl 2 rfl) ?_
                    refine z_get X Z 0 rfl (rfl : zCl[7]? = some (RX9, TX9, 10)) zU_X9 7 (by decide) wF_X9_22 rfl rfl dX9_laysWays_52 ?_
                    refine lv_iload hx hb dX9_laysWays_55 (lv_at hl 0 rfl) ?_
                    refine z_lald (j := (n40 + 1)) X Z 5 rfl rfl (by omega) (by decide) dX9_laysWays_57 ?_
                    refine lv_bipush (v := (10 : Int32)) hx hb dX9_laysWays_58 (by decide) ?_
                    refine lv_iload_n hx hb dX9_laysWays_60 rfl (lv_at hl 4 rfl) ?_
                    refine z_isub (a := 10) (b := u) X rfl rfl (by omega) dX9_laysWays_61 ?_
                    refine z_i2l (a := (10 - u)) X rfl (by omega) dX9_laysWays_62 ?_
                    refine lv_lmul hx hb dX9_laysWays_63 ?_
                    refine lv_aload_n hx hb dX9_laysWays_64 rfl (lv_at hl 2 rfl) ?_
                    refine z_get X Z 0 rfl (rfl : zCl[7]? = some (RX9, TX9, 10)) zU_X9 7 (by decide) wF_X9_22 rfl rfl dX9_laysWays_65 ?_
                    refine lv_iload hx hb dX9_laysWays_68 (lv_at hl 0 rfl) ?_
                    refine lv_iconst (v := (1 : Int32)) hx hb dX9_laysWays_70 (by decide) ?_
                    refine z_isub (a := (n40 + 1)) (b := 1) X rfl rfl (by omega) dX9_laysWays_71 ?_
                    refine z_lald (j := ((n40 + 1) - 1)) X Z 5 rfl rfl (by omega) (by decide) dX9_laysWays_72 ?_
                    refine lv_iload_n hx hb dX9_laysWays_73 rfl (lv_at hl 4 rfl) ?_
                    refine z_i2l (a := u) X rfl (by omega) dX9_laysWays_74 ?_
                    refine lv_lmul hx hb dX9_laysWays_75 ?_
                    refine lv_ladd hx hb dX9_laysWays_76 ?_
                    refine z_last (cs2 := [wMod g md MNow MPast MSav MRef MThen MLev MFst (vp_updL v2 (n40 + 1) (((v2 (n40 + 1)) * (lN (10 - u))) + ((v2 ((n40 + 1) - 1)) * (lN u)))) MMost MHash]) (j := (n40 + 1)) (x := (((v2 (n40 + 1)) * (lN (10 - u))) + ((v2 ((n40 + 1) - 1)) * (lN u)))) X Z 5 rfl rfl (by omega) (by decide) rfl dX9_laysWays_77 (fun H locs Z => ?_)
                    refine lv_iinc (v := (nI n40)) (lv' := [(4, .int (nI n40)), (3, .int (nI j31)), (0, .ref (md 0)), (1, .int (nI t)), (2, .int (nI u))]) hx hb dX9_laysWays_78 hl (k := 0) rfl (zdp _) (by decide) rfl (fun ls hl => ?_)
                    refine lv_goto (tgt := 40) hx hb dX9_laysWays_81 (by decide) ?_
                    exact ih40 (vp_updL v2 (n40 + 1) (((v2 (n40 + 1)) * (lN (10 - u))) + ((v2 ((n40 + 1) - 1)) * (lN u)))) (by omega) (by have h9 := hR40; rw [zl_X9_laysWays_40_s] at h9; exact h9) _ _ Z ls (lv_sub hl [0, 1, 2, 3, 4] rfl)
              exact loop_40 16 v1 (Nat.le_refl _) rfl _ _ Z ls (lv_sub hl [0, 1, 2, 3, 4] rfl)
        exact loop_31 t 0 (zl_X9_laysWays_2 17 0 MWay) (by omega) rfl _ _ Z ls (lv_sub hl [0, 1, 2, 3] rfl)
      · (exfalso; omega)
    | succ n2 ih2 =>
      intro j2 v1 hin2 hR2 H locs Z ls hl
      refine lv_iload_n hx hb dX9_laysWays_2 rfl (lv_at hl 0 rfl) ?_
      refine lv_bipush (v := (17 : Int32)) hx hb dX9_laysWays_3 (by decide) ?_
      refine z_icmp_ge (a := j2) (b := 17) (tgt := 29) X rfl rfl (by omega) (by omega) dX9_laysWays_5 (by decide) (fun c_6 => ?_) (fun c_6 => ?_)
      · (exfalso; omega)
      · refine lv_aload_n hx hb dX9_laysWays_8 rfl (lv_at hl 1 rfl) ?_
        refine z_get X Z 0 rfl (rfl : zCl[7]? = some (RX9, TX9, 10)) zU_X9 7 (by decide) wF_X9_22 rfl rfl dX9_laysWays_9 ?_
        refine lv_iload_n hx hb dX9_laysWays_12 rfl (lv_at hl 0 rfl) ?_
        refine lv_iload_n hx hb dX9_laysWays_13 rfl (lv_at hl 0 rfl) ?_
        refine z_ifneN (a := j2) (tgt := 21) X rfl (by omega) dX9_laysWays_14 (by decide) (fun c_7 => ?_) (fun c_7 => ?_)
        · refine lv_lconst (v := (0 : Int64)) hx hb dX9_laysWays_21 (by decide) ?_
          refine z_last (cs2 := [wMod g md MNow MPast MSav MRef MThen MLev MFst (vp_updL v1 j2 (0 : Int64)) MMost MHash]) (j := j2) (x := (0 : Int64)) X Z 5 rfl rfl (by omega) (by decide) rfl dX9_laysWays_22 (fun H locs Z => ?_)
          refine z_iinc (b := (j2 + 1)) (st := 1) (lv' := [(3, .int (nI (j2 + 1))), (0, .ref (md 0)), (1, .int (nI t)), (2, .int (nI u))]) X dX9_laysWays_23 hl (k := 0) rfl rfl (by decide) (by omega) (by decide) rfl (fun ls hl => ?_)
          refine lv_goto (tgt := 2) hx hb dX9_laysWays_26 (by decide) ?_
          exact ih2 (j2 + 1) (vp_updL v1 j2 (0 : Int64)) (by omega) (by have h9 := hR2; rw [zl_X9_laysWays_2_s, if_neg c_7] at h9; exact h9) _ _ Z ls (lv_sub hl [0, 1, 2, 3] rfl)
        · refine lv_lconst (v := (1 : Int64)) hx hb dX9_laysWays_17 (by decide) ?_
          refine lv_goto (tgt := 22) hx hb dX9_laysWays_18 (by decide) ?_
          refine z_last (cs2 := [wMod g md MNow MPast MSav MRef MThen MLev MFst (vp_updL v1 j2 (1 : Int64)) MMost MHash]) (j := j2) (x := (1 : Int64)) X Z 5 rfl rfl (by omega) (by decide) rfl dX9_laysWays_22 (fun H locs Z => ?_)
          refine z_iinc (b := (j2 + 1)) (st := 1) (lv' := [(3, .int (nI (j2 + 1))), (0, .ref (md 0)), (1, .int (nI t)), (2, .int (nI u))]) X dX9_laysWays_23 hl (k := 0) rfl rfl (by decide) (by omega) (by decide) rfl (fun ls hl => ?_)
          refine lv_goto (tgt := 2) hx hb dX9_laysWays_26 (by decide) ?_
          exact ih2 (j2 + 1) (vp_updL v1 j2 (1 : Int64)) (by omega) (by have h9 := hR2; rw [zl_X9_laysWays_2_s, if_pos c_7] at h9; exact h9) _ _ Z ls (lv_sub hl [0, 1, 2, 3] rfl)
  exact loop_2 17 0 MWay (by omega) rfl _ _ Z ls (lv_sub hl [0, 1, 2, 3] rfl)
def zl_X9_tailOf_12 (MWay : Nat → Int64) (t : Nat) (k : Nat) (u : Nat) : Nat → Nat → Int64 → Int64
  | 0, _, x4 => x4
  | n12 + 1, j12, x4 => zl_X9_tailOf_12 MWay t k u n12 (j12 + 1) (x4 + ((zf_X9_laysWays MWay t u) (k + j12)))
theorem zl_X9_tailOf_12_s (MWay : Nat → Int64) (t : Nat) (k : Nat) (u : Nat) (n12 : Nat) (j12 : Nat) (x4 : Int64) : zl_X9_tailOf_12 MWay t k u (n12 + 1) j12 x4 = zl_X9_tailOf_12 MWay t k u n12 (j12 + 1) (x4 + ((zf_X9_laysWays MWay t u) (k + j12))) := rfl
def zf_X9_tailOf (MWay : Nat → Int64) (t : Nat) (k : Nat) (u : Nat) : Int64 × (Nat → Int64) := ((zl_X9_tailOf_12 MWay t k u (17 - k) 0 (0 : Int64)), (zf_X9_laysWays MWay t u))
theorem zf_X9_tailOf_e (MWay : Nat → Int64) (t : Nat) (k : Nat) (u : Nat) : zf_X9_tailOf MWay t k u = ((zl_X9_tailOf_12 MWay t k u (17 - k) 0 (0 : Int64)), (zf_X9_laysWays MWay t u)) := rfl
set_option maxHeartbeats 4000000 in
set_option maxRecDepth 100000 in
theorem zc_X9_tailOf (l : Launch) (g : zG) (B : Nat) (md : Nat → Nat) (MNow : Nat → Int64) (MPast : Nat → Int64) (MSav : Nat) (MRef : Int32) (MThen : Nat → Int64) (MLev : Nat → Int64) (MFst : Int32) (MWay : Nat → Int64) (MMost : Nat → Int32) (MHash : Int64) (t : Nat) (k : Nat) (u : Nat) (ht : t ≤ 15) (hk : k ≤ 16) (hu : u ≤ 10) : zMet l g B yX9_tailOf cX9_tailOf 7 (some .long) 2 100 0 0 [.ref (md 0), .int (nI t), .int (nI k), .int (nI u)] [wMod g md MNow MPast MSav MRef MThen MLev MFst MWay MMost MHash] (zDet (some (.long ((zf_X9_tailOf MWay t k u).1))) [wMod g md MNow MPast MSav MRef MThen MLev MFst ((zf_X9_tailOf MWay t k u).2) MMost MHash]) := by
  refine z_in (plainFor_of_name (by decide)) (Nat.le_of_ble_eq_true rfl) (fun p e R s m args below meth c A Q hRf hRl hRc hRs X Z hnm E ls hl => ?_)
  have hx := X.1
  have hb := X.2.1
  have hown := X.2.2.2.1
  have hts := X.2.2.2.2.1
  have hl : lv_has ls 7 [(0, .ref (md 0)), (1, .int (nI t)), (2, .int (nI k)), (3, .int (nI u))] := hl
  refine lv_aload_n hx hb dX9_tailOf_0 rfl (lv_at hl 0 rfl) ?_
  refine lv_iload_n hx hb dX9_tailOf_1 rfl (lv_at hl 1 rfl) ?_
  refine lv_iload_n hx hb dX9_tailOf_2 rfl (lv_at hl 3 rfl) ?_
  refine z_callV (mc := 0) (ms := 0) (As := [.int (nI t), .int (nI u)]) (rest := []) (st2 := []) (cs2 := [wMod g md MNow MPast MSav MRef MThen MLev MFst (zf_X9_laysWays MWay t u) MMost MHash]) X Z [0] [] [0] 0 7 (zc_X9_laysWays l g B md MNow MPast MSav MRef MThen MLev MFst MWay MMost MHash t u (by first | assumption | omega | decide) (by first | assumption | omega | decide)) wM_X9_177 wS_X9_laysWays wV_X9_laysWays wK_X9_laysWays wZ_X9 2 1 1 rfl (by decide +kernel) rfl (by decide) rfl rfl rfl (by decide) rfl rfl (rfl : zCl[7]? = some (RX9, TX9, 10)) hl.1 rfl rfl (by rw [hRf, hRl]; exact ⟨Nat.le_of_ble_eq_true rfl, Nat.le_of_ble_eq_true rfl⟩) (Nat.le_of_ble_eq_true rfl) ⟨Nat.zero_le _, Nat.zero_le _⟩ dX9_tailOf_3 (fun H locs Z => ?_)
  refine lv_lconst (v := (0 : Int64)) hx hb dX9_tailOf_6 (by decide) ?_
  refine lv_lstore (lv' := [(4, .long (0 : Int64)), (0, .ref (md 0)), (1, .int (nI t)), (2, .int (nI k)), (3, .int (nI u))]) hx hb dX9_tailOf_7 hl (by decide) rfl (fun ls hl => ?_)
  refine lv_iload_n hx hb dX9_tailOf_9 rfl (lv_at hl 3 rfl) ?_
  refine lv_istore (lv' := [(6, .int (nI k)), (4, .long (0 : Int64)), (0, .ref (md 0)), (1, .int (nI t)), (2, .int (nI k)), (3, .int (nI u))]) hx hb dX9_tailOf_10 hl (by decide) rfl (fun ls hl => ?_)
  have loop_12 : ∀ (n12 j12 : Nat) (x4 : Int64), j12 + n12 = (17 - k) → zl_X9_tailOf_12 MWay t k u n12 j12 x4 = (zl_X9_tailOf_12 MWay t k u (17 - k) 0 (0 : Int64)) → ∀ (H : Heap) (locs : List Loc), zM g B A s [wMod g md MNow MPast MSav MRef MThen MLev MFst (zf_X9_laysWays MWay t u) MMost MHash] H locs → ∀ ls : Array Slot, lv_has ls 7 [(6, .int (nI (k + j12))), (4, .long x4), (0, .ref (md 0)), (1, .int (nI t)), (2, .int (nI k)), (3, .int (nI u))] → W p l e R s m args below meth c H locs 0 0 Q (F0 m 12 ls []) := by
    intro n12
    induction n12 with
    | zero =>
      intro j12 x4 hin12 hR12 H locs Z ls hl
      have e_x4 : (zl_X9_tailOf_12 MWay t k u (17 - k) 0 (0 : Int64)) = x4 := hR12.symm
      subst e_x4
      refine lv_iload hx hb dX9_tailOf_12 (lv_at hl 0 rfl) ?_
      refine lv_bipush (v := (17 : Int32)) hx hb dX9_tailOf_14 (by decide) ?_
      refine z_icmp_ge (a := (k + j12)) (b := 17) (tgt := 37) X rfl rfl (by omega) (by omega) dX9_tailOf_16 (by decide) (fun c_1 => ?_) (fun c_1 => ?_)
      · refine lv_lload hx hb dX9_tailOf_37 (lv_at hl 1 rfl) ?_
        exact z_rl (v := (zl_X9_tailOf_12 MWay t k u (17 - k) 0 (0 : Int64))) E Z (by rw [zf_X9_tailOf_e]; dsimp only; exact ⟨rfl, rfl⟩) dX9_tailOf_39 (Nat.zero_le _) (Nat.zero_le _)
      · (exfalso; omega)
    | succ n12 ih12 =>
      intro j12 x4 hin12 hR12 H locs Z ls hl
      refine lv_iload hx hb dX9_tailOf_12 (lv_at hl 0 rfl) ?_
      refine lv_bipush (v := (17 : Int32)) hx hb dX9_tailOf_14 (by decide) ?_
      refine z_icmp_ge (a := (k + j12)) (b := 17) (tgt := 37) X rfl rfl (by omega) (by omega) dX9_tailOf_16 (by decide) (fun c_2 => ?_) (fun c_2 => ?_)
      · (exfalso; omega)
      · refine lv_lload hx hb dX9_tailOf_19 (lv_at hl 1 rfl) ?_
        refine lv_aload_n hx hb dX9_tailOf_21 rfl (lv_at hl 2 rfl) ?_
        refine z_get X Z 0 rfl (rfl : zCl[7]? = some (RX9, TX9, 10)) zU_X9 7 (by decide) wF_X9_22 rfl rfl dX9_tailOf_22 ?_
        refine lv_iload hx hb dX9_tailOf_25 (lv_at hl 0 rfl) ?_
        refine z_lald (j := (k + j12)) X Z 5 rfl rfl (by omega) (by decide) dX9_tailOf_27 ?_
        refine lv_ladd hx hb dX9_tailOf_28 ?_
        refine lv_lstore (lv' := [(4, .long (x4 + ((zf_X9_laysWays MWay t u) (k + j12)))), (6, .int (nI (k + j12))), (0, .ref (md 0)), (1, .int (nI t)), (2, .int (nI k)), (3, .int (nI u))]) hx hb dX9_tailOf_29 hl (by decide) rfl (fun ls hl => ?_)
        refine z_iinc (b := (k + (j12 + 1))) (st := 1) (lv' := [(6, .int (nI (k + (j12 + 1)))), (4, .long (x4 + ((zf_X9_laysWays MWay t u) (k + j12)))), (0, .ref (md 0)), (1, .int (nI t)), (2, .int (nI k)), (3, .int (nI u))]) X dX9_tailOf_31 hl (k := 1) rfl rfl (by decide) (by omega) (by decide) rfl (fun ls hl => ?_)
        refine lv_goto (tgt := 12) hx hb dX9_tailOf_34 (by decide) ?_
        exact ih12 (j12 + 1) (x4 + ((zf_X9_laysWays MWay t u) (k + j12))) (by omega) (by have h9 := hR12; rw [zl_X9_tailOf_12_s] at h9; exact h9) _ _ Z ls (lv_sub hl [0, 1, 2, 3, 4, 5] rfl)
  exact loop_12 (17 - k) 0 (0 : Int64) (by omega) rfl _ _ Z ls (lv_sub hl [0, 1, 2, 3, 4, 5] rfl)
def zf_X9_mix (MHash : Int64) (x : Int64) : Int64 := (((31 : Int64) * MHash) + x)
theorem zf_X9_mix_e (MHash : Int64) (x : Int64) : zf_X9_mix MHash x = (((31 : Int64) * MHash) + x) := rfl
set_option maxHeartbeats 4000000 in
set_option maxRecDepth 100000 in
theorem zc_X9_mix (l : Launch) (g : zG) (B : Nat) (md : Nat → Nat) (MNow : Nat → Int64) (MPast : Nat → Int64) (MSav : Nat) (MRef : Int32) (MThen : Nat → Int64) (MLev : Nat → Int64) (MFst : Int32) (MWay : Nat → Int64) (MMost : Nat → Int32) (MHash : Int64) (x : Int64) : zMet l g B yX9_mix cX9_mix 3 none 1 20 0 0 [.ref (md 0), .long x] [wMod g md MNow MPast MSav MRef MThen MLev MFst MWay MMost MHash] (zDet (none) [wMod g md MNow MPast MSav MRef MThen MLev MFst MWay MMost (zf_X9_mix MHash x)]) := by
  refine z_in (plainFor_of_name (by decide)) (Nat.le_of_ble_eq_true rfl) (fun p e R s m args below meth c A Q hRf hRl hRc hRs X Z hnm E ls hl => ?_)
  have hx := X.1
  have hb := X.2.1
  have hown := X.2.2.2.1
  have hts := X.2.2.2.2.1
  have hl : lv_has ls 3 [(0, .ref (md 0)), (1, .long x)] := hl
  refine lv_aload_n hx hb dX9_mix_0 rfl (lv_at hl 0 rfl) ?_
  refine lv_ldc2 (v := (31 : Int64)) hx hb hown (hts _ wL_X9_209) dX9_mix_1 ?_
  refine lv_aload_n hx hb dX9_mix_4 rfl (lv_at hl 0 rfl) ?_
  refine z_get X Z 0 rfl (rfl : zCl[7]? = some (RX9, TX9, 10)) zU_X9 9 (by decide) wF_X9_211 rfl rfl dX9_mix_5 ?_
  refine lv_lmul hx hb dX9_mix_8 ?_
  refine lv_lload_n hx hb dX9_mix_9 rfl (lv_at hl 1 rfl) ?_
  refine lv_ladd hx hb dX9_mix_10 ?_
  refine z_put (cs2 := [wMod g md MNow MPast MSav MRef MThen MLev MFst MWay MMost (((31 : Int64) * MHash) + x)]) (v := .long (((31 : Int64) * MHash) + x)) X Z 0 rfl (rfl : zCl[7]? = some (RX9, TX9, 10)) zU_X9 tyX9 tyX9_ok nmX9 9 (by decide) wF_X9_211 rfl rfl rfl rfl (Nat.le_of_ble_eq_true rfl) rfl dX9_mix_11 (fun H locs Z => ?_)
  exact z_rv E Z (by rw [zf_X9_mix_e]; exact ⟨rfl, rfl⟩) dX9_mix_14 (Nat.zero_le _) (Nat.zero_le _)
def zl_X9_mixAll_2 (MNow : Nat → Int64) (k : Nat) : Nat → Nat → Int64 → Int64
  | 0, _, h1 => h1
  | n2 + 1, j2, h1 => zl_X9_mixAll_2 MNow k n2 (j2 + 1) (zf_X9_mix h1 (MNow (k + j2)))
theorem zl_X9_mixAll_2_s (MNow : Nat → Int64) (k : Nat) (n2 : Nat) (j2 : Nat) (h1 : Int64) : zl_X9_mixAll_2 MNow k (n2 + 1) j2 h1 = zl_X9_mixAll_2 MNow k n2 (j2 + 1) (zf_X9_mix h1 (MNow (k + j2))) := rfl
def zf_X9_mixAll (MNow : Nat → Int64) (MHash : Int64) (k : Nat) (t : Nat) : Int64 := (zl_X9_mixAll_2 MNow k t 0 MHash)
theorem zf_X9_mixAll_e (MNow : Nat → Int64) (MHash : Int64) (k : Nat) (t : Nat) : zf_X9_mixAll MNow MHash k t = (zl_X9_mixAll_2 MNow k t 0 MHash) := rfl
set_option maxHeartbeats 4000000 in
set_option maxRecDepth 100000 in
theorem zc_X9_mixAll (l : Launch) (g : zG) (B : Nat) (md : Nat → Nat) (MNow : Nat → Int64) (MPast : Nat → Int64) (MSav : Nat) (MRef : Int32) (MThen : Nat → Int64) (MLev : Nat → Int64) (MFst : Int32) (MWay : Nat → Int64) (MMost : Nat → Int32) (MHash : Int64) (k : Nat) (t : Nat) (hk : k + t ≤ 318) : zMet l g B yX9_mixAll cX9_mixAll 4 none 2 60 0 0 [.ref (md 0), .int (nI k), .int (nI t)] [wMod g md MNow MPast MSav MRef MThen MLev MFst MWay MMost MHash] (zDet (none) [wMod g md MNow MPast MSav MRef MThen MLev MFst MWay MMost (zf_X9_mixAll MNow MHash k t)]) := by
  refine z_in (plainFor_of_name (by decide)) (Nat.le_of_ble_eq_true rfl) (fun p e R s m args below meth c A Q hRf hRl hRc hRs X Z hnm E ls hl => ?_)
  have hx := X.1
  have hb := X.2.1
  have hown := X.2.2.2.1
  have hts := X.2.2.2.2.1
  have hl : lv_has ls 4 [(0, .ref (md 0)), (1, .int (nI k)), (2, .int (nI t))] := hl
  refine lv_iload_n hx hb dX9_mixAll_0 rfl (lv_at hl 1 rfl) ?_
  refine lv_istore_n (lv' := [(3, .int (nI k)), (0, .ref (md 0)), (1, .int (nI k)), (2, .int (nI t))]) hx hb dX9_mixAll_1 rfl hl (by decide) rfl (fun ls hl => ?_)
  have loop_2 : ∀ (n2 j2 : Nat) (h1 : Int64), j2 + n2 = t → zl_X9_mixAll_2 MNow k n2 j2 h1 = (zl_X9_mixAll_2 MNow k t 0 MHash) → ∀ (H : Heap) (locs : List Loc), zM g B A s [wMod g md MNow MPast MSav MRef MThen MLev MFst MWay MMost h1] H locs → ∀ ls : Array Slot, lv_has ls 4 [(3, .int (nI (k + j2))), (0, .ref (md 0)), (1, .int (nI k)), (2, .int (nI t))] → W p l e R s m args below meth c H locs 0 0 Q (F0 m 2 ls []) := by
    intro n2
    induction n2 with
    | zero =>
      intro j2 h1 hin2 hR2 H locs Z ls hl
      have e_h1 : (zl_X9_mixAll_2 MNow k t 0 MHash) = h1 := hR2.symm
      subst e_h1
      refine lv_iload_n hx hb dX9_mixAll_2 rfl (lv_at hl 0 rfl) ?_
      refine lv_iload_n hx hb dX9_mixAll_3 rfl (lv_at hl 2 rfl) ?_
      refine lv_iload_n hx hb dX9_mixAll_4 rfl (lv_at hl 3 rfl) ?_
      refine z_iadd (a := k) (b := t) X rfl rfl dX9_mixAll_5 ?_
      refine z_icmp_ge (a := (k + j2)) (b := (k + t)) (tgt := 25) X rfl rfl (by omega) (by omega) dX9_mixAll_6 (by decide) (fun c_1 => ?_) (fun c_1 => ?_)
      · exact z_rv E Z (by rw [zf_X9_mixAll_e]; exact ⟨rfl, rfl⟩) dX9_mixAll_25 (Nat.zero_le _) (Nat.zero_le _)
      · (exfalso; omega)
    | succ n2 ih2 =>
      intro j2 h1 hin2 hR2 H locs Z ls hl
      refine lv_iload_n hx hb dX9_mixAll_2 rfl (lv_at hl 0 rfl) ?_
      refine lv_iload_n hx hb dX9_mixAll_3 rfl (lv_at hl 2 rfl) ?_
      refine lv_iload_n hx hb dX9_mixAll_4 rfl (lv_at hl 3 rfl) ?_
      refine z_iadd (a := k) (b := t) X rfl rfl dX9_mixAll_5 ?_
      refine z_icmp_ge (a := (k + j2)) (b := (k + t)) (tgt := 25) X rfl rfl (by omega) (by omega) dX9_mixAll_6 (by decide) (fun c_2 => ?_) (fun c_2 => ?_)
      · (exfalso; omega)
      · refine lv_aload_n hx hb dX9_mixAll_9 rfl (lv_at hl 1 rfl) ?_
        refine lv_aload_n hx hb dX9_mixAll_10 rfl (lv_at hl 1 rfl) ?_
        refine z_get X Z 0 rfl (rfl : zCl[7]? = some (RX9, TX9, 10)) zU_X9 0 (by decide) wF_X9_7 rfl rfl dX9_mixAll_11 ?_
        refine lv_iload_n hx hb dX9_mixAll_14 rfl (lv_at hl 0 rfl) ?_
        refine z_lald (j := (k + j2)) X Z 1 rfl rfl (by omega) (by decide) dX9_mixAll_15 ?_
        refine z_callV (mc := 0) (ms := 0) (As := [.long (MNow (k + j2))]) (rest := []) (st2 := []) (cs2 := [wMod g md MNow MPast MSav MRef MThen MLev MFst MWay MMost (zf_X9_mix h1 (MNow (k + j2)))]) X Z [0] [] [0] 0 7 (zc_X9_mix l g B md MNow MPast MSav MRef MThen MLev MFst MWay MMost h1 (MNow (k + j2))) wM_X9_215 wS_X9_mix wV_X9_mix wK_X9_mix wZ_X9 1 1 1 rfl (by decide +kernel) rfl (by decide) rfl rfl rfl (by decide) rfl rfl (rfl : zCl[7]? = some (RX9, TX9, 10)) hl.1 rfl rfl (by rw [hRf, hRl]; exact ⟨Nat.le_of_ble_eq_true rfl, Nat.le_of_ble_eq_true rfl⟩) (Nat.le_of_ble_eq_true rfl) ⟨Nat.zero_le _, Nat.zero_le _⟩ dX9_mixAll_16 (fun H locs Z => ?_)
        refine z_iinc (b := (k + (j2 + 1))) (st := 1) (lv' := [(3, .int (nI (k + (j2 + 1)))), (0, .ref (md 0)), (1, .int (nI k)), (2, .int (nI t))]) X dX9_mixAll_19 hl (k := 0) rfl rfl (by decide) (by omega) (by decide) rfl (fun ls hl => ?_)
        refine lv_goto (tgt := 2) hx hb dX9_mixAll_22 (by decide) ?_
        exact ih2 (j2 + 1) (zf_X9_mix h1 (MNow (k + j2))) (by omega) (by have h9 := hR2; rw [zl_X9_mixAll_2_s] at h9; exact h9) _ _ Z ls (lv_sub hl [0, 1, 2, 3] rfl)
  exact loop_2 t 0 MHash (by omega) rfl _ _ Z ls (lv_sub hl [0, 1, 2, 3] rfl)
def zf_X9_canTake (MNow : Nat → Int64) (k : Nat) (t : Nat) : Bool := (if (MNow (285 + (2 * k))) < (MNow (302 + (2 * t))) then false else (if (((MNow ((285 + (2 * k)) + 1)) >>> (((MNow ((302 + (2 * t)) + 1)).toInt32).toInt64 &&& 63)) &&& (1 : Int64)) = (1 : Int64) then true else false))
theorem zf_X9_canTake_e (MNow : Nat → Int64) (k : Nat) (t : Nat) : zf_X9_canTake MNow k t = (if (MNow (285 + (2 * k))) < (MNow (302 + (2 * t))) then false else (if (((MNow ((285 + (2 * k)) + 1)) >>> (((MNow ((302 + (2 * t)) + 1)).toInt32).toInt64 &&& 63)) &&& (1 : Int64)) = (1 : Int64) then true else false)) := rfl
set_option maxHeartbeats 4000000 in
set_option maxRecDepth 100000 in
theorem zc_X9_canTake (l : Launch) (g : zG) (B : Nat) (md : Nat → Nat) (MNow : Nat → Int64) (MPast : Nat → Int64) (MSav : Nat) (MRef : Int32) (MThen : Nat → Int64) (MLev : Nat → Int64) (MFst : Int32) (MWay : Nat → Int64) (MMost : Nat → Int32) (MHash : Int64) (k : Nat) (t : Nat) (hk : k < 8) (ht : t < 8) : zMet l g B yX9_canTake cX9_canTake 7 (some .boolean) 1 60 0 0 [.ref (md 0), .int (nI k), .int (nI t)] [wMod g md MNow MPast MSav MRef MThen MLev MFst MWay MMost MHash] (zDet (some (.int (zB (zf_X9_canTake MNow k t)))) [wMod g md MNow MPast MSav MRef MThen MLev MFst MWay MMost MHash]) := by
  refine z_in (plainFor_of_name (by decide)) (Nat.le_of_ble_eq_true rfl) (fun p e R s m args below meth c A Q hRf hRl hRc hRs X Z hnm E ls hl => ?_)
  have hx := X.1
  have hb := X.2.1
  have hown := X.2.2.2.1
  have hts := X.2.2.2.2.1
  have hl : lv_has ls 7 [(0, .ref (md 0)), (1, .int (nI k)), (2, .int (nI t))] := hl
  refine lv_aload_n hx hb dX9_canTake_0 rfl (lv_at hl 0 rfl) ?_
  refine z_get X Z 0 rfl (rfl : zCl[7]? = some (RX9, TX9, 10)) zU_X9 0 (by decide) wF_X9_7 rfl rfl dX9_canTake_1 ?_
  refine lv_sipush (v := (302 : Int32)) hx hb dX9_canTake_4 (by decide) ?_
  refine lv_iconst (v := (2 : Int32)) hx hb dX9_canTake_7 (by decide) ?_
  refine lv_iload_n hx hb dX9_canTake_8 rfl (lv_at hl 2 rfl) ?_
  refine z_imul (a := 2) (b := t) X rfl rfl dX9_canTake_9 ?_
  refine z_iadd (a := 302) (b := (2 * t)) X rfl rfl dX9_canTake_10 ?_
  refine z_lald (j := (302 + (2 * t))) X Z 1 rfl rfl (by omega) (by decide) dX9_canTake_11 ?_
  refine lv_lstore_n (lv' := [(3, .long (MNow (302 + (2 * t)))), (0, .ref (md 0)), (1, .int (nI k)), (2, .int (nI t))]) hx hb dX9_canTake_12 rfl hl (by decide) rfl (fun ls hl => ?_)
  refine lv_aload_n hx hb dX9_canTake_13 rfl (lv_at hl 1 rfl) ?_
  refine z_get X Z 0 rfl (rfl : zCl[7]? = some (RX9, TX9, 10)) zU_X9 0 (by decide) wF_X9_7 rfl rfl dX9_canTake_14 ?_
  refine lv_sipush (v := (302 : Int32)) hx hb dX9_canTake_17 (by decide) ?_
  refine lv_iconst (v := (2 : Int32)) hx hb dX9_canTake_20 (by decide) ?_
  refine lv_iload_n hx hb dX9_canTake_21 rfl (lv_at hl 3 rfl) ?_
  refine z_imul (a := 2) (b := t) X rfl rfl dX9_canTake_22 ?_
  refine z_iadd (a := 302) (b := (2 * t)) X rfl rfl dX9_canTake_23 ?_
  refine lv_iconst (v := (1 : Int32)) hx hb dX9_canTake_24 (by decide) ?_
  refine z_iadd (a := (302 + (2 * t))) (b := 1) X rfl rfl dX9_canTake_25 ?_
  refine z_lald (j := ((302 + (2 * t)) + 1)) X Z 1 rfl rfl (by omega) (by decide) dX9_canTake_26 ?_
  refine lv_lstore (lv' := [(5, .long (MNow ((302 + (2 * t)) + 1))), (3, .long (MNow (302 + (2 * t)))), (0, .ref (md 0)), (1, .int (nI k)), (2, .int (nI t))]) hx hb dX9_canTake_27 hl (by decide) rfl (fun ls hl => ?_)
  refine lv_aload_n hx hb dX9_canTake_29 rfl (lv_at hl 2 rfl) ?_
  refine z_get X Z 0 rfl (rfl : zCl[7]? = some (RX9, TX9, 10)) zU_X9 0 (by decide) wF_X9_7 rfl rfl dX9_canTake_30 ?_
  refine lv_sipush (v := (285 : Int32)) hx hb dX9_canTake_33 (by decide) ?_
  refine lv_iconst (v := (2 : Int32)) hx hb dX9_canTake_36 (by decide) ?_
  refine lv_iload_n hx hb dX9_canTake_37 rfl (lv_at hl 3 rfl) ?_
  refine z_imul (a := 2) (b := k) X rfl rfl dX9_canTake_38 ?_
  refine z_iadd (a := 285) (b := (2 * k)) X rfl rfl dX9_canTake_39 ?_
  refine z_lald (j := (285 + (2 * k))) X Z 1 rfl rfl (by omega) (by decide) dX9_canTake_40 ?_
  refine lv_lload_n hx hb dX9_canTake_41 rfl (lv_at hl 1 rfl) ?_
  refine z_lc_lt (tgt := 75) X dX9_canTake_42 dX9_canTake_43 (by decide) (fun c_1 => ?_) (fun c_1 => ?_)
  · refine lv_iconst (v := (0 : Int32)) hx hb dX9_canTake_75 (by decide) ?_
    exact z_ri (v := zB false) E Z (zB_narrow _) (by rw [zf_X9_canTake_e, if_pos c_1]; exact ⟨rfl, rfl⟩) dX9_canTake_76 (Nat.zero_le _) (Nat.zero_le _)
  · refine lv_aload_n hx hb dX9_canTake_46 rfl (lv_at hl 2 rfl) ?_
    refine z_get X Z 0 rfl (rfl : zCl[7]? = some (RX9, TX9, 10)) zU_X9 0 (by decide) wF_X9_7 rfl rfl dX9_canTake_47 ?_
    refine lv_sipush (v := (285 : Int32)) hx hb dX9_canTake_50 (by decide) ?_
    refine lv_iconst (v := (2 : Int32)) hx hb dX9_canTake_53 (by decide) ?_
    refine lv_iload_n hx hb dX9_canTake_54 rfl (lv_at hl 3 rfl) ?_
    refine z_imul (a := 2) (b := k) X rfl rfl dX9_canTake_55 ?_
    refine z_iadd (a := 285) (b := (2 * k)) X rfl rfl dX9_canTake_56 ?_
    refine lv_iconst (v := (1 : Int32)) hx hb dX9_canTake_57 (by decide) ?_
    refine z_iadd (a := (285 + (2 * k))) (b := 1) X rfl rfl dX9_canTake_58 ?_
    refine z_lald (j := ((285 + (2 * k)) + 1)) X Z 1 rfl rfl (by omega) (by decide) dX9_canTake_59 ?_
    refine lv_lload hx hb dX9_canTake_60 (lv_at hl 0 rfl) ?_
    refine lv_l2i hx hb dX9_canTake_62 rfl ?_
    refine lv_lshr hx hb dX9_canTake_63 rfl ?_
    refine lv_lconst (v := (1 : Int64)) hx hb dX9_canTake_64 (by decide) ?_
    refine lv_land hx hb dX9_canTake_65 ?_
    refine lv_lconst (v := (1 : Int64)) hx hb dX9_canTake_66 (by decide) ?_
    refine z_lc_ne (tgt := 75) X dX9_canTake_67 dX9_canTake_68 (by decide) (fun c_2 => ?_) (fun c_2 => ?_)
    · refine lv_iconst (v := (0 : Int32)) hx hb dX9_canTake_75 (by decide) ?_
      exact z_ri (v := zB false) E Z (zB_narrow _) (by rw [zf_X9_canTake_e, if_neg c_1, if_neg c_2]; exact ⟨rfl, rfl⟩) dX9_canTake_76 (Nat.zero_le _) (Nat.zero_le _)
    · refine lv_iconst (v := (1 : Int32)) hx hb dX9_canTake_71 (by decide) ?_
      refine lv_goto (tgt := 76) hx hb dX9_canTake_72 (by decide) ?_
      exact z_ri (v := zB true) E Z (zB_narrow _) (by rw [zf_X9_canTake_e, if_neg c_1, if_pos c_2]; exact ⟨rfl, rfl⟩) dX9_canTake_76 (Nat.zero_le _) (Nat.zero_le _)
