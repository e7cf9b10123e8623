def zf_X9_refused_0 (M : zMo) : Int32 := (0 : Int32)
theorem zf_X9_refused_0_e (M : zMo) : zf_X9_refused_0 M = (0 : Int32) := rfl
set_option maxHeartbeats 4000000 in
set_option maxRecDepth 100000 in
theorem zc_X9_refused_0 (l : Launch) (g : zG) (B : Nat) (md : Nat → Nat) (M : zMo) : zMet l g B yX9_refused cX9_refused 2 (some .boolean) 1 20 0 0 [.ref (md 0), .int (0 : Int32)] [wMod g md M] (zDet (some (.int (0 : Int32))) [wMod g md ((mNow M), (mPast M), (mSav M), (zf_X9_refused_0 M), (mThen M), (mLev M), (mFst M), (mWay M), (mMost M), (mHash M))]) := by
  refine z_in (plainFor_of_name (by decide)) (Nat.le_of_ble_eq_true rfl) (fun p e R s m args below meth c A Q hRf hRl hRc hRs X Z hnm E ls hl => ?_)
  have hx := X.1
  have hb := X.2.1
  have hown := X.2.2.2.1
  have hts := X.2.2.2.2.1
  have hl : lv_has ls 2 [(0, .ref (md 0)), (1, .int (0 : Int32))] := hl
  refine lv_aload_n hx hb dX9_refused_0 rfl (lv_at hl 0 rfl) ?_
  refine lv_iload_n hx hb dX9_refused_1 rfl (lv_at hl 1 rfl) ?_
  refine z_put (cs2 := [wMod g md ((mNow M), (mPast M), (mSav M), (0 : Int32), (mThen M), (mLev M), (mFst M), (mWay M), (mMost M), (mHash M))]) (v := .int (0 : Int32)) X Z 0 rfl (rfl : zCl[7]? = some (RX9, TX9, 10)) zU_X9 tyX9 tyX9_ok nmX9 3 (by decide) wF_X9_38 rfl rfl rfl rfl (Nat.le_of_ble_eq_true rfl) rfl dX9_refused_2 (fun H locs Z => ?_)
  refine lv_iload_n hx hb dX9_refused_5 rfl (lv_at hl 1 rfl) ?_
  refine lv_if_le (tgt := 13) hx hb dX9_refused_6 (by decide) (fun c_1 => ?_) (fun c_1 => ?_)
  · refine lv_iconst (v := (0 : Int32)) hx hb dX9_refused_13 (by decide) ?_
    exact z_ri (v := (0 : Int32)) E Z rfl (by rw [zf_X9_refused_0_e]; exact ⟨rfl, rfl⟩) dX9_refused_14 (Nat.zero_le _) (Nat.zero_le _)
  · (exact absurd c_1 (by decide))
def zf_X9_refused_1 (M : zMo) : Int32 := (1 : Int32)
theorem zf_X9_refused_1_e (M : zMo) : zf_X9_refused_1 M = (1 : Int32) := rfl
set_option maxHeartbeats 4000000 in
set_option maxRecDepth 100000 in
theorem zc_X9_refused_1 (l : Launch) (g : zG) (B : Nat) (md : Nat → Nat) (M : zMo) : zMet l g B yX9_refused cX9_refused 2 (some .boolean) 1 20 0 0 [.ref (md 0), .int (1 : Int32)] [wMod g md M] (zDet (some (.int (1 : Int32))) [wMod g md ((mNow M), (mPast M), (mSav M), (zf_X9_refused_1 M), (mThen M), (mLev M), (mFst M), (mWay M), (mMost M), (mHash M))]) := by
  refine z_in (plainFor_of_name (by decide)) (Nat.le_of_ble_eq_true rfl) (fun p e R s m args below meth c A Q hRf hRl hRc hRs X Z hnm E ls hl => ?_)
  have hx := X.1
  have hb := X.2.1
  have hown := X.2.2.2.1
  have hts := X.2.2.2.2.1
  have hl : lv_has ls 2 [(0, .ref (md 0)), (1, .int (1 : Int32))] := hl
  refine lv_aload_n hx hb dX9_refused_0 rfl (lv_at hl 0 rfl) ?_
  refine lv_iload_n hx hb dX9_refused_1 rfl (lv_at hl 1 rfl) ?_
  refine z_put (cs2 := [wMod g md ((mNow M), (mPast M), (mSav M), (1 : Int32), (mThen M), (mLev M), (mFst M), (mWay M), (mMost M), (mHash M))]) (v := .int (1 : Int32)) X Z 0 rfl (rfl : zCl[7]? = some (RX9, TX9, 10)) zU_X9 tyX9 tyX9_ok nmX9 3 (by decide) wF_X9_38 rfl rfl rfl rfl (Nat.le_of_ble_eq_true rfl) rfl dX9_refused_2 (fun H locs Z => ?_)
  refine lv_iload_n hx hb dX9_refused_5 rfl (lv_at hl 1 rfl) ?_
  refine lv_if_le (tgt := 13) hx hb dX9_refused_6 (by decide) (fun c_1 => ?_) (fun c_1 => ?_)
  · (exact absurd c_1 (by decide))
  · refine lv_iconst (v := (1 : Int32)) hx hb dX9_refused_9 (by decide) ?_
    refine lv_goto (tgt := 14) hx hb dX9_refused_10 (by decide) ?_
    exact z_ri (v := (1 : Int32)) E Z rfl (by rw [zf_X9_refused_1_e]; exact ⟨rfl, rfl⟩) dX9_refused_14 (Nat.zero_le _) (Nat.zero_le _)
def zf_X9_refused_2 (M : zMo) : Int32 := (2 : Int32)
theorem zf_X9_refused_2_e (M : zMo) : zf_X9_refused_2 M = (2 : Int32) := rfl
set_option maxHeartbeats 4000000 in
set_option maxRecDepth 100000 in
theorem zc_X9_refused_2 (l : Launch) (g : zG) (B : Nat) (md : Nat → Nat) (M : zMo) : zMet l g B yX9_refused cX9_refused 2 (some .boolean) 1 20 0 0 [.ref (md 0), .int (2 : Int32)] [wMod g md M] (zDet (some (.int (1 : Int32))) [wMod g md ((mNow M), (mPast M), (mSav M), (zf_X9_refused_2 M), (mThen M), (mLev M), (mFst M), (mWay M), (mMost M), (mHash M))]) := by
  refine z_in (plainFor_of_name (by decide)) (Nat.le_of_ble_eq_true rfl) (fun p e R s m args below meth c A Q hRf hRl hRc hRs X Z hnm E ls hl => ?_)
  have hx := X.1
  have hb := X.2.1
  have hown := X.2.2.2.1
  have hts := X.2.2.2.2.1
  have hl : lv_has ls 2 [(0, .ref (md 0)), (1, .int (2 : Int32))] := hl
  refine lv_aload_n hx hb dX9_refused_0 rfl (lv_at hl 0 rfl) ?_
  refine lv_iload_n hx hb dX9_refused_1 rfl (lv_at hl 1 rfl) ?_
  refine z_put (cs2 := [wMod g md ((mNow M), (mPast M), (mSav M), (2 : Int32), (mThen M), (mLev M), (mFst M), (mWay M), (mMost M), (mHash M))]) (v := .int (2 : Int32)) X Z 0 rfl (rfl : zCl[7]? = some (RX9, TX9, 10)) zU_X9 tyX9 tyX9_ok nmX9 3 (by decide) wF_X9_38 rfl rfl rfl rfl (Nat.le_of_ble_eq_true rfl) rfl dX9_refused_2 (fun H locs Z => ?_)
  refine lv_iload_n hx hb dX9_refused_5 rfl (lv_at hl 1 rfl) ?_
  refine lv_if_le (tgt := 13) hx hb dX9_refused_6 (by decide) (fun c_1 => ?_) (fun c_1 => ?_)
  · (exact absurd c_1 (by decide))
  · refine lv_iconst (v := (1 : Int32)) hx hb dX9_refused_9 (by decide) ?_
    refine lv_goto (tgt := 14) hx hb dX9_refused_10 (by decide) ?_
    exact z_ri (v := (1 : Int32)) E Z rfl (by rw [zf_X9_refused_2_e]; exact ⟨rfl, rfl⟩) dX9_refused_14 (Nat.zero_le _) (Nat.zero_le _)
def zf_X9_refused_3 (M : zMo) : Int32 := (3 : Int32)
theorem zf_X9_refused_3_e (M : zMo) : zf_X9_refused_3 M = (3 : Int32) := rfl
set_option maxHeartbeats 4000000 in
set_option maxRecDepth 100000 in
theorem zc_X9_refused_3 (l : Launch) (g : zG) (B : Nat) (md : Nat → Nat) (M : zMo) : zMet l g B yX9_refused cX9_refused 2 (some .boolean) 1 20 0 0 [.ref (md 0), .int (3 : Int32)] [wMod g md M] (zDet (some (.int (1 : Int32))) [wMod g md ((mNow M), (mPast M), (mSav M), (zf_X9_refused_3 M), (mThen M), (mLev M), (mFst M), (mWay M), (mMost M), (mHash M))]) := by
  refine z_in (plainFor_of_name (by decide)) (Nat.le_of_ble_eq_true rfl) (fun p e R s m args below meth c A Q hRf hRl hRc hRs X Z hnm E ls hl => ?_)
  have hx := X.1
  have hb := X.2.1
  have hown := X.2.2.2.1
  have hts := X.2.2.2.2.1
  have hl : lv_has ls 2 [(0, .ref (md 0)), (1, .int (3 : Int32))] := hl
  refine lv_aload_n hx hb dX9_refused_0 rfl (lv_at hl 0 rfl) ?_
  refine lv_iload_n hx hb dX9_refused_1 rfl (lv_at hl 1 rfl) ?_
  refine z_put (cs2 := [wMod g md ((mNow M), (mPast M), (mSav M), (3 : Int32), (mThen M), (mLev M), (mFst M), (mWay M), (mMost M), (mHash M))]) (v := .int (3 : Int32)) X Z 0 rfl (rfl : zCl[7]? = some (RX9, TX9, 10)) zU_X9 tyX9 tyX9_ok nmX9 3 (by decide) wF_X9_38 rfl rfl rfl rfl (Nat.le_of_ble_eq_true rfl) rfl dX9_refused_2 (fun H locs Z => ?_)
  refine lv_iload_n hx hb dX9_refused_5 rfl (lv_at hl 1 rfl) ?_
  refine lv_if_le (tgt := 13) hx hb dX9_refused_6 (by decide) (fun c_1 => ?_) (fun c_1 => ?_)
  · (exact absurd c_1 (by decide))
  · refine lv_iconst (v := (1 : Int32)) hx hb dX9_refused_9 (by decide) ?_
    refine lv_goto (tgt := 14) hx hb dX9_refused_10 (by decide) ?_
    exact z_ri (v := (1 : Int32)) E Z rfl (by rw [zf_X9_refused_3_e]; exact ⟨rfl, rfl⟩) dX9_refused_14 (Nat.zero_le _) (Nat.zero_le _)
def zf_X9_refused_4 (M : zMo) : Int32 := (4 : Int32)
theorem zf_X9_refused_4_e (M : zMo) : zf_X9_refused_4 M = (4 : Int32) := rfl
set_option maxHeartbeats 4000000 in
set_option maxRecDepth 100000 in
theorem zc_X9_refused_4 (l : Launch) (g : zG) (B : Nat) (md : Nat → Nat) (M : zMo) : zMet l g B yX9_refused cX9_refused 2 (some .boolean) 1 20 0 0 [.ref (md 0), .int (4 : Int32)] [wMod g md M] (zDet (some (.int (1 : Int32))) [wMod g md ((mNow M), (mPast M), (mSav M), (zf_X9_refused_4 M), (mThen M), (mLev M), (mFst M), (mWay M), (mMost M), (mHash M))]) := by
  refine z_in (plainFor_of_name (by decide)) (Nat.le_of_ble_eq_true rfl) (fun p e R s m args below meth c A Q hRf hRl hRc hRs X Z hnm E ls hl => ?_)
  have hx := X.1
  have hb := X.2.1
  have hown := X.2.2.2.1
  have hts := X.2.2.2.2.1
  have hl : lv_has ls 2 [(0, .ref (md 0)), (1, .int (4 : Int32))] := hl
  refine lv_aload_n hx hb dX9_refused_0 rfl (lv_at hl 0 rfl) ?_
  refine lv_iload_n hx hb dX9_refused_1 rfl (lv_at hl 1 rfl) ?_
  refine z_put (cs2 := [wMod g md ((mNow M), (mPast M), (mSav M), (4 : Int32), (mThen M), (mLev M), (mFst M), (mWay M), (mMost M), (mHash M))]) (v := .int (4 : Int32)) X Z 0 rfl (rfl : zCl[7]? = some (RX9, TX9, 10)) zU_X9 tyX9 tyX9_ok nmX9 3 (by decide) wF_X9_38 rfl rfl rfl rfl (Nat.le_of_ble_eq_true rfl) rfl dX9_refused_2 (fun H locs Z => ?_)
  refine lv_iload_n hx hb dX9_refused_5 rfl (lv_at hl 1 rfl) ?_
  refine lv_if_le (tgt := 13) hx hb dX9_refused_6 (by decide) (fun c_1 => ?_) (fun c_1 => ?_)
  · (exact absurd c_1 (by decide))
  · refine lv_iconst (v := (1 : Int32)) hx hb dX9_refused_9 (by decide) ?_
    refine lv_goto (tgt := 14) hx hb dX9_refused_10 (by decide) ?_
    exact z_ri (v := (1 : Int32)) E Z rfl (by rw [zf_X9_refused_4_e]; exact ⟨rfl, rfl⟩) dX9_refused_14 (Nat.zero_le _) (Nat.zero_le _)
def zf_X9_thrown (M : zMo) : Int32 := (mRef M)
theorem zf_X9_thrown_e (M : zMo) : zf_X9_thrown M = (mRef M) := rfl
set_option maxHeartbeats 4000000 in
set_option maxRecDepth 100000 in
theorem zc_X9_thrown (l : Launch) (g : zG) (B : Nat) (md : Nat → Nat) (M : zMo) : zMet l g B yX9_thrown cX9_thrown 1 (some .int) 1 20 0 0 [.ref (md 0)] [wMod g md M] (zDet (some (.int (zf_X9_thrown M))) [wMod g md M]) := by
  refine z_in (plainFor_of_name (by decide)) (Nat.le_of_ble_eq_true rfl) (fun p e R s m args below meth c A Q hRf hRl hRc hRs X Z hnm E ls hl => ?_)
  have hx := X.1
  have hb := X.2.1
  have hown := X.2.2.2.1
  have hts := X.2.2.2.2.1
  have hl : lv_has ls 1 [(0, .ref (md 0))] := hl
  refine lv_aload_n hx hb dX9_thrown_0 rfl (lv_at hl 0 rfl) ?_
  refine z_get X Z 0 rfl (rfl : zCl[7]? = some (RX9, TX9, 10)) zU_X9 3 (by decide) wF_X9_38 rfl rfl dX9_thrown_1 ?_
  exact z_ri (v := (mRef M)) E Z rfl (by rw [zf_X9_thrown_e]; exact ⟨rfl, rfl⟩) dX9_thrown_4 (Nat.zero_le _) (Nat.zero_le _)
def zf_X9_within (x : Int64) (y : Int64) (z : Int64) : Bool := (if x < y then false else (if z < x then false else true))
theorem zf_X9_within_e (x : Int64) (y : Int64) (z : Int64) : zf_X9_within x y z = (if x < y then false else (if z < x then false else true)) := rfl
set_option maxHeartbeats 4000000 in
set_option maxRecDepth 100000 in
theorem zc_X9_within (l : Launch) (g : zG) (B : Nat) (x : Int64) (y : Int64) (z : Int64) : zMet l g B yX9_within cX9_within 6 (some .boolean) 1 20 0 0 [.long x, .long y, .long z] [] (zDet (some (.int (zB (zf_X9_within x y z)))) []) := by
  refine z_in (plainFor_of_name (by decide)) (Nat.le_of_ble_eq_true rfl) (fun p e R s m args below meth c A Q hRf hRl hRc hRs X Z hnm E ls hl => ?_)
  have hx := X.1
  have hb := X.2.1
  have hown := X.2.2.2.1
  have hts := X.2.2.2.2.1
  have hl : lv_has ls 6 [(0, .long x), (2, .long y), (4, .long z)] := hl
  refine lv_lload_n hx hb dX9_within_0 rfl (lv_at hl 0 rfl) ?_
  refine lv_lload_n hx hb dX9_within_1 rfl (lv_at hl 1 rfl) ?_
  refine z_lc_lt (tgt := 17) X dX9_within_2 dX9_within_3 (by decide) (fun c_1 => ?_) (fun c_1 => ?_)
  · refine lv_iconst (v := (0 : Int32)) hx hb dX9_within_17 (by decide) ?_
    exact z_ri (v := zB false) E Z (zB_narrow _) (by rw [zf_X9_within_e, if_pos c_1]; exact ⟨rfl, rfl⟩) dX9_within_18 (Nat.zero_le _) (Nat.zero_le _)
  · refine lv_lload_n hx hb dX9_within_6 rfl (lv_at hl 0 rfl) ?_
    refine lv_lload hx hb dX9_within_7 (lv_at hl 2 rfl) ?_
    refine z_lc_gt (tgt := 17) X dX9_within_9 dX9_within_10 (by decide) (fun c_2 => ?_) (fun c_2 => ?_)
    · refine lv_iconst (v := (0 : Int32)) hx hb dX9_within_17 (by decide) ?_
      exact z_ri (v := zB false) E Z (zB_narrow _) (by rw [zf_X9_within_e, if_neg c_1, if_pos c_2]; exact ⟨rfl, rfl⟩) dX9_within_18 (Nat.zero_le _) (Nat.zero_le _)
    · refine lv_iconst (v := (1 : Int32)) hx hb dX9_within_13 (by decide) ?_
      refine lv_goto (tgt := 18) hx hb dX9_within_14 (by decide) ?_
      exact z_ri (v := zB true) E Z (zB_narrow _) (by rw [zf_X9_within_e, if_neg c_1, if_neg c_2]; exact ⟨rfl, rfl⟩) dX9_within_18 (Nat.zero_le _) (Nat.zero_le _)
set_option maxHeartbeats 4000000 in
set_option maxRecDepth 100000 in
theorem zc_X9_many (l : Launch) (g : zG) (B : Nat) (md : Nat → Nat) (M : zMo) (k : Nat) (n : Nat) (hk : k < 318) (hn : mNow M k = lN n) : zMet l g B yX9_many cX9_many 2 (some .int) 1 20 0 0 [.ref (md 0), .int (nI k)] [wMod g md M] (zDet (some (.int (nI n))) [wMod g md M]) := by
  refine z_in (plainFor_of_name (by decide)) (Nat.le_of_ble_eq_true rfl) (fun p e R s m args below meth c A Q hRf hRl hRc hRs X Z hnm E ls hl => ?_)
  have hx := X.1
  have hb := X.2.1
  have hown := X.2.2.2.1
  have hts := X.2.2.2.2.1
  have hl : lv_has ls 2 [(0, .ref (md 0)), (1, .int (nI k))] := hl
  refine lv_aload_n hx hb dX9_many_0 rfl (lv_at hl 0 rfl) ?_
  refine z_get X Z 0 rfl (rfl : zCl[7]? = some (RX9, TX9, 10)) zU_X9 0 (by decide) wF_X9_7 rfl rfl dX9_many_1 ?_
  refine lv_iload_n hx hb dX9_many_4 rfl (lv_at hl 1 rfl) ?_
  refine z_lald (j := k) X Z 1 rfl rfl (by omega) (by decide) dX9_many_5 ?_
  rw [show (mNow M) k = lN n from hn]
  refine lv_l2i hx hb dX9_many_6 (lN_i _) ?_
  exact z_ri (v := nI n) E Z rfl ⟨rfl, rfl⟩ dX9_many_7 (Nat.zero_le _) (Nat.zero_le _)
def zf_X9_isPlace (x : Int32) (y : Int32) : Bool := (if (zf_X9_within x.toInt64 (-100 : Int64) (100 : Int64)) = true then (if (zf_X9_within y.toInt64 (-100 : Int64) (100 : Int64)) = true then true else false) else false)
theorem zf_X9_isPlace_e (x : Int32) (y : Int32) : zf_X9_isPlace x y = (if (zf_X9_within x.toInt64 (-100 : Int64) (100 : Int64)) = true then (if (zf_X9_within y.toInt64 (-100 : Int64) (100 : Int64)) = true then true else false) else false) := rfl
set_option maxHeartbeats 4000000 in
set_option maxRecDepth 100000 in
theorem zc_X9_isPlace (l : Launch) (g : zG) (B : Nat) (x : Int32) (y : Int32) : zMet l g B yX9_isPlace cX9_isPlace 2 (some .boolean) 2 60 0 0 [.int x, .int y] [] (zDet (some (.int (zB (zf_X9_isPlace x y)))) []) := by
  refine z_in (plainFor_of_name (by decide)) (Nat.le_of_ble_eq_true rfl) (fun p e R s m args below meth c A Q hRf hRl hRc hRs X Z hnm E ls hl => ?_)
  have hx := X.1
  have hb := X.2.1
  have hown := X.2.2.2.1
  have hts := X.2.2.2.2.1
  have hl : lv_has ls 2 [(0, .int x), (1, .int y)] := hl
  refine lv_iload_n hx hb dX9_isPlace_0 rfl (lv_at hl 0 rfl) ?_
  refine lv_i2l hx hb dX9_isPlace_1 rfl ?_
  refine lv_ldc2 (v := (-100 : Int64)) hx hb hown (hts _ wL_X9_42) dX9_isPlace_2 ?_
  refine lv_ldc2 (v := (100 : Int64)) hx hb hown (hts _ wL_X9_31) dX9_isPlace_5 ?_
  refine z_callS (mc := 0) (ms := 0) (As := [.long x.toInt64, .long (-100 : Int64), .long (100 : Int64)]) (rest := []) (st2 := [.int (zB (zf_X9_within x.toInt64 (-100 : Int64) (100 : Int64)))]) (cs2 := []) X Z [] [] [] (zc_X9_within l g B x.toInt64 (-100 : Int64) (100 : Int64)) wM_X9_44 wS_X9_within wK_X9_within wZ_X9 3 0 0 rfl (by decide +kernel) rfl (by decide) rfl rfl rfl (by decide) rfl hl.1 rfl rfl (by rw [hRf, hRl]; exact ⟨Nat.le_of_ble_eq_true rfl, Nat.le_of_ble_eq_true rfl⟩) (Nat.le_of_ble_eq_true rfl) ⟨Nat.zero_le _, Nat.zero_le _⟩ dX9_isPlace_8 (fun H locs Z => ?_)
  refine z_ifeqB (b := (zf_X9_within x.toInt64 (-100 : Int64) (100 : Int64))) (tgt := 32) X dX9_isPlace_11 (by decide) (fun c_1 => ?_) (fun c_1 => ?_)
  · refine lv_iconst (v := (0 : Int32)) hx hb dX9_isPlace_32 (by decide) ?_
    exact z_ri (v := zB false) E Z (zB_narrow _) (by rw [zf_X9_isPlace_e, if_neg (zBf c_1)]; exact ⟨rfl, rfl⟩) dX9_isPlace_33 (Nat.zero_le _) (Nat.zero_le _)
  · refine lv_iload_n hx hb dX9_isPlace_14 rfl (lv_at hl 1 rfl) ?_
    refine lv_i2l hx hb dX9_isPlace_15 rfl ?_
    refine lv_ldc2 (v := (-100 : Int64)) hx hb hown (hts _ wL_X9_42) dX9_isPlace_16 ?_
    refine lv_ldc2 (v := (100 : Int64)) hx hb hown (hts _ wL_X9_31) dX9_isPlace_19 ?_
    refine z_callS (mc := 0) (ms := 0) (As := [.long y.toInt64, .long (-100 : Int64), .long (100 : Int64)]) (rest := []) (st2 := [.int (zB (zf_X9_within y.toInt64 (-100 : Int64) (100 : Int64)))]) (cs2 := []) X Z [] [] [] (zc_X9_within l g B y.toInt64 (-100 : Int64) (100 : Int64)) wM_X9_44 wS_X9_within wK_X9_within wZ_X9 3 0 0 rfl (by decide +kernel) rfl (by decide) rfl rfl rfl (by decide) rfl hl.1 rfl rfl (by rw [hRf, hRl]; exact ⟨Nat.le_of_ble_eq_true rfl, Nat.le_of_ble_eq_true rfl⟩) (Nat.le_of_ble_eq_true rfl) ⟨Nat.zero_le _, Nat.zero_le _⟩ dX9_isPlace_22 (fun H locs Z => ?_)
    refine z_ifeqB (b := (zf_X9_within y.toInt64 (-100 : Int64) (100 : Int64))) (tgt := 32) X dX9_isPlace_25 (by decide) (fun c_2 => ?_) (fun c_2 => ?_)
    · refine lv_iconst (v := (0 : Int32)) hx hb dX9_isPlace_32 (by decide) ?_
      exact z_ri (v := zB false) E Z (zB_narrow _) (by rw [zf_X9_isPlace_e, if_pos c_1, if_neg (zBf c_2)]; exact ⟨rfl, rfl⟩) dX9_isPlace_33 (Nat.zero_le _) (Nat.zero_le _)
    · refine lv_iconst (v := (1 : Int32)) hx hb dX9_isPlace_28 (by decide) ?_
      refine lv_goto (tgt := 33) hx hb dX9_isPlace_29 (by decide) ?_
      exact z_ri (v := zB true) E Z (zB_narrow _) (by rw [zf_X9_isPlace_e, if_pos c_1, if_pos c_2]; exact ⟨rfl, rfl⟩) dX9_isPlace_33 (Nat.zero_le _) (Nat.zero_le _)
def zf_X9_isPart (x : Int32) : Bool := (if x = 0 then true else (if x = (1 : Int32) then true else false))
theorem zf_X9_isPart_e (x : Int32) : zf_X9_isPart x = (if x = 0 then true else (if x = (1 : Int32) then true else false)) := rfl
set_option maxHeartbeats 4000000 in
set_option maxRecDepth 100000 in
theorem zc_X9_isPart (l : Launch) (g : zG) (B : Nat) (x : Int32) : zMet l g B yX9_isPart cX9_isPart 1 (some .boolean) 1 60 0 0 [.int x] [] (zDet (some (.int (zB (zf_X9_isPart x)))) []) := by
  refine z_in (plainFor_of_name (by decide)) (Nat.le_of_ble_eq_true rfl) (fun p e R s m args below meth c A Q hRf hRl hRc hRs X Z hnm E ls hl => ?_)
  have hx := X.1
  have hb := X.2.1
  have hown := X.2.2.2.1
  have hts := X.2.2.2.2.1
  have hl : lv_has ls 1 [(0, .int x)] := hl
  refine lv_iload_n hx hb dX9_isPart_0 rfl (lv_at hl 0 rfl) ?_
  refine lv_if_eq (tgt := 9) hx hb dX9_isPart_1 (by decide) (fun c_1 => ?_) (fun c_1 => ?_)
  · refine lv_iconst (v := (1 : Int32)) hx hb dX9_isPart_9 (by decide) ?_
    refine lv_goto (tgt := 14) hx hb dX9_isPart_10 (by decide) ?_
    exact z_ri (v := zB true) E Z (zB_narrow _) (by rw [zf_X9_isPart_e, if_pos c_1]; exact ⟨rfl, rfl⟩) dX9_isPart_14 (Nat.zero_le _) (Nat.zero_le _)
  · refine lv_iload_n hx hb dX9_isPart_4 rfl (lv_at hl 0 rfl) ?_
    refine lv_iconst (v := (1 : Int32)) hx hb dX9_isPart_5 (by decide) ?_
    refine lv_icmp_ne (tgt := 13) hx hb dX9_isPart_6 (by decide) (fun c_2 => ?_) (fun c_2 => ?_)
    · refine lv_iconst (v := (0 : Int32)) hx hb dX9_isPart_13 (by decide) ?_
      exact z_ri (v := zB false) E Z (zB_narrow _) (by rw [zf_X9_isPart_e, if_neg c_1, if_neg c_2]; exact ⟨rfl, rfl⟩) dX9_isPart_14 (Nat.zero_le _) (Nat.zero_le _)
    · refine lv_iconst (v := (1 : Int32)) hx hb dX9_isPart_9 (by decide) ?_
      refine lv_goto (tgt := 14) hx hb dX9_isPart_10 (by decide) ?_
      exact z_ri (v := zB true) E Z (zB_narrow _) (by rw [zf_X9_isPart_e, if_neg c_1, if_pos c_2]; exact ⟨rfl, rfl⟩) dX9_isPart_14 (Nat.zero_le _) (Nat.zero_le _)
def zf_X9_isCell (x : Int32) : Bool := (zf_X9_within x.toInt64 (0 : Int64) (2 : Int64))
theorem zf_X9_isCell_e (x : Int32) : zf_X9_isCell x = (zf_X9_within x.toInt64 (0 : Int64) (2 : Int64)) := rfl
set_option maxHeartbeats 4000000 in
set_option maxRecDepth 100000 in
theorem zc_X9_isCell (l : Launch) (g : zG) (B : Nat) (x : Int32) : zMet l g B yX9_isCell cX9_isCell 1 (some .boolean) 2 60 0 0 [.int x] [] (zDet (some (.int (zB (zf_X9_isCell x)))) []) := by
  refine z_in (plainFor_of_name (by decide)) (Nat.le_of_ble_eq_true rfl) (fun p e R s m args below meth c A Q hRf hRl hRc hRs X Z hnm E ls hl => ?_)
  have hx := X.1
  have hb := X.2.1
  have hown := X.2.2.2.1
  have hts := X.2.2.2.2.1
  have hl : lv_has ls 1 [(0, .int x)] := hl
  refine lv_iload_n hx hb dX9_isCell_0 rfl (lv_at hl 0 rfl) ?_
  refine lv_i2l hx hb dX9_isCell_1 rfl ?_
  refine lv_lconst (v := (0 : Int64)) hx hb dX9_isCell_2 (by decide) ?_
  refine lv_ldc2 (v := (2 : Int64)) hx hb hown (hts _ wL_X9_33) dX9_isCell_3 ?_
  refine z_callS (mc := 0) (ms := 0) (As := [.long x.toInt64, .long (0 : Int64), .long (2 : Int64)]) (rest := []) (st2 := [.int (zB (zf_X9_within x.toInt64 (0 : Int64) (2 : Int64)))]) (cs2 := []) X Z [] [] [] (zc_X9_within l g B x.toInt64 (0 : Int64) (2 : Int64)) wM_X9_44 wS_X9_within wK_X9_within wZ_X9 3 0 0 rfl (by decide +kernel) rfl (by decide) rfl rfl rfl (by decide) rfl hl.1 rfl rfl (by rw [hRf, hRl]; exact ⟨Nat.le_of_ble_eq_true rfl, Nat.le_of_ble_eq_true rfl⟩) (Nat.le_of_ble_eq_true rfl) ⟨Nat.zero_le _, Nat.zero_le _⟩ dX9_isCell_6 (fun H locs Z => ?_)
  exact z_ri (v := zB (zf_X9_within x.toInt64 (0 : Int64) (2 : Int64))) E Z (zB_narrow _) (by rw [zf_X9_isCell_e]; exact ⟨rfl, rfl⟩) dX9_isCell_9 (Nat.zero_le _) (Nat.zero_le _)
def zf_X9_isChance (x : Int32) : Bool := (zf_X9_within x.toInt64 (0 : Int64) (10 : Int64))
theorem zf_X9_isChance_e (x : Int32) : zf_X9_isChance x = (zf_X9_within x.toInt64 (0 : Int64) (10 : Int64)) := rfl
set_option maxHeartbeats 4000000 in
set_option maxRecDepth 100000 in
theorem zc_X9_isChance (l : Launch) (g : zG) (B : Nat) (x : Int32) : zMet l g B yX9_isChance cX9_isChance 1 (some .boolean) 2 60 0 0 [.int x] [] (zDet (some (.int (zB (zf_X9_isChance x)))) []) := by
  refine z_in (plainFor_of_name (by decide)) (Nat.le_of_ble_eq_true rfl) (fun p e R s m args below meth c A Q hRf hRl hRc hRs X Z hnm E ls hl => ?_)
  have hx := X.1
  have hb := X.2.1
  have hown := X.2.2.2.1
  have hts := X.2.2.2.2.1
  have hl : lv_has ls 1 [(0, .int x)] := hl
  refine lv_iload_n hx hb dX9_isChance_0 rfl (lv_at hl 0 rfl) ?_
  refine lv_i2l hx hb dX9_isChance_1 rfl ?_
  refine lv_lconst (v := (0 : Int64)) hx hb dX9_isChance_2 (by decide) ?_
  refine lv_ldc2 (v := (10 : Int64)) hx hb hown (hts _ wL_X9_142) dX9_isChance_3 ?_
  refine z_callS (mc := 0) (ms := 0) (As := [.long x.toInt64, .long (0 : Int64), .long (10 : Int64)]) (rest := []) (st2 := [.int (zB (zf_X9_within x.toInt64 (0 : Int64) (10 : Int64)))]) (cs2 := []) X Z [] [] [] (zc_X9_within l g B x.toInt64 (0 : Int64) (10 : Int64)) wM_X9_44 wS_X9_within wK_X9_within wZ_X9 3 0 0 rfl (by decide +kernel) rfl (by decide) rfl rfl rfl (by decide) rfl hl.1 rfl rfl (by rw [hRf, hRl]; exact ⟨Nat.le_of_ble_eq_true rfl, Nat.le_of_ble_eq_true rfl⟩) (Nat.le_of_ble_eq_true rfl) ⟨Nat.zero_le _, Nat.zero_le _⟩ dX9_isChance_6 (fun H locs Z => ?_)
  exact z_ri (v := zB (zf_X9_within x.toInt64 (0 : Int64) (10 : Int64))) E Z (zB_narrow _) (by rw [zf_X9_isChance_e]; exact ⟨rfl, rfl⟩) dX9_isChance_9 (Nat.zero_le _) (Nat.zero_le _)
def zl_X9_divisor_28 : Nat → Int64 → Int64 → Int64 × Int64
  | 0, x4, x6 => (x4, x6)
  | n28 + 1, x4, x6 => (if x6 = (0 : Int64) then (x4, x6) else zl_X9_divisor_28 n28 x6 (zremL x4 x6))
theorem zl_X9_divisor_28_s (n28 : Nat) (x4 : Int64) (x6 : Int64) : zl_X9_divisor_28 (n28 + 1) x4 x6 = (if x6 = (0 : Int64) then (x4, x6) else zl_X9_divisor_28 n28 x6 (zremL x4 x6)) := rfl
def zf_X9_divisor (x : Int64) (y : Int64) : Int64 := (if (0 : Int64) ≤ x then (if (0 : Int64) ≤ y then ((zl_X9_divisor_28 (y.toInt.toNat + 1) x y).1) else ((zl_X9_divisor_28 ((-y).toInt.toNat + 1) x (-y)).1)) else (if (0 : Int64) ≤ y then ((zl_X9_divisor_28 (y.toInt.toNat + 1) (-x) y).1) else ((zl_X9_divisor_28 ((-y).toInt.toNat + 1) (-x) (-y)).1)))
theorem zf_X9_divisor_e (x : Int64) (y : Int64) : zf_X9_divisor x y = (if (0 : Int64) ≤ x then (if (0 : Int64) ≤ y then ((zl_X9_divisor_28 (y.toInt.toNat + 1) x y).1) else ((zl_X9_divisor_28 ((-y).toInt.toNat + 1) x (-y)).1)) else (if (0 : Int64) ≤ y then ((zl_X9_divisor_28 (y.toInt.toNat + 1) (-x) y).1) else ((zl_X9_divisor_28 ((-y).toInt.toNat + 1) (-x) (-y)).1))) := rfl
set_option maxHeartbeats 4000000 in
set_option maxRecDepth 100000 in
theorem zc_X9_divisor (l : Launch) (g : zG) (B : Nat) (x : Int64) (y : Int64) (hx0 : ¬ x = -9223372036854775808) (hy0 : ¬ y = -9223372036854775808) : zMet l g B yX9_divisor cX9_divisor 10 (some .long) 1 30 0 0 [.long x, .long y] [] (zDet (some (.long (zf_X9_divisor x y))) []) := by
  refine z_in (plainFor_of_name (by decide)) (Nat.le_of_ble_eq_true rfl) (fun p e R s m args below meth c A Q hRf hRl hRc hRs X Z hnm E ls hl => ?_)
  have hx := X.1
  have hb := X.2.1
  have hown := X.2.2.2.1
  have hts := X.2.2.2.2.1
  have hl : lv_has ls 10 [(0, .long x), (2, .long y)] := hl
  refine lv_lload_n hx hb dX9_divisor_0 rfl (lv_at hl 0 rfl) ?_
  refine lv_lconst (v := (0 : Int64)) hx hb dX9_divisor_1 (by decide) ?_
  refine z_lc_ge (tgt := 11) X dX9_divisor_2 dX9_divisor_3 (by decide) (fun c_1 => ?_) (fun c_1 => ?_)
  · refine lv_lload_n hx hb dX9_divisor_11 rfl (lv_at hl 0 rfl) ?_
    refine lv_lstore (lv' := [(4, .long x), (0, .long x), (2, .long y)]) hx hb dX9_divisor_12 hl (by decide) rfl (fun ls hl => ?_)
    refine lv_lload_n hx hb dX9_divisor_14 rfl (lv_at hl 2 rfl) ?_
    refine lv_lconst (v := (0 : Int64)) hx hb dX9_divisor_15 (by decide) ?_
    refine z_lc_ge (tgt := 25) X dX9_divisor_16 dX9_divisor_17 (by decide) (fun c_2 => ?_) (fun c_2 => ?_)
    · refine lv_lload_n hx hb dX9_divisor_25 rfl (lv_at hl 2 rfl) ?_
      refine lv_lstore (lv' := [(6, .long y), (4, .long x), (0, .long x), (2, .long y)]) hx hb dX9_divisor_26 hl (by decide) rfl (fun ls hl => ?_)
      have loop_28 : ∀ (n28 : Nat) (x4 : Int64) (x6 : Int64), x6.toInt.toNat < n28 → zl_X9_divisor_28 n28 x4 x6 = (zl_X9_divisor_28 (y.toInt.toNat + 1) x y) → (0 ≤ x4) → (0 ≤ x6) → ∀ (H : Heap) (locs : List Loc), zM g B A s [] H locs → ∀ ls : Array Slot, lv_has ls 10 [(6, .long x6), (4, .long x4), (0, .long x), (2, .long y)] → W p l e R s m args below meth c H locs 0 0 Q (F0 m 28 ls []) := by
        intro n28
        induction n28 with
        | zero =>
          intro x4 x6 hin28 hR28 i1 i2 H locs Z ls hl
          exact absurd hin28 (Nat.not_lt_zero _)
        | succ n28 ih28 =>
          intro x4 x6 hin28 hR28 i1 i2 H locs Z ls hl
          refine lv_lload hx hb dX9_divisor_28 (lv_at hl 0 rfl) ?_
          refine lv_lconst (v := (0 : Int64)) hx hb dX9_divisor_30 (by decide) ?_
          refine z_lc_eq (tgt := 53) X dX9_divisor_31 dX9_divisor_32 (by decide) (fun c_3 => ?_) (fun c_3 => ?_)
          · have h9 := hR28
            rw [zl_X9_divisor_28_s, if_pos c_3] at h9
            have e_x4 : x4 = (zl_X9_divisor_28 (y.toInt.toNat + 1) x y).1 := (congrArg (fun z => z.1) h9)
            have e_x6 : x6 = (zl_X9_divisor_28 (y.toInt.toNat + 1) x y).2 := (congrArg (fun z => z.2) h9)
            clear h9
            subst e_x4
            subst e_x6
            refine lv_lload hx hb dX9_divisor_53 (lv_at hl 1 rfl) ?_
            exact z_rl (v := ((zl_X9_divisor_28 (y.toInt.toNat + 1) x y).1)) E Z (by rw [zf_X9_divisor_e, if_pos c_1, if_pos c_2]; exact ⟨rfl, rfl⟩) dX9_divisor_55 (Nat.zero_le _) (Nat.zero_le _)
          · refine lv_lload hx hb dX9_divisor_35 (lv_at hl 1 rfl) ?_
            refine lv_lload hx hb dX9_divisor_37 (lv_at hl 0 rfl) ?_
            refine z_lremR X (by assumption) dX9_divisor_39 ?_
            refine lv_lstore (lv' := [(8, .long (zremL x4 x6)), (6, .long x6), (4, .long x4), (0, .long x), (2, .long y)]) hx hb dX9_divisor_40 hl (by decide) rfl (fun ls hl => ?_)
            refine lv_lload hx hb dX9_divisor_42 (lv_at hl 1 rfl) ?_
            refine lv_lstore (lv' := [(4, .long x6), (8, .long (zremL x4 x6)), (6, .long x6), (0, .long x), (2, .long y)]) hx hb dX9_divisor_44 hl (by decide) rfl (fun ls hl => ?_)
            refine lv_lload hx hb dX9_divisor_46 (lv_at hl 1 rfl) ?_
            refine lv_lstore (lv' := [(6, .long (zremL x4 x6)), (4, .long x6), (8, .long (zremL x4 x6)), (0, .long x), (2, .long y)]) hx hb dX9_divisor_48 hl (by decide) rfl (fun ls hl => ?_)
            refine lv_goto (tgt := 28) hx hb dX9_divisor_50 (by decide) ?_
            exact ih28 x6 (zremL x4 x6) (zgl1 i1 i2 (by assumption) hin28) (by have h9 := hR28; rw [zl_X9_divisor_28_s, if_neg c_3] at h9; exact h9) i2 (zgl i1 i2 (by assumption)).1 _ _ Z ls (lv_sub hl [0, 1, 3, 4] rfl)
      exact loop_28 (y.toInt.toNat + 1) x y (Nat.lt_succ_self _) rfl (by first | assumption | exact zneg_nn (by assumption) (by assumption)) (by first | assumption | exact zneg_nn (by assumption) (by assumption)) _ _ Z ls (lv_sub hl [0, 1, 2, 3] rfl)
    · refine lv_lload_n hx hb dX9_divisor_20 rfl (lv_at hl 2 rfl) ?_
      refine lv_lneg hx hb dX9_divisor_21 ?_
      refine lv_goto (tgt := 26) hx hb dX9_divisor_22 (by decide) ?_
      refine lv_lstore (lv' := [(6, .long (-y)), (4, .long x), (0, .long x), (2, .long y)]) hx hb dX9_divisor_26 hl (by decide) rfl (fun ls hl => ?_)
      have loop_28 : ∀ (n28 : Nat) (x4 : Int64) (x6 : Int64), x6.toInt.toNat < n28 → zl_X9_divisor_28 n28 x4 x6 = (zl_X9_divisor_28 ((-y).toInt.toNat + 1) x (-y)) → (0 ≤ x4) → (0 ≤ x6) → ∀ (H : Heap) (locs : List Loc), zM g B A s [] H locs → ∀ ls : Array Slot, lv_has ls 10 [(6, .long x6), (4, .long x4), (0, .long x), (2, .long y)] → W p l e R s m args below meth c H locs 0 0 Q (F0 m 28 ls []) := by
        intro n28
        induction n28 with
        | zero =>
          intro x4 x6 hin28 hR28 i1 i2 H locs Z ls hl
          exact absurd hin28 (Nat.not_lt_zero _)
        | succ n28 ih28 =>
          intro x4 x6 hin28 hR28 i1 i2 H locs Z ls hl
          refine lv_lload hx hb dX9_divisor_28 (lv_at hl 0 rfl) ?_
          refine lv_lconst (v := (0 : Int64)) hx hb dX9_divisor_30 (by decide) ?_
          refine z_lc_eq (tgt := 53) X dX9_divisor_31 dX9_divisor_32 (by decide) (fun c_4 => ?_) (fun c_4 => ?_)
          · have h9 := hR28
            rw [zl_X9_divisor_28_s, if_pos c_4] at h9
            have e_x4 : x4 = (zl_X9_divisor_28 ((-y).toInt.toNat + 1) x (-y)).1 := (congrArg (fun z => z.1) h9)
            have e_x6 : x6 = (zl_X9_divisor_28 ((-y).toInt.toNat + 1) x (-y)).2 := (congrArg (fun z => z.2) h9)
            clear h9
            subst e_x4
            subst e_x6
            refine lv_lload hx hb dX9_divisor_53 (lv_at hl 1 rfl) ?_
            exact z_rl (v := ((zl_X9_divisor_28 ((-y).toInt.toNat + 1) x (-y)).1)) E Z (by rw [zf_X9_divisor_e, if_pos c_1, if_neg c_2]; exact ⟨rfl, rfl⟩) dX9_divisor_55 (Nat.zero_le _) (Nat.zero_le _)
          · refine lv_lload hx hb dX9_divisor_35 (lv_at hl 1 rfl) ?_
            refine lv_lload hx hb dX9_divisor_37 (lv_at hl 0 rfl) ?_
            refine z_lremR X (by assumption) dX9_divisor_39 ?_
            refine lv_lstore (lv' := [(8, .long (zremL x4 x6)), (6, .long x6), (4, .long x4), (0, .long x), (2, .long y)]) hx hb dX9_divisor_40 hl (by decide) rfl (fun ls hl => ?_)
            refine lv_lload hx hb dX9_divisor_42 (lv_at hl 1 rfl) ?_
            refine lv_lstore (lv' := [(4, .long x6), (8, .long (zremL x4 x6)), (6, .long x6), (0, .long x), (2, .long y)]) hx hb dX9_divisor_44 hl (by decide) rfl (fun ls hl => ?_)
            refine lv_lload hx hb dX9_divisor_46 (lv_at hl 1 rfl) ?_
            refine lv_lstore (lv' := [(6, .long (zremL x4 x6)), (4, .long x6), (8, .long (zremL x4 x6)), (0, .long x), (2, .long y)]) hx hb dX9_divisor_48 hl (by decide) rfl (fun ls hl => ?_)
            refine lv_goto (tgt := 28) hx hb dX9_divisor_50 (by decide) ?_
            exact ih28 x6 (zremL x4 x6) (zgl1 i1 i2 (by assumption) hin28) (by have h9 := hR28; rw [zl_X9_divisor_28_s, if_neg c_4] at h9; exact h9) i2 (zgl i1 i2 (by assumption)).1 _ _ Z ls (lv_sub hl [0, 1, 3, 4] rfl)
      exact loop_28 ((-y).toInt.toNat + 1) x (-y) (Nat.lt_succ_self _) rfl (by first | assumption | exact zneg_nn (by assumption) (by assumption)) (by first | assumption | exact zneg_nn (by assumption) (by assumption)) _ _ Z ls (lv_sub hl [0, 1, 2, 3] rfl)
  · refine lv_lload_n hx hb dX9_divisor_6 rfl (lv_at hl 0 rfl) ?_
    refine lv_lneg hx hb dX9_divisor_7 ?_
    refine lv_goto (tgt := 12) hx hb dX9_divisor_8 (by decide) ?_
    refine lv_lstore (lv' := [(4, .long (-x)), (0, .long x), (2, .long y)]) hx hb dX9_divisor_12 hl (by decide) rfl (fun ls hl => ?_)
    refine lv_lload_n hx hb dX9_divisor_14 rfl (lv_at hl 2 rfl) ?_
    refine lv_lconst (v := (0 : Int64)) hx hb dX9_divisor_15 (by decide) ?_
    refine z_lc_ge (tgt := 25) X dX9_divisor_16 dX9_divisor_17 (by decide) (fun c_5 => ?_) (fun c_5 => ?_)
    · refine lv_lload_n hx hb dX9_divisor_25 rfl (lv_at hl 2 rfl) ?_
      refine lv_lstore (lv' := [(6, .long y), (4, .long (-x)), (0, .long x), (2, .long y)]) hx hb dX9_divisor_26 hl (by decide) rfl (fun ls hl => ?_)
      have loop_28 : ∀ (n28 : Nat) (x4 : Int64) (x6 : Int64), x6.toInt.toNat < n28 → zl_X9_divisor_28 n28 x4 x6 = (zl_X9_divisor_28 (y.toInt.toNat + 1) (-x) y) → (0 ≤ x4) → (0 ≤ x6) → ∀ (H : Heap) (locs : List Loc), zM g B A s [] H locs → ∀ ls : Array Slot, lv_has ls 10 [(6, .long x6), (4, .long x4), (0, .long x), (2, .long y)] → W p l e R s m args below meth c H locs 0 0 Q (F0 m 28 ls []) := by
        intro n28
        induction n28 with
        | zero =>
          intro x4 x6 hin28 hR28 i1 i2 H locs Z ls hl
          exact absurd hin28 (Nat.not_lt_zero _)
        | succ n28 ih28 =>
          intro x4 x6 hin28 hR28 i1 i2 H locs Z ls hl
          refine lv_lload hx hb dX9_divisor_28 (lv_at hl 0 rfl) ?_
          refine lv_lconst (v := (0 : Int64)) hx hb dX9_divisor_30 (by decide) ?_
          refine z_lc_eq (tgt := 53) X dX9_divisor_31 dX9_divisor_32 (by decide) (fun c_6 => ?_) (fun c_6 => ?_)
          · have h9 := hR28
            rw [zl_X9_divisor_28_s, if_pos c_6] at h9
            have e_x4 : x4 = (zl_X9_divisor_28 (y.toInt.toNat + 1) (-x) y).1 := (congrArg (fun z => z.1) h9)
            have e_x6 : x6 = (zl_X9_divisor_28 (y.toInt.toNat + 1) (-x) y).2 := (congrArg (fun z => z.2) h9)
            clear h9
            subst e_x4
            subst e_x6
            refine lv_lload hx hb dX9_divisor_53 (lv_at hl 1 rfl) ?_
            exact z_rl (v := ((zl_X9_divisor_28 (y.toInt.toNat + 1) (-x) y).1)) E Z (by rw [zf_X9_divisor_e, if_neg c_1, if_pos c_5]; exact ⟨rfl, rfl⟩) dX9_divisor_55 (Nat.zero_le _) (Nat.zero_le _)
          · refine lv_lload hx hb dX9_divisor_35 (lv_at hl 1 rfl) ?_
            refine lv_lload hx hb dX9_divisor_37 (lv_at hl 0 rfl) ?_
            refine z_lremR X (by assumption) dX9_divisor_39 ?_
            refine lv_lstore (lv' := [(8, .long (zremL x4 x6)), (6, .long x6), (4, .long x4), (0, .long x), (2, .long y)]) hx hb dX9_divisor_40 hl (by decide) rfl (fun ls hl => ?_)
            refine lv_lload hx hb dX9_divisor_42 (lv_at hl 1 rfl) ?_
            refine lv_lstore (lv' := [(4, .long x6), (8, .long (zremL x4 x6)), (6, .long x6), (0, .long x), (2, .long y)]) hx hb dX9_divisor_44 hl (by decide) rfl (fun ls hl => ?_)
            refine lv_lload hx hb dX9_divisor_46 (lv_at hl 1 rfl) ?_
            refine lv_lstore (lv' := [(6, .long (zremL x4 x6)), (4, .long x6), (8, .long (zremL x4 x6)), (0, .long x), (2, .long y)]) hx hb dX9_divisor_48 hl (by decide) rfl (fun ls hl => ?_)
            refine lv_goto (tgt := 28) hx hb dX9_divisor_50 (by decide) ?_
            exact ih28 x6 (zremL x4 x6) (zgl1 i1 i2 (by assumption) hin28) (by have h9 := hR28; rw [zl_X9_divisor_28_s, if_neg c_6] at h9; exact h9) i2 (zgl i1 i2 (by assumption)).1 _ _ Z ls (lv_sub hl [0, 1, 3, 4] rfl)
      exact loop_28 (y.toInt.toNat + 1) (-x) y (Nat.lt_succ_self _) rfl (by first | assumption | exact zneg_nn (by assumption) (by assumption)) (by first | assumption | exact zneg_nn (by assumption) (by assumption)) _ _ Z ls (lv_sub hl [0, 1, 2, 3] rfl)
    · refine lv_lload_n hx hb dX9_divisor_20 rfl (lv_at hl 2 rfl) ?_
      refine lv_lneg hx hb dX9_divisor_21 ?_
      refine lv_goto (tgt := 26) hx hb dX9_divisor_22 (by decide) ?_
      refine lv_lstore (lv' := [(6, .long (-y)), (4, .long (-x)), (0, .long x), (2, .long y)]) hx hb dX9_divisor_26 hl (by decide) rfl (fun ls hl => ?_)
      have loop_28 : ∀ (n28 : Nat) (x4 : Int64) (x6 : Int64), x6.toInt.toNat < n28 → zl_X9_divisor_28 n28 x4 x6 = (zl_X9_divisor_28 ((-y).toInt.toNat + 1) (-x) (-y)) → (0 ≤ x4) → (0 ≤ x6) → ∀ (H : Heap) (locs : List Loc), zM g B A s [] H locs → ∀ ls : Array Slot, lv_has ls 10 [(6, .long x6), (4, .long x4), (0, .long x), (2, .long y)] → W p l e R s m args below meth c H locs 0 0 Q (F0 m 28 ls []) := by
        intro n28
        induction n28 with
        | zero =>
          intro x4 x6 hin28 hR28 i1 i2 H locs Z ls hl
          exact absurd hin28 (Nat.not_lt_zero _)
        | succ n28 ih28 =>
          intro x4 x6 hin28 hR28 i1 i2 H locs Z ls hl
          refine lv_lload hx hb dX9_divisor_28 (lv_at hl 0 rfl) ?_
          refine lv_lconst (v := (0 : Int64)) hx hb dX9_divisor_30 (by decide) ?_
          refine z_lc_eq (tgt := 53) X dX9_divisor_31 dX9_divisor_32 (by decide) (fun c_7 => ?_) (fun c_7 => ?_)
          · have h9 := hR28
            rw [zl_X9_divisor_28_s, if_pos c_7] at h9
            have e_x4 : x4 = (zl_X9_divisor_28 ((-y).toInt.toNat + 1) (-x) (-y)).1 := (congrArg (fun z => z.1) h9)
            have e_x6 : x6 = (zl_X9_divisor_28 ((-y).toInt.toNat + 1) (-x) (-y)).2 := (congrArg (fun z => z.2) h9)
            clear h9
            subst e_x4
            subst e_x6
            refine lv_lload hx hb dX9_divisor_53 (lv_at hl 1 rfl) ?_
            exact z_rl (v := ((zl_X9_divisor_28 ((-y).toInt.toNat + 1) (-x) (-y)).1)) E Z (by rw [zf_X9_divisor_e, if_neg c_1, if_neg c_5]; exact ⟨rfl, rfl⟩) dX9_divisor_55 (Nat.zero_le _) (Nat.zero_le _)
          · refine lv_lload hx hb dX9_divisor_35 (lv_at hl 1 rfl) ?_
            refine lv_lload hx hb dX9_divisor_37 (lv_at hl 0 rfl) ?_
            refine z_lremR X (by assumption) dX9_divisor_39 ?_
            refine lv_lstore (lv' := [(8, .long (zremL x4 x6)), (6, .long x6), (4, .long x4), (0, .long x), (2, .long y)]) hx hb dX9_divisor_40 hl (by decide) rfl (fun ls hl => ?_)
            refine lv_lload hx hb dX9_divisor_42 (lv_at hl 1 rfl) ?_
            refine lv_lstore (lv' := [(4, .long x6), (8, .long (zremL x4 x6)), (6, .long x6), (0, .long x), (2, .long y)]) hx hb dX9_divisor_44 hl (by decide) rfl (fun ls hl => ?_)
            refine lv_lload hx hb dX9_divisor_46 (lv_at hl 1 rfl) ?_
            refine lv_lstore (lv' := [(6, .long (zremL x4 x6)), (4, .long x6), (8, .long (zremL x4 x6)), (0, .long x), (2, .long y)]) hx hb dX9_divisor_48 hl (by decide) rfl (fun ls hl => ?_)
            refine lv_goto (tgt := 28) hx hb dX9_divisor_50 (by decide) ?_
            exact ih28 x6 (zremL x4 x6) (zgl1 i1 i2 (by assumption) hin28) (by have h9 := hR28; rw [zl_X9_divisor_28_s, if_neg c_7] at h9; exact h9) i2 (zgl i1 i2 (by assumption)).1 _ _ Z ls (lv_sub hl [0, 1, 3, 4] rfl)
      exact loop_28 ((-y).toInt.toNat + 1) (-x) (-y) (Nat.lt_succ_self _) rfl (by first | assumption | exact zneg_nn (by assumption) (by assumption)) (by first | assumption | exact zneg_nn (by assumption) (by assumption)) _ _ Z ls (lv_sub hl [0, 1, 2, 3] rfl)
def zf_X9_partOf (x : Int64) (y : Int64) (t : Int32) : Int64 := (if (0 : Int64) ≤ y then (if t = 0 then (x / (zf_X9_divisor x y)) else (y / (zf_X9_divisor x y))) else (if t = 0 then (x / (-(zf_X9_divisor x y))) else (y / (-(zf_X9_divisor x y)))))
theorem zf_X9_partOf_e (x : Int64) (y : Int64) (t : Int32) : zf_X9_partOf x y t = (if (0 : Int64) ≤ y then (if t = 0 then (x / (zf_X9_divisor x y)) else (y / (zf_X9_divisor x y))) else (if t = 0 then (x / (-(zf_X9_divisor x y))) else (y / (-(zf_X9_divisor x y))))) := rfl
set_option maxHeartbeats 4000000 in
set_option maxRecDepth 100000 in
theorem zc_X9_partOf (l : Launch) (g : zG) (B : Nat) (x : Int64) (y : Int64) (t : Int32) (hx0 : ¬ x = -9223372036854775808) (hy0 : ¬ y = -9223372036854775808) (hd : ¬ (zf_X9_divisor x y) = 0) : zMet l g B yX9_partOf cX9_partOf 7 (some .long) 2 70 0 0 [.long x, .long y, .int t] [] (zDet (some (.long (zf_X9_partOf x y t))) []) := by
  refine z_in (plainFor_of_name (by decide)) (Nat.le_of_ble_eq_true rfl) (fun p e R s m args below meth c A Q hRf hRl hRc hRs X Z hnm E ls hl => ?_)
  have hx := X.1
  have hb := X.2.1
  have hown := X.2.2.2.1
  have hts := X.2.2.2.2.1
  have hl : lv_has ls 7 [(0, .long x), (2, .long y), (4, .int t)] := hl
  refine lv_lload_n hx hb dX9_partOf_0 rfl (lv_at hl 0 rfl) ?_
  refine lv_lload_n hx hb dX9_partOf_1 rfl (lv_at hl 1 rfl) ?_
  refine z_callS (mc := 0) (ms := 0) (As := [.long x, .long y]) (rest := []) (st2 := [.long (zf_X9_divisor x y)]) (cs2 := []) X Z [] [] [] (zc_X9_divisor l g B x y (by first | assumption | omega | decide) (by first | assumption | omega | decide)) wM_X9_48 wS_X9_divisor wK_X9_divisor wZ_X9 2 0 0 rfl (by decide +kernel) rfl (by decide) rfl rfl rfl (by decide) rfl hl.1 rfl rfl (by rw [hRf, hRl]; exact ⟨Nat.le_of_ble_eq_true rfl, Nat.le_of_ble_eq_true rfl⟩) (Nat.le_of_ble_eq_true rfl) ⟨Nat.zero_le _, Nat.zero_le _⟩ dX9_partOf_2 (fun H locs Z => ?_)
  refine lv_lstore (lv' := [(5, .long (zf_X9_divisor x y)), (0, .long x), (2, .long y), (4, .int t)]) hx hb dX9_partOf_5 hl (by decide) rfl (fun ls hl => ?_)
  refine lv_lload_n hx hb dX9_partOf_7 rfl (lv_at hl 2 rfl) ?_
  refine lv_lconst (v := (0 : Int64)) hx hb dX9_partOf_8 (by decide) ?_
  refine z_lc_ge (tgt := 19) X dX9_partOf_9 dX9_partOf_10 (by decide) (fun c_1 => ?_) (fun c_1 => ?_)
  · refine lv_lload hx hb dX9_partOf_19 (lv_at hl 0 rfl) ?_
    refine lv_lstore (lv' := [(5, .long (zf_X9_divisor x y)), (0, .long x), (2, .long y), (4, .int t)]) hx hb dX9_partOf_21 hl (by decide) rfl (fun ls hl => ?_)
    refine lv_iload hx hb dX9_partOf_23 (lv_at hl 3 rfl) ?_
    refine lv_if_ne (tgt := 35) hx hb dX9_partOf_25 (by decide) (fun c_2 => ?_) (fun c_2 => ?_)
    · refine lv_lload_n hx hb dX9_partOf_35 rfl (lv_at hl 2 rfl) ?_
      refine lv_lload hx hb dX9_partOf_36 (lv_at hl 0 rfl) ?_
      refine lv_ldiv hx hb dX9_partOf_38 (by first | assumption | exact zneg0 (by assumption)) ?_
      exact z_rl (v := (y / (zf_X9_divisor x y))) E Z (by rw [zf_X9_partOf_e, if_pos c_1, if_neg c_2]; exact ⟨rfl, rfl⟩) dX9_partOf_39 (Nat.zero_le _) (Nat.zero_le _)
    · refine lv_lload_n hx hb dX9_partOf_28 rfl (lv_at hl 1 rfl) ?_
      refine lv_lload hx hb dX9_partOf_29 (lv_at hl 0 rfl) ?_
      refine lv_ldiv hx hb dX9_partOf_31 (by first | assumption | exact zneg0 (by assumption)) ?_
      refine lv_goto (tgt := 39) hx hb dX9_partOf_32 (by decide) ?_
      exact z_rl (v := (x / (zf_X9_divisor x y))) E Z (by rw [zf_X9_partOf_e, if_pos c_1, if_pos c_2]; exact ⟨rfl, rfl⟩) dX9_partOf_39 (Nat.zero_le _) (Nat.zero_le _)
  · refine lv_lload hx hb dX9_partOf_13 (lv_at hl 0 rfl) ?_
    refine lv_lneg hx hb dX9_partOf_15 ?_
    refine lv_goto (tgt := 21) hx hb dX9_partOf_16 (by decide) ?_
    refine lv_lstore (lv' := [(5, .long (-(zf_X9_divisor x y))), (0, .long x), (2, .long y), (4, .int t)]) hx hb dX9_partOf_21 hl (by decide) rfl (fun ls hl => ?_)
    refine lv_iload hx hb dX9_partOf_23 (lv_at hl 3 rfl) ?_
    refine lv_if_ne (tgt := 35) hx hb dX9_partOf_25 (by decide) (fun c_3 => ?_) (fun c_3 => ?_)
    · refine lv_lload_n hx hb dX9_partOf_35 rfl (lv_at hl 2 rfl) ?_
      refine lv_lload hx hb dX9_partOf_36 (lv_at hl 0 rfl) ?_
      refine lv_ldiv hx hb dX9_partOf_38 (by first | assumption | exact zneg0 (by assumption)) ?_
      exact z_rl (v := (y / (-(zf_X9_divisor x y)))) E Z (by rw [zf_X9_partOf_e, if_neg c_1, if_neg c_3]; exact ⟨rfl, rfl⟩) dX9_partOf_39 (Nat.zero_le _) (Nat.zero_le _)
    · refine lv_lload_n hx hb dX9_partOf_28 rfl (lv_at hl 1 rfl) ?_
      refine lv_lload hx hb dX9_partOf_29 (lv_at hl 0 rfl) ?_
      refine lv_ldiv hx hb dX9_partOf_31 (by first | assumption | exact zneg0 (by assumption)) ?_
      refine lv_goto (tgt := 39) hx hb dX9_partOf_32 (by decide) ?_
      exact z_rl (v := (x / (-(zf_X9_divisor x y)))) E Z (by rw [zf_X9_partOf_e, if_neg c_1, if_pos c_3]; exact ⟨rfl, rfl⟩) dX9_partOf_39 (Nat.zero_le _) (Nat.zero_le _)
def zf_X9_floor (x : Int64) (y : Int64) : Int64 := (if (0 : Int64) ≤ (zremL x y) then (x / y) else ((x / y) - (1 : Int64)))
theorem zf_X9_floor_e (x : Int64) (y : Int64) : zf_X9_floor x y = (if (0 : Int64) ≤ (zremL x y) then (x / y) else ((x / y) - (1 : Int64))) := rfl
set_option maxHeartbeats 4000000 in
set_option maxRecDepth 100000 in
theorem zc_X9_floor (l : Launch) (g : zG) (B : Nat) (x : Int64) (y : Int64) (hy : ¬ y = 0) : zMet l g B yX9_floor cX9_floor 6 (some .long) 1 20 0 0 [.long x, .long y] [] (zDet (some (.long (zf_X9_floor x y))) []) := by
  refine z_in (plainFor_of_name (by decide)) (Nat.le_of_ble_eq_true rfl) (fun p e R s m args below meth c A Q hRf hRl hRc hRs X Z hnm E ls hl => ?_)
  have hx := X.1
  have hb := X.2.1
  have hown := X.2.2.2.1
  have hts := X.2.2.2.2.1
  have hl : lv_has ls 6 [(0, .long x), (2, .long y)] := hl
  refine lv_lload_n hx hb dX9_floor_0 rfl (lv_at hl 0 rfl) ?_
  refine lv_lload_n hx hb dX9_floor_1 rfl (lv_at hl 1 rfl) ?_
  refine lv_ldiv hx hb dX9_floor_2 hy ?_
  refine lv_lstore (lv' := [(4, .long (x / y)), (0, .long x), (2, .long y)]) hx hb dX9_floor_3 hl (by decide) rfl (fun ls hl => ?_)
  refine lv_lload_n hx hb dX9_floor_5 rfl (lv_at hl 1 rfl) ?_
  refine lv_lload_n hx hb dX9_floor_6 rfl (lv_at hl 2 rfl) ?_
  refine z_lremR X hy dX9_floor_7 ?_
  refine lv_lconst (v := (0 : Int64)) hx hb dX9_floor_8 (by decide) ?_
  refine z_lc_ge (tgt := 20) X dX9_floor_9 dX9_floor_10 (by decide) (fun c_1 => ?_) (fun c_1 => ?_)
  · refine lv_lload hx hb dX9_floor_20 (lv_at hl 0 rfl) ?_
    exact z_rl (v := (x / y)) E Z (by rw [zf_X9_floor_e, if_pos c_1]; exact ⟨rfl, rfl⟩) dX9_floor_22 (Nat.zero_le _) (Nat.zero_le _)
  · refine lv_lload hx hb dX9_floor_13 (lv_at hl 0 rfl) ?_
    refine lv_lconst (v := (1 : Int64)) hx hb dX9_floor_15 (by decide) ?_
    refine lv_lsub hx hb dX9_floor_16 ?_
    refine lv_goto (tgt := 22) hx hb dX9_floor_17 (by decide) ?_
    exact z_rl (v := ((x / y) - (1 : Int64))) E Z (by rw [zf_X9_floor_e, if_neg c_1]; exact ⟨rfl, rfl⟩) dX9_floor_22 (Nat.zero_le _) (Nat.zero_le _)
def zf_X9_cellX (M : zMo) (k : Nat) : Int64 := ((mNow M) (0 + (3 * (k % 3))))
theorem zf_X9_cellX_e (M : zMo) (k : Nat) : zf_X9_cellX M k = ((mNow M) (0 + (3 * (k % 3)))) := rfl
set_option maxHeartbeats 4000000 in
set_option maxRecDepth 100000 in
theorem zc_X9_cellX (l : Launch) (g : zG) (B : Nat) (md : Nat → Nat) (M : zMo) (k : Nat) (hk : k ≤ 5) : zMet l g B yX9_cellX cX9_cellX 2 (some .long) 1 20 0 0 [.ref (md 0), .int (nI k)] [wMod g md M] (zDet (some (.long (zf_X9_cellX M k))) [wMod g md M]) := by
  refine z_in (plainFor_of_name (by decide)) (Nat.le_of_ble_eq_true rfl) (fun p e R s m args below meth c A Q hRf hRl hRc hRs X Z hnm E ls hl => ?_)
  have hx := X.1
  have hb := X.2.1
  have hown := X.2.2.2.1
  have hts := X.2.2.2.2.1
  have hl : lv_has ls 2 [(0, .ref (md 0)), (1, .int (nI k))] := hl
  refine lv_aload_n hx hb dX9_cellX_0 rfl (lv_at hl 0 rfl) ?_
  refine z_get X Z 0 rfl (rfl : zCl[7]? = some (RX9, TX9, 10)) zU_X9 0 (by decide) wF_X9_7 rfl rfl dX9_cellX_1 ?_
  refine lv_iconst (v := (0 : Int32)) hx hb dX9_cellX_4 (by decide) ?_
  refine lv_iconst (v := (3 : Int32)) hx hb dX9_cellX_5 (by decide) ?_
  refine lv_iload_n hx hb dX9_cellX_6 rfl (lv_at hl 1 rfl) ?_
  refine lv_iconst (v := (3 : Int32)) hx hb dX9_cellX_7 (by decide) ?_
  refine z_irem (a := k) (b := 3) X rfl rfl (by omega) (by omega) (by omega) dX9_cellX_8 ?_
  refine z_imul (a := 3) (b := (k % 3)) X rfl rfl dX9_cellX_9 ?_
  refine z_iadd (a := 0) (b := (3 * (k % 3))) X rfl rfl dX9_cellX_10 ?_
  refine z_lald (j := (0 + (3 * (k % 3)))) X Z 1 rfl rfl (by omega) (by decide) dX9_cellX_11 ?_
  exact z_rl (v := ((mNow M) (0 + (3 * (k % 3))))) E Z (by rw [zf_X9_cellX_e]; exact ⟨rfl, rfl⟩) dX9_cellX_12 (Nat.zero_le _) (Nat.zero_le _)
def zf_X9_cellY (M : zMo) (k : Nat) : Int64 := ((mNow M) ((0 + (3 * (k % 3))) + 1))
theorem zf_X9_cellY_e (M : zMo) (k : Nat) : zf_X9_cellY M k = ((mNow M) ((0 + (3 * (k % 3))) + 1)) := rfl
set_option maxHeartbeats 4000000 in
set_option maxRecDepth 100000 in
theorem zc_X9_cellY (l : Launch) (g : zG) (B : Nat) (md : Nat → Nat) (M : zMo) (k : Nat) (hk : k ≤ 5) : zMet l g B yX9_cellY cX9_cellY 2 (some .long) 1 20 0 0 [.ref (md 0), .int (nI k)] [wMod g md M] (zDet (some (.long (zf_X9_cellY M k))) [wMod g md M]) := by
  refine z_in (plainFor_of_name (by decide)) (Nat.le_of_ble_eq_true rfl) (fun p e R s m args below meth c A Q hRf hRl hRc hRs X Z hnm E ls hl => ?_)
  have hx := X.1
  have hb := X.2.1
  have hown := X.2.2.2.1
  have hts := X.2.2.2.2.1
  have hl : lv_has ls 2 [(0, .ref (md 0)), (1, .int (nI k))] := hl
  refine lv_aload_n hx hb dX9_cellY_0 rfl (lv_at hl 0 rfl) ?_
  refine z_get X Z 0 rfl (rfl : zCl[7]? = some (RX9, TX9, 10)) zU_X9 0 (by decide) wF_X9_7 rfl rfl dX9_cellY_1 ?_
  refine lv_iconst (v := (0 : Int32)) hx hb dX9_cellY_4 (by decide) ?_
  refine lv_iconst (v := (3 : Int32)) hx hb dX9_cellY_5 (by decide) ?_
  refine lv_iload_n hx hb dX9_cellY_6 rfl (lv_at hl 1 rfl) ?_
  refine lv_iconst (v := (3 : Int32)) hx hb dX9_cellY_7 (by decide) ?_
  refine z_irem (a := k) (b := 3) X rfl rfl (by omega) (by omega) (by omega) dX9_cellY_8 ?_
  refine z_imul (a := 3) (b := (k % 3)) X rfl rfl dX9_cellY_9 ?_
  refine z_iadd (a := 0) (b := (3 * (k % 3))) X rfl rfl dX9_cellY_10 ?_
  refine lv_iconst (v := (1 : Int32)) hx hb dX9_cellY_11 (by decide) ?_
  refine z_iadd (a := (0 + (3 * (k % 3)))) (b := 1) X rfl rfl dX9_cellY_12 ?_
  refine z_lald (j := ((0 + (3 * (k % 3))) + 1)) X Z 1 rfl rfl (by omega) (by decide) dX9_cellY_13 ?_
  exact z_rl (v := ((mNow M) ((0 + (3 * (k % 3))) + 1))) E Z (by rw [zf_X9_cellY_e]; exact ⟨rfl, rfl⟩) dX9_cellY_14 (Nat.zero_le _) (Nat.zero_le _)
def zf_X9_area (M : zMo) : Int64 := ((((zf_X9_cellX M 1) - (zf_X9_cellX M 0)) * ((zf_X9_cellY M 2) - (zf_X9_cellY M 0))) - (((zf_X9_cellX M 2) - (zf_X9_cellX M 0)) * ((zf_X9_cellY M 1) - (zf_X9_cellY M 0))))
theorem zf_X9_area_e (M : zMo) : zf_X9_area M = ((((zf_X9_cellX M 1) - (zf_X9_cellX M 0)) * ((zf_X9_cellY M 2) - (zf_X9_cellY M 0))) - (((zf_X9_cellX M 2) - (zf_X9_cellX M 0)) * ((zf_X9_cellY M 1) - (zf_X9_cellY M 0)))) := rfl
set_option maxHeartbeats 4000000 in
set_option maxRecDepth 100000 in
theorem zc_X9_area (l : Launch) (g : zG) (B : Nat) (md : Nat → Nat) (M : zMo) : zMet l g B yX9_area cX9_area 1 (some .long) 2 60 0 0 [.ref (md 0)] [wMod g md M] (zDet (some (.long (zf_X9_area M))) [wMod g md M]) := by
  refine z_in (plainFor_of_name (by decide)) (Nat.le_of_ble_eq_true rfl) (fun p e R s m args below meth c A Q hRf hRl hRc hRs X Z hnm E ls hl => ?_)
  have hx := X.1
  have hb := X.2.1
  have hown := X.2.2.2.1
  have hts := X.2.2.2.2.1
  have hl : lv_has ls 1 [(0, .ref (md 0))] := hl
  refine lv_aload_n hx hb dX9_area_0 rfl (lv_at hl 0 rfl) ?_
  refine lv_iconst (v := (1 : Int32)) hx hb dX9_area_1 (by decide) ?_
  refine z_callV (mc := 0) (ms := 0) (As := [.int (1 : Int32)]) (rest := []) (st2 := [.long (zf_X9_cellX M 1)]) (cs2 := [wMod g md M]) X Z [0] [] [0] 0 7 (zc_X9_cellX l g B md M 1 (by first | assumption | omega | decide)) wM_X9_59 wS_X9_cellX wV_X9_cellX wK_X9_cellX wZ_X9 1 1 1 rfl (by decide +kernel) rfl (by decide) rfl rfl rfl (by decide) rfl rfl (rfl : zCl[7]? = some (RX9, TX9, 10)) hl.1 rfl rfl (by rw [hRf, hRl]; exact ⟨Nat.le_of_ble_eq_true rfl, Nat.le_of_ble_eq_true rfl⟩) (Nat.le_of_ble_eq_true rfl) ⟨Nat.zero_le _, Nat.zero_le _⟩ dX9_area_2 (fun H locs Z => ?_)
  refine lv_aload_n hx hb dX9_area_5 rfl (lv_at hl 0 rfl) ?_
  refine lv_iconst (v := (0 : Int32)) hx hb dX9_area_6 (by decide) ?_
  refine z_callV (mc := 0) (ms := 0) (As := [.int (0 : Int32)]) (rest := [.long (zf_X9_cellX M 1)]) (st2 := [.long (zf_X9_cellX M 0), .long (zf_X9_cellX M 1)]) (cs2 := [wMod g md M]) X Z [0] [] [0] 0 7 (zc_X9_cellX l g B md M 0 (by first | assumption | omega | decide)) wM_X9_59 wS_X9_cellX wV_X9_cellX wK_X9_cellX wZ_X9 1 1 1 rfl (by decide +kernel) rfl (by decide) rfl rfl rfl (by decide) rfl rfl (rfl : zCl[7]? = some (RX9, TX9, 10)) hl.1 rfl rfl (by rw [hRf, hRl]; exact ⟨Nat.le_of_ble_eq_true rfl, Nat.le_of_ble_eq_true rfl⟩) (Nat.le_of_ble_eq_true rfl) ⟨Nat.zero_le _, Nat.zero_le _⟩ dX9_area_7 (fun H locs Z => ?_)
  refine lv_lsub hx hb dX9_area_10 ?_
  refine lv_aload_n hx hb dX9_area_11 rfl (lv_at hl 0 rfl) ?_
  refine lv_iconst (v := (2 : Int32)) hx hb dX9_area_12 (by decide) ?_
  refine z_callV (mc := 0) (ms := 0) (As := [.int (2 : Int32)]) (rest := [.long ((zf_X9_cellX M 1) - (zf_X9_cellX M 0))]) (st2 := [.long (zf_X9_cellY M 2), .long ((zf_X9_cellX M 1) - (zf_X9_cellX M 0))]) (cs2 := [wMod g md M]) X Z [0] [] [0] 0 7 (zc_X9_cellY l g B md M 2 (by first | assumption | omega | decide)) wM_X9_63 wS_X9_cellY wV_X9_cellY wK_X9_cellY wZ_X9 1 1 1 rfl (by decide +kernel) rfl (by decide) rfl rfl rfl (by decide) rfl rfl (rfl : zCl[7]? = some (RX9, TX9, 10)) hl.1 rfl rfl (by rw [hRf, hRl]; exact ⟨Nat.le_of_ble_eq_true rfl, Nat.le_of_ble_eq_true rfl⟩) (Nat.le_of_ble_eq_true rfl) ⟨Nat.zero_le _, Nat.zero_le _⟩ dX9_area_13 (fun H locs Z => ?_)
  refine lv_aload_n hx hb dX9_area_16 rfl (lv_at hl 0 rfl) ?_
  refine lv_iconst (v := (0 : Int32)) hx hb dX9_area_17 (by decide) ?_
  refine z_callV (mc := 0) (ms := 0) (As := [.int (0 : Int32)]) (rest := [.long (zf_X9_cellY M 2), .long ((zf_X9_cellX M 1) - (zf_X9_cellX M 0))]) (st2 := [.long (zf_X9_cellY M 0), .long (zf_X9_cellY M 2), .long ((zf_X9_cellX M 1) - (zf_X9_cellX M 0))]) (cs2 := [wMod g md M]) X Z [0] [] [0] 0 7 (zc_X9_cellY l g B md M 0 (by first | assumption | omega | decide)) wM_X9_63 wS_X9_cellY wV_X9_cellY wK_X9_cellY wZ_X9 1 1 1 rfl (by decide +kernel) rfl (by decide) rfl rfl rfl (by decide) rfl rfl (rfl : zCl[7]? = some (RX9, TX9, 10)) hl.1 rfl rfl (by rw [hRf, hRl]; exact ⟨Nat.le_of_ble_eq_true rfl, Nat.le_of_ble_eq_true rfl⟩) (Nat.le_of_ble_eq_true rfl) ⟨Nat.zero_le _, Nat.zero_le _⟩ dX9_area_18 (fun H locs Z => ?_)
  refine lv_lsub hx hb dX9_area_21 ?_
  refine lv_lmul hx hb dX9_area_22 ?_
  refine lv_aload_n hx hb dX9_area_23 rfl (lv_at hl 0 rfl) ?_
  refine lv_iconst (v := (2 : Int32)) hx hb dX9_area_24 (by decide) ?_
  refine z_callV (mc := 0) (ms := 0) (As := [.int (2 : Int32)]) (rest := [.long (((zf_X9_cellX M 1) - (zf_X9_cellX M 0)) * ((zf_X9_cellY M 2) - (zf_X9_cellY M 0)))]) (st2 := [.long (zf_X9_cellX M 2), .long (((zf_X9_cellX M 1) - (zf_X9_cellX M 0)) * ((zf_X9_cellY M 2) - (zf_X9_cellY M 0)))]) (cs2 := [wMod g md M]) X Z [0] [] [0] 0 7 (zc_X9_cellX l g B md M 2 (by first | assumption | omega | decide)) wM_X9_59 wS_X9_cellX wV_X9_cellX wK_X9_cellX wZ_X9 1 1 1 rfl (by decide +kernel) rfl (by decide) rfl rfl rfl (by decide) rfl rfl (rfl : zCl[7]? = some (RX9, TX9, 10)) hl.1 rfl rfl (by rw [hRf, hRl]; exact ⟨Nat.le_of_ble_eq_true rfl, Nat.le_of_ble_eq_true rfl⟩) (Nat.le_of_ble_eq_true rfl) ⟨Nat.zero_le _, Nat.zero_le _⟩ dX9_area_25 (fun H locs Z => ?_)
  refine lv_aload_n hx hb dX9_area_28 rfl (lv_at hl 0 rfl) ?_
  refine lv_iconst (v := (0 : Int32)) hx hb dX9_area_29 (by decide) ?_
  refine z_callV (mc := 0) (ms := 0) (As := [.int (0 : Int32)]) (rest := [.long (zf_X9_cellX M 2), .long (((zf_X9_cellX M 1) - (zf_X9_cellX M 0)) * ((zf_X9_cellY M 2) - (zf_X9_cellY M 0)))]) (st2 := [.long (zf_X9_cellX M 0), .long (zf_X9_cellX M 2), .long (((zf_X9_cellX M 1) - (zf_X9_cellX M 0)) * ((zf_X9_cellY M 2) - (zf_X9_cellY M 0)))]) (cs2 := [wMod g md M]) X Z [0] [] [0] 0 7 (zc_X9_cellX l g B md M 0 (by first | assumption | omega | decide)) wM_X9_59 wS_X9_cellX wV_X9_cellX wK_X9_cellX wZ_X9 1 1 1 rfl (by decide +kernel) rfl (by decide) rfl rfl rfl (by decide) rfl rfl (rfl : zCl[7]? = some (RX9, TX9, 10)) hl.1 rfl rfl (by rw [hRf, hRl]; exact ⟨Nat.le_of_ble_eq_true rfl, Nat.le_of_ble_eq_true rfl⟩) (Nat.le_of_ble_eq_true rfl) ⟨Nat.zero_le _, Nat.zero_le _⟩ dX9_area_30 (fun H locs Z => ?_)
  refine lv_lsub hx hb dX9_area_33 ?_
  refine lv_aload_n hx hb dX9_area_34 rfl (lv_at hl 0 rfl) ?_
  refine lv_iconst (v := (1 : Int32)) hx hb dX9_area_35 (by decide) ?_
  refine z_callV (mc := 0) (ms := 0) (As := [.int (1 : Int32)]) (rest := [.long ((zf_X9_cellX M 2) - (zf_X9_cellX M 0)), .long (((zf_X9_cellX M 1) - (zf_X9_cellX M 0)) * ((zf_X9_cellY M 2) - (zf_X9_cellY M 0)))]) (st2 := [.long (zf_X9_cellY M 1), .long ((zf_X9_cellX M 2) - (zf_X9_cellX M 0)), .long (((zf_X9_cellX M 1) - (zf_X9_cellX M 0)) * ((zf_X9_cellY M 2) - (zf_X9_cellY M 0)))]) (cs2 := [wMod g md M]) X Z [0] [] [0] 0 7 (zc_X9_cellY l g B md M 1 (by first | assumption | omega | decide)) wM_X9_63 wS_X9_cellY wV_X9_cellY wK_X9_cellY wZ_X9 1 1 1 rfl (by decide +kernel) rfl (by decide) rfl rfl rfl (by decide) rfl rfl (rfl : zCl[7]? = some (RX9, TX9, 10)) hl.1 rfl rfl (by rw [hRf, hRl]; exact ⟨Nat.le_of_ble_eq_true rfl, Nat.le_of_ble_eq_true rfl⟩) (Nat.le_of_ble_eq_true rfl) ⟨Nat.zero_le _, Nat.zero_le _⟩ dX9_area_36 (fun H locs Z => ?_)
  refine lv_aload_n hx hb dX9_area_39 rfl (lv_at hl 0 rfl) ?_
  refine lv_iconst (v := (0 : Int32)) hx hb dX9_area_40 (by decide) ?_
  refine z_callV (mc := 0) (ms := 0) (As := [.int (0 : Int32)]) (rest := [.long (zf_X9_cellY M 1), .long ((zf_X9_cellX M 2) - (zf_X9_cellX M 0)), .long (((zf_X9_cellX M 1) - (zf_X9_cellX M 0)) * ((zf_X9_cellY M 2) - (zf_X9_cellY M 0)))]) (st2 := [.long (zf_X9_cellY M 0), .long (zf_X9_cellY M 1), .long ((zf_X9_cellX M 2) - (zf_X9_cellX M 0)), .long (((zf_X9_cellX M 1) - (zf_X9_cellX M 0)) * ((zf_X9_cellY M 2) - (zf_X9_cellY M 0)))]) (cs2 := [wMod g md M]) X Z [0] [] [0] 0 7 (zc_X9_cellY l g B md M 0 (by first | assumption | omega | decide)) wM_X9_63 wS_X9_cellY wV_X9_cellY wK_X9_cellY wZ_X9 1 1 1 rfl (by decide +kernel) rfl (by decide) rfl rfl rfl (by decide) rfl rfl (rfl : zCl[7]? = some (RX9, TX9, 10)) hl.1 rfl rfl (by rw [hRf, hRl]; exact ⟨Nat.le_of_ble_eq_true rfl, Nat.le_of_ble_eq_true rfl⟩) (Nat.le_of_ble_eq_true rfl) ⟨Nat.zero_le _, Nat.zero_le _⟩ dX9_area_41 (fun H locs Z => ?_)
  refine lv_lsub hx hb dX9_area_44 ?_
  refine lv_lmul hx hb dX9_area_45 ?_
  refine lv_lsub hx hb dX9_area_46 ?_
  exact z_rl (v := ((((zf_X9_cellX M 1) - (zf_X9_cellX M 0)) * ((zf_X9_cellY M 2) - (zf_X9_cellY M 0))) - (((zf_X9_cellX M 2) - (zf_X9_cellX M 0)) * ((zf_X9_cellY M 1) - (zf_X9_cellY M 0))))) E Z (by rw [zf_X9_area_e]; exact ⟨rfl, rfl⟩) dX9_area_47 (Nat.zero_le _) (Nat.zero_le _)
def zf_X9_share (M : zMo) (k : Nat) (w : Int64) (x : Int64) (y : Int64) : Int64 := ((((((zf_X9_cellX M (k + 1)) * (zf_X9_cellY M (k + 2))) - ((zf_X9_cellX M (k + 2)) * (zf_X9_cellY M (k + 1)))) * w) + (((zf_X9_cellY M (k + 1)) - (zf_X9_cellY M (k + 2))) * x)) + (((zf_X9_cellX M (k + 2)) - (zf_X9_cellX M (k + 1))) * y))
theorem zf_X9_share_e (M : zMo) (k : Nat) (w : Int64) (x : Int64) (y : Int64) : zf_X9_share M k w x y = ((((((zf_X9_cellX M (k + 1)) * (zf_X9_cellY M (k + 2))) - ((zf_X9_cellX M (k + 2)) * (zf_X9_cellY M (k + 1)))) * w) + (((zf_X9_cellY M (k + 1)) - (zf_X9_cellY M (k + 2))) * x)) + (((zf_X9_cellX M (k + 2)) - (zf_X9_cellX M (k + 1))) * y)) := rfl
set_option maxHeartbeats 4000000 in
set_option maxRecDepth 100000 in
theorem zc_X9_share (l : Launch) (g : zG) (B : Nat) (md : Nat → Nat) (M : zMo) (k : Nat) (w : Int64) (x : Int64) (y : Int64) (hk : k < 3) : zMet l g B yX9_share cX9_share 16 (some .long) 2 60 0 0 [.ref (md 0), .int (nI k), .long w, .long x, .long y] [wMod g md M] (zDet (some (.long (zf_X9_share M k w x y))) [wMod g md M]) := by
  refine z_in (plainFor_of_name (by decide)) (Nat.le_of_ble_eq_true rfl) (fun p e R s m args below meth c A Q hRf hRl hRc hRs X Z hnm E ls hl => ?_)
  have hx := X.1
  have hb := X.2.1
  have hown := X.2.2.2.1
  have hts := X.2.2.2.2.1
  have hl : lv_has ls 16 [(0, .ref (md 0)), (1, .int (nI k)), (2, .long w), (4, .long x), (6, .long y)] := hl
  refine lv_aload_n hx hb dX9_share_0 rfl (lv_at hl 0 rfl) ?_
  refine lv_iload_n hx hb dX9_share_1 rfl (lv_at hl 1 rfl) ?_
  refine lv_iconst (v := (1 : Int32)) hx hb dX9_share_2 (by decide) ?_
  refine z_iadd (a := k) (b := 1) X rfl rfl dX9_share_3 ?_
  refine z_callV (mc := 0) (ms := 0) (As := [.int (nI (k + 1))]) (rest := []) (st2 := [.long (zf_X9_cellX M (k + 1))]) (cs2 := [wMod g md M]) X Z [0] [] [0] 0 7 (zc_X9_cellX l g B md M (k + 1) (by first | assumption | omega | decide)) wM_X9_59 wS_X9_cellX wV_X9_cellX wK_X9_cellX wZ_X9 1 1 1 rfl (by decide +kernel) rfl (by decide) rfl rfl rfl (by decide) rfl rfl (rfl : zCl[7]? = some (RX9, TX9, 10)) hl.1 rfl rfl (by rw [hRf, hRl]; exact ⟨Nat.le_of_ble_eq_true rfl, Nat.le_of_ble_eq_true rfl⟩) (Nat.le_of_ble_eq_true rfl) ⟨Nat.zero_le _, Nat.zero_le _⟩ dX9_share_4 (fun H locs Z => ?_)
  refine lv_lstore (lv' := [(8, .long (zf_X9_cellX M (k + 1))), (0, .ref (md 0)), (1, .int (nI k)), (2, .long w), (4, .long x), (6, .long y)]) hx hb dX9_share_7 hl (by decide) rfl (fun ls hl => ?_)
  refine lv_aload_n hx hb dX9_share_9 rfl (lv_at hl 1 rfl) ?_
  refine lv_iload_n hx hb dX9_share_10 rfl (lv_at hl 2 rfl) ?_
  refine lv_iconst (v := (1 : Int32)) hx hb dX9_share_11 (by decide) ?_
  refine z_iadd (a := k) (b := 1) X rfl rfl dX9_share_12 ?_
  refine z_callV (mc := 0) (ms := 0) (As := [.int (nI (k + 1))]) (rest := []) (st2 := [.long (zf_X9_cellY M (k + 1))]) (cs2 := [wMod g md M]) X Z [0] [] [0] 0 7 (zc_X9_cellY l g B md M (k + 1) (by first | assumption | omega | decide)) wM_X9_63 wS_X9_cellY wV_X9_cellY wK_X9_cellY wZ_X9 1 1 1 rfl (by decide +kernel) rfl (by decide) rfl rfl rfl (by decide) rfl rfl (rfl : zCl[7]? = some (RX9, TX9, 10)) hl.1 rfl rfl (by rw [hRf, hRl]; exact ⟨Nat.le_of_ble_eq_true rfl, Nat.le_of_ble_eq_true rfl⟩) (Nat.le_of_ble_eq_true rfl) ⟨Nat.zero_le _, Nat.zero_le _⟩ dX9_share_13 (fun H locs Z => ?_)
  refine lv_lstore (lv' := [(10, .long (zf_X9_cellY M (k + 1))), (8, .long (zf_X9_cellX M (k + 1))), (0, .ref (md 0)), (1, .int (nI k)), (2, .long w), (4, .long x), (6, .long y)]) hx hb dX9_share_16 hl (by decide) rfl (fun ls hl => ?_)
  refine lv_aload_n hx hb dX9_share_18 rfl (lv_at hl 2 rfl) ?_
  refine lv_iload_n hx hb dX9_share_19 rfl (lv_at hl 3 rfl) ?_
  refine lv_iconst (v := (2 : Int32)) hx hb dX9_share_20 (by decide) ?_
  refine z_iadd (a := k) (b := 2) X rfl rfl dX9_share_21 ?_
  refine z_callV (mc := 0) (ms := 0) (As := [.int (nI (k + 2))]) (rest := []) (st2 := [.long (zf_X9_cellX M (k + 2))]) (cs2 := [wMod g md M]) X Z [0] [] [0] 0 7 (zc_X9_cellX l g B md M (k + 2) (by first | assumption | omega | decide)) wM_X9_59 wS_X9_cellX wV_X9_cellX wK_X9_cellX wZ_X9 1 1 1 rfl (by decide +kernel) rfl (by decide) rfl rfl rfl (by decide) rfl rfl (rfl : zCl[7]? = some (RX9, TX9, 10)) hl.1 rfl rfl (by rw [hRf, hRl]; exact ⟨Nat.le_of_ble_eq_true rfl, Nat.le_of_ble_eq_true rfl⟩) (Nat.le_of_ble_eq_true rfl) ⟨Nat.zero_le _, Nat.zero_le _⟩ dX9_share_22 (fun H locs Z => ?_)
  refine lv_lstore (lv' := [(12, .long (zf_X9_cellX M (k + 2))), (10, .long (zf_X9_cellY M (k + 1))), (8, .long (zf_X9_cellX M (k + 1))), (0, .ref (md 0)), (1, .int (nI k)), (2, .long w), (4, .long x), (6, .long y)]) hx hb dX9_share_25 hl (by decide) rfl (fun ls hl => ?_)
  refine lv_aload_n hx hb dX9_share_27 rfl (lv_at hl 3 rfl) ?_
  refine lv_iload_n hx hb dX9_share_28 rfl (lv_at hl 4 rfl) ?_
  refine lv_iconst (v := (2 : Int32)) hx hb dX9_share_29 (by decide) ?_
  refine z_iadd (a := k) (b := 2) X rfl rfl dX9_share_30 ?_
  refine z_callV (mc := 0) (ms := 0) (As := [.int (nI (k + 2))]) (rest := []) (st2 := [.long (zf_X9_cellY M (k + 2))]) (cs2 := [wMod g md M]) X Z [0] [] [0] 0 7 (zc_X9_cellY l g B md M (k + 2) (by first | assumption | omega | decide)) wM_X9_63 wS_X9_cellY wV_X9_cellY wK_X9_cellY wZ_X9 1 1 1 rfl (by decide +kernel) rfl (by decide) rfl rfl rfl (by decide) rfl rfl (rfl : zCl[7]? = some (RX9, TX9, 10)) hl.1 rfl rfl (by rw [hRf, hRl]; exact ⟨Nat.le_of_ble_eq_true rfl, Nat.le_of_ble_eq_true rfl⟩) (Nat.le_of_ble_eq_true rfl) ⟨Nat.zero_le _, Nat.zero_le _⟩ dX9_share_31 (fun H locs Z => ?_)
  refine lv_lstore (lv' := [(14, .long (zf_X9_cellY M (k + 2))), (12, .long (zf_X9_cellX M (k + 2))), (10, .long (zf_X9_cellY M (k + 1))), (8, .long (zf_X9_cellX M (k + 1))), (0, .ref (md 0)), (1, .int (nI k)), (2, .long w), (4, .long x), (6, .long y)]) hx hb dX9_share_34 hl (by decide) rfl (fun ls hl => ?_)
  refine lv_lload hx hb dX9_share_36 (lv_at hl 3 rfl) ?_
  refine lv_lload hx hb dX9_share_38 (lv_at hl 0 rfl) ?_
  refine lv_lmul hx hb dX9_share_40 ?_
  refine lv_lload hx hb dX9_share_41 (lv_at hl 1 rfl) ?_
  refine lv_lload hx hb dX9_share_43 (lv_at hl 2 rfl) ?_
  refine lv_lmul hx hb dX9_share_45 ?_
  refine lv_lsub hx hb dX9_share_46 ?_
  refine lv_lload_n hx hb dX9_share_47 rfl (lv_at hl 6 rfl) ?_
  refine lv_lmul hx hb dX9_share_48 ?_
  refine lv_lload hx hb dX9_share_49 (lv_at hl 2 rfl) ?_
  refine lv_lload hx hb dX9_share_51 (lv_at hl 0 rfl) ?_
  refine lv_lsub hx hb dX9_share_53 ?_
  refine lv_lload hx hb dX9_share_54 (lv_at hl 7 rfl) ?_
  refine lv_lmul hx hb dX9_share_56 ?_
  refine lv_ladd hx hb dX9_share_57 ?_
  refine lv_lload hx hb dX9_share_58 (lv_at hl 1 rfl) ?_
  refine lv_lload hx hb dX9_share_60 (lv_at hl 3 rfl) ?_
  refine lv_lsub hx hb dX9_share_62 ?_
  refine lv_lload hx hb dX9_share_63 (lv_at hl 8 rfl) ?_
  refine lv_lmul hx hb dX9_share_65 ?_
  refine lv_ladd hx hb dX9_share_66 ?_
  exact z_rl (v := ((((((zf_X9_cellX M (k + 1)) * (zf_X9_cellY M (k + 2))) - ((zf_X9_cellX M (k + 2)) * (zf_X9_cellY M (k + 1)))) * w) + (((zf_X9_cellY M (k + 1)) - (zf_X9_cellY M (k + 2))) * x)) + (((zf_X9_cellX M (k + 2)) - (zf_X9_cellX M (k + 1))) * y))) E Z (by rw [zf_X9_share_e]; exact ⟨rfl, rfl⟩) dX9_share_67 (Nat.zero_le _) (Nat.zero_le _)
def zl_X9_loadOf_12 (M : zMo) : Nat → Nat → Int64 → Int64 → Int64 → Int64 × Int64 × Int64
  | 0, _, x2, x4, x6 => (x2, x4, x6)
  | n12 + 1, j12, x2, x4, x6 => zl_X9_loadOf_12 M n12 (j12 + 1) (x2 + ((mNow M) ((10 + 3 * j12) + 2))) (x4 + (((mNow M) ((10 + 3 * j12) + 2)) * ((mNow M) (10 + 3 * j12)))) (x6 + (((mNow M) ((10 + 3 * j12) + 2)) * ((mNow M) ((10 + 3 * j12) + 1))))
theorem zl_X9_loadOf_12_s (M : zMo) (n12 : Nat) (j12 : Nat) (x2 : Int64) (x4 : Int64) (x6 : Int64) : zl_X9_loadOf_12 M (n12 + 1) j12 x2 x4 x6 = zl_X9_loadOf_12 M n12 (j12 + 1) (x2 + ((mNow M) ((10 + 3 * j12) + 2))) (x4 + (((mNow M) ((10 + 3 * j12) + 2)) * ((mNow M) (10 + 3 * j12)))) (x6 + (((mNow M) ((10 + 3 * j12) + 2)) * ((mNow M) ((10 + 3 * j12) + 1)))) := rfl
def zf_X9_loadOf (M : zMo) (k : Nat) : Int64 := (if (0 : Int64) ≤ (zf_X9_area M) then (zf_X9_share M k ((zl_X9_loadOf_12 M (zc (mNow M 9)) 0 (0 : Int64) (0 : Int64) (0 : Int64)).1) ((zl_X9_loadOf_12 M (zc (mNow M 9)) 0 (0 : Int64) (0 : Int64) (0 : Int64)).2.1) ((zl_X9_loadOf_12 M (zc (mNow M 9)) 0 (0 : Int64) (0 : Int64) (0 : Int64)).2.2)) else (-(zf_X9_share M k ((zl_X9_loadOf_12 M (zc (mNow M 9)) 0 (0 : Int64) (0 : Int64) (0 : Int64)).1) ((zl_X9_loadOf_12 M (zc (mNow M 9)) 0 (0 : Int64) (0 : Int64) (0 : Int64)).2.1) ((zl_X9_loadOf_12 M (zc (mNow M 9)) 0 (0 : Int64) (0 : Int64) (0 : Int64)).2.2))))
theorem zf_X9_loadOf_e (M : zMo) (k : Nat) : zf_X9_loadOf M k = (if (0 : Int64) ≤ (zf_X9_area M) then (zf_X9_share M k ((zl_X9_loadOf_12 M (zc (mNow M 9)) 0 (0 : Int64) (0 : Int64) (0 : Int64)).1) ((zl_X9_loadOf_12 M (zc (mNow M 9)) 0 (0 : Int64) (0 : Int64) (0 : Int64)).2.1) ((zl_X9_loadOf_12 M (zc (mNow M 9)) 0 (0 : Int64) (0 : Int64) (0 : Int64)).2.2)) else (-(zf_X9_share M k ((zl_X9_loadOf_12 M (zc (mNow M 9)) 0 (0 : Int64) (0 : Int64) (0 : Int64)).1) ((zl_X9_loadOf_12 M (zc (mNow M 9)) 0 (0 : Int64) (0 : Int64) (0 : Int64)).2.1) ((zl_X9_loadOf_12 M (zc (mNow M 9)) 0 (0 : Int64) (0 : Int64) (0 : Int64)).2.2)))) := rfl
set_option maxHeartbeats 4000000 in
set_option maxRecDepth 100000 in
theorem zc_X9_loadOf (l : Launch) (g : zG) (B : Nat) (md : Nat → Nat) (M : zMo) (k : Nat) (hN : zNow (mNow M)) (hk : k < 3) : zMet l g B yX9_loadOf cX9_loadOf 10 (some .long) 3 120 0 0 [.ref (md 0), .int (nI k)] [wMod g md M] (zDet (some (.long (zf_X9_loadOf M k))) [wMod g md M]) := by
  refine z_in (plainFor_of_name (by decide)) (Nat.le_of_ble_eq_true rfl) (fun p e R s m args below meth c A Q hRf hRl hRc hRs X Z hnm E ls hl => ?_)
  have hx := X.1
  have hb := X.2.1
  have hown := X.2.2.2.1
  have hts := X.2.2.2.2.1
  have hl : lv_has ls 10 [(0, .ref (md 0)), (1, .int (nI k))] := hl
  have hN2 := hN; obtain ⟨he9, hb9, he34, hb34, he43, hb43, he284, hb284, he301, hb301⟩ := hN2
  refine lv_lconst (v := (0 : Int64)) hx hb dX9_loadOf_0 (by decide) ?_
  refine lv_lstore_n (lv' := [(2, .long (0 : Int64)), (0, .ref (md 0)), (1, .int (nI k))]) hx hb dX9_loadOf_1 rfl hl (by decide) rfl (fun ls hl => ?_)
  refine lv_lconst (v := (0 : Int64)) hx hb dX9_loadOf_2 (by decide) ?_
  refine lv_lstore (lv' := [(4, .long (0 : Int64)), (2, .long (0 : Int64)), (0, .ref (md 0)), (1, .int (nI k))]) hx hb dX9_loadOf_3 hl (by decide) rfl (fun ls hl => ?_)
  refine lv_lconst (v := (0 : Int64)) hx hb dX9_loadOf_5 (by decide) ?_
  refine lv_lstore (lv' := [(6, .long (0 : Int64)), (4, .long (0 : Int64)), (2, .long (0 : Int64)), (0, .ref (md 0)), (1, .int (nI k))]) hx hb dX9_loadOf_6 hl (by decide) rfl (fun ls hl => ?_)
  refine lv_bipush (v := (10 : Int32)) hx hb dX9_loadOf_8 (by decide) ?_
  refine lv_istore (lv' := [(8, .int (10 : Int32)), (6, .long (0 : Int64)), (4, .long (0 : Int64)), (2, .long (0 : Int64)), (0, .ref (md 0)), (1, .int (nI k))]) hx hb dX9_loadOf_10 hl (by decide) rfl (fun ls hl => ?_)
  have loop_12 : ∀ (n12 j12 : Nat) (x2 : Int64) (x4 : Int64) (x6 : Int64), j12 + n12 = (zc (mNow M 9)) → zl_X9_loadOf_12 M n12 j12 x2 x4 x6 = (zl_X9_loadOf_12 M (zc (mNow M 9)) 0 (0 : Int64) (0 : Int64) (0 : Int64)) → ∀ (H : Heap) (locs : List Loc), zM g B A s [wMod g md M] H locs → ∀ ls : Array Slot, lv_has ls 10 [(8, .int (nI (10 + 3 * j12))), (6, .long x6), (4, .long x4), (2, .long x2), (0, .ref (md 0)), (1, .int (nI k))] → W p l e R s m args below meth c H locs 0 0 Q (F0 m 12 ls []) := by
    intro n12
    induction n12 with
    | zero =>
      intro j12 x2 x4 x6 hin12 hR12 H locs Z ls hl
      have e_x2 : x2 = (zl_X9_loadOf_12 M (zc (mNow M 9)) 0 (0 : Int64) (0 : Int64) (0 : Int64)).1 := (congrArg (fun z => z.1) hR12)
      have e_x4 : x4 = (zl_X9_loadOf_12 M (zc (mNow M 9)) 0 (0 : Int64) (0 : Int64) (0 : Int64)).2.1 := (congrArg (fun z => z.2.1) hR12)
      have e_x6 : x6 = (zl_X9_loadOf_12 M (zc (mNow M 9)) 0 (0 : Int64) (0 : Int64) (0 : Int64)).2.2 := (congrArg (fun z => z.2.2) hR12)
      subst e_x2
      subst e_x4
      subst e_x6
      refine lv_iload hx hb dX9_loadOf_12 (lv_at hl 0 rfl) ?_
      refine lv_bipush (v := (10 : Int32)) hx hb dX9_loadOf_14 (by decide) ?_
      refine lv_iconst (v := (3 : Int32)) hx hb dX9_loadOf_16 (by decide) ?_
      refine lv_aload_n hx hb dX9_loadOf_17 rfl (lv_at hl 4 rfl) ?_
      refine lv_bipush (v := (9 : Int32)) hx hb dX9_loadOf_18 (by decide) ?_
      refine z_callV (mc := 0) (ms := 0) (As := [.int (9 : Int32)]) (rest := [.int (3 : Int32), .int (10 : Int32), .int (nI (10 + 3 * j12))]) (st2 := [.int (nI (zc ((mNow M) 9))), .int (3 : Int32), .int (10 : Int32), .int (nI (10 + 3 * j12))]) (cs2 := [wMod g md M]) X Z [0] [] [0] 0 7 (zc_X9_many l g B md M 9 (zc ((mNow M) 9)) (by first | assumption | omega | decide) (by first | assumption | omega | decide)) wM_X9_66 wS_X9_many wV_X9_many wK_X9_many wZ_X9 1 1 1 rfl (by decide +kernel) rfl (by decide) rfl rfl rfl (by decide) rfl rfl (rfl : zCl[7]? = some (RX9, TX9, 10)) hl.1 rfl rfl (by rw [hRf, hRl]; exact ⟨Nat.le_of_ble_eq_true rfl, Nat.le_of_ble_eq_true rfl⟩) (Nat.le_of_ble_eq_true rfl) ⟨Nat.zero_le _, Nat.zero_le _⟩ dX9_loadOf_20 (fun H locs Z => ?_)
      refine z_imul (a := 3) (b := (zc ((mNow M) 9))) X rfl rfl dX9_loadOf_23 ?_
      refine z_iadd (a := 10) (b := (3 * (zc ((mNow M) 9)))) X rfl rfl dX9_loadOf_24 ?_
      refine z_icmp_ge (a := (10 + 3 * j12)) (b := (10 + (3 * (zc ((mNow M) 9))))) (tgt := 92) X rfl rfl (by omega) (by omega) dX9_loadOf_25 (by decide) (fun c_1 => ?_) (fun c_1 => ?_)
      · refine lv_aload_n hx hb dX9_loadOf_92 rfl (lv_at hl 4 rfl) ?_
        refine lv_iload_n hx hb dX9_loadOf_93 rfl (lv_at hl 5 rfl) ?_
        refine lv_lload_n hx hb dX9_loadOf_94 rfl (lv_at hl 3 rfl) ?_
        refine lv_lload hx hb dX9_loadOf_95 (lv_at hl 2 rfl) ?_
        refine lv_lload hx hb dX9_loadOf_97 (lv_at hl 1 rfl) ?_
        refine z_callV (mc := 0) (ms := 0) (As := [.int (nI k), .long ((zl_X9_loadOf_12 M (zc (mNow M 9)) 0 (0 : Int64) (0 : Int64) (0 : Int64)).1), .long ((zl_X9_loadOf_12 M (zc (mNow M 9)) 0 (0 : Int64) (0 : Int64) (0 : Int64)).2.1), .long ((zl_X9_loadOf_12 M (zc (mNow M 9)) 0 (0 : Int64) (0 : Int64) (0 : Int64)).2.2)]) (rest := []) (st2 := [.long (zf_X9_share M k ((zl_X9_loadOf_12 M (zc (mNow M 9)) 0 (0 : Int64) (0 : Int64) (0 : Int64)).1) ((zl_X9_loadOf_12 M (zc (mNow M 9)) 0 (0 : Int64) (0 : Int64) (0 : Int64)).2.1) ((zl_X9_loadOf_12 M (zc (mNow M 9)) 0 (0 : Int64) (0 : Int64) (0 : Int64)).2.2))]) (cs2 := [wMod g md M]) X Z [0] [] [0] 0 7 (zc_X9_share l g B md M k ((zl_X9_loadOf_12 M (zc (mNow M 9)) 0 (0 : Int64) (0 : Int64) (0 : Int64)).1) ((zl_X9_loadOf_12 M (zc (mNow M 9)) 0 (0 : Int64) (0 : Int64) (0 : Int64)).2.1) ((zl_X9_loadOf_12 M (zc (mNow M 9)) 0 (0 : Int64) (0 : Int64) (0 : Int64)).2.2) (by first | assumption | omega | decide)) wM_X9_70 wS_X9_share wV_X9_share wK_X9_share wZ_X9 4 1 1 rfl (by decide +kernel) rfl (by decide) rfl rfl rfl (by decide) rfl rfl (rfl : zCl[7]? = some (RX9, TX9, 10)) hl.1 rfl rfl (by rw [hRf, hRl]; exact ⟨Nat.le_of_ble_eq_true rfl, Nat.le_of_ble_eq_true rfl⟩) (Nat.le_of_ble_eq_true rfl) ⟨Nat.zero_le _, Nat.zero_le _⟩ dX9_loadOf_99 (fun H locs Z => ?_)
        refine lv_lstore (lv' := [(8, .long (zf_X9_share M k ((zl_X9_loadOf_12 M (zc (mNow M 9)) 0 (0 : Int64) (0 : Int64) (0 : Int64)).1) ((zl_X9_loadOf_12 M (zc (mNow M 9)) 0 (0 : Int64) (0 : Int64) (0 : Int64)).2.1) ((zl_X9_loadOf_12 M (zc (mNow M 9)) 0 (0 : Int64) (0 : Int64) (0 : Int64)).2.2))), (6, .long ((zl_X9_loadOf_12 M (zc (mNow M 9)) 0 (0 : Int64) (0 : Int64) (0 : Int64)).2.2)), (4, .long ((zl_X9_loadOf_12 M (zc (mNow M 9)) 0 (0 : Int64) (0 : Int64) (0 : Int64)).2.1)), (2, .long ((zl_X9_loadOf_12 M (zc (mNow M 9)) 0 (0 : Int64) (0 : Int64) (0 : Int64)).1)), (0, .ref (md 0)), (1, .int (nI k))]) hx hb dX9_loadOf_102 hl (by decide) rfl (fun ls hl => ?_)
        refine lv_aload_n hx hb dX9_loadOf_104 rfl (lv_at hl 4 rfl) ?_
        refine z_callV (mc := 0) (ms := 0) (As := []) (rest := []) (st2 := [.long (zf_X9_area M)]) (cs2 := [wMod g md M]) X Z [0] [] [0] 0 7 (zc_X9_area l g B md M) wM_X9_74 wS_X9_area wV_X9_area wK_X9_area wZ_X9 0 1 1 rfl (by decide +kernel) rfl (by decide) rfl rfl rfl (by decide) rfl rfl (rfl : zCl[7]? = some (RX9, TX9, 10)) hl.1 rfl rfl (by rw [hRf, hRl]; exact ⟨Nat.le_of_ble_eq_true rfl, Nat.le_of_ble_eq_true rfl⟩) (Nat.le_of_ble_eq_true rfl) ⟨Nat.zero_le _, Nat.zero_le _⟩ dX9_loadOf_105 (fun H locs Z => ?_)
        refine lv_lconst (v := (0 : Int64)) hx hb dX9_loadOf_108 (by decide) ?_
        refine z_lc_ge (tgt := 119) X dX9_loadOf_109 dX9_loadOf_110 (by decide) (fun c_2 => ?_) (fun c_2 => ?_)
        · refine lv_lload hx hb dX9_loadOf_119 (lv_at hl 0 rfl) ?_
          exact z_rl (v := (zf_X9_share M k ((zl_X9_loadOf_12 M (zc (mNow M 9)) 0 (0 : Int64) (0 : Int64) (0 : Int64)).1) ((zl_X9_loadOf_12 M (zc (mNow M 9)) 0 (0 : Int64) (0 : Int64) (0 : Int64)).2.1) ((zl_X9_loadOf_12 M (zc (mNow M 9)) 0 (0 : Int64) (0 : Int64) (0 : Int64)).2.2))) E Z (by rw [zf_X9_loadOf_e, if_pos c_2]; exact ⟨rfl, rfl⟩) dX9_loadOf_121 (Nat.zero_le _) (Nat.zero_le _)
        · refine lv_lload hx hb dX9_loadOf_113 (lv_at hl 0 rfl) ?_
          refine lv_lneg hx hb dX9_loadOf_115 ?_
          refine lv_goto (tgt := 121) hx hb dX9_loadOf_116 (by decide) ?_
          exact z_rl (v := (-(zf_X9_share M k ((zl_X9_loadOf_12 M (zc (mNow M 9)) 0 (0 : Int64) (0 : Int64) (0 : Int64)).1) ((zl_X9_loadOf_12 M (zc (mNow M 9)) 0 (0 : Int64) (0 : Int64) (0 : Int64)).2.1) ((zl_X9_loadOf_12 M (zc (mNow M 9)) 0 (0 : Int64) (0 : Int64) (0 : Int64)).2.2)))) E Z (by rw [zf_X9_loadOf_e, if_neg c_2]; exact ⟨rfl, rfl⟩) dX9_loadOf_121 (Nat.zero_le _) (Nat.zero_le _)
      · (exfalso; omega)
    | succ n12 ih12 =>
      intro j12 x2 x4 x6 hin12 hR12 H locs Z ls hl
      refine lv_iload hx hb dX9_loadOf_12 (lv_at hl 0 rfl) ?_
      refine lv_bipush (v := (10 : Int32)) hx hb dX9_loadOf_14 (by decide) ?_
      refine lv_iconst (v := (3 : Int32)) hx hb dX9_loadOf_16 (by decide) ?_
      refine lv_aload_n hx hb dX9_loadOf_17 rfl (lv_at hl 4 rfl) ?_
      refine lv_bipush (v := (9 : Int32)) hx hb dX9_loadOf_18 (by decide) ?_
      refine z_callV (mc := 0) (ms := 0) (As := [.int (9 : Int32)]) (rest := [.int (3 : Int32), .int (10 : Int32), .int (nI (10 + 3 * j12))]) (st2 := [.int (nI (zc ((mNow M) 9))), .int (3 : Int32), .int (10 : Int32), .int (nI (10 + 3 * j12))]) (cs2 := [wMod g md M]) X Z [0] [] [0] 0 7 (zc_X9_many l g B md M 9 (zc ((mNow M) 9)) (by first | assumption | omega | decide) (by first | assumption | omega | decide)) wM_X9_66 wS_X9_many wV_X9_many wK_X9_many wZ_X9 1 1 1 rfl (by decide +kernel) rfl (by decide) rfl rfl rfl (by decide) rfl rfl (rfl : zCl[7]? = some (RX9, TX9, 10)) hl.1 rfl rfl (by rw [hRf, hRl]; exact ⟨Nat.le_of_ble_eq_true rfl, Nat.le_of_ble_eq_true rfl⟩) (Nat.le_of_ble_eq_true rfl) ⟨Nat.zero_le _, Nat.zero_le _⟩ dX9_loadOf_20 (fun H locs Z => ?_)
      refine z_imul (a := 3) (b := (zc ((mNow M) 9))) X rfl rfl dX9_loadOf_23 ?_
      refine z_iadd (a := 10) (b := (3 * (zc ((mNow M) 9)))) X rfl rfl dX9_loadOf_24 ?_
      refine z_icmp_ge (a := (10 + 3 * j12)) (b := (10 + (3 * (zc ((mNow M) 9))))) (tgt := 92) X rfl rfl (by omega) (by omega) dX9_loadOf_25 (by decide) (fun c_3 => ?_) (fun c_3 => ?_)
      · (exfalso; omega)
      · refine lv_lload_n hx hb dX9_loadOf_28 rfl (lv_at hl 3 rfl) ?_
        refine lv_aload_n hx hb dX9_loadOf_29 rfl (lv_at hl 4 rfl) ?_
        refine z_get X Z 0 rfl (rfl : zCl[7]? = some (RX9, TX9, 10)) zU_X9 0 (by decide) wF_X9_7 rfl rfl dX9_loadOf_30 ?_
        refine lv_iload hx hb dX9_loadOf_33 (lv_at hl 0 rfl) ?_
        refine lv_iconst (v := (2 : Int32)) hx hb dX9_loadOf_35 (by decide) ?_
        refine z_iadd (a := (10 + 3 * j12)) (b := 2) X rfl rfl dX9_loadOf_36 ?_
        refine z_lald (j := ((10 + 3 * j12) + 2)) X Z 1 rfl rfl (by omega) (by decide) dX9_loadOf_37 ?_
        refine lv_ladd hx hb dX9_loadOf_38 ?_
        refine lv_lstore_n (lv' := [(2, .long (x2 + ((mNow M) ((10 + 3 * j12) + 2)))), (8, .int (nI (10 + 3 * j12))), (6, .long x6), (4, .long x4), (0, .ref (md 0)), (1, .int (nI k))]) hx hb dX9_loadOf_39 rfl hl (by decide) rfl (fun ls hl => ?_)
        refine lv_lload hx hb dX9_loadOf_40 (lv_at hl 3 rfl) ?_
        refine lv_aload_n hx hb dX9_loadOf_42 rfl (lv_at hl 4 rfl) ?_
        refine z_get X Z 0 rfl (rfl : zCl[7]? = some (RX9, TX9, 10)) zU_X9 0 (by decide) wF_X9_7 rfl rfl dX9_loadOf_43 ?_
        refine lv_iload hx hb dX9_loadOf_46 (lv_at hl 1 rfl) ?_
        refine lv_iconst (v := (2 : Int32)) hx hb dX9_loadOf_48 (by decide) ?_
        refine z_iadd (a := (10 + 3 * j12)) (b := 2) X rfl rfl dX9_loadOf_49 ?_
        refine z_lald (j := ((10 + 3 * j12) + 2)) X Z 1 rfl rfl (by omega) (by decide) dX9_loadOf_50 ?_
        refine lv_aload_n hx hb dX9_loadOf_51 rfl (lv_at hl 4 rfl) ?_
        refine z_get X Z 0 rfl (rfl : zCl[7]? = some (RX9, TX9, 10)) zU_X9 0 (by decide) wF_X9_7 rfl rfl dX9_loadOf_52 ?_
        refine lv_iload hx hb dX9_loadOf_55 (lv_at hl 1 rfl) ?_
        refine z_lald (j := (10 + 3 * j12)) X Z 1 rfl rfl (by omega) (by decide) dX9_loadOf_57 ?_
        refine lv_lmul hx hb dX9_loadOf_58 ?_
        refine lv_ladd hx hb dX9_loadOf_59 ?_
        refine lv_lstore (lv' := [(4, .long (x4 + (((mNow M) ((10 + 3 * j12) + 2)) * ((mNow M) (10 + 3 * j12))))), (2, .long (x2 + ((mNow M) ((10 + 3 * j12) + 2)))), (8, .int (nI (10 + 3 * j12))), (6, .long x6), (0, .ref (md 0)), (1, .int (nI k))]) hx hb dX9_loadOf_60 hl (by decide) rfl (fun ls hl => ?_)
        refine lv_lload hx hb dX9_loadOf_62 (lv_at hl 3 rfl) ?_
        refine lv_aload_n hx hb dX9_loadOf_64 rfl (lv_at hl 4 rfl) ?_
        refine z_get X Z 0 rfl (rfl : zCl[7]? = some (RX9, TX9, 10)) zU_X9 0 (by decide) wF_X9_7 rfl rfl dX9_loadOf_65 ?_
        refine lv_iload hx hb dX9_loadOf_68 (lv_at hl 2 rfl) ?_
        refine lv_iconst (v := (2 : Int32)) hx hb dX9_loadOf_70 (by decide) ?_
        refine z_iadd (a := (10 + 3 * j12)) (b := 2) X rfl rfl dX9_loadOf_71 ?_
        refine z_lald (j := ((10 + 3 * j12) + 2)) X Z 1 rfl rfl (by omega) (by decide) dX9_loadOf_72 ?_
        refine lv_aload_n hx hb dX9_loadOf_73 rfl (lv_at hl 4 rfl) ?_
        refine z_get X Z 0 rfl (rfl : zCl[7]? = some (RX9, TX9, 10)) zU_X9 0 (by decide) wF_X9_7 rfl rfl dX9_loadOf_74 ?_
        refine lv_iload hx hb dX9_loadOf_77 (lv_at hl 2 rfl) ?_
        refine lv_iconst (v := (1 : Int32)) hx hb dX9_loadOf_79 (by decide) ?_
        refine z_iadd (a := (10 + 3 * j12)) (b := 1) X rfl rfl dX9_loadOf_80 ?_
        refine z_lald (j := ((10 + 3 * j12) + 1)) X Z 1 rfl rfl (by omega) (by decide) dX9_loadOf_81 ?_
        refine lv_lmul hx hb dX9_loadOf_82 ?_
        refine lv_ladd hx hb dX9_loadOf_83 ?_
        refine lv_lstore (lv' := [(6, .long (x6 + (((mNow M) ((10 + 3 * j12) + 2)) * ((mNow M) ((10 + 3 * j12) + 1))))), (4, .long (x4 + (((mNow M) ((10 + 3 * j12) + 2)) * ((mNow M) (10 + 3 * j12))))), (2, .long (x2 + ((mNow M) ((10 + 3 * j12) + 2)))), (8, .int (nI (10 + 3 * j12))), (0, .ref (md 0)), (1, .int (nI k))]) hx hb dX9_loadOf_84 hl (by decide) rfl (fun ls hl => ?_)
        refine z_iinc (b := (10 + 3 * (j12 + 1))) (st := 3) (lv' := [(8, .int (nI (10 + 3 * (j12 + 1)))), (6, .long (x6 + (((mNow M) ((10 + 3 * j12) + 2)) * ((mNow M) ((10 + 3 * j12) + 1))))), (4, .long (x4 + (((mNow M) ((10 + 3 * j12) + 2)) * ((mNow M) (10 + 3 * j12))))), (2, .long (x2 + ((mNow M) ((10 + 3 * j12) + 2)))), (0, .ref (md 0)), (1, .int (nI k))]) X dX9_loadOf_86 hl (k := 3) rfl rfl (by decide) (by omega) (by decide) rfl (fun ls hl => ?_)
        refine lv_goto (tgt := 12) hx hb dX9_loadOf_89 (by decide) ?_
        exact ih12 (j12 + 1) (x2 + ((mNow M) ((10 + 3 * j12) + 2))) (x4 + (((mNow M) ((10 + 3 * j12) + 2)) * ((mNow M) (10 + 3 * j12)))) (x6 + (((mNow M) ((10 + 3 * j12) + 2)) * ((mNow M) ((10 + 3 * j12) + 1)))) (by omega) (by have h9 := hR12; rw [zl_X9_loadOf_12_s] at h9; exact h9) _ _ Z ls (lv_sub hl [0, 1, 2, 3, 4, 5] rfl)
  exact loop_12 (zc (mNow M 9)) 0 (0 : Int64) (0 : Int64) (0 : Int64) (by omega) rfl _ _ Z ls (lv_sub hl [0, 1, 2, 3, 4, 5] rfl)
def zf_X9_size (M : zMo) : Int64 := (if (0 : Int64) ≤ (zf_X9_area M) then (zf_X9_area M) else (-(zf_X9_area M)))
theorem zf_X9_size_e (M : zMo) : zf_X9_size M = (if (0 : Int64) ≤ (zf_X9_area M) then (zf_X9_area M) else (-(zf_X9_area M))) := rfl
set_option maxHeartbeats 4000000 in
set_option maxRecDepth 100000 in
theorem zc_X9_size (l : Launch) (g : zG) (B : Nat) (md : Nat → Nat) (M : zMo) : zMet l g B yX9_size cX9_size 1 (some .long) 3 100 0 0 [.ref (md 0)] [wMod g md M] (zDet (some (.long (zf_X9_size M))) [wMod g md M]) := by
  refine z_in (plainFor_of_name (by decide)) (Nat.le_of_ble_eq_true rfl) (fun p e R s m args below meth c A Q hRf hRl hRc hRs X Z hnm E ls hl => ?_)
  have hx := X.1
  have hb := X.2.1
  have hown := X.2.2.2.1
  have hts := X.2.2.2.2.1
  have hl : lv_has ls 1 [(0, .ref (md 0))] := hl
  refine lv_aload_n hx hb dX9_size_0 rfl (lv_at hl 0 rfl) ?_
  refine z_callV (mc := 0) (ms := 0) (As := []) (rest := []) (st2 := [.long (zf_X9_area M)]) (cs2 := [wMod g md M]) X Z [0] [] [0] 0 7 (zc_X9_area l g B md M) wM_X9_74 wS_X9_area wV_X9_area wK_X9_area wZ_X9 0 1 1 rfl (by decide +kernel) rfl (by decide) rfl rfl rfl (by decide) rfl rfl (rfl : zCl[7]? = some (RX9, TX9, 10)) hl.1 rfl rfl (by rw [hRf, hRl]; exact ⟨Nat.le_of_ble_eq_true rfl, Nat.le_of_ble_eq_true rfl⟩) (Nat.le_of_ble_eq_true rfl) ⟨Nat.zero_le _, Nat.zero_le _⟩ dX9_size_1 (fun H locs Z => ?_)
  refine lv_lconst (v := (0 : Int64)) hx hb dX9_size_4 (by decide) ?_
  refine z_lc_ge (tgt := 17) X dX9_size_5 dX9_size_6 (by decide) (fun c_1 => ?_) (fun c_1 => ?_)
  · refine lv_aload_n hx hb dX9_size_17 rfl (lv_at hl 0 rfl) ?_
    refine z_callV (mc := 0) (ms := 0) (As := []) (rest := []) (st2 := [.long (zf_X9_area M)]) (cs2 := [wMod g md M]) X Z [0] [] [0] 0 7 (zc_X9_area l g B md M) wM_X9_74 wS_X9_area wV_X9_area wK_X9_area wZ_X9 0 1 1 rfl (by decide +kernel) rfl (by decide) rfl rfl rfl (by decide) rfl rfl (rfl : zCl[7]? = some (RX9, TX9, 10)) hl.1 rfl rfl (by rw [hRf, hRl]; exact ⟨Nat.le_of_ble_eq_true rfl, Nat.le_of_ble_eq_true rfl⟩) (Nat.le_of_ble_eq_true rfl) ⟨Nat.zero_le _, Nat.zero_le _⟩ dX9_size_18 (fun H locs Z => ?_)
    exact z_rl (v := (zf_X9_area M)) E Z (by rw [zf_X9_size_e, if_pos c_1]; exact ⟨rfl, rfl⟩) dX9_size_21 (Nat.zero_le _) (Nat.zero_le _)
  · refine lv_aload_n hx hb dX9_size_9 rfl (lv_at hl 0 rfl) ?_
    refine z_callV (mc := 0) (ms := 0) (As := []) (rest := []) (st2 := [.long (zf_X9_area M)]) (cs2 := [wMod g md M]) X Z [0] [] [0] 0 7 (zc_X9_area l g B md M) wM_X9_74 wS_X9_area wV_X9_area wK_X9_area wZ_X9 0 1 1 rfl (by decide +kernel) rfl (by decide) rfl rfl rfl (by decide) rfl rfl (rfl : zCl[7]? = some (RX9, TX9, 10)) hl.1 rfl rfl (by rw [hRf, hRl]; exact ⟨Nat.le_of_ble_eq_true rfl, Nat.le_of_ble_eq_true rfl⟩) (Nat.le_of_ble_eq_true rfl) ⟨Nat.zero_le _, Nat.zero_le _⟩ dX9_size_10 (fun H locs Z => ?_)
    refine lv_lneg hx hb dX9_size_13 ?_
    refine lv_goto (tgt := 21) hx hb dX9_size_14 (by decide) ?_
    exact z_rl (v := (-(zf_X9_area M))) E Z (by rw [zf_X9_size_e, if_neg c_1]; exact ⟨rfl, rfl⟩) dX9_size_21 (Nat.zero_le _) (Nat.zero_le _)
def zf_X9_capacity (M : zMo) (k : Nat) : Int64 := (((mNow M) ((0 + (3 * k)) + 2)) * (zf_X9_size M))
theorem zf_X9_capacity_e (M : zMo) (k : Nat) : zf_X9_capacity M k = (((mNow M) ((0 + (3 * k)) + 2)) * (zf_X9_size M)) := rfl
set_option maxHeartbeats 4000000 in
set_option maxRecDepth 100000 in
theorem zc_X9_capacity (l : Launch) (g : zG) (B : Nat) (md : Nat → Nat) (M : zMo) (k : Nat) (hk : k < 3) : zMet l g B yX9_capacity cX9_capacity 2 (some .long) 4 130 0 0 [.ref (md 0), .int (nI k)] [wMod g md M] (zDet (some (.long (zf_X9_capacity M k))) [wMod g md M]) := by
  refine z_in (plainFor_of_name (by decide)) (Nat.le_of_ble_eq_true rfl) (fun p e R s m args below meth c A Q hRf hRl hRc hRs X Z hnm E ls hl => ?_)
  have hx := X.1
  have hb := X.2.1
  have hown := X.2.2.2.1
  have hts := X.2.2.2.2.1
  have hl : lv_has ls 2 [(0, .ref (md 0)), (1, .int (nI k))] := hl
  refine lv_aload_n hx hb dX9_capacity_0 rfl (lv_at hl 0 rfl) ?_
  refine z_get X Z 0 rfl (rfl : zCl[7]? = some (RX9, TX9, 10)) zU_X9 0 (by decide) wF_X9_7 rfl rfl dX9_capacity_1 ?_
  refine lv_iconst (v := (0 : Int32)) hx hb dX9_capacity_4 (by decide) ?_
  refine lv_iconst (v := (3 : Int32)) hx hb dX9_capacity_5 (by decide) ?_
  refine lv_iload_n hx hb dX9_capacity_6 rfl (lv_at hl 1 rfl) ?_
  refine z_imul (a := 3) (b := k) X rfl rfl dX9_capacity_7 ?_
  refine z_iadd (a := 0) (b := (3 * k)) X rfl rfl dX9_capacity_8 ?_
  refine lv_iconst (v := (2 : Int32)) hx hb dX9_capacity_9 (by decide) ?_
  refine z_iadd (a := (0 + (3 * k))) (b := 2) X rfl rfl dX9_capacity_10 ?_
  refine z_lald (j := ((0 + (3 * k)) + 2)) X Z 1 rfl rfl (by omega) (by decide) dX9_capacity_11 ?_
  refine lv_aload_n hx hb dX9_capacity_12 rfl (lv_at hl 0 rfl) ?_
  refine z_callV (mc := 0) (ms := 0) (As := []) (rest := [.long ((mNow M) ((0 + (3 * k)) + 2))]) (st2 := [.long (zf_X9_size M), .long ((mNow M) ((0 + (3 * k)) + 2))]) (cs2 := [wMod g md M]) X Z [0] [] [0] 0 7 (zc_X9_size l g B md M) wM_X9_98 wS_X9_size wV_X9_size wK_X9_size wZ_X9 0 1 1 rfl (by decide +kernel) rfl (by decide) rfl rfl rfl (by decide) rfl rfl (rfl : zCl[7]? = some (RX9, TX9, 10)) hl.1 rfl rfl (by rw [hRf, hRl]; exact ⟨Nat.le_of_ble_eq_true rfl, Nat.le_of_ble_eq_true rfl⟩) (Nat.le_of_ble_eq_true rfl) ⟨Nat.zero_le _, Nat.zero_le _⟩ dX9_capacity_13 (fun H locs Z => ?_)
  refine lv_lmul hx hb dX9_capacity_16 ?_
  exact z_rl (v := (((mNow M) ((0 + (3 * k)) + 2)) * (zf_X9_size M))) E Z (by rw [zf_X9_capacity_e]; exact ⟨rfl, rfl⟩) dX9_capacity_17 (Nat.zero_le _) (Nat.zero_le _)
def zf_X9_isStill (M : zMo) : Bool := (if (zf_X9_loadOf M 0) < (0 : Int64) then false else (if (zf_X9_loadOf M 1) < (0 : Int64) then false else (if (zf_X9_loadOf M 2) < (0 : Int64) then false else true)))
theorem zf_X9_isStill_e (M : zMo) : zf_X9_isStill M = (if (zf_X9_loadOf M 0) < (0 : Int64) then false else (if (zf_X9_loadOf M 1) < (0 : Int64) then false else (if (zf_X9_loadOf M 2) < (0 : Int64) then false else true))) := rfl
set_option maxHeartbeats 4000000 in
set_option maxRecDepth 100000 in
theorem zc_X9_isStill (l : Launch) (g : zG) (B : Nat) (md : Nat → Nat) (M : zMo) (hN : zNow (mNow M)) : zMet l g B yX9_isStill cX9_isStill 1 (some .boolean) 4 160 0 0 [.ref (md 0)] [wMod g md M] (zDet (some (.int (zB (zf_X9_isStill M)))) [wMod g md M]) := by
  refine z_in (plainFor_of_name (by decide)) (Nat.le_of_ble_eq_true rfl) (fun p e R s m args below meth c A Q hRf hRl hRc hRs X Z hnm E ls hl => ?_)
  have hx := X.1
  have hb := X.2.1
  have hown := X.2.2.2.1
  have hts := X.2.2.2.2.1
  have hl : lv_has ls 1 [(0, .ref (md 0))] := hl
  have hN2 := hN; obtain ⟨he9, hb9, he34, hb34, he43, hb43, he284, hb284, he301, hb301⟩ := hN2
  refine lv_aload_n hx hb dX9_isStill_0 rfl (lv_at hl 0 rfl) ?_
  refine lv_iconst (v := (0 : Int32)) hx hb dX9_isStill_1 (by decide) ?_
  refine z_callV (mc := 0) (ms := 0) (As := [.int (0 : Int32)]) (rest := []) (st2 := [.long (zf_X9_loadOf M 0)]) (cs2 := [wMod g md M]) X Z [0] [] [0] 0 7 (zc_X9_loadOf l g B md M 0 (by first | assumption | omega | decide) (by first | assumption | omega | decide)) wM_X9_95 wS_X9_loadOf wV_X9_loadOf wK_X9_loadOf wZ_X9 1 1 1 rfl (by decide +kernel) rfl (by decide) rfl rfl rfl (by decide) rfl rfl (rfl : zCl[7]? = some (RX9, TX9, 10)) hl.1 rfl rfl (by rw [hRf, hRl]; exact ⟨Nat.le_of_ble_eq_true rfl, Nat.le_of_ble_eq_true rfl⟩) (Nat.le_of_ble_eq_true rfl) ⟨Nat.zero_le _, Nat.zero_le _⟩ dX9_isStill_2 (fun H locs Z => ?_)
  refine lv_lconst (v := (0 : Int64)) hx hb dX9_isStill_5 (by decide) ?_
  refine z_lc_lt (tgt := 34) X dX9_isStill_6 dX9_isStill_7 (by decide) (fun c_1 => ?_) (fun c_1 => ?_)
  · refine lv_iconst (v := (0 : Int32)) hx hb dX9_isStill_34 (by decide) ?_
    exact z_ri (v := zB false) E Z (zB_narrow _) (by rw [zf_X9_isStill_e, if_pos c_1]; exact ⟨rfl, rfl⟩) dX9_isStill_35 (Nat.zero_le _) (Nat.zero_le _)
  · refine lv_aload_n hx hb dX9_isStill_10 rfl (lv_at hl 0 rfl) ?_
    refine lv_iconst (v := (1 : Int32)) hx hb dX9_isStill_11 (by decide) ?_
    refine z_callV (mc := 0) (ms := 0) (As := [.int (1 : Int32)]) (rest := []) (st2 := [.long (zf_X9_loadOf M 1)]) (cs2 := [wMod g md M]) X Z [0] [] [0] 0 7 (zc_X9_loadOf l g B md M 1 (by first | assumption | omega | decide) (by first | assumption | omega | decide)) wM_X9_95 wS_X9_loadOf wV_X9_loadOf wK_X9_loadOf wZ_X9 1 1 1 rfl (by decide +kernel) rfl (by decide) rfl rfl rfl (by decide) rfl rfl (rfl : zCl[7]? = some (RX9, TX9, 10)) hl.1 rfl rfl (by rw [hRf, hRl]; exact ⟨Nat.le_of_ble_eq_true rfl, Nat.le_of_ble_eq_true rfl⟩) (Nat.le_of_ble_eq_true rfl) ⟨Nat.zero_le _, Nat.zero_le _⟩ dX9_isStill_12 (fun H locs Z => ?_)
    refine lv_lconst (v := (0 : Int64)) hx hb dX9_isStill_15 (by decide) ?_
    refine z_lc_lt (tgt := 34) X dX9_isStill_16 dX9_isStill_17 (by decide) (fun c_2 => ?_) (fun c_2 => ?_)
    · refine lv_iconst (v := (0 : Int32)) hx hb dX9_isStill_34 (by decide) ?_
      exact z_ri (v := zB false) E Z (zB_narrow _) (by rw [zf_X9_isStill_e, if_neg c_1, if_pos c_2]; exact ⟨rfl, rfl⟩) dX9_isStill_35 (Nat.zero_le _) (Nat.zero_le _)
    · refine lv_aload_n hx hb dX9_isStill_20 rfl (lv_at hl 0 rfl) ?_
      refine lv_iconst (v := (2 : Int32)) hx hb dX9_isStill_21 (by decide) ?_
      refine z_callV (mc := 0) (ms := 0) (As := [.int (2 : Int32)]) (rest := []) (st2 := [.long (zf_X9_loadOf M 2)]) (cs2 := [wMod g md M]) X Z [0] [] [0] 0 7 (zc_X9_loadOf l g B md M 2 (by first | assumption | omega | decide) (by first | assumption | omega | decide)) wM_X9_95 wS_X9_loadOf wV_X9_loadOf wK_X9_loadOf wZ_X9 1 1 1 rfl (by decide +kernel) rfl (by decide) rfl rfl rfl (by decide) rfl rfl (rfl : zCl[7]? = some (RX9, TX9, 10)) hl.1 rfl rfl (by rw [hRf, hRl]; exact ⟨Nat.le_of_ble_eq_true rfl, Nat.le_of_ble_eq_true rfl⟩) (Nat.le_of_ble_eq_true rfl) ⟨Nat.zero_le _, Nat.zero_le _⟩ dX9_isStill_22 (fun H locs Z => ?_)
      refine lv_lconst (v := (0 : Int64)) hx hb dX9_isStill_25 (by decide) ?_
      refine z_lc_lt (tgt := 34) X dX9_isStill_26 dX9_isStill_27 (by decide) (fun c_3 => ?_) (fun c_3 => ?_)
      · refine lv_iconst (v := (0 : Int32)) hx hb dX9_isStill_34 (by decide) ?_
        exact z_ri (v := zB false) E Z (zB_narrow _) (by rw [zf_X9_isStill_e, if_neg c_1, if_neg c_2, if_pos c_3]; exact ⟨rfl, rfl⟩) dX9_isStill_35 (Nat.zero_le _) (Nat.zero_le _)
      · refine lv_iconst (v := (1 : Int32)) hx hb dX9_isStill_30 (by decide) ?_
        refine lv_goto (tgt := 35) hx hb dX9_isStill_31 (by decide) ?_
        exact z_ri (v := zB true) E Z (zB_narrow _) (by rw [zf_X9_isStill_e, if_neg c_1, if_neg c_2, if_neg c_3]; exact ⟨rfl, rfl⟩) dX9_isStill_35 (Nat.zero_le _) (Nat.zero_le _)
def zl_X9_overs_4 (M : zMo) : Nat → Nat → Int32 → Int32
  | 0, _, x1 => x1
  | n4 + 1, j4, x1 => (if (zf_X9_loadOf M j4) ≤ (zf_X9_capacity M j4) then zl_X9_overs_4 M n4 (j4 + 1) (x1 ||| (0 : Int32)) else zl_X9_overs_4 M n4 (j4 + 1) (x1 ||| ((1 : Int32) <<< ((nI j4) &&& 31))))
theorem zl_X9_overs_4_s (M : zMo) (n4 : Nat) (j4 : Nat) (x1 : Int32) : zl_X9_overs_4 M (n4 + 1) j4 x1 = (if (zf_X9_loadOf M j4) ≤ (zf_X9_capacity M j4) then zl_X9_overs_4 M n4 (j4 + 1) (x1 ||| (0 : Int32)) else zl_X9_overs_4 M n4 (j4 + 1) (x1 ||| ((1 : Int32) <<< ((nI j4) &&& 31)))) := rfl
def zf_X9_overs (M : zMo) : Int32 := (zl_X9_overs_4 M 3 0 (0 : Int32))
theorem zf_X9_overs_e (M : zMo) : zf_X9_overs M = (zl_X9_overs_4 M 3 0 (0 : Int32)) := rfl
set_option maxHeartbeats 4000000 in
set_option maxRecDepth 100000 in
theorem zc_X9_overs (l : Launch) (g : zG) (B : Nat) (md : Nat → Nat) (M : zMo) (hN : zNow (mNow M)) : zMet l g B yX9_overs cX9_overs 3 (some .int) 5 180 0 0 [.ref (md 0)] [wMod g md M] (zDet (some (.int (zf_X9_overs M))) [wMod g md M]) := by
  refine z_in (plainFor_of_name (by decide)) (Nat.le_of_ble_eq_true rfl) (fun p e R s m args below meth c A Q hRf hRl hRc hRs X Z hnm E ls hl => ?_)
  have hx := X.1
  have hb := X.2.1
  have hown := X.2.2.2.1
  have hts := X.2.2.2.2.1
  have hl : lv_has ls 3 [(0, .ref (md 0))] := hl
  have hN2 := hN; obtain ⟨he9, hb9, he34, hb34, he43, hb43, he284, hb284, he301, hb301⟩ := hN2
  refine lv_iconst (v := (0 : Int32)) hx hb dX9_overs_0 (by decide) ?_
  refine lv_istore_n (lv' := [(1, .int (0 : Int32)), (0, .ref (md 0))]) hx hb dX9_overs_1 rfl hl (by decide) rfl (fun ls hl => ?_)
  refine lv_iconst (v := (0 : Int32)) hx hb dX9_overs_2 (by decide) ?_
  refine lv_istore_n (lv' := [(2, .int (0 : Int32)), (1, .int (0 : Int32)), (0, .ref (md 0))]) hx hb dX9_overs_3 rfl hl (by decide) rfl (fun ls hl => ?_)
  have loop_4 : ∀ (n4 j4 : Nat) (x1 : Int32), j4 + n4 = 3 → zl_X9_overs_4 M n4 j4 x1 = (zl_X9_overs_4 M 3 0 (0 : Int32)) → ∀ (H : Heap) (locs : List Loc), zM g B A s [wMod g md M] H locs → ∀ ls : Array Slot, lv_has ls 3 [(2, .int (nI j4)), (1, .int x1), (0, .ref (md 0))] → W p l e R s m args below meth c H locs 0 0 Q (F0 m 4 ls []) := by
    intro n4
    induction n4 with
    | zero =>
      intro j4 x1 hin4 hR4 H locs Z ls hl
      have e_x1 : x1 = (zl_X9_overs_4 M 3 0 (0 : Int32)) := hR4
      subst e_x1
      refine lv_iload_n hx hb dX9_overs_4 rfl (lv_at hl 0 rfl) ?_
      refine lv_iconst (v := (3 : Int32)) hx hb dX9_overs_5 (by decide) ?_
      refine z_icmp_ge (a := j4) (b := 3) (tgt := 39) X rfl rfl (by omega) (by omega) dX9_overs_6 (by decide) (fun c_1 => ?_) (fun c_1 => ?_)
      · refine lv_iload_n hx hb dX9_overs_39 rfl (lv_at hl 1 rfl) ?_
        exact z_ri (v := (zl_X9_overs_4 M 3 0 (0 : Int32))) E Z rfl (by rw [zf_X9_overs_e]; exact ⟨rfl, rfl⟩) dX9_overs_40 (Nat.zero_le _) (Nat.zero_le _)
      · (exfalso; omega)
    | succ n4 ih4 =>
      intro j4 x1 hin4 hR4 H locs Z ls hl
      refine lv_iload_n hx hb dX9_overs_4 rfl (lv_at hl 0 rfl) ?_
      refine lv_iconst (v := (3 : Int32)) hx hb dX9_overs_5 (by decide) ?_
      refine z_icmp_ge (a := j4) (b := 3) (tgt := 39) X rfl rfl (by omega) (by omega) dX9_overs_6 (by decide) (fun c_2 => ?_) (fun c_2 => ?_)
      · (exfalso; omega)
      · refine lv_iload_n hx hb dX9_overs_9 rfl (lv_at hl 1 rfl) ?_
        refine lv_aload_n hx hb dX9_overs_10 rfl (lv_at hl 2 rfl) ?_
        refine lv_iload_n hx hb dX9_overs_11 rfl (lv_at hl 0 rfl) ?_
        refine z_callV (mc := 0) (ms := 0) (As := [.int (nI j4)]) (rest := [.int x1]) (st2 := [.long (zf_X9_loadOf M j4), .int x1]) (cs2 := [wMod g md M]) X Z [0] [] [0] 0 7 (zc_X9_loadOf l g B md M j4 (by first | assumption | omega | decide) (by first | assumption | omega | decide)) wM_X9_95 wS_X9_loadOf wV_X9_loadOf wK_X9_loadOf wZ_X9 1 1 1 rfl (by decide +kernel) rfl (by decide) rfl rfl rfl (by decide) rfl rfl (rfl : zCl[7]? = some (RX9, TX9, 10)) hl.1 rfl rfl (by rw [hRf, hRl]; exact ⟨Nat.le_of_ble_eq_true rfl, Nat.le_of_ble_eq_true rfl⟩) (Nat.le_of_ble_eq_true rfl) ⟨Nat.zero_le _, Nat.zero_le _⟩ dX9_overs_12 (fun H locs Z => ?_)
        refine lv_aload_n hx hb dX9_overs_15 rfl (lv_at hl 2 rfl) ?_
        refine lv_iload_n hx hb dX9_overs_16 rfl (lv_at hl 0 rfl) ?_
        refine z_callV (mc := 0) (ms := 0) (As := [.int (nI j4)]) (rest := [.long (zf_X9_loadOf M j4), .int x1]) (st2 := [.long (zf_X9_capacity M j4), .long (zf_X9_loadOf M j4), .int x1]) (cs2 := [wMod g md M]) X Z [0] [] [0] 0 7 (zc_X9_capacity l g B md M j4 (by first | assumption | omega | decide)) wM_X9_112 wS_X9_capacity wV_X9_capacity wK_X9_capacity wZ_X9 1 1 1 rfl (by decide +kernel) rfl (by decide) rfl rfl rfl (by decide) rfl rfl (rfl : zCl[7]? = some (RX9, TX9, 10)) hl.1 rfl rfl (by rw [hRf, hRl]; exact ⟨Nat.le_of_ble_eq_true rfl, Nat.le_of_ble_eq_true rfl⟩) (Nat.le_of_ble_eq_true rfl) ⟨Nat.zero_le _, Nat.zero_le _⟩ dX9_overs_17 (fun H locs Z => ?_)
        refine z_lc_le (tgt := 30) X dX9_overs_20 dX9_overs_21 (by decide) (fun c_3 => ?_) (fun c_3 => ?_)
        · refine lv_iconst (v := (0 : Int32)) hx hb dX9_overs_30 (by decide) ?_
          refine lv_ior hx hb dX9_overs_31 ?_
          refine lv_istore_n (lv' := [(1, .int (x1 ||| (0 : Int32))), (2, .int (nI j4)), (0, .ref (md 0))]) hx hb dX9_overs_32 rfl hl (by decide) rfl (fun ls hl => ?_)
          refine z_iinc (b := (j4 + 1)) (st := 1) (lv' := [(2, .int (nI (j4 + 1))), (1, .int (x1 ||| (0 : Int32))), (0, .ref (md 0))]) X dX9_overs_33 hl (k := 1) rfl rfl (by decide) (by omega) (by decide) rfl (fun ls hl => ?_)
          refine lv_goto (tgt := 4) hx hb dX9_overs_36 (by decide) ?_
          exact ih4 (j4 + 1) (x1 ||| (0 : Int32)) (by omega) (by have h9 := hR4; rw [zl_X9_overs_4_s, if_pos c_3] at h9; exact h9) _ _ Z ls (lv_sub hl [0, 1, 2] rfl)
        · refine lv_iconst (v := (1 : Int32)) hx hb dX9_overs_24 (by decide) ?_
          refine lv_iload_n hx hb dX9_overs_25 rfl (lv_at hl 0 rfl) ?_
          refine lv_ishl hx hb dX9_overs_26 ?_
          refine lv_goto (tgt := 31) hx hb dX9_overs_27 (by decide) ?_
          refine lv_ior hx hb dX9_overs_31 ?_
          refine lv_istore_n (lv' := [(1, .int (x1 ||| ((1 : Int32) <<< ((nI j4) &&& 31)))), (2, .int (nI j4)), (0, .ref (md 0))]) hx hb dX9_overs_32 rfl hl (by decide) rfl (fun ls hl => ?_)
          refine z_iinc (b := (j4 + 1)) (st := 1) (lv' := [(2, .int (nI (j4 + 1))), (1, .int (x1 ||| ((1 : Int32) <<< ((nI j4) &&& 31)))), (0, .ref (md 0))]) X dX9_overs_33 hl (k := 1) rfl rfl (by decide) (by omega) (by decide) rfl (fun ls hl => ?_)
          refine lv_goto (tgt := 4) hx hb dX9_overs_36 (by decide) ?_
          exact ih4 (j4 + 1) (x1 ||| ((1 : Int32) <<< ((nI j4) &&& 31))) (by omega) (by have h9 := hR4; rw [zl_X9_overs_4_s, if_neg c_3] at h9; exact h9) _ _ Z ls (lv_sub hl [0, 1, 2] rfl)
  exact loop_4 3 0 (0 : Int32) (by omega) rfl _ _ Z ls (lv_sub hl [0, 1, 2] rfl)
set_option maxHeartbeats 4000000 in
set_option maxRecDepth 100000 in
theorem zc_X9_chanceAt (l : Launch) (g : zG) (B : Nat) (md : Nat → Nat) (M : zMo) (t : Nat) (k : Nat) : zMet l g B yX9_chanceAt cX9_chanceAt 3 (some .int) 1 20 0 0 [.ref (md 0), .int (nI t), .int (nI k)] [wMod g md M] (zDet (some (.int (nI (44 + 3 * (8 * t + k))))) [wMod g md M]) := by
  refine z_in (plainFor_of_name (by decide)) (Nat.le_of_ble_eq_true rfl) (fun p e R s m args below meth c A Q hRf hRl hRc hRs X Z hnm E ls hl => ?_)
  have hx := X.1
  have hb := X.2.1
  have hown := X.2.2.2.1
  have hts := X.2.2.2.2.1
  have hl : lv_has ls 3 [(0, .ref (md 0)), (1, .int (nI t)), (2, .int (nI k))] := hl
  refine lv_bipush (v := (44 : Int32)) hx hb dX9_chanceAt_0 (by decide) ?_
  refine lv_iconst (v := (3 : Int32)) hx hb dX9_chanceAt_2 (by decide) ?_
  refine lv_bipush (v := (8 : Int32)) hx hb dX9_chanceAt_3 (by decide) ?_
  refine lv_iload_n hx hb dX9_chanceAt_5 rfl (lv_at hl 1 rfl) ?_
  refine z_imul (a := 8) (b := t) X rfl rfl dX9_chanceAt_6 ?_
  refine lv_iload_n hx hb dX9_chanceAt_7 rfl (lv_at hl 2 rfl) ?_
  refine z_iadd (a := (8 * t)) (b := k) X rfl rfl dX9_chanceAt_8 ?_
  refine z_imul (a := 3) (b := ((8 * t) + k)) X rfl rfl dX9_chanceAt_9 ?_
  refine z_iadd (a := 44) (b := (3 * ((8 * t) + k))) X rfl rfl dX9_chanceAt_10 ?_
  exact z_ri (v := nI (44 + (3 * ((8 * t) + k)))) E Z rfl ⟨rfl, rfl⟩ dX9_chanceAt_11 (Nat.zero_le _) (Nat.zero_le _)
def zf_X9_laysChances (M : zMo) (t : Nat) (k : Nat) (x : Int32) (y : Int32) : (Nat → Int64) := (vp_updL (vp_updL (vp_updL (mNow M) (44 + 3 * (8 * t + k)) x.toInt64) ((44 + 3 * (8 * t + k)) + 1) y.toInt64) ((44 + 3 * (8 * t + k)) + 2) ((((10 : Int32) - x) - y).toInt64))
theorem zf_X9_laysChances_e (M : zMo) (t : Nat) (k : Nat) (x : Int32) (y : Int32) : zf_X9_laysChances M t k x y = (vp_updL (vp_updL (vp_updL (mNow M) (44 + 3 * (8 * t + k)) x.toInt64) ((44 + 3 * (8 * t + k)) + 1) y.toInt64) ((44 + 3 * (8 * t + k)) + 2) ((((10 : Int32) - x) - y).toInt64)) := rfl
set_option maxHeartbeats 4000000 in
set_option maxRecDepth 100000 in
theorem zc_X9_laysChances (l : Launch) (g : zG) (B : Nat) (md : Nat → Nat) (M : zMo) (t : Nat) (k : Nat) (x : Int32) (y : Int32) (ht : t < 10) (hk : k < 8) : zMet l g B yX9_laysChances cX9_laysChances 6 none 2 60 0 0 [.ref (md 0), .int (nI t), .int (nI k), .int x, .int y] [wMod g md M] (zDet (none) [wMod g md ((zf_X9_laysChances M t k x y), (mPast M), (mSav M), (mRef M), (mThen M), (mLev M), (mFst M), (mWay M), (mMost M), (mHash M))]) := by
  refine z_in (plainFor_of_name (by decide)) (Nat.le_of_ble_eq_true rfl) (fun p e R s m args below meth c A Q hRf hRl hRc hRs X Z hnm E ls hl => ?_)
  have hx := X.1
  have hb := X.2.1
  have hown := X.2.2.2.1
  have hts := X.2.2.2.2.1
  have hl : lv_has ls 6 [(0, .ref (md 0)), (1, .int (nI t)), (2, .int (nI k)), (3, .int x), (4, .int y)] := hl
  refine lv_aload_n hx hb dX9_laysChances_0 rfl (lv_at hl 0 rfl) ?_
  refine lv_iload_n hx hb dX9_laysChances_1 rfl (lv_at hl 1 rfl) ?_
  refine lv_iload_n hx hb dX9_laysChances_2 rfl (lv_at hl 2 rfl) ?_
  refine z_callV (mc := 0) (ms := 0) (As := [.int (nI t), .int (nI k)]) (rest := []) (st2 := [.int (nI (44 + 3 * (8 * t + k)))]) (cs2 := [wMod g md M]) X Z [0] [] [0] 0 7 (zc_X9_chanceAt l g B md M t k) wM_X9_125 wS_X9_chanceAt wV_X9_chanceAt wK_X9_chanceAt wZ_X9 2 1 1 rfl (by decide +kernel) rfl (by decide) rfl rfl rfl (by decide) rfl rfl (rfl : zCl[7]? = some (RX9, TX9, 10)) hl.1 rfl rfl (by rw [hRf, hRl]; exact ⟨Nat.le_of_ble_eq_true rfl, Nat.le_of_ble_eq_true rfl⟩) (Nat.le_of_ble_eq_true rfl) ⟨Nat.zero_le _, Nat.zero_le _⟩ dX9_laysChances_3 (fun H locs Z => ?_)
  refine lv_istore (lv' := [(5, .int (nI (44 + 3 * (8 * t + k)))), (0, .ref (md 0)), (1, .int (nI t)), (2, .int (nI k)), (3, .int x), (4, .int y)]) hx hb dX9_laysChances_6 hl (by decide) rfl (fun ls hl => ?_)
  refine lv_aload_n hx hb dX9_laysChances_8 rfl (lv_at hl 1 rfl) ?_
  refine z_get X Z 0 rfl (rfl : zCl[7]? = some (RX9, TX9, 10)) zU_X9 0 (by decide) wF_X9_7 rfl rfl dX9_laysChances_9 ?_
  refine lv_iload hx hb dX9_laysChances_12 (lv_at hl 0 rfl) ?_
  refine lv_iload_n hx hb dX9_laysChances_14 rfl (lv_at hl 4 rfl) ?_
  refine lv_i2l hx hb dX9_laysChances_15 rfl ?_
  refine z_last (cs2 := [wMod g md ((vp_updL (mNow M) (44 + 3 * (8 * t + k)) x.toInt64), (mPast M), (mSav M), (mRef M), (mThen M), (mLev M), (mFst M), (mWay M), (mMost M), (mHash M))]) (j := (44 + 3 * (8 * t + k))) (x := x.toInt64) X Z 1 rfl rfl (by omega) (by decide) rfl dX9_laysChances_16 (fun H locs Z => ?_)
  refine lv_aload_n hx hb dX9_laysChances_17 rfl (lv_at hl 1 rfl) ?_
  refine z_get X Z 0 rfl (rfl : zCl[7]? = some (RX9, TX9, 10)) zU_X9 0 (by decide) wF_X9_7 rfl rfl dX9_laysChances_18 ?_
  refine lv_iload hx hb dX9_laysChances_21 (lv_at hl 0 rfl) ?_
  refine lv_iconst (v := (1 : Int32)) hx hb dX9_laysChances_23 (by decide) ?_
  refine z_iadd (a := (44 + 3 * (8 * t + k))) (b := 1) X rfl rfl dX9_laysChances_24 ?_
  refine lv_iload hx hb dX9_laysChances_25 (lv_at hl 5 rfl) ?_
  refine lv_i2l hx hb dX9_laysChances_27 rfl ?_
  refine z_last (cs2 := [wMod g md ((vp_updL (vp_updL (mNow M) (44 + 3 * (8 * t + k)) x.toInt64) ((44 + 3 * (8 * t + k)) + 1) y.toInt64), (mPast M), (mSav M), (mRef M), (mThen M), (mLev M), (mFst M), (mWay M), (mMost M), (mHash M))]) (j := ((44 + 3 * (8 * t + k)) + 1)) (x := y.toInt64) X Z 1 rfl rfl (by omega) (by decide) rfl dX9_laysChances_28 (fun H locs Z => ?_)
  refine lv_aload_n hx hb dX9_laysChances_29 rfl (lv_at hl 1 rfl) ?_
  refine z_get X Z 0 rfl (rfl : zCl[7]? = some (RX9, TX9, 10)) zU_X9 0 (by decide) wF_X9_7 rfl rfl dX9_laysChances_30 ?_
  refine lv_iload hx hb dX9_laysChances_33 (lv_at hl 0 rfl) ?_
  refine lv_iconst (v := (2 : Int32)) hx hb dX9_laysChances_35 (by decide) ?_
  refine z_iadd (a := (44 + 3 * (8 * t + k))) (b := 2) X rfl rfl dX9_laysChances_36 ?_
  refine lv_bipush (v := (10 : Int32)) hx hb dX9_laysChances_37 (by decide) ?_
  refine lv_iload_n hx hb dX9_laysChances_39 rfl (lv_at hl 4 rfl) ?_
  refine lv_isub hx hb dX9_laysChances_40 ?_
  refine lv_iload hx hb dX9_laysChances_41 (lv_at hl 5 rfl) ?_
  refine lv_isub hx hb dX9_laysChances_43 ?_
  refine lv_i2l hx hb dX9_laysChances_44 rfl ?_
  refine z_last (cs2 := [wMod g md ((vp_updL (vp_updL (vp_updL (mNow M) (44 + 3 * (8 * t + k)) x.toInt64) ((44 + 3 * (8 * t + k)) + 1) y.toInt64) ((44 + 3 * (8 * t + k)) + 2) ((((10 : Int32) - x) - y).toInt64)), (mPast M), (mSav M), (mRef M), (mThen M), (mLev M), (mFst M), (mWay M), (mMost M), (mHash M))]) (j := ((44 + 3 * (8 * t + k)) + 2)) (x := ((((10 : Int32) - x) - y).toInt64)) X Z 1 rfl rfl (by omega) (by decide) rfl dX9_laysChances_45 (fun H locs Z => ?_)
  exact z_rv E Z (by rw [zf_X9_laysChances_e]; exact ⟨rfl, rfl⟩) dX9_laysChances_46 (Nat.zero_le _) (Nat.zero_le _)
def zf_X9_isHypothesis (M : zMo) (x : Int32) : Bool := (zf_X9_within x.toInt64 (0 : Int64) (((nI (zc ((mNow M) 34))) - (1 : Int32)).toInt64))
theorem zf_X9_isHypothesis_e (M : zMo) (x : Int32) : zf_X9_isHypothesis M x = (zf_X9_within x.toInt64 (0 : Int64) (((nI (zc ((mNow M) 34))) - (1 : Int32)).toInt64)) := rfl
set_option maxHeartbeats 4000000 in
set_option maxRecDepth 100000 in
theorem zc_X9_isHypothesis (l : Launch) (g : zG) (B : Nat) (md : Nat → Nat) (M : zMo) (x : Int32) (hN : zNow (mNow M)) : zMet l g B yX9_isHypothesis cX9_isHypothesis 2 (some .boolean) 2 60 0 0 [.ref (md 0), .int x] [wMod g md M] (zDet (some (.int (zB (zf_X9_isHypothesis M x)))) [wMod g md M]) := by
  refine z_in (plainFor_of_name (by decide)) (Nat.le_of_ble_eq_true rfl) (fun p e R s m args below meth c A Q hRf hRl hRc hRs X Z hnm E ls hl => ?_)
  have hx := X.1
  have hb := X.2.1
  have hown := X.2.2.2.1
  have hts := X.2.2.2.2.1
  have hl : lv_has ls 2 [(0, .ref (md 0)), (1, .int x)] := hl
  have hN2 := hN; obtain ⟨he9, hb9, he34, hb34, he43, hb43, he284, hb284, he301, hb301⟩ := hN2
  refine lv_iload_n hx hb dX9_isHypothesis_0 rfl (lv_at hl 1 rfl) ?_
  refine lv_i2l hx hb dX9_isHypothesis_1 rfl ?_
  refine lv_lconst (v := (0 : Int64)) hx hb dX9_isHypothesis_2 (by decide) ?_
  refine lv_aload_n hx hb dX9_isHypothesis_3 rfl (lv_at hl 0 rfl) ?_
  refine lv_bipush (v := (34 : Int32)) hx hb dX9_isHypothesis_4 (by decide) ?_
  refine z_callV (mc := 0) (ms := 0) (As := [.int (34 : Int32)]) (rest := [.long (0 : Int64), .long x.toInt64]) (st2 := [.int (nI (zc ((mNow M) 34))), .long (0 : Int64), .long x.toInt64]) (cs2 := [wMod g md M]) X Z [0] [] [0] 0 7 (zc_X9_many l g B md M 34 (zc ((mNow M) 34)) (by first | assumption | omega | decide) (by first | assumption | omega | decide)) wM_X9_66 wS_X9_many wV_X9_many wK_X9_many wZ_X9 1 1 1 rfl (by decide +kernel) rfl (by decide) rfl rfl rfl (by decide) rfl rfl (rfl : zCl[7]? = some (RX9, TX9, 10)) hl.1 rfl rfl (by rw [hRf, hRl]; exact ⟨Nat.le_of_ble_eq_true rfl, Nat.le_of_ble_eq_true rfl⟩) (Nat.le_of_ble_eq_true rfl) ⟨Nat.zero_le _, Nat.zero_le _⟩ dX9_isHypothesis_6 (fun H locs Z => ?_)
  refine lv_iconst (v := (1 : Int32)) hx hb dX9_isHypothesis_9 (by decide) ?_
  refine lv_isub hx hb dX9_isHypothesis_10 ?_
  refine lv_i2l hx hb dX9_isHypothesis_11 rfl ?_
  refine z_callS (mc := 0) (ms := 0) (As := [.long x.toInt64, .long (0 : Int64), .long (((nI (zc ((mNow M) 34))) - (1 : Int32)).toInt64)]) (rest := []) (st2 := [.int (zB (zf_X9_within x.toInt64 (0 : Int64) (((nI (zc ((mNow M) 34))) - (1 : Int32)).toInt64)))]) (cs2 := [wMod g md M]) X Z [] [0] [0] (zc_X9_within l g B x.toInt64 (0 : Int64) (((nI (zc ((mNow M) 34))) - (1 : Int32)).toInt64)) wM_X9_44 wS_X9_within wK_X9_within wZ_X9 3 1 1 rfl (by decide +kernel) rfl (by decide) rfl rfl rfl (by decide) rfl hl.1 rfl rfl (by rw [hRf, hRl]; exact ⟨Nat.le_of_ble_eq_true rfl, Nat.le_of_ble_eq_true rfl⟩) (Nat.le_of_ble_eq_true rfl) ⟨Nat.zero_le _, Nat.zero_le _⟩ dX9_isHypothesis_12 (fun H locs Z => ?_)
  exact z_ri (v := zB (zf_X9_within x.toInt64 (0 : Int64) (((nI (zc ((mNow M) 34))) - (1 : Int32)).toInt64))) E Z (zB_narrow _) (by rw [zf_X9_isHypothesis_e]; exact ⟨rfl, rfl⟩) dX9_isHypothesis_15 (Nat.zero_le _) (Nat.zero_le _)
def zf_X9_isTest (M : zMo) (x : Int32) : Bool := (zf_X9_within x.toInt64 (0 : Int64) (((nI (zc ((mNow M) 43))) - (1 : Int32)).toInt64))
theorem zf_X9_isTest_e (M : zMo) (x : Int32) : zf_X9_isTest M x = (zf_X9_within x.toInt64 (0 : Int64) (((nI (zc ((mNow M) 43))) - (1 : Int32)).toInt64)) := rfl
set_option maxHeartbeats 4000000 in
set_option maxRecDepth 100000 in
theorem zc_X9_isTest (l : Launch) (g : zG) (B : Nat) (md : Nat → Nat) (M : zMo) (x : Int32) (hN : zNow (mNow M)) : zMet l g B yX9_isTest cX9_isTest 2 (some .boolean) 2 60 0 0 [.ref (md 0), .int x] [wMod g md M] (zDet (some (.int (zB (zf_X9_isTest M x)))) [wMod g md M]) := by
  refine z_in (plainFor_of_name (by decide)) (Nat.le_of_ble_eq_true rfl) (fun p e R s m args below meth c A Q hRf hRl hRc hRs X Z hnm E ls hl => ?_)
  have hx := X.1
  have hb := X.2.1
  have hown := X.2.2.2.1
  have hts := X.2.2.2.2.1
  have hl : lv_has ls 2 [(0, .ref (md 0)), (1, .int x)] := hl
  have hN2 := hN; obtain ⟨he9, hb9, he34, hb34, he43, hb43, he284, hb284, he301, hb301⟩ := hN2
  refine lv_iload_n hx hb dX9_isTest_0 rfl (lv_at hl 1 rfl) ?_
  refine lv_i2l hx hb dX9_isTest_1 rfl ?_
  refine lv_lconst (v := (0 : Int64)) hx hb dX9_isTest_2 (by decide) ?_
  refine lv_aload_n hx hb dX9_isTest_3 rfl (lv_at hl 0 rfl) ?_
  refine lv_bipush (v := (43 : Int32)) hx hb dX9_isTest_4 (by decide) ?_
  refine z_callV (mc := 0) (ms := 0) (As := [.int (43 : Int32)]) (rest := [.long (0 : Int64), .long x.toInt64]) (st2 := [.int (nI (zc ((mNow M) 43))), .long (0 : Int64), .long x.toInt64]) (cs2 := [wMod g md M]) X Z [0] [] [0] 0 7 (zc_X9_many l g B md M 43 (zc ((mNow M) 43)) (by first | assumption | omega | decide) (by first | assumption | omega | decide)) wM_X9_66 wS_X9_many wV_X9_many wK_X9_many wZ_X9 1 1 1 rfl (by decide +kernel) rfl (by decide) rfl rfl rfl (by decide) rfl rfl (rfl : zCl[7]? = some (RX9, TX9, 10)) hl.1 rfl rfl (by rw [hRf, hRl]; exact ⟨Nat.le_of_ble_eq_true rfl, Nat.le_of_ble_eq_true rfl⟩) (Nat.le_of_ble_eq_true rfl) ⟨Nat.zero_le _, Nat.zero_le _⟩ dX9_isTest_6 (fun H locs Z => ?_)
  refine lv_iconst (v := (1 : Int32)) hx hb dX9_isTest_9 (by decide) ?_
  refine lv_isub hx hb dX9_isTest_10 ?_
  refine lv_i2l hx hb dX9_isTest_11 rfl ?_
  refine z_callS (mc := 0) (ms := 0) (As := [.long x.toInt64, .long (0 : Int64), .long (((nI (zc ((mNow M) 43))) - (1 : Int32)).toInt64)]) (rest := []) (st2 := [.int (zB (zf_X9_within x.toInt64 (0 : Int64) (((nI (zc ((mNow M) 43))) - (1 : Int32)).toInt64)))]) (cs2 := [wMod g md M]) X Z [] [0] [0] (zc_X9_within l g B x.toInt64 (0 : Int64) (((nI (zc ((mNow M) 43))) - (1 : Int32)).toInt64)) wM_X9_44 wS_X9_within wK_X9_within wZ_X9 3 1 1 rfl (by decide +kernel) rfl (by decide) rfl rfl rfl (by decide) rfl hl.1 rfl rfl (by rw [hRf, hRl]; exact ⟨Nat.le_of_ble_eq_true rfl, Nat.le_of_ble_eq_true rfl⟩) (Nat.le_of_ble_eq_true rfl) ⟨Nat.zero_le _, Nat.zero_le _⟩ dX9_isTest_12 (fun H locs Z => ?_)
  exact z_ri (v := zB (zf_X9_within x.toInt64 (0 : Int64) (((nI (zc ((mNow M) 43))) - (1 : Int32)).toInt64))) E Z (zB_narrow _) (by rw [zf_X9_isTest_e]; exact ⟨rfl, rfl⟩) dX9_isTest_15 (Nat.zero_le _) (Nat.zero_le _)
def zl_X9_weights_4 (M : zMo) : Nat → Nat → Int64 → Int64
  | 0, _, x1 => x1
  | n4 + 1, j4, x1 => zl_X9_weights_4 M n4 (j4 + 1) (x1 + ((mNow M) (35 + j4)))
theorem zl_X9_weights_4_s (M : zMo) (n4 : Nat) (j4 : Nat) (x1 : Int64) : zl_X9_weights_4 M (n4 + 1) j4 x1 = zl_X9_weights_4 M n4 (j4 + 1) (x1 + ((mNow M) (35 + j4))) := rfl
def zf_X9_weights (M : zMo) : Int64 := (zl_X9_weights_4 M 8 0 (0 : Int64))
theorem zf_X9_weights_e (M : zMo) : zf_X9_weights M = (zl_X9_weights_4 M 8 0 (0 : Int64)) := rfl
set_option maxHeartbeats 4000000 in
set_option maxRecDepth 100000 in
theorem zc_X9_weights (l : Launch) (g : zG) (B : Nat) (md : Nat → Nat) (M : zMo) : zMet l g B yX9_weights cX9_weights 4 (some .long) 1 60 0 0 [.ref (md 0)] [wMod g md M] (zDet (some (.long (zf_X9_weights M))) [wMod g md M]) := by
  refine z_in (plainFor_of_name (by decide)) (Nat.le_of_ble_eq_true rfl) (fun p e R s m args below meth c A Q hRf hRl hRc hRs X Z hnm E ls hl => ?_)
  have hx := X.1
  have hb := X.2.1
  have hown := X.2.2.2.1
  have hts := X.2.2.2.2.1
  have hl : lv_has ls 4 [(0, .ref (md 0))] := hl
  refine lv_lconst (v := (0 : Int64)) hx hb dX9_weights_0 (by decide) ?_
  refine lv_lstore_n (lv' := [(1, .long (0 : Int64)), (0, .ref (md 0))]) hx hb dX9_weights_1 rfl hl (by decide) rfl (fun ls hl => ?_)
  refine lv_iconst (v := (0 : Int32)) hx hb dX9_weights_2 (by decide) ?_
  refine lv_istore_n (lv' := [(3, .int (0 : Int32)), (1, .long (0 : Int64)), (0, .ref (md 0))]) hx hb dX9_weights_3 rfl hl (by decide) rfl (fun ls hl => ?_)
  have loop_4 : ∀ (n4 j4 : Nat) (x1 : Int64), j4 + n4 = 8 → zl_X9_weights_4 M n4 j4 x1 = (zl_X9_weights_4 M 8 0 (0 : Int64)) → ∀ (H : Heap) (locs : List Loc), zM g B A s [wMod g md M] H locs → ∀ ls : Array Slot, lv_has ls 4 [(3, .int (nI j4)), (1, .long x1), (0, .ref (md 0))] → W p l e R s m args below meth c H locs 0 0 Q (F0 m 4 ls []) := by
    intro n4
    induction n4 with
    | zero =>
      intro j4 x1 hin4 hR4 H locs Z ls hl
      have e_x1 : x1 = (zl_X9_weights_4 M 8 0 (0 : Int64)) := hR4
      subst e_x1
      refine lv_iload_n hx hb dX9_weights_4 rfl (lv_at hl 0 rfl) ?_
      refine lv_bipush (v := (8 : Int32)) hx hb dX9_weights_5 (by decide) ?_
      refine z_icmp_ge (a := j4) (b := 8) (tgt := 28) X rfl rfl (by omega) (by omega) dX9_weights_7 (by decide) (fun c_1 => ?_) (fun c_1 => ?_)
      · refine lv_lload_n hx hb dX9_weights_28 rfl (lv_at hl 1 rfl) ?_
        exact z_rl (v := (zl_X9_weights_4 M 8 0 (0 : Int64))) E Z (by rw [zf_X9_weights_e]; exact ⟨rfl, rfl⟩) dX9_weights_29 (Nat.zero_le _) (Nat.zero_le _)
      · (exfalso; omega)
    | succ n4 ih4 =>
      intro j4 x1 hin4 hR4 H locs Z ls hl
      refine lv_iload_n hx hb dX9_weights_4 rfl (lv_at hl 0 rfl) ?_
      refine lv_bipush (v := (8 : Int32)) hx hb dX9_weights_5 (by decide) ?_
      refine z_icmp_ge (a := j4) (b := 8) (tgt := 28) X rfl rfl (by omega) (by omega) dX9_weights_7 (by decide) (fun c_2 => ?_) (fun c_2 => ?_)
      · (exfalso; omega)
      · refine lv_lload_n hx hb dX9_weights_10 rfl (lv_at hl 1 rfl) ?_
        refine lv_aload_n hx hb dX9_weights_11 rfl (lv_at hl 2 rfl) ?_
        refine z_get X Z 0 rfl (rfl : zCl[7]? = some (RX9, TX9, 10)) zU_X9 0 (by decide) wF_X9_7 rfl rfl dX9_weights_12 ?_
        refine lv_bipush (v := (35 : Int32)) hx hb dX9_weights_15 (by decide) ?_
        refine lv_iload_n hx hb dX9_weights_17 rfl (lv_at hl 0 rfl) ?_
        refine z_iadd (a := 35) (b := j4) X rfl rfl dX9_weights_18 ?_
        refine z_lald (j := (35 + j4)) X Z 1 rfl rfl (by omega) (by decide) dX9_weights_19 ?_
        refine lv_ladd hx hb dX9_weights_20 ?_
        refine lv_lstore_n (lv' := [(1, .long (x1 + ((mNow M) (35 + j4)))), (3, .int (nI j4)), (0, .ref (md 0))]) hx hb dX9_weights_21 rfl hl (by decide) rfl (fun ls hl => ?_)
        refine z_iinc (b := (j4 + 1)) (st := 1) (lv' := [(3, .int (nI (j4 + 1))), (1, .long (x1 + ((mNow M) (35 + j4)))), (0, .ref (md 0))]) X dX9_weights_22 hl (k := 1) rfl rfl (by decide) (by omega) (by decide) rfl (fun ls hl => ?_)
        refine lv_goto (tgt := 4) hx hb dX9_weights_25 (by decide) ?_
        exact ih4 (j4 + 1) (x1 + ((mNow M) (35 + j4))) (by omega) (by have h9 := hR4; rw [zl_X9_weights_4_s] at h9; exact h9) _ _ Z ls (lv_sub hl [0, 1, 2] rfl)
  exact loop_4 8 0 (0 : Int64) (by omega) rfl _ _ Z ls (lv_sub hl [0, 1, 2] rfl)
def zl_X9_goes_3 (M : zMo) (u : Nat) (t : Nat) (k : Nat) : Nat → Nat → (Nat → Int64) → (Nat → Int64)
  | 0, _, v1 => v1
  | n3 + 1, j3, v1 => zl_X9_goes_3 M u t k n3 (j3 + 1) (vp_updL v1 (((8 * u) + 8) + j3) ((v1 ((8 * u) + j3)) * ((mNow M) ((44 + 3 * (8 * t + j3)) + k))))
theorem zl_X9_goes_3_s (M : zMo) (u : Nat) (t : Nat) (k : Nat) (n3 : Nat) (j3 : Nat) (v1 : Nat → Int64) : zl_X9_goes_3 M u t k (n3 + 1) j3 v1 = zl_X9_goes_3 M u t k n3 (j3 + 1) (vp_updL v1 (((8 * u) + 8) + j3) ((v1 ((8 * u) + j3)) * ((mNow M) ((44 + 3 * (8 * t + j3)) + k)))) := rfl
def zf_X9_goes (M : zMo) (u : Nat) (t : Nat) (k : Nat) : (Nat → Int64) := (zl_X9_goes_3 M u t k 8 0 (mLev M))
theorem zf_X9_goes_e (M : zMo) (u : Nat) (t : Nat) (k : Nat) : zf_X9_goes M u t k = (zl_X9_goes_3 M u t k 8 0 (mLev M)) := rfl
set_option maxHeartbeats 4000000 in
set_option maxRecDepth 100000 in
theorem zc_X9_goes (l : Launch) (g : zG) (B : Nat) (md : Nat → Nat) (M : zMo) (u : Nat) (t : Nat) (k : Nat) (hu : u ≤ 2) (ht : t < 10) (hk : k < 3) : zMet l g B yX9_goes cX9_goes 5 none 2 60 0 0 [.ref (md 0), .int (nI u), .int (nI t), .int (nI k)] [wMod g md M] (zDet (none) [wMod g md ((mNow M), (mPast M), (mSav M), (mRef M), (mThen M), (zf_X9_goes M u t k), (mFst M), (mWay M), (mMost M), (mHash M))]) := by
  refine z_in (plainFor_of_name (by decide)) (Nat.le_of_ble_eq_true rfl) (fun p e R s m args below meth c A Q hRf hRl hRc hRs X Z hnm E ls hl => ?_)
  have hx := X.1
  have hb := X.2.1
  have hown := X.2.2.2.1
  have hts := X.2.2.2.2.1
  have hl : lv_has ls 5 [(0, .ref (md 0)), (1, .int (nI u)), (2, .int (nI t)), (3, .int (nI k))] := hl
  refine lv_iconst (v := (0 : Int32)) hx hb dX9_goes_0 (by decide) ?_
  refine lv_istore (lv' := [(4, .int (0 : Int32)), (0, .ref (md 0)), (1, .int (nI u)), (2, .int (nI t)), (3, .int (nI k))]) hx hb dX9_goes_1 hl (by decide) rfl (fun ls hl => ?_)
  have loop_3 : ∀ (n3 j3 : Nat) (v1 : Nat → Int64), j3 + n3 = 8 → zl_X9_goes_3 M u t k n3 j3 v1 = (zl_X9_goes_3 M u t k 8 0 (mLev M)) → ∀ (H : Heap) (locs : List Loc), zM g B A s [wMod g md ((mNow M), (mPast M), (mSav M), (mRef M), (mThen M), v1, (mFst M), (mWay M), (mMost M), (mHash M))] H locs → ∀ ls : Array Slot, lv_has ls 5 [(4, .int (nI j3)), (0, .ref (md 0)), (1, .int (nI u)), (2, .int (nI t)), (3, .int (nI k))] → W p l e R s m args below meth c H locs 0 0 Q (F0 m 3 ls []) := by
    intro n3
    induction n3 with
    | zero =>
      intro j3 v1 hin3 hR3 H locs Z ls hl
      have e_v1 : v1 = (zl_X9_goes_3 M u t k 8 0 (mLev M)) := hR3
      subst e_v1
      refine lv_iload hx hb dX9_goes_3 (lv_at hl 0 rfl) ?_
      refine lv_bipush (v := (8 : Int32)) hx hb dX9_goes_5 (by decide) ?_
      refine z_icmp_ge (a := j3) (b := 8) (tgt := 58) X rfl rfl (by omega) (by omega) dX9_goes_7 (by decide) (fun c_1 => ?_) (fun c_1 => ?_)
      · exact z_rv E Z (by rw [zf_X9_goes_e]; exact ⟨rfl, rfl⟩) dX9_goes_58 (Nat.zero_le _) (Nat.zero_le _)
      · (exfalso; omega)
    | succ n3 ih3 =>
      intro j3 v1 hin3 hR3 H locs Z ls hl
      refine lv_iload hx hb dX9_goes_3 (lv_at hl 0 rfl) ?_
      refine lv_bipush (v := (8 : Int32)) hx hb dX9_goes_5 (by decide) ?_
      refine z_icmp_ge (a := j3) (b := 8) (tgt := 58) X rfl rfl (by omega) (by omega) dX9_goes_7 (by decide) (fun c_2 => ?_) (fun c_2 => ?_)
      · (exfalso; omega)
      · refine lv_aload_n hx hb dX9_goes_10 rfl (lv_at hl 1 rfl) ?_
        refine z_get X Z 0 rfl (rfl : zCl[7]? = some (RX9, TX9, 10)) zU_X9 5 (by decide) wF_X9_19 rfl rfl dX9_goes_11 ?_
        refine lv_bipush (v := (8 : Int32)) hx hb dX9_goes_14 (by decide) ?_
        refine lv_iload_n hx hb dX9_goes_16 rfl (lv_at hl 2 rfl) ?_
        refine z_imul (a := 8) (b := u) X rfl rfl dX9_goes_17 ?_
        refine lv_bipush (v := (8 : Int32)) hx hb dX9_goes_18 (by decide) ?_
        refine z_iadd (a := (8 * u)) (b := 8) X rfl rfl dX9_goes_20 ?_
        refine lv_iload hx hb dX9_goes_21 (lv_at hl 0 rfl) ?_
        refine z_iadd (a := ((8 * u) + 8)) (b := j3) X rfl rfl dX9_goes_23 ?_
        refine lv_aload_n hx hb dX9_goes_24 rfl (lv_at hl 1 rfl) ?_
        refine z_get X Z 0 rfl (rfl : zCl[7]? = some (RX9, TX9, 10)) zU_X9 5 (by decide) wF_X9_19 rfl rfl dX9_goes_25 ?_
        refine lv_bipush (v := (8 : Int32)) hx hb dX9_goes_28 (by decide) ?_
        refine lv_iload_n hx hb dX9_goes_30 rfl (lv_at hl 2 rfl) ?_
        refine z_imul (a := 8) (b := u) X rfl rfl dX9_goes_31 ?_
        refine lv_iload hx hb dX9_goes_32 (lv_at hl 0 rfl) ?_
        refine z_iadd (a := (8 * u)) (b := j3) X rfl rfl dX9_goes_34 ?_
        refine z_lald (j := ((8 * u) + j3)) X Z 4 rfl rfl (by omega) (by decide) dX9_goes_35 ?_
        refine lv_aload_n hx hb dX9_goes_36 rfl (lv_at hl 1 rfl) ?_
        refine z_get X Z 0 rfl (rfl : zCl[7]? = some (RX9, TX9, 10)) zU_X9 0 (by decide) wF_X9_7 rfl rfl dX9_goes_37 ?_
        refine lv_aload_n hx hb dX9_goes_40 rfl (lv_at hl 1 rfl) ?_
        refine lv_iload_n hx hb dX9_goes_41 rfl (lv_at hl 3 rfl) ?_
        refine lv_iload hx hb dX9_goes_42 (lv_at hl 0 rfl) ?_
        refine z_callV (mc := 0) (ms := 0) (As := [.int (nI t), .int (nI j3)]) (rest := [.ref (md 1), .long (v1 ((8 * u) + j3)), .int (nI (((8 * u) + 8) + j3)), .ref (md 4)]) (st2 := [.int (nI (44 + 3 * (8 * t + j3))), .ref (md 1), .long (v1 ((8 * u) + j3)), .int (nI (((8 * u) + 8) + j3)), .ref (md 4)]) (cs2 := [wMod g md ((mNow M), (mPast M), (mSav M), (mRef M), (mThen M), v1, (mFst M), (mWay M), (mMost M), (mHash M))]) X Z [0] [] [0] 0 7 (zc_X9_chanceAt l g B md ((mNow M), (mPast M), (mSav M), (mRef M), (mThen M), v1, (mFst M), (mWay M), (mMost M), (mHash M)) t j3) wM_X9_125 wS_X9_chanceAt wV_X9_chanceAt wK_X9_chanceAt wZ_X9 2 1 1 rfl (by decide +kernel) rfl (by decide) rfl rfl rfl (by decide) rfl rfl (rfl : zCl[7]? = some (RX9, TX9, 10)) hl.1 rfl rfl (by rw [hRf, hRl]; exact ⟨Nat.le_of_ble_eq_true rfl, Nat.le_of_ble_eq_true rfl⟩) (Nat.le_of_ble_eq_true rfl) ⟨Nat.zero_le _, Nat.zero_le _⟩ dX9_goes_44 (fun H locs Z => ?_)
        refine lv_iload_n hx hb dX9_goes_47 rfl (lv_at hl 4 rfl) ?_
        refine z_iadd (a := (44 + 3 * (8 * t + j3))) (b := k) X rfl rfl dX9_goes_48 ?_
        refine z_lald (j := ((44 + 3 * (8 * t + j3)) + k)) X Z 1 rfl rfl (by omega) (by decide) dX9_goes_49 ?_
        refine lv_lmul hx hb dX9_goes_50 ?_
        refine z_last (cs2 := [wMod g md ((mNow M), (mPast M), (mSav M), (mRef M), (mThen M), (vp_updL v1 (((8 * u) + 8) + j3) ((v1 ((8 * u) + j3)) * ((mNow M) ((44 + 3 * (8 * t + j3)) + k)))), (mFst M), (mWay M), (mMost M), (mHash M))]) (j := (((8 * u) + 8) + j3)) (x := ((v1 ((8 * u) + j3)) * ((mNow M) ((44 + 3 * (8 * t + j3)) + k)))) X Z 4 rfl rfl (by omega) (by decide) rfl dX9_goes_51 (fun H locs Z => ?_)
        refine z_iinc (b := (j3 + 1)) (st := 1) (lv' := [(4, .int (nI (j3 + 1))), (0, .ref (md 0)), (1, .int (nI u)), (2, .int (nI t)), (3, .int (nI k))]) X dX9_goes_52 hl (k := 0) rfl rfl (by decide) (by omega) (by decide) rfl (fun ls hl => ?_)
        refine lv_goto (tgt := 3) hx hb dX9_goes_55 (by decide) ?_
        exact ih3 (j3 + 1) (vp_updL v1 (((8 * u) + 8) + j3) ((v1 ((8 * u) + j3)) * ((mNow M) ((44 + 3 * (8 * t + j3)) + k)))) (by omega) (by have h9 := hR3; rw [zl_X9_goes_3_s] at h9; exact h9) _ _ Z ls (lv_sub hl [0, 1, 2, 3, 4] rfl)
  exact loop_3 8 0 (mLev M) (by omega) rfl _ _ Z ls (lv_sub hl [0, 1, 2, 3, 4] rfl)
def zl_X9_greatest_5 (M : zMo) (u : Nat) : Nat → Nat → Int64 → Int64
  | 0, _, x2 => x2
  | n5 + 1, j5, x2 => (if ((mLev M) ((8 * u) + j5)) ≤ x2 then zl_X9_greatest_5 M u n5 (j5 + 1) x2 else zl_X9_greatest_5 M u n5 (j5 + 1) ((mLev M) ((8 * u) + j5)))
theorem zl_X9_greatest_5_s (M : zMo) (u : Nat) (n5 : Nat) (j5 : Nat) (x2 : Int64) : zl_X9_greatest_5 M u (n5 + 1) j5 x2 = (if ((mLev M) ((8 * u) + j5)) ≤ x2 then zl_X9_greatest_5 M u n5 (j5 + 1) x2 else zl_X9_greatest_5 M u n5 (j5 + 1) ((mLev M) ((8 * u) + j5))) := rfl
def zf_X9_greatest (M : zMo) (u : Nat) : Int64 := (zl_X9_greatest_5 M u 8 0 (0 : Int64))
theorem zf_X9_greatest_e (M : zMo) (u : Nat) : zf_X9_greatest M u = (zl_X9_greatest_5 M u 8 0 (0 : Int64)) := rfl
set_option maxHeartbeats 4000000 in
set_option maxRecDepth 100000 in
theorem zc_X9_greatest (l : Launch) (g : zG) (B : Nat) (md : Nat → Nat) (M : zMo) (u : Nat) (hu : u ≤ 3) : zMet l g B yX9_greatest cX9_greatest 5 (some .long) 1 60 0 0 [.ref (md 0), .int (nI u)] [wMod g md M] (zDet (some (.long (zf_X9_greatest M u))) [wMod g md M]) := by
  refine z_in (plainFor_of_name (by decide)) (Nat.le_of_ble_eq_true rfl) (fun p e R s m args below meth c A Q hRf hRl hRc hRs X Z hnm E ls hl => ?_)
  have hx := X.1
  have hb := X.2.1
  have hown := X.2.2.2.1
  have hts := X.2.2.2.2.1
  have hl : lv_has ls 5 [(0, .ref (md 0)), (1, .int (nI u))] := hl
  refine lv_lconst (v := (0 : Int64)) hx hb dX9_greatest_0 (by decide) ?_
  refine lv_lstore_n (lv' := [(2, .long (0 : Int64)), (0, .ref (md 0)), (1, .int (nI u))]) hx hb dX9_greatest_1 rfl hl (by decide) rfl (fun ls hl => ?_)
  refine lv_iconst (v := (0 : Int32)) hx hb dX9_greatest_2 (by decide) ?_
  refine lv_istore (lv' := [(4, .int (0 : Int32)), (2, .long (0 : Int64)), (0, .ref (md 0)), (1, .int (nI u))]) hx hb dX9_greatest_3 hl (by decide) rfl (fun ls hl => ?_)
  have loop_5 : ∀ (n5 j5 : Nat) (x2 : Int64), j5 + n5 = 8 → zl_X9_greatest_5 M u n5 j5 x2 = (zl_X9_greatest_5 M u 8 0 (0 : Int64)) → ∀ (H : Heap) (locs : List Loc), zM g B A s [wMod g md M] H locs → ∀ ls : Array Slot, lv_has ls 5 [(4, .int (nI j5)), (2, .long x2), (0, .ref (md 0)), (1, .int (nI u))] → W p l e R s m args below meth c H locs 0 0 Q (F0 m 5 ls []) := by
    intro n5
    induction n5 with
    | zero =>
      intro j5 x2 hin5 hR5 H locs Z ls hl
      have e_x2 : x2 = (zl_X9_greatest_5 M u 8 0 (0 : Int64)) := hR5
      subst e_x2
      refine lv_iload hx hb dX9_greatest_5 (lv_at hl 0 rfl) ?_
      refine lv_bipush (v := (8 : Int32)) hx hb dX9_greatest_7 (by decide) ?_
      refine z_icmp_ge (a := j5) (b := 8) (tgt := 52) X rfl rfl (by omega) (by omega) dX9_greatest_9 (by decide) (fun c_1 => ?_) (fun c_1 => ?_)
      · refine lv_lload_n hx hb dX9_greatest_52 rfl (lv_at hl 1 rfl) ?_
        exact z_rl (v := (zl_X9_greatest_5 M u 8 0 (0 : Int64))) E Z (by rw [zf_X9_greatest_e]; exact ⟨rfl, rfl⟩) dX9_greatest_53 (Nat.zero_le _) (Nat.zero_le _)
      · (exfalso; omega)
    | succ n5 ih5 =>
      intro j5 x2 hin5 hR5 H locs Z ls hl
      refine lv_iload hx hb dX9_greatest_5 (lv_at hl 0 rfl) ?_
      refine lv_bipush (v := (8 : Int32)) hx hb dX9_greatest_7 (by decide) ?_
      refine z_icmp_ge (a := j5) (b := 8) (tgt := 52) X rfl rfl (by omega) (by omega) dX9_greatest_9 (by decide) (fun c_2 => ?_) (fun c_2 => ?_)
      · (exfalso; omega)
      · refine lv_aload_n hx hb dX9_greatest_12 rfl (lv_at hl 2 rfl) ?_
        refine z_get X Z 0 rfl (rfl : zCl[7]? = some (RX9, TX9, 10)) zU_X9 5 (by decide) wF_X9_19 rfl rfl dX9_greatest_13 ?_
        refine lv_bipush (v := (8 : Int32)) hx hb dX9_greatest_16 (by decide) ?_
        refine lv_iload_n hx hb dX9_greatest_18 rfl (lv_at hl 3 rfl) ?_
        refine z_imul (a := 8) (b := u) X rfl rfl dX9_greatest_19 ?_
        refine lv_iload hx hb dX9_greatest_20 (lv_at hl 0 rfl) ?_
        refine z_iadd (a := (8 * u)) (b := j5) X rfl rfl dX9_greatest_22 ?_
        refine z_lald (j := ((8 * u) + j5)) X Z 4 rfl rfl (by omega) (by decide) dX9_greatest_23 ?_
        refine lv_lload_n hx hb dX9_greatest_24 rfl (lv_at hl 1 rfl) ?_
        refine z_lc_le (tgt := 44) X dX9_greatest_25 dX9_greatest_26 (by decide) (fun c_3 => ?_) (fun c_3 => ?_)
        · refine lv_lload_n hx hb dX9_greatest_44 rfl (lv_at hl 1 rfl) ?_
          refine lv_lstore_n (lv' := [(2, .long x2), (4, .int (nI j5)), (0, .ref (md 0)), (1, .int (nI u))]) hx hb dX9_greatest_45 rfl hl (by decide) rfl (fun ls hl => ?_)
          refine z_iinc (b := (j5 + 1)) (st := 1) (lv' := [(4, .int (nI (j5 + 1))), (2, .long x2), (0, .ref (md 0)), (1, .int (nI u))]) X dX9_greatest_46 hl (k := 1) rfl rfl (by decide) (by omega) (by decide) rfl (fun ls hl => ?_)
          refine lv_goto (tgt := 5) hx hb dX9_greatest_49 (by decide) ?_
          exact ih5 (j5 + 1) x2 (by omega) (by have h9 := hR5; rw [zl_X9_greatest_5_s, if_pos c_3] at h9; exact h9) _ _ Z ls (lv_sub hl [0, 1, 2, 3] rfl)
        · refine lv_aload_n hx hb dX9_greatest_29 rfl (lv_at hl 2 rfl) ?_
          refine z_get X Z 0 rfl (rfl : zCl[7]? = some (RX9, TX9, 10)) zU_X9 5 (by decide) wF_X9_19 rfl rfl dX9_greatest_30 ?_
          refine lv_bipush (v := (8 : Int32)) hx hb dX9_greatest_33 (by decide) ?_
          refine lv_iload_n hx hb dX9_greatest_35 rfl (lv_at hl 3 rfl) ?_
          refine z_imul (a := 8) (b := u) X rfl rfl dX9_greatest_36 ?_
          refine lv_iload hx hb dX9_greatest_37 (lv_at hl 0 rfl) ?_
          refine z_iadd (a := (8 * u)) (b := j5) X rfl rfl dX9_greatest_39 ?_
          refine z_lald (j := ((8 * u) + j5)) X Z 4 rfl rfl (by omega) (by decide) dX9_greatest_40 ?_
          refine lv_goto (tgt := 45) hx hb dX9_greatest_41 (by decide) ?_
          refine lv_lstore_n (lv' := [(2, .long ((mLev M) ((8 * u) + j5))), (4, .int (nI j5)), (0, .ref (md 0)), (1, .int (nI u))]) hx hb dX9_greatest_45 rfl hl (by decide) rfl (fun ls hl => ?_)
          refine z_iinc (b := (j5 + 1)) (st := 1) (lv' := [(4, .int (nI (j5 + 1))), (2, .long ((mLev M) ((8 * u) + j5))), (0, .ref (md 0)), (1, .int (nI u))]) X dX9_greatest_46 hl (k := 1) rfl rfl (by decide) (by omega) (by decide) rfl (fun ls hl => ?_)
          refine lv_goto (tgt := 5) hx hb dX9_greatest_49 (by decide) ?_
          exact ih5 (j5 + 1) ((mLev M) ((8 * u) + j5)) (by omega) (by have h9 := hR5; rw [zl_X9_greatest_5_s, if_neg c_3] at h9; exact h9) _ _ Z ls (lv_sub hl [0, 1, 2, 3] rfl)
  exact loop_5 8 0 (0 : Int64) (by omega) rfl _ _ Z ls (lv_sub hl [0, 1, 2, 3] rfl)
def zl_X9_lastOne_24 (M : zMo) (u : Nat) (j7 : Nat) (f1 : Int32) : Nat → Nat → Int64 → (Nat → Int64) → Int64 × (Nat → Int64)
  | 0, _, y5, v2 => (y5, v2)
  | n24 + 1, j24, y5, v2 => zl_X9_lastOne_24 M u j7 f1 n24 (j24 + 1) (y5 + (zf_X9_greatest ((mNow M), (mPast M), (mSav M), (mRef M), (mThen M), (zf_X9_goes ((mNow M), (mPast M), (mSav M), (mRef M), (mThen M), v2, f1, (mWay M), (mMost M), (mHash M)) u j7 j24), f1, (mWay M), (mMost M), (mHash M)) (u + 1))) (zf_X9_goes ((mNow M), (mPast M), (mSav M), (mRef M), (mThen M), v2, f1, (mWay M), (mMost M), (mHash M)) u j7 j24)
theorem zl_X9_lastOne_24_s (M : zMo) (u : Nat) (j7 : Nat) (f1 : Int32) (n24 : Nat) (j24 : Nat) (y5 : Int64) (v2 : Nat → Int64) : zl_X9_lastOne_24 M u j7 f1 (n24 + 1) j24 y5 v2 = zl_X9_lastOne_24 M u j7 f1 n24 (j24 + 1) (y5 + (zf_X9_greatest ((mNow M), (mPast M), (mSav M), (mRef M), (mThen M), (zf_X9_goes ((mNow M), (mPast M), (mSav M), (mRef M), (mThen M), v2, f1, (mWay M), (mMost M), (mHash M)) u j7 j24), f1, (mWay M), (mMost M), (mHash M)) (u + 1))) (zf_X9_goes ((mNow M), (mPast M), (mSav M), (mRef M), (mThen M), v2, f1, (mWay M), (mMost M), (mHash M)) u j7 j24) := rfl
def zl_X9_lastOne_7 (M : zMo) (u : Nat) : Nat → Nat → Int64 → (Nat → Int64) → Int32 → Int64 × (Nat → Int64) × Int32
  | 0, _, x2, v1, f1 => (x2, v1, f1)
  | n7 + 1, j7, x2, v1, f1 => (if u = 0 then (if ((zl_X9_lastOne_24 M u j7 f1 3 0 (0 : Int64) v1).1) ≤ x2 then (if ((zl_X9_lastOne_24 M u j7 f1 3 0 (0 : Int64) v1).1) ≤ x2 then zl_X9_lastOne_7 M u n7 (j7 + 1) x2 ((zl_X9_lastOne_24 M u j7 f1 3 0 (0 : Int64) v1).2) f1 else zl_X9_lastOne_7 M u n7 (j7 + 1) ((zl_X9_lastOne_24 M u j7 f1 3 0 (0 : Int64) v1).1) ((zl_X9_lastOne_24 M u j7 f1 3 0 (0 : Int64) v1).2) f1) else (if ((zl_X9_lastOne_24 M u j7 f1 3 0 (0 : Int64) v1).1) ≤ x2 then zl_X9_lastOne_7 M u n7 (j7 + 1) x2 ((zl_X9_lastOne_24 M u j7 f1 3 0 (0 : Int64) v1).2) (nI j7) else zl_X9_lastOne_7 M u n7 (j7 + 1) ((zl_X9_lastOne_24 M u j7 f1 3 0 (0 : Int64) v1).1) ((zl_X9_lastOne_24 M u j7 f1 3 0 (0 : Int64) v1).2) (nI j7))) else (if ((zl_X9_lastOne_24 M u j7 f1 3 0 (0 : Int64) v1).1) ≤ x2 then zl_X9_lastOne_7 M u n7 (j7 + 1) x2 ((zl_X9_lastOne_24 M u j7 f1 3 0 (0 : Int64) v1).2) f1 else zl_X9_lastOne_7 M u n7 (j7 + 1) ((zl_X9_lastOne_24 M u j7 f1 3 0 (0 : Int64) v1).1) ((zl_X9_lastOne_24 M u j7 f1 3 0 (0 : Int64) v1).2) f1))
theorem zl_X9_lastOne_7_s (M : zMo) (u : Nat) (n7 : Nat) (j7 : Nat) (x2 : Int64) (v1 : Nat → Int64) (f1 : Int32) : zl_X9_lastOne_7 M u (n7 + 1) j7 x2 v1 f1 = (if u = 0 then (if ((zl_X9_lastOne_24 M u j7 f1 3 0 (0 : Int64) v1).1) ≤ x2 then (if ((zl_X9_lastOne_24 M u j7 f1 3 0 (0 : Int64) v1).1) ≤ x2 then zl_X9_lastOne_7 M u n7 (j7 + 1) x2 ((zl_X9_lastOne_24 M u j7 f1 3 0 (0 : Int64) v1).2) f1 else zl_X9_lastOne_7 M u n7 (j7 + 1) ((zl_X9_lastOne_24 M u j7 f1 3 0 (0 : Int64) v1).1) ((zl_X9_lastOne_24 M u j7 f1 3 0 (0 : Int64) v1).2) f1) else (if ((zl_X9_lastOne_24 M u j7 f1 3 0 (0 : Int64) v1).1) ≤ x2 then zl_X9_lastOne_7 M u n7 (j7 + 1) x2 ((zl_X9_lastOne_24 M u j7 f1 3 0 (0 : Int64) v1).2) (nI j7) else zl_X9_lastOne_7 M u n7 (j7 + 1) ((zl_X9_lastOne_24 M u j7 f1 3 0 (0 : Int64) v1).1) ((zl_X9_lastOne_24 M u j7 f1 3 0 (0 : Int64) v1).2) (nI j7))) else (if ((zl_X9_lastOne_24 M u j7 f1 3 0 (0 : Int64) v1).1) ≤ x2 then zl_X9_lastOne_7 M u n7 (j7 + 1) x2 ((zl_X9_lastOne_24 M u j7 f1 3 0 (0 : Int64) v1).2) f1 else zl_X9_lastOne_7 M u n7 (j7 + 1) ((zl_X9_lastOne_24 M u j7 f1 3 0 (0 : Int64) v1).1) ((zl_X9_lastOne_24 M u j7 f1 3 0 (0 : Int64) v1).2) f1)) := rfl
def zf_X9_lastOne (M : zMo) (u : Nat) : Int64 × (Nat → Int64) × Int32 := (((zl_X9_lastOne_7 M u (zc (mNow M 43)) 0 (-1 : Int64) (mLev M) (mFst M)).1), ((zl_X9_lastOne_7 M u (zc (mNow M 43)) 0 (-1 : Int64) (mLev M) (mFst M)).2.1), ((zl_X9_lastOne_7 M u (zc (mNow M 43)) 0 (-1 : Int64) (mLev M) (mFst M)).2.2))
theorem zf_X9_lastOne_e (M : zMo) (u : Nat) : zf_X9_lastOne M u = (((zl_X9_lastOne_7 M u (zc (mNow M 43)) 0 (-1 : Int64) (mLev M) (mFst M)).1), ((zl_X9_lastOne_7 M u (zc (mNow M 43)) 0 (-1 : Int64) (mLev M) (mFst M)).2.1), ((zl_X9_lastOne_7 M u (zc (mNow M 43)) 0 (-1 : Int64) (mLev M) (mFst M)).2.2)) := rfl
set_option maxHeartbeats 4000000 in
set_option maxRecDepth 100000 in
theorem zc_X9_lastOne (l : Launch) (g : zG) (B : Nat) (md : Nat → Nat) (M : zMo) (u : Nat) (hN : zNow (mNow M)) (hu : u ≤ 2) : zMet l g B yX9_lastOne cX9_lastOne 8 (some .long) 3 140 0 0 [.ref (md 0), .int (nI u)] [wMod g md M] (zDet (some (.long ((zf_X9_lastOne M u).1))) [wMod g md ((mNow M), (mPast M), (mSav M), (mRef M), (mThen M), ((zf_X9_lastOne M u).2.1), ((zf_X9_lastOne M u).2.2), (mWay M), (mMost M), (mHash M))]) := by
  refine z_in (plainFor_of_name (by decide)) (Nat.le_of_ble_eq_true rfl) (fun p e R s m args below meth c A Q hRf hRl hRc hRs X Z hnm E ls hl => ?_)
  have hx := X.1
  have hb := X.2.1
  have hown := X.2.2.2.1
  have hts := X.2.2.2.2.1
  have hl : lv_has ls 8 [(0, .ref (md 0)), (1, .int (nI u))] := hl
  have hN2 := hN; obtain ⟨he9, hb9, he34, hb34, he43, hb43, he284, hb284, he301, hb301⟩ := hN2
  refine lv_ldc2 (v := (-1 : Int64)) hx hb hown (hts _ wL_X9_148) dX9_lastOne_0 ?_
  refine lv_lstore_n (lv' := [(2, .long (-1 : Int64)), (0, .ref (md 0)), (1, .int (nI u))]) hx hb dX9_lastOne_3 rfl hl (by decide) rfl (fun ls hl => ?_)
  refine lv_iconst (v := (0 : Int32)) hx hb dX9_lastOne_4 (by decide) ?_
  refine lv_istore (lv' := [(4, .int (0 : Int32)), (2, .long (-1 : Int64)), (0, .ref (md 0)), (1, .int (nI u))]) hx hb dX9_lastOne_5 hl (by decide) rfl (fun ls hl => ?_)
  have loop_7 : ∀ (n7 j7 : Nat) (x2 : Int64) (v1 : Nat → Int64) (f1 : Int32), j7 + n7 = (zc (mNow M 43)) → zl_X9_lastOne_7 M u n7 j7 x2 v1 f1 = (zl_X9_lastOne_7 M u (zc (mNow M 43)) 0 (-1 : Int64) (mLev M) (mFst M)) → ∀ (H : Heap) (locs : List Loc), zM g B A s [wMod g md ((mNow M), (mPast M), (mSav M), (mRef M), (mThen M), v1, f1, (mWay M), (mMost M), (mHash M))] H locs → ∀ ls : Array Slot, lv_has ls 8 [(4, .int (nI j7)), (2, .long x2), (0, .ref (md 0)), (1, .int (nI u))] → W p l e R s m args below meth c H locs 0 0 Q (F0 m 7 ls []) := by
    intro n7
    induction n7 with
    | zero =>
      intro j7 x2 v1 f1 hin7 hR7 H locs Z ls hl
      have e_x2 : x2 = (zl_X9_lastOne_7 M u (zc (mNow M 43)) 0 (-1 : Int64) (mLev M) (mFst M)).1 := (congrArg (fun z => z.1) hR7)
      have e_v1 : v1 = (zl_X9_lastOne_7 M u (zc (mNow M 43)) 0 (-1 : Int64) (mLev M) (mFst M)).2.1 := (congrArg (fun z => z.2.1) hR7)
      have e_f1 : f1 = (zl_X9_lastOne_7 M u (zc (mNow M 43)) 0 (-1 : Int64) (mLev M) (mFst M)).2.2 := (congrArg (fun z => z.2.2) hR7)
      subst e_x2
      subst e_v1
      subst e_f1
      refine lv_iload hx hb dX9_lastOne_7 (lv_at hl 0 rfl) ?_
      refine lv_aload_n hx hb dX9_lastOne_9 rfl (lv_at hl 2 rfl) ?_
      refine lv_bipush (v := (43 : Int32)) hx hb dX9_lastOne_10 (by decide) ?_
      refine z_callV (mc := 0) (ms := 0) (As := [.int (43 : Int32)]) (rest := [.int (nI j7)]) (st2 := [.int (nI (zc ((mNow M) 43))), .int (nI j7)]) (cs2 := [wMod g md ((mNow M), (mPast M), (mSav M), (mRef M), (mThen M), ((zl_X9_lastOne_7 M u (zc (mNow M 43)) 0 (-1 : Int64) (mLev M) (mFst M)).2.1), ((zl_X9_lastOne_7 M u (zc (mNow M 43)) 0 (-1 : Int64) (mLev M) (mFst M)).2.2), (mWay M), (mMost M), (mHash M))]) X Z [0] [] [0] 0 7 (zc_X9_many l g B md ((mNow M), (mPast M), (mSav M), (mRef M), (mThen M), ((zl_X9_lastOne_7 M u (zc (mNow M 43)) 0 (-1 : Int64) (mLev M) (mFst M)).2.1), ((zl_X9_lastOne_7 M u (zc (mNow M 43)) 0 (-1 : Int64) (mLev M) (mFst M)).2.2), (mWay M), (mMost M), (mHash M)) 43 (zc ((mNow M) 43)) (by first | assumption | omega | decide) (by first | assumption | omega | decide)) wM_X9_66 wS_X9_many wV_X9_many wK_X9_many wZ_X9 1 1 1 rfl (by decide +kernel) rfl (by decide) rfl rfl rfl (by decide) rfl rfl (rfl : zCl[7]? = some (RX9, TX9, 10)) hl.1 rfl rfl (by rw [hRf, hRl]; exact ⟨Nat.le_of_ble_eq_true rfl, Nat.le_of_ble_eq_true rfl⟩) (Nat.le_of_ble_eq_true rfl) ⟨Nat.zero_le _, Nat.zero_le _⟩ dX9_lastOne_12 (fun H locs Z => ?_)
      refine z_icmp_ge (a := j7) (b := (zc ((mNow M) 43))) (tgt := 101) X rfl rfl (by omega) (by omega) dX9_lastOne_15 (by decide) (fun c_1 => ?_) (fun c_1 => ?_)
      · refine lv_lload_n hx hb dX9_lastOne_101 rfl (lv_at hl 1 rfl) ?_
        exact z_rl (v := ((zl_X9_lastOne_7 M u (zc (mNow M 43)) 0 (-1 : Int64) (mLev M) (mFst M)).1)) E Z (by rw [zf_X9_lastOne_e]; exact ⟨rfl, rfl⟩) dX9_lastOne_102 (Nat.zero_le _) (Nat.zero_le _)
      · (exfalso; omega)
    | succ n7 ih7 =>
      intro j7 x2 v1 f1 hin7 hR7 H locs Z ls hl
      refine lv_iload hx hb dX9_lastOne_7 (lv_at hl 0 rfl) ?_
      refine lv_aload_n hx hb dX9_lastOne_9 rfl (lv_at hl 2 rfl) ?_
      refine lv_bipush (v := (43 : Int32)) hx hb dX9_lastOne_10 (by decide) ?_
      refine z_callV (mc := 0) (ms := 0) (As := [.int (43 : Int32)]) (rest := [.int (nI j7)]) (st2 := [.int (nI (zc ((mNow M) 43))), .int (nI j7)]) (cs2 := [wMod g md ((mNow M), (mPast M), (mSav M), (mRef M), (mThen M), v1, f1, (mWay M), (mMost M), (mHash M))]) X Z [0] [] [0] 0 7 (zc_X9_many l g B md ((mNow M), (mPast M), (mSav M), (mRef M), (mThen M), v1, f1, (mWay M), (mMost M), (mHash M)) 43 (zc ((mNow M) 43)) (by first | assumption | omega | decide) (by first | assumption | omega | decide)) wM_X9_66 wS_X9_many wV_X9_many wK_X9_many wZ_X9 1 1 1 rfl (by decide +kernel) rfl (by decide) rfl rfl rfl (by decide) rfl rfl (rfl : zCl[7]? = some (RX9, TX9, 10)) hl.1 rfl rfl (by rw [hRf, hRl]; exact ⟨Nat.le_of_ble_eq_true rfl, Nat.le_of_ble_eq_true rfl⟩) (Nat.le_of_ble_eq_true rfl) ⟨Nat.zero_le _, Nat.zero_le _⟩ dX9_lastOne_12 (fun H locs Z => ?_)
      refine z_icmp_ge (a := j7) (b := (zc ((mNow M) 43))) (tgt := 101) X rfl rfl (by omega) (by omega) dX9_lastOne_15 (by decide) (fun c_2 => ?_) (fun c_2 => ?_)
      · (exfalso; omega)
      · refine lv_lconst (v := (0 : Int64)) hx hb dX9_lastOne_18 (by decide) ?_
        refine lv_lstore (lv' := [(5, .long (0 : Int64)), (4, .int (nI j7)), (2, .long x2), (0, .ref (md 0)), (1, .int (nI u))]) hx hb dX9_lastOne_19 hl (by decide) rfl (fun ls hl => ?_)
        refine lv_iconst (v := (0 : Int32)) hx hb dX9_lastOne_21 (by decide) ?_
        refine lv_istore (lv' := [(7, .int (0 : Int32)), (5, .long (0 : Int64)), (4, .int (nI j7)), (2, .long x2), (0, .ref (md 0)), (1, .int (nI u))]) hx hb dX9_lastOne_22 hl (by decide) rfl (fun ls hl => ?_)
        have loop_24 : ∀ (n24 j24 : Nat) (y5 : Int64) (v2 : Nat → Int64), j24 + n24 = 3 → zl_X9_lastOne_24 M u j7 f1 n24 j24 y5 v2 = (zl_X9_lastOne_24 M u j7 f1 3 0 (0 : Int64) v1) → ∀ (H : Heap) (locs : List Loc), zM g B A s [wMod g md ((mNow M), (mPast M), (mSav M), (mRef M), (mThen M), v2, f1, (mWay M), (mMost M), (mHash M))] H locs → ∀ ls : Array Slot, lv_has ls 8 [(7, .int (nI j24)), (5, .long y5), (4, .int (nI j7)), (2, .long x2), (0, .ref (md 0)), (1, .int (nI u))] → W p l e R s m args below meth c H locs 0 0 Q (F0 m 24 ls []) := by
          intro n24
          induction n24 with
          | zero =>
            intro j24 y5 v2 hin24 hR24 H locs Z ls hl
            have e_y5 : y5 = (zl_X9_lastOne_24 M u j7 f1 3 0 (0 : Int64) v1).1 := (congrArg (fun z => z.1) hR24)
            have e_v2 : v2 = (zl_X9_lastOne_24 M u j7 f1 3 0 (0 : Int64) v1).2 := (congrArg (fun z => z.2) hR24)
            subst e_y5
            subst e_v2
            refine lv_iload hx hb dX9_lastOne_24 (lv_at hl 0 rfl) ?_
            refine lv_iconst (v := (3 : Int32)) hx hb dX9_lastOne_26 (by decide) ?_
            refine z_icmp_ge (a := j24) (b := 3) (tgt := 57) X rfl rfl (by omega) (by omega) dX9_lastOne_27 (by decide) (fun c_3 => ?_) (fun c_3 => ?_)
            · refine lv_aload_n hx hb dX9_lastOne_57 rfl (lv_at hl 4 rfl) ?_
              refine lv_iload_n hx hb dX9_lastOne_58 rfl (lv_at hl 5 rfl) ?_
              refine z_ifneN (a := u) (tgt := 74) X rfl (by omega) dX9_lastOne_59 (by decide) (fun c_4 => ?_) (fun c_4 => ?_)
              · refine lv_aload_n hx hb dX9_lastOne_74 rfl (lv_at hl 4 rfl) ?_
                refine z_get X Z 0 rfl (rfl : zCl[7]? = some (RX9, TX9, 10)) zU_X9 6 (by decide) wF_X9_157 rfl rfl dX9_lastOne_75 ?_
                refine z_put (cs2 := [wMod g md ((mNow M), (mPast M), (mSav M), (mRef M), (mThen M), ((zl_X9_lastOne_24 M u j7 f1 3 0 (0 : Int64) v1).2), f1, (mWay M), (mMost M), (mHash M))]) (v := .int f1) X Z 0 rfl (rfl : zCl[7]? = some (RX9, TX9, 10)) zU_X9 tyX9 tyX9_ok nmX9 6 (by decide) wF_X9_157 rfl rfl rfl rfl (Nat.le_of_ble_eq_true rfl) rfl dX9_lastOne_78 (fun H locs Z => ?_)
                refine lv_lload hx hb dX9_lastOne_81 (lv_at hl 1 rfl) ?_
                refine lv_lload_n hx hb dX9_lastOne_83 rfl (lv_at hl 3 rfl) ?_
                refine z_lc_le (tgt := 93) X dX9_lastOne_84 dX9_lastOne_85 (by decide) (fun c_5 => ?_) (fun c_5 => ?_)
                · refine lv_lload_n hx hb dX9_lastOne_93 rfl (lv_at hl 3 rfl) ?_
                  refine lv_lstore_n (lv' := [(2, .long x2), (7, .int (nI j24)), (5, .long ((zl_X9_lastOne_24 M u j7 f1 3 0 (0 : Int64) v1).1)), (4, .int (nI j7)), (0, .ref (md 0)), (1, .int (nI u))]) hx hb dX9_lastOne_94 rfl hl (by decide) rfl (fun ls hl => ?_)
                  refine z_iinc (b := (j7 + 1)) (st := 1) (lv' := [(4, .int (nI (j7 + 1))), (2, .long x2), (7, .int (nI j24)), (5, .long ((zl_X9_lastOne_24 M u j7 f1 3 0 (0 : Int64) v1).1)), (0, .ref (md 0)), (1, .int (nI u))]) X dX9_lastOne_95 hl (k := 3) rfl rfl (by decide) (by omega) (by decide) rfl (fun ls hl => ?_)
                  refine lv_goto (tgt := 7) hx hb dX9_lastOne_98 (by decide) ?_
                  exact ih7 (j7 + 1) x2 ((zl_X9_lastOne_24 M u j7 f1 3 0 (0 : Int64) v1).2) f1 (by omega) (by have h9 := hR7; rw [zl_X9_lastOne_7_s, if_neg c_4, if_pos c_5] at h9; exact h9) _ _ Z ls (lv_sub hl [0, 1, 4, 5] rfl)
                · refine lv_lload hx hb dX9_lastOne_88 (lv_at hl 1 rfl) ?_
                  refine lv_goto (tgt := 94) hx hb dX9_lastOne_90 (by decide) ?_
                  refine lv_lstore_n (lv' := [(2, .long ((zl_X9_lastOne_24 M u j7 f1 3 0 (0 : Int64) v1).1)), (7, .int (nI j24)), (5, .long ((zl_X9_lastOne_24 M u j7 f1 3 0 (0 : Int64) v1).1)), (4, .int (nI j7)), (0, .ref (md 0)), (1, .int (nI u))]) hx hb dX9_lastOne_94 rfl hl (by decide) rfl (fun ls hl => ?_)
                  refine z_iinc (b := (j7 + 1)) (st := 1) (lv' := [(4, .int (nI (j7 + 1))), (2, .long ((zl_X9_lastOne_24 M u j7 f1 3 0 (0 : Int64) v1).1)), (7, .int (nI j24)), (5, .long ((zl_X9_lastOne_24 M u j7 f1 3 0 (0 : Int64) v1).1)), (0, .ref (md 0)), (1, .int (nI u))]) X dX9_lastOne_95 hl (k := 3) rfl rfl (by decide) (by omega) (by decide) rfl (fun ls hl => ?_)
                  refine lv_goto (tgt := 7) hx hb dX9_lastOne_98 (by decide) ?_
                  exact ih7 (j7 + 1) ((zl_X9_lastOne_24 M u j7 f1 3 0 (0 : Int64) v1).1) ((zl_X9_lastOne_24 M u j7 f1 3 0 (0 : Int64) v1).2) f1 (by omega) (by have h9 := hR7; rw [zl_X9_lastOne_7_s, if_neg c_4, if_neg c_5] at h9; exact h9) _ _ Z ls (lv_sub hl [0, 1, 4, 5] rfl)
              · refine lv_lload hx hb dX9_lastOne_62 (lv_at hl 1 rfl) ?_
                refine lv_lload_n hx hb dX9_lastOne_64 rfl (lv_at hl 3 rfl) ?_
                refine z_lc_le (tgt := 74) X dX9_lastOne_65 dX9_lastOne_66 (by decide) (fun c_6 => ?_) (fun c_6 => ?_)
                · refine lv_aload_n hx hb dX9_lastOne_74 rfl (lv_at hl 4 rfl) ?_
                  refine z_get X Z 0 rfl (rfl : zCl[7]? = some (RX9, TX9, 10)) zU_X9 6 (by decide) wF_X9_157 rfl rfl dX9_lastOne_75 ?_
                  refine z_put (cs2 := [wMod g md ((mNow M), (mPast M), (mSav M), (mRef M), (mThen M), ((zl_X9_lastOne_24 M u j7 f1 3 0 (0 : Int64) v1).2), f1, (mWay M), (mMost M), (mHash M))]) (v := .int f1) X Z 0 rfl (rfl : zCl[7]? = some (RX9, TX9, 10)) zU_X9 tyX9 tyX9_ok nmX9 6 (by decide) wF_X9_157 rfl rfl rfl rfl (Nat.le_of_ble_eq_true rfl) rfl dX9_lastOne_78 (fun H locs Z => ?_)
                  refine lv_lload hx hb dX9_lastOne_81 (lv_at hl 1 rfl) ?_
                  refine lv_lload_n hx hb dX9_lastOne_83 rfl (lv_at hl 3 rfl) ?_
                  refine z_lc_le (tgt := 93) X dX9_lastOne_84 dX9_lastOne_85 (by decide) (fun c_7 => ?_) (fun c_7 => ?_)
                  · refine lv_lload_n hx hb dX9_lastOne_93 rfl (lv_at hl 3 rfl) ?_
                    refine lv_lstore_n (lv' := [(2, .long x2), (7, .int (nI j24)), (5, .long ((zl_X9_lastOne_24 M u j7 f1 3 0 (0 : Int64) v1).1)), (4, .int (nI j7)), (0, .ref (md 0)), (1, .int (nI u))]) hx hb dX9_lastOne_94 rfl hl (by decide) rfl (fun ls hl => ?_)
                    refine z_iinc (b := (j7 + 1)) (st := 1) (lv' := [(4, .int (nI (j7 + 1))), (2, .long x2), (7, .int (nI j24)), (5, .long ((zl_X9_lastOne_24 M u j7 f1 3 0 (0 : Int64) v1).1)), (0, .ref (md 0)), (1, .int (nI u))]) X dX9_lastOne_95 hl (k := 3) rfl rfl (by decide) (by omega) (by decide) rfl (fun ls hl => ?_)
                    refine lv_goto (tgt := 7) hx hb dX9_lastOne_98 (by decide) ?_
                    exact ih7 (j7 + 1) x2 ((zl_X9_lastOne_24 M u j7 f1 3 0 (0 : Int64) v1).2) f1 (by omega) (by have h9 := hR7; rw [zl_X9_lastOne_7_s, if_pos c_4, if_pos c_6, if_pos c_7] at h9; exact h9) _ _ Z ls (lv_sub hl [0, 1, 4, 5] rfl)
                  · refine lv_lload hx hb dX9_lastOne_88 (lv_at hl 1 rfl) ?_
                    refine lv_goto (tgt := 94) hx hb dX9_lastOne_90 (by decide) ?_
                    refine lv_lstore_n (lv' := [(2, .long ((zl_X9_lastOne_24 M u j7 f1 3 0 (0 : Int64) v1).1)), (7, .int (nI j24)), (5, .long ((zl_X9_lastOne_24 M u j7 f1 3 0 (0 : Int64) v1).1)), (4, .int (nI j7)), (0, .ref (md 0)), (1, .int (nI u))]) hx hb dX9_lastOne_94 rfl hl (by decide) rfl (fun ls hl => ?_)
                    refine z_iinc (b := (j7 + 1)) (st := 1) (lv' := [(4, .int (nI (j7 + 1))), (2, .long ((zl_X9_lastOne_24 M u j7 f1 3 0 (0 : Int64) v1).1)), (7, .int (nI j24)), (5, .long ((zl_X9_lastOne_24 M u j7 f1 3 0 (0 : Int64) v1).1)), (0, .ref (md 0)), (1, .int (nI u))]) X dX9_lastOne_95 hl (k := 3) rfl rfl (by decide) (by omega) (by decide) rfl (fun ls hl => ?_)
                    refine lv_goto (tgt := 7) hx hb dX9_lastOne_98 (by decide) ?_
                    exact ih7 (j7 + 1) ((zl_X9_lastOne_24 M u j7 f1 3 0 (0 : Int64) v1).1) ((zl_X9_lastOne_24 M u j7 f1 3 0 (0 : Int64) v1).2) f1 (by omega) (by have h9 := hR7; rw [zl_X9_lastOne_7_s, if_pos c_4, if_pos c_6, if_neg c_7] at h9; exact h9) _ _ Z ls (lv_sub hl [0, 1, 4, 5] rfl)
                · refine lv_iload hx hb dX9_lastOne_69 (lv_at hl 2 rfl) ?_
                  refine lv_goto (tgt := 78) hx hb dX9_lastOne_71 (by decide) ?_
                  refine z_put (cs2 := [wMod g md ((mNow M), (mPast M), (mSav M), (mRef M), (mThen M), ((zl_X9_lastOne_24 M u j7 f1 3 0 (0 : Int64) v1).2), (nI j7), (mWay M), (mMost M), (mHash M))]) (v := .int (nI j7)) X Z 0 rfl (rfl : zCl[7]? = some (RX9, TX9, 10)) zU_X9 tyX9 tyX9_ok nmX9 6 (by decide) wF_X9_157 rfl rfl rfl rfl (Nat.le_of_ble_eq_true rfl) rfl dX9_lastOne_78 (fun H locs Z => ?_)
                  refine lv_lload hx hb dX9_lastOne_81 (lv_at hl 1 rfl) ?_
                  refine lv_lload_n hx hb dX9_lastOne_83 rfl (lv_at hl 3 rfl) ?_
                  refine z_lc_le (tgt := 93) X dX9_lastOne_84 dX9_lastOne_85 (by decide) (fun c_8 => ?_) (fun c_8 => ?_)
                  · refine lv_lload_n hx hb dX9_lastOne_93 rfl (lv_at hl 3 rfl) ?_
                    refine lv_lstore_n (lv' := [(2, .long x2), (7, .int (nI j24)), (5, .long ((zl_X9_lastOne_24 M u j7 f1 3 0 (0 : Int64) v1).1)), (4, .int (nI j7)), (0, .ref (md 0)), (1, .int (nI u))]) hx hb dX9_lastOne_94 rfl hl (by decide) rfl (fun ls hl => ?_)
                    refine z_iinc (b := (j7 + 1)) (st := 1) (lv' := [(4, .int (nI (j7 + 1))), (2, .long x2), (7, .int (nI j24)), (5, .long ((zl_X9_lastOne_24 M u j7 f1 3 0 (0 : Int64) v1).1)), (0, .ref (md 0)), (1, .int (nI u))]) X dX9_lastOne_95 hl (k := 3) rfl rfl (by decide) (by omega) (by decide) rfl (fun ls hl => ?_)
                    refine lv_goto (tgt := 7) hx hb dX9_lastOne_98 (by decide) ?_
                    exact ih7 (j7 + 1) x2 ((zl_X9_lastOne_24 M u j7 f1 3 0 (0 : Int64) v1).2) (nI j7) (by omega) (by have h9 := hR7; rw [zl_X9_lastOne_7_s, if_pos c_4, if_neg c_6, if_pos c_8] at h9; exact h9) _ _ Z ls (lv_sub hl [0, 1, 4, 5] rfl)
                  · refine lv_lload hx hb dX9_lastOne_88 (lv_at hl 1 rfl) ?_
                    refine lv_goto (tgt := 94) hx hb dX9_lastOne_90 (by decide) ?_
                    refine lv_lstore_n (lv' := [(2, .long ((zl_X9_lastOne_24 M u j7 f1 3 0 (0 : Int64) v1).1)), (7, .int (nI j24)), (5, .long ((zl_X9_lastOne_24 M u j7 f1 3 0 (0 : Int64) v1).1)), (4, .int (nI j7)), (0, .ref (md 0)), (1, .int (nI u))]) hx hb dX9_lastOne_94 rfl hl (by decide) rfl (fun ls hl => ?_)
                    refine z_iinc (b := (j7 + 1)) (st := 1) (lv' := [(4, .int (nI (j7 + 1))), (2, .long ((zl_X9_lastOne_24 M u j7 f1 3 0 (0 : Int64) v1).1)), (7, .int (nI j24)), (5, .long ((zl_X9_lastOne_24 M u j7 f1 3 0 (0 : Int64) v1).1)), (0, .ref (md 0)), (1, .int (nI u))]) X dX9_lastOne_95 hl (k := 3) rfl rfl (by decide) (by omega) (by decide) rfl (fun ls hl => ?_)
                    refine lv_goto (tgt := 7) hx hb dX9_lastOne_98 (by decide) ?_
                    exact ih7 (j7 + 1) ((zl_X9_lastOne_24 M u j7 f1 3 0 (0 : Int64) v1).1) ((zl_X9_lastOne_24 M u j7 f1 3 0 (0 : Int64) v1).2) (nI j7) (by omega) (by have h9 := hR7; rw [zl_X9_lastOne_7_s, if_pos c_4, if_neg c_6, if_neg c_8] at h9; exact h9) _ _ Z ls (lv_sub hl [0, 1, 4, 5] rfl)
            · (exfalso; omega)
          | succ n24 ih24 =>
            intro j24 y5 v2 hin24 hR24 H locs Z ls hl
            refine lv_iload hx hb dX9_lastOne_24 (lv_at hl 0 rfl) ?_
            refine lv_iconst (v := (3 : Int32)) hx hb dX9_lastOne_26 (by decide) ?_
            refine z_icmp_ge (a := j24) (b := 3) (tgt := 57) X rfl rfl (by omega) (by omega) dX9_lastOne_27 (by decide) (fun c_9 => ?_) (fun c_9 => ?_)
            · (exfalso; omega)
            · refine lv_aload_n hx hb dX9_lastOne_30 rfl (lv_at hl 4 rfl) ?_
              refine lv_iload_n hx hb dX9_lastOne_31 rfl (lv_at hl 5 rfl) ?_
              refine lv_iload hx hb dX9_lastOne_32 (lv_at hl 2 rfl) ?_
              refine lv_iload hx hb dX9_lastOne_34 (lv_at hl 0 rfl) ?_
              refine z_callV (mc := 0) (ms := 0) (As := [.int (nI u), .int (nI j7), .int (nI j24)]) (rest := []) (st2 := []) (cs2 := [wMod g md ((mNow M), (mPast M), (mSav M), (mRef M), (mThen M), (zf_X9_goes ((mNow M), (mPast M), (mSav M), (mRef M), (mThen M), v2, f1, (mWay M), (mMost M), (mHash M)) u j7 j24), f1, (mWay M), (mMost M), (mHash M))]) X Z [0] [] [0] 0 7 (zc_X9_goes l g B md ((mNow M), (mPast M), (mSav M), (mRef M), (mThen M), v2, f1, (mWay M), (mMost M), (mHash M)) u j7 j24 (by first | assumption | omega | decide) (by first | assumption | omega | decide) (by first | assumption | omega | decide)) wM_X9_150 wS_X9_goes wV_X9_goes wK_X9_goes wZ_X9 3 1 1 rfl (by decide +kernel) rfl (by decide) rfl rfl rfl (by decide) rfl rfl (rfl : zCl[7]? = some (RX9, TX9, 10)) hl.1 rfl rfl (by rw [hRf, hRl]; exact ⟨Nat.le_of_ble_eq_true rfl, Nat.le_of_ble_eq_true rfl⟩) (Nat.le_of_ble_eq_true rfl) ⟨Nat.zero_le _, Nat.zero_le _⟩ dX9_lastOne_36 (fun H locs Z => ?_)
              refine lv_lload hx hb dX9_lastOne_39 (lv_at hl 1 rfl) ?_
              refine lv_aload_n hx hb dX9_lastOne_41 rfl (lv_at hl 4 rfl) ?_
              refine lv_iload_n hx hb dX9_lastOne_42 rfl (lv_at hl 5 rfl) ?_
              refine lv_iconst (v := (1 : Int32)) hx hb dX9_lastOne_43 (by decide) ?_
              refine z_iadd (a := u) (b := 1) X rfl rfl dX9_lastOne_44 ?_
              refine z_callV (mc := 0) (ms := 0) (As := [.int (nI (u + 1))]) (rest := [.long y5]) (st2 := [.long (zf_X9_greatest ((mNow M), (mPast M), (mSav M), (mRef M), (mThen M), (zf_X9_goes ((mNow M), (mPast M), (mSav M), (mRef M), (mThen M), v2, f1, (mWay M), (mMost M), (mHash M)) u j7 j24), f1, (mWay M), (mMost M), (mHash M)) (u + 1)), .long y5]) (cs2 := [wMod g md ((mNow M), (mPast M), (mSav M), (mRef M), (mThen M), (zf_X9_goes ((mNow M), (mPast M), (mSav M), (mRef M), (mThen M), v2, f1, (mWay M), (mMost M), (mHash M)) u j7 j24), f1, (mWay M), (mMost M), (mHash M))]) X Z [0] [] [0] 0 7 (zc_X9_greatest l g B md ((mNow M), (mPast M), (mSav M), (mRef M), (mThen M), (zf_X9_goes ((mNow M), (mPast M), (mSav M), (mRef M), (mThen M), v2, f1, (mWay M), (mMost M), (mHash M)) u j7 j24), f1, (mWay M), (mMost M), (mHash M)) (u + 1) (by first | assumption | omega | decide)) wM_X9_154 wS_X9_greatest wV_X9_greatest wK_X9_greatest wZ_X9 1 1 1 rfl (by decide +kernel) rfl (by decide) rfl rfl rfl (by decide) rfl rfl (rfl : zCl[7]? = some (RX9, TX9, 10)) hl.1 rfl rfl (by rw [hRf, hRl]; exact ⟨Nat.le_of_ble_eq_true rfl, Nat.le_of_ble_eq_true rfl⟩) (Nat.le_of_ble_eq_true rfl) ⟨Nat.zero_le _, Nat.zero_le _⟩ dX9_lastOne_45 (fun H locs Z => ?_)
              refine lv_ladd hx hb dX9_lastOne_48 ?_
              refine lv_lstore (lv' := [(5, .long (y5 + (zf_X9_greatest ((mNow M), (mPast M), (mSav M), (mRef M), (mThen M), (zf_X9_goes ((mNow M), (mPast M), (mSav M), (mRef M), (mThen M), v2, f1, (mWay M), (mMost M), (mHash M)) u j7 j24), f1, (mWay M), (mMost M), (mHash M)) (u + 1)))), (7, .int (nI j24)), (4, .int (nI j7)), (2, .long x2), (0, .ref (md 0)), (1, .int (nI u))]) hx hb dX9_lastOne_49 hl (by decide) rfl (fun ls hl => ?_)
              refine z_iinc (b := (j24 + 1)) (st := 1) (lv' := [(7, .int (nI (j24 + 1))), (5, .long (y5 + (zf_X9_greatest ((mNow M), (mPast M), (mSav M), (mRef M), (mThen M), (zf_X9_goes ((mNow M), (mPast M), (mSav M), (mRef M), (mThen M), v2, f1, (mWay M), (mMost M), (mHash M)) u j7 j24), f1, (mWay M), (mMost M), (mHash M)) (u + 1)))), (4, .int (nI j7)), (2, .long x2), (0, .ref (md 0)), (1, .int (nI u))]) X dX9_lastOne_51 hl (k := 1) rfl rfl (by decide) (by omega) (by decide) rfl (fun ls hl => ?_)
              refine lv_goto (tgt := 24) hx hb dX9_lastOne_54 (by decide) ?_
              exact ih24 (j24 + 1) (y5 + (zf_X9_greatest ((mNow M), (mPast M), (mSav M), (mRef M), (mThen M), (zf_X9_goes ((mNow M), (mPast M), (mSav M), (mRef M), (mThen M), v2, f1, (mWay M), (mMost M), (mHash M)) u j7 j24), f1, (mWay M), (mMost M), (mHash M)) (u + 1))) (zf_X9_goes ((mNow M), (mPast M), (mSav M), (mRef M), (mThen M), v2, f1, (mWay M), (mMost M), (mHash M)) u j7 j24) (by omega) (by have h9 := hR24; rw [zl_X9_lastOne_24_s] at h9; exact h9) _ _ Z ls (lv_sub hl [0, 1, 2, 3, 4, 5] rfl)
        exact loop_24 3 0 (0 : Int64) v1 (by omega) rfl _ _ Z ls (lv_sub hl [0, 1, 2, 3, 4, 5] rfl)
  exact loop_7 (zc (mNow M 43)) 0 (-1 : Int64) (mLev M) (mFst M) (by omega) rfl _ _ Z ls (lv_sub hl [0, 1, 2, 3] rfl)
def zl_X9_lastTwo_24 (M : zMo) (u : Nat) (j7 : Nat) : Nat → Nat → Int64 → (Nat → Int64) → Int32 → Int64 × (Nat → Int64) × Int32
  | 0, _, y5, v2, f2 => (y5, v2, f2)
  | n24 + 1, j24, y5, v2, f2 => zl_X9_lastTwo_24 M u j7 n24 (j24 + 1) (y5 + ((zf_X9_lastOne ((mNow M), (mPast M), (mSav M), (mRef M), (mThen M), (zf_X9_goes ((mNow M), (mPast M), (mSav M), (mRef M), (mThen M), v2, f2, (mWay M), (mMost M), (mHash M)) u j7 j24), f2, (mWay M), (mMost M), (mHash M)) (u + 1)).1)) ((zf_X9_lastOne ((mNow M), (mPast M), (mSav M), (mRef M), (mThen M), (zf_X9_goes ((mNow M), (mPast M), (mSav M), (mRef M), (mThen M), v2, f2, (mWay M), (mMost M), (mHash M)) u j7 j24), f2, (mWay M), (mMost M), (mHash M)) (u + 1)).2.1) ((zf_X9_lastOne ((mNow M), (mPast M), (mSav M), (mRef M), (mThen M), (zf_X9_goes ((mNow M), (mPast M), (mSav M), (mRef M), (mThen M), v2, f2, (mWay M), (mMost M), (mHash M)) u j7 j24), f2, (mWay M), (mMost M), (mHash M)) (u + 1)).2.2)
theorem zl_X9_lastTwo_24_s (M : zMo) (u : Nat) (j7 : Nat) (n24 : Nat) (j24 : Nat) (y5 : Int64) (v2 : Nat → Int64) (f2 : Int32) : zl_X9_lastTwo_24 M u j7 (n24 + 1) j24 y5 v2 f2 = zl_X9_lastTwo_24 M u j7 n24 (j24 + 1) (y5 + ((zf_X9_lastOne ((mNow M), (mPast M), (mSav M), (mRef M), (mThen M), (zf_X9_goes ((mNow M), (mPast M), (mSav M), (mRef M), (mThen M), v2, f2, (mWay M), (mMost M), (mHash M)) u j7 j24), f2, (mWay M), (mMost M), (mHash M)) (u + 1)).1)) ((zf_X9_lastOne ((mNow M), (mPast M), (mSav M), (mRef M), (mThen M), (zf_X9_goes ((mNow M), (mPast M), (mSav M), (mRef M), (mThen M), v2, f2, (mWay M), (mMost M), (mHash M)) u j7 j24), f2, (mWay M), (mMost M), (mHash M)) (u + 1)).2.1) ((zf_X9_lastOne ((mNow M), (mPast M), (mSav M), (mRef M), (mThen M), (zf_X9_goes ((mNow M), (mPast M), (mSav M), (mRef M), (mThen M), v2, f2, (mWay M), (mMost M), (mHash M)) u j7 j24), f2, (mWay M), (mMost M), (mHash M)) (u + 1)).2.2) := rfl
def zl_X9_lastTwo_7 (M : zMo) (u : Nat) : Nat → Nat → Int64 → (Nat → Int64) → Int32 → Int64 × (Nat → Int64) × Int32
  | 0, _, x2, v1, f1 => (x2, v1, f1)
  | n7 + 1, j7, x2, v1, f1 => (if u = 0 then (if ((zl_X9_lastTwo_24 M u j7 3 0 (0 : Int64) v1 f1).1) ≤ x2 then (if ((zl_X9_lastTwo_24 M u j7 3 0 (0 : Int64) v1 f1).1) ≤ x2 then zl_X9_lastTwo_7 M u n7 (j7 + 1) x2 ((zl_X9_lastTwo_24 M u j7 3 0 (0 : Int64) v1 f1).2.1) ((zl_X9_lastTwo_24 M u j7 3 0 (0 : Int64) v1 f1).2.2) else zl_X9_lastTwo_7 M u n7 (j7 + 1) ((zl_X9_lastTwo_24 M u j7 3 0 (0 : Int64) v1 f1).1) ((zl_X9_lastTwo_24 M u j7 3 0 (0 : Int64) v1 f1).2.1) ((zl_X9_lastTwo_24 M u j7 3 0 (0 : Int64) v1 f1).2.2)) else (if ((zl_X9_lastTwo_24 M u j7 3 0 (0 : Int64) v1 f1).1) ≤ x2 then zl_X9_lastTwo_7 M u n7 (j7 + 1) x2 ((zl_X9_lastTwo_24 M u j7 3 0 (0 : Int64) v1 f1).2.1) (nI j7) else zl_X9_lastTwo_7 M u n7 (j7 + 1) ((zl_X9_lastTwo_24 M u j7 3 0 (0 : Int64) v1 f1).1) ((zl_X9_lastTwo_24 M u j7 3 0 (0 : Int64) v1 f1).2.1) (nI j7))) else (if ((zl_X9_lastTwo_24 M u j7 3 0 (0 : Int64) v1 f1).1) ≤ x2 then zl_X9_lastTwo_7 M u n7 (j7 + 1) x2 ((zl_X9_lastTwo_24 M u j7 3 0 (0 : Int64) v1 f1).2.1) ((zl_X9_lastTwo_24 M u j7 3 0 (0 : Int64) v1 f1).2.2) else zl_X9_lastTwo_7 M u n7 (j7 + 1) ((zl_X9_lastTwo_24 M u j7 3 0 (0 : Int64) v1 f1).1) ((zl_X9_lastTwo_24 M u j7 3 0 (0 : Int64) v1 f1).2.1) ((zl_X9_lastTwo_24 M u j7 3 0 (0 : Int64) v1 f1).2.2)))
theorem zl_X9_lastTwo_7_s (M : zMo) (u : Nat) (n7 : Nat) (j7 : Nat) (x2 : Int64) (v1 : Nat → Int64) (f1 : Int32) : zl_X9_lastTwo_7 M u (n7 + 1) j7 x2 v1 f1 = (if u = 0 then (if ((zl_X9_lastTwo_24 M u j7 3 0 (0 : Int64) v1 f1).1) ≤ x2 then (if ((zl_X9_lastTwo_24 M u j7 3 0 (0 : Int64) v1 f1).1) ≤ x2 then zl_X9_lastTwo_7 M u n7 (j7 + 1) x2 ((zl_X9_lastTwo_24 M u j7 3 0 (0 : Int64) v1 f1).2.1) ((zl_X9_lastTwo_24 M u j7 3 0 (0 : Int64) v1 f1).2.2) else zl_X9_lastTwo_7 M u n7 (j7 + 1) ((zl_X9_lastTwo_24 M u j7 3 0 (0 : Int64) v1 f1).1) ((zl_X9_lastTwo_24 M u j7 3 0 (0 : Int64) v1 f1).2.1) ((zl_X9_lastTwo_24 M u j7 3 0 (0 : Int64) v1 f1).2.2)) else (if ((zl_X9_lastTwo_24 M u j7 3 0 (0 : Int64) v1 f1).1) ≤ x2 then zl_X9_lastTwo_7 M u n7 (j7 + 1) x2 ((zl_X9_lastTwo_24 M u j7 3 0 (0 : Int64) v1 f1).2.1) (nI j7) else zl_X9_lastTwo_7 M u n7 (j7 + 1) ((zl_X9_lastTwo_24 M u j7 3 0 (0 : Int64) v1 f1).1) ((zl_X9_lastTwo_24 M u j7 3 0 (0 : Int64) v1 f1).2.1) (nI j7))) else (if ((zl_X9_lastTwo_24 M u j7 3 0 (0 : Int64) v1 f1).1) ≤ x2 then zl_X9_lastTwo_7 M u n7 (j7 + 1) x2 ((zl_X9_lastTwo_24 M u j7 3 0 (0 : Int64) v1 f1).2.1) ((zl_X9_lastTwo_24 M u j7 3 0 (0 : Int64) v1 f1).2.2) else zl_X9_lastTwo_7 M u n7 (j7 + 1) ((zl_X9_lastTwo_24 M u j7 3 0 (0 : Int64) v1 f1).1) ((zl_X9_lastTwo_24 M u j7 3 0 (0 : Int64) v1 f1).2.1) ((zl_X9_lastTwo_24 M u j7 3 0 (0 : Int64) v1 f1).2.2))) := rfl
def zf_X9_lastTwo (M : zMo) (u : Nat) : Int64 × (Nat → Int64) × Int32 := (((zl_X9_lastTwo_7 M u (zc (mNow M 43)) 0 (-1 : Int64) (mLev M) (mFst M)).1), ((zl_X9_lastTwo_7 M u (zc (mNow M 43)) 0 (-1 : Int64) (mLev M) (mFst M)).2.1), ((zl_X9_lastTwo_7 M u (zc (mNow M 43)) 0 (-1 : Int64) (mLev M) (mFst M)).2.2))
theorem zf_X9_lastTwo_e (M : zMo) (u : Nat) : zf_X9_lastTwo M u = (((zl_X9_lastTwo_7 M u (zc (mNow M 43)) 0 (-1 : Int64) (mLev M) (mFst M)).1), ((zl_X9_lastTwo_7 M u (zc (mNow M 43)) 0 (-1 : Int64) (mLev M) (mFst M)).2.1), ((zl_X9_lastTwo_7 M u (zc (mNow M 43)) 0 (-1 : Int64) (mLev M) (mFst M)).2.2)) := rfl
set_option maxHeartbeats 4000000 in
set_option maxRecDepth 100000 in
theorem zc_X9_lastTwo (l : Launch) (g : zG) (B : Nat) (md : Nat → Nat) (M : zMo) (u : Nat) (hN : zNow (mNow M)) (hu : u ≤ 1) : zMet l g B yX9_lastTwo cX9_lastTwo 8 (some .long) 4 180 0 0 [.ref (md 0), .int (nI u)] [wMod g md M] (zDet (some (.long ((zf_X9_lastTwo M u).1))) [wMod g md ((mNow M), (mPast M), (mSav M), (mRef M), (mThen M), ((zf_X9_lastTwo M u).2.1), ((zf_X9_lastTwo M u).2.2), (mWay M), (mMost M), (mHash M))]) := by
  refine z_in (plainFor_of_name (by decide)) (Nat.le_of_ble_eq_true rfl) (fun p e R s m args below meth c A Q hRf hRl hRc hRs X Z hnm E ls hl => ?_)
  have hx := X.1
  have hb := X.2.1
  have hown := X.2.2.2.1
  have hts := X.2.2.2.2.1
  have hl : lv_has ls 8 [(0, .ref (md 0)), (1, .int (nI u))] := hl
  have hN2 := hN; obtain ⟨he9, hb9, he34, hb34, he43, hb43, he284, hb284, he301, hb301⟩ := hN2
  refine lv_ldc2 (v := (-1 : Int64)) hx hb hown (hts _ wL_X9_148) dX9_lastTwo_0 ?_
  refine lv_lstore_n (lv' := [(2, .long (-1 : Int64)), (0, .ref (md 0)), (1, .int (nI u))]) hx hb dX9_lastTwo_3 rfl hl (by decide) rfl (fun ls hl => ?_)
  refine lv_iconst (v := (0 : Int32)) hx hb dX9_lastTwo_4 (by decide) ?_
  refine lv_istore (lv' := [(4, .int (0 : Int32)), (2, .long (-1 : Int64)), (0, .ref (md 0)), (1, .int (nI u))]) hx hb dX9_lastTwo_5 hl (by decide) rfl (fun ls hl => ?_)
  have loop_7 : ∀ (n7 j7 : Nat) (x2 : Int64) (v1 : Nat → Int64) (f1 : Int32), j7 + n7 = (zc (mNow M 43)) → zl_X9_lastTwo_7 M u n7 j7 x2 v1 f1 = (zl_X9_lastTwo_7 M u (zc (mNow M 43)) 0 (-1 : Int64) (mLev M) (mFst M)) → ∀ (H : Heap) (locs : List Loc), zM g B A s [wMod g md ((mNow M), (mPast M), (mSav M), (mRef M), (mThen M), v1, f1, (mWay M), (mMost M), (mHash M))] H locs → ∀ ls : Array Slot, lv_has ls 8 [(4, .int (nI j7)), (2, .long x2), (0, .ref (md 0)), (1, .int (nI u))] → W p l e R s m args below meth c H locs 0 0 Q (F0 m 7 ls []) := by
    intro n7
    induction n7 with
    | zero =>
      intro j7 x2 v1 f1 hin7 hR7 H locs Z ls hl
      have e_x2 : x2 = (zl_X9_lastTwo_7 M u (zc (mNow M 43)) 0 (-1 : Int64) (mLev M) (mFst M)).1 := (congrArg (fun z => z.1) hR7)
      have e_v1 : v1 = (zl_X9_lastTwo_7 M u (zc (mNow M 43)) 0 (-1 : Int64) (mLev M) (mFst M)).2.1 := (congrArg (fun z => z.2.1) hR7)
      have e_f1 : f1 = (zl_X9_lastTwo_7 M u (zc (mNow M 43)) 0 (-1 : Int64) (mLev M) (mFst M)).2.2 := (congrArg (fun z => z.2.2) hR7)
      subst e_x2
      subst e_v1
      subst e_f1
      refine lv_iload hx hb dX9_lastTwo_7 (lv_at hl 0 rfl) ?_
      refine lv_aload_n hx hb dX9_lastTwo_9 rfl (lv_at hl 2 rfl) ?_
      refine lv_bipush (v := (43 : Int32)) hx hb dX9_lastTwo_10 (by decide) ?_
      refine z_callV (mc := 0) (ms := 0) (As := [.int (43 : Int32)]) (rest := [.int (nI j7)]) (st2 := [.int (nI (zc ((mNow M) 43))), .int (nI j7)]) (cs2 := [wMod g md ((mNow M), (mPast M), (mSav M), (mRef M), (mThen M), ((zl_X9_lastTwo_7 M u (zc (mNow M 43)) 0 (-1 : Int64) (mLev M) (mFst M)).2.1), ((zl_X9_lastTwo_7 M u (zc (mNow M 43)) 0 (-1 : Int64) (mLev M) (mFst M)).2.2), (mWay M), (mMost M), (mHash M))]) X Z [0] [] [0] 0 7 (zc_X9_many l g B md ((mNow M), (mPast M), (mSav M), (mRef M), (mThen M), ((zl_X9_lastTwo_7 M u (zc (mNow M 43)) 0 (-1 : Int64) (mLev M) (mFst M)).2.1), ((zl_X9_lastTwo_7 M u (zc (mNow M 43)) 0 (-1 : Int64) (mLev M) (mFst M)).2.2), (mWay M), (mMost M), (mHash M)) 43 (zc ((mNow M) 43)) (by first | assumption | omega | decide) (by first | assumption | omega | decide)) wM_X9_66 wS_X9_many wV_X9_many wK_X9_many wZ_X9 1 1 1 rfl (by decide +kernel) rfl (by decide) rfl rfl rfl (by decide) rfl rfl (rfl : zCl[7]? = some (RX9, TX9, 10)) hl.1 rfl rfl (by rw [hRf, hRl]; exact ⟨Nat.le_of_ble_eq_true rfl, Nat.le_of_ble_eq_true rfl⟩) (Nat.le_of_ble_eq_true rfl) ⟨Nat.zero_le _, Nat.zero_le _⟩ dX9_lastTwo_12 (fun H locs Z => ?_)
      refine z_icmp_ge (a := j7) (b := (zc ((mNow M) 43))) (tgt := 101) X rfl rfl (by omega) (by omega) dX9_lastTwo_15 (by decide) (fun c_1 => ?_) (fun c_1 => ?_)
      · refine lv_lload_n hx hb dX9_lastTwo_101 rfl (lv_at hl 1 rfl) ?_
        exact z_rl (v := ((zl_X9_lastTwo_7 M u (zc (mNow M 43)) 0 (-1 : Int64) (mLev M) (mFst M)).1)) E Z (by rw [zf_X9_lastTwo_e]; exact ⟨rfl, rfl⟩) dX9_lastTwo_102 (Nat.zero_le _) (Nat.zero_le _)
      · (exfalso; omega)
    | succ n7 ih7 =>
      intro j7 x2 v1 f1 hin7 hR7 H locs Z ls hl
      refine lv_iload hx hb dX9_lastTwo_7 (lv_at hl 0 rfl) ?_
      refine lv_aload_n hx hb dX9_lastTwo_9 rfl (lv_at hl 2 rfl) ?_
      refine lv_bipush (v := (43 : Int32)) hx hb dX9_lastTwo_10 (by decide) ?_
      refine z_callV (mc := 0) (ms := 0) (As := [.int (43 : Int32)]) (rest := [.int (nI j7)]) (st2 := [.int (nI (zc ((mNow M) 43))), .int (nI j7)]) (cs2 := [wMod g md ((mNow M), (mPast M), (mSav M), (mRef M), (mThen M), v1, f1, (mWay M), (mMost M), (mHash M))]) X Z [0] [] [0] 0 7 (zc_X9_many l g B md ((mNow M), (mPast M), (mSav M), (mRef M), (mThen M), v1, f1, (mWay M), (mMost M), (mHash M)) 43 (zc ((mNow M) 43)) (by first | assumption | omega | decide) (by first | assumption | omega | decide)) wM_X9_66 wS_X9_many wV_X9_many wK_X9_many wZ_X9 1 1 1 rfl (by decide +kernel) rfl (by decide) rfl rfl rfl (by decide) rfl rfl (rfl : zCl[7]? = some (RX9, TX9, 10)) hl.1 rfl rfl (by rw [hRf, hRl]; exact ⟨Nat.le_of_ble_eq_true rfl, Nat.le_of_ble_eq_true rfl⟩) (Nat.le_of_ble_eq_true rfl) ⟨Nat.zero_le _, Nat.zero_le _⟩ dX9_lastTwo_12 (fun H locs Z => ?_)
      refine z_icmp_ge (a := j7) (b := (zc ((mNow M) 43))) (tgt := 101) X rfl rfl (by omega) (by omega) dX9_lastTwo_15 (by decide) (fun c_2 => ?_) (fun c_2 => ?_)
      · (exfalso; omega)
      · refine lv_lconst (v := (0 : Int64)) hx hb dX9_lastTwo_18 (by decide) ?_
        refine lv_lstore (lv' := [(5, .long (0 : Int64)), (4, .int (nI j7)), (2, .long x2), (0, .ref (md 0)), (1, .int (nI u))]) hx hb dX9_lastTwo_19 hl (by decide) rfl (fun ls hl => ?_)
        refine lv_iconst (v := (0 : Int32)) hx hb dX9_lastTwo_21 (by decide) ?_
        refine lv_istore (lv' := [(7, .int (0 : Int32)), (5, .long (0 : Int64)), (4, .int (nI j7)), (2, .long x2), (0, .ref (md 0)), (1, .int (nI u))]) hx hb dX9_lastTwo_22 hl (by decide) rfl (fun ls hl => ?_)
        have loop_24 : ∀ (n24 j24 : Nat) (y5 : Int64) (v2 : Nat → Int64) (f2 : Int32), j24 + n24 = 3 → zl_X9_lastTwo_24 M u j7 n24 j24 y5 v2 f2 = (zl_X9_lastTwo_24 M u j7 3 0 (0 : Int64) v1 f1) → ∀ (H : Heap) (locs : List Loc), zM g B A s [wMod g md ((mNow M), (mPast M), (mSav M), (mRef M), (mThen M), v2, f2, (mWay M), (mMost M), (mHash M))] H locs → ∀ ls : Array Slot, lv_has ls 8 [(7, .int (nI j24)), (5, .long y5), (4, .int (nI j7)), (2, .long x2), (0, .ref (md 0)), (1, .int (nI u))] → W p l e R s m args below meth c H locs 0 0 Q (F0 m 24 ls []) := by
          intro n24
          induction n24 with
          | zero =>
            intro j24 y5 v2 f2 hin24 hR24 H locs Z ls hl
            have e_y5 : y5 = (zl_X9_lastTwo_24 M u j7 3 0 (0 : Int64) v1 f1).1 := (congrArg (fun z => z.1) hR24)
            have e_v2 : v2 = (zl_X9_lastTwo_24 M u j7 3 0 (0 : Int64) v1 f1).2.1 := (congrArg (fun z => z.2.1) hR24)
            have e_f2 : f2 = (zl_X9_lastTwo_24 M u j7 3 0 (0 : Int64) v1 f1).2.2 := (congrArg (fun z => z.2.2) hR24)
            subst e_y5
            subst e_v2
            subst e_f2
            refine lv_iload hx hb dX9_lastTwo_24 (lv_at hl 0 rfl) ?_
            refine lv_iconst (v := (3 : Int32)) hx hb dX9_lastTwo_26 (by decide) ?_
            refine z_icmp_ge (a := j24) (b := 3) (tgt := 57) X rfl rfl (by omega) (by omega) dX9_lastTwo_27 (by decide) (fun c_3 => ?_) (fun c_3 => ?_)
            · refine lv_aload_n hx hb dX9_lastTwo_57 rfl (lv_at hl 4 rfl) ?_
              refine lv_iload_n hx hb dX9_lastTwo_58 rfl (lv_at hl 5 rfl) ?_
              refine z_ifneN (a := u) (tgt := 74) X rfl (by omega) dX9_lastTwo_59 (by decide) (fun c_4 => ?_) (fun c_4 => ?_)
              · refine lv_aload_n hx hb dX9_lastTwo_74 rfl (lv_at hl 4 rfl) ?_
                refine z_get X Z 0 rfl (rfl : zCl[7]? = some (RX9, TX9, 10)) zU_X9 6 (by decide) wF_X9_157 rfl rfl dX9_lastTwo_75 ?_
                refine z_put (cs2 := [wMod g md ((mNow M), (mPast M), (mSav M), (mRef M), (mThen M), ((zl_X9_lastTwo_24 M u j7 3 0 (0 : Int64) v1 f1).2.1), ((zl_X9_lastTwo_24 M u j7 3 0 (0 : Int64) v1 f1).2.2), (mWay M), (mMost M), (mHash M))]) (v := .int ((zl_X9_lastTwo_24 M u j7 3 0 (0 : Int64) v1 f1).2.2)) X Z 0 rfl (rfl : zCl[7]? = some (RX9, TX9, 10)) zU_X9 tyX9 tyX9_ok nmX9 6 (by decide) wF_X9_157 rfl rfl rfl rfl (Nat.le_of_ble_eq_true rfl) rfl dX9_lastTwo_78 (fun H locs Z => ?_)
                refine lv_lload hx hb dX9_lastTwo_81 (lv_at hl 1 rfl) ?_
                refine lv_lload_n hx hb dX9_lastTwo_83 rfl (lv_at hl 3 rfl) ?_
                refine z_lc_le (tgt := 93) X dX9_lastTwo_84 dX9_lastTwo_85 (by decide) (fun c_5 => ?_) (fun c_5 => ?_)
                · refine lv_lload_n hx hb dX9_lastTwo_93 rfl (lv_at hl 3 rfl) ?_
                  refine lv_lstore_n (lv' := [(2, .long x2), (7, .int (nI j24)), (5, .long ((zl_X9_lastTwo_24 M u j7 3 0 (0 : Int64) v1 f1).1)), (4, .int (nI j7)), (0, .ref (md 0)), (1, .int (nI u))]) hx hb dX9_lastTwo_94 rfl hl (by decide) rfl (fun ls hl => ?_)
                  refine z_iinc (b := (j7 + 1)) (st := 1) (lv' := [(4, .int (nI (j7 + 1))), (2, .long x2), (7, .int (nI j24)), (5, .long ((zl_X9_lastTwo_24 M u j7 3 0 (0 : Int64) v1 f1).1)), (0, .ref (md 0)), (1, .int (nI u))]) X dX9_lastTwo_95 hl (k := 3) rfl rfl (by decide) (by omega) (by decide) rfl (fun ls hl => ?_)
                  refine lv_goto (tgt := 7) hx hb dX9_lastTwo_98 (by decide) ?_
                  exact ih7 (j7 + 1) x2 ((zl_X9_lastTwo_24 M u j7 3 0 (0 : Int64) v1 f1).2.1) ((zl_X9_lastTwo_24 M u j7 3 0 (0 : Int64) v1 f1).2.2) (by omega) (by have h9 := hR7; rw [zl_X9_lastTwo_7_s, if_neg c_4, if_pos c_5] at h9; exact h9) _ _ Z ls (lv_sub hl [0, 1, 4, 5] rfl)
                · refine lv_lload hx hb dX9_lastTwo_88 (lv_at hl 1 rfl) ?_
                  refine lv_goto (tgt := 94) hx hb dX9_lastTwo_90 (by decide) ?_
                  refine lv_lstore_n (lv' := [(2, .long ((zl_X9_lastTwo_24 M u j7 3 0 (0 : Int64) v1 f1).1)), (7, .int (nI j24)), (5, .long ((zl_X9_lastTwo_24 M u j7 3 0 (0 : Int64) v1 f1).1)), (4, .int (nI j7)), (0, .ref (md 0)), (1, .int (nI u))]) hx hb dX9_lastTwo_94 rfl hl (by decide) rfl (fun ls hl => ?_)
                  refine z_iinc (b := (j7 + 1)) (st := 1) (lv' := [(4, .int (nI (j7 + 1))), (2, .long ((zl_X9_lastTwo_24 M u j7 3 0 (0 : Int64) v1 f1).1)), (7, .int (nI j24)), (5, .long ((zl_X9_lastTwo_24 M u j7 3 0 (0 : Int64) v1 f1).1)), (0, .ref (md 0)), (1, .int (nI u))]) X dX9_lastTwo_95 hl (k := 3) rfl rfl (by decide) (by omega) (by decide) rfl (fun ls hl => ?_)
                  refine lv_goto (tgt := 7) hx hb dX9_lastTwo_98 (by decide) ?_
                  exact ih7 (j7 + 1) ((zl_X9_lastTwo_24 M u j7 3 0 (0 : Int64) v1 f1).1) ((zl_X9_lastTwo_24 M u j7 3 0 (0 : Int64) v1 f1).2.1) ((zl_X9_lastTwo_24 M u j7 3 0 (0 : Int64) v1 f1).2.2) (by omega) (by have h9 := hR7; rw [zl_X9_lastTwo_7_s, if_neg c_4, if_neg c_5] at h9; exact h9) _ _ Z ls (lv_sub hl [0, 1, 4, 5] rfl)
              · refine lv_lload hx hb dX9_lastTwo_62 (lv_at hl 1 rfl) ?_
                refine lv_lload_n hx hb dX9_lastTwo_64 rfl (lv_at hl 3 rfl) ?_
                refine z_lc_le (tgt := 74) X dX9_lastTwo_65 dX9_lastTwo_66 (by decide) (fun c_6 => ?_) (fun c_6 => ?_)
                · refine lv_aload_n hx hb dX9_lastTwo_74 rfl (lv_at hl 4 rfl) ?_
                  refine z_get X Z 0 rfl (rfl : zCl[7]? = some (RX9, TX9, 10)) zU_X9 6 (by decide) wF_X9_157 rfl rfl dX9_lastTwo_75 ?_
                  refine z_put (cs2 := [wMod g md ((mNow M), (mPast M), (mSav M), (mRef M), (mThen M), ((zl_X9_lastTwo_24 M u j7 3 0 (0 : Int64) v1 f1).2.1), ((zl_X9_lastTwo_24 M u j7 3 0 (0 : Int64) v1 f1).2.2), (mWay M), (mMost M), (mHash M))]) (v := .int ((zl_X9_lastTwo_24 M u j7 3 0 (0 : Int64) v1 f1).2.2)) X Z 0 rfl (rfl : zCl[7]? = some (RX9, TX9, 10)) zU_X9 tyX9 tyX9_ok nmX9 6 (by decide) wF_X9_157 rfl rfl rfl rfl (Nat.le_of_ble_eq_true rfl) rfl dX9_lastTwo_78 (fun H locs Z => ?_)
                  refine lv_lload hx hb dX9_lastTwo_81 (lv_at hl 1 rfl) ?_
                  refine lv_lload_n hx hb dX9_lastTwo_83 rfl (lv_at hl 3 rfl) ?_
                  refine z_lc_le (tgt := 93) X dX9_lastTwo_84 dX9_lastTwo_85 (by decide) (fun c_7 => ?_) (fun c_7 => ?_)
                  · refine lv_lload_n hx hb dX9_lastTwo_93 rfl (lv_at hl 3 rfl) ?_
                    refine lv_lstore_n (lv' := [(2, .long x2), (7, .int (nI j24)), (5, .long ((zl_X9_lastTwo_24 M u j7 3 0 (0 : Int64) v1 f1).1)), (4, .int (nI j7)), (0, .ref (md 0)), (1, .int (nI u))]) hx hb dX9_lastTwo_94 rfl hl (by decide) rfl (fun ls hl => ?_)
                    refine z_iinc (b := (j7 + 1)) (st := 1) (lv' := [(4, .int (nI (j7 + 1))), (2, .long x2), (7, .int (nI j24)), (5, .long ((zl_X9_lastTwo_24 M u j7 3 0 (0 : Int64) v1 f1).1)), (0, .ref (md 0)), (1, .int (nI u))]) X dX9_lastTwo_95 hl (k := 3) rfl rfl (by decide) (by omega) (by decide) rfl (fun ls hl => ?_)
                    refine lv_goto (tgt := 7) hx hb dX9_lastTwo_98 (by decide) ?_
                    exact ih7 (j7 + 1) x2 ((zl_X9_lastTwo_24 M u j7 3 0 (0 : Int64) v1 f1).2.1) ((zl_X9_lastTwo_24 M u j7 3 0 (0 : Int64) v1 f1).2.2) (by omega) (by have h9 := hR7; rw [zl_X9_lastTwo_7_s, if_pos c_4, if_pos c_6, if_pos c_7] at h9; exact h9) _ _ Z ls (lv_sub hl [0, 1, 4, 5] rfl)
                  · refine lv_lload hx hb dX9_lastTwo_88 (lv_at hl 1 rfl) ?_
                    refine lv_goto (tgt := 94) hx hb dX9_lastTwo_90 (by decide) ?_
                    refine lv_lstore_n (lv' := [(2, .long ((zl_X9_lastTwo_24 M u j7 3 0 (0 : Int64) v1 f1).1)), (7, .int (nI j24)), (5, .long ((zl_X9_lastTwo_24 M u j7 3 0 (0 : Int64) v1 f1).1)), (4, .int (nI j7)), (0, .ref (md 0)), (1, .int (nI u))]) hx hb dX9_lastTwo_94 rfl hl (by decide) rfl (fun ls hl => ?_)
                    refine z_iinc (b := (j7 + 1)) (st := 1) (lv' := [(4, .int (nI (j7 + 1))), (2, .long ((zl_X9_lastTwo_24 M u j7 3 0 (0 : Int64) v1 f1).1)), (7, .int (nI j24)), (5, .long ((zl_X9_lastTwo_24 M u j7 3 0 (0 : Int64) v1 f1).1)), (0, .ref (md 0)), (1, .int (nI u))]) X dX9_lastTwo_95 hl (k := 3) rfl rfl (by decide) (by omega) (by decide) rfl (fun ls hl => ?_)
                    refine lv_goto (tgt := 7) hx hb dX9_lastTwo_98 (by decide) ?_
                    exact ih7 (j7 + 1) ((zl_X9_lastTwo_24 M u j7 3 0 (0 : Int64) v1 f1).1) ((zl_X9_lastTwo_24 M u j7 3 0 (0 : Int64) v1 f1).2.1) ((zl_X9_lastTwo_24 M u j7 3 0 (0 : Int64) v1 f1).2.2) (by omega) (by have h9 := hR7; rw [zl_X9_lastTwo_7_s, if_pos c_4, if_pos c_6, if_neg c_7] at h9; exact h9) _ _ Z ls (lv_sub hl [0, 1, 4, 5] rfl)
                · refine lv_iload hx hb dX9_lastTwo_69 (lv_at hl 2 rfl) ?_
                  refine lv_goto (tgt := 78) hx hb dX9_lastTwo_71 (by decide) ?_
                  refine z_put (cs2 := [wMod g md ((mNow M), (mPast M), (mSav M), (mRef M), (mThen M), ((zl_X9_lastTwo_24 M u j7 3 0 (0 : Int64) v1 f1).2.1), (nI j7), (mWay M), (mMost M), (mHash M))]) (v := .int (nI j7)) X Z 0 rfl (rfl : zCl[7]? = some (RX9, TX9, 10)) zU_X9 tyX9 tyX9_ok nmX9 6 (by decide) wF_X9_157 rfl rfl rfl rfl (Nat.le_of_ble_eq_true rfl) rfl dX9_lastTwo_78 (fun H locs Z => ?_)
                  refine lv_lload hx hb dX9_lastTwo_81 (lv_at hl 1 rfl) ?_
                  refine lv_lload_n hx hb dX9_lastTwo_83 rfl (lv_at hl 3 rfl) ?_
                  refine z_lc_le (tgt := 93) X dX9_lastTwo_84 dX9_lastTwo_85 (by decide) (fun c_8 => ?_) (fun c_8 => ?_)
                  · refine lv_lload_n hx hb dX9_lastTwo_93 rfl (lv_at hl 3 rfl) ?_
                    refine lv_lstore_n (lv' := [(2, .long x2), (7, .int (nI j24)), (5, .long ((zl_X9_lastTwo_24 M u j7 3 0 (0 : Int64) v1 f1).1)), (4, .int (nI j7)), (0, .ref (md 0)), (1, .int (nI u))]) hx hb dX9_lastTwo_94 rfl hl (by decide) rfl (fun ls hl => ?_)
                    refine z_iinc (b := (j7 + 1)) (st := 1) (lv' := [(4, .int (nI (j7 + 1))), (2, .long x2), (7, .int (nI j24)), (5, .long ((zl_X9_lastTwo_24 M u j7 3 0 (0 : Int64) v1 f1).1)), (0, .ref (md 0)), (1, .int (nI u))]) X dX9_lastTwo_95 hl (k := 3) rfl rfl (by decide) (by omega) (by decide) rfl (fun ls hl => ?_)
                    refine lv_goto (tgt := 7) hx hb dX9_lastTwo_98 (by decide) ?_
                    exact ih7 (j7 + 1) x2 ((zl_X9_lastTwo_24 M u j7 3 0 (0 : Int64) v1 f1).2.1) (nI j7) (by omega) (by have h9 := hR7; rw [zl_X9_lastTwo_7_s, if_pos c_4, if_neg c_6, if_pos c_8] at h9; exact h9) _ _ Z ls (lv_sub hl [0, 1, 4, 5] rfl)
                  · refine lv_lload hx hb dX9_lastTwo_88 (lv_at hl 1 rfl) ?_
                    refine lv_goto (tgt := 94) hx hb dX9_lastTwo_90 (by decide) ?_
                    refine lv_lstore_n (lv' := [(2, .long ((zl_X9_lastTwo_24 M u j7 3 0 (0 : Int64) v1 f1).1)), (7, .int (nI j24)), (5, .long ((zl_X9_lastTwo_24 M u j7 3 0 (0 : Int64) v1 f1).1)), (4, .int (nI j7)), (0, .ref (md 0)), (1, .int (nI u))]) hx hb dX9_lastTwo_94 rfl hl (by decide) rfl (fun ls hl => ?_)
                    refine z_iinc (b := (j7 + 1)) (st := 1) (lv' := [(4, .int (nI (j7 + 1))), (2, .long ((zl_X9_lastTwo_24 M u j7 3 0 (0 : Int64) v1 f1).1)), (7, .int (nI j24)), (5, .long ((zl_X9_lastTwo_24 M u j7 3 0 (0 : Int64) v1 f1).1)), (0, .ref (md 0)), (1, .int (nI u))]) X dX9_lastTwo_95 hl (k := 3) rfl rfl (by decide) (by omega) (by decide) rfl (fun ls hl => ?_)
                    refine lv_goto (tgt := 7) hx hb dX9_lastTwo_98 (by decide) ?_
                    exact ih7 (j7 + 1) ((zl_X9_lastTwo_24 M u j7 3 0 (0 : Int64) v1 f1).1) ((zl_X9_lastTwo_24 M u j7 3 0 (0 : Int64) v1 f1).2.1) (nI j7) (by omega) (by have h9 := hR7; rw [zl_X9_lastTwo_7_s, if_pos c_4, if_neg c_6, if_neg c_8] at h9; exact h9) _ _ Z ls (lv_sub hl [0, 1, 4, 5] rfl)
            · (exfalso; omega)
          | succ n24 ih24 =>
            intro j24 y5 v2 f2 hin24 hR24 H locs Z ls hl
            refine lv_iload hx hb dX9_lastTwo_24 (lv_at hl 0 rfl) ?_
            refine lv_iconst (v := (3 : Int32)) hx hb dX9_lastTwo_26 (by decide) ?_
            refine z_icmp_ge (a := j24) (b := 3) (tgt := 57) X rfl rfl (by omega) (by omega) dX9_lastTwo_27 (by decide) (fun c_9 => ?_) (fun c_9 => ?_)
            · (exfalso; omega)
            · refine lv_aload_n hx hb dX9_lastTwo_30 rfl (lv_at hl 4 rfl) ?_
              refine lv_iload_n hx hb dX9_lastTwo_31 rfl (lv_at hl 5 rfl) ?_
              refine lv_iload hx hb dX9_lastTwo_32 (lv_at hl 2 rfl) ?_
              refine lv_iload hx hb dX9_lastTwo_34 (lv_at hl 0 rfl) ?_
              refine z_callV (mc := 0) (ms := 0) (As := [.int (nI u), .int (nI j7), .int (nI j24)]) (rest := []) (st2 := []) (cs2 := [wMod g md ((mNow M), (mPast M), (mSav M), (mRef M), (mThen M), (zf_X9_goes ((mNow M), (mPast M), (mSav M), (mRef M), (mThen M), v2, f2, (mWay M), (mMost M), (mHash M)) u j7 j24), f2, (mWay M), (mMost M), (mHash M))]) X Z [0] [] [0] 0 7 (zc_X9_goes l g B md ((mNow M), (mPast M), (mSav M), (mRef M), (mThen M), v2, f2, (mWay M), (mMost M), (mHash M)) u j7 j24 (by first | assumption | omega | decide) (by first | assumption | omega | decide) (by first | assumption | omega | decide)) wM_X9_150 wS_X9_goes wV_X9_goes wK_X9_goes wZ_X9 3 1 1 rfl (by decide +kernel) rfl (by decide) rfl rfl rfl (by decide) rfl rfl (rfl : zCl[7]? = some (RX9, TX9, 10)) hl.1 rfl rfl (by rw [hRf, hRl]; exact ⟨Nat.le_of_ble_eq_true rfl, Nat.le_of_ble_eq_true rfl⟩) (Nat.le_of_ble_eq_true rfl) ⟨Nat.zero_le _, Nat.zero_le _⟩ dX9_lastTwo_36 (fun H locs Z => ?_)
              refine lv_lload hx hb dX9_lastTwo_39 (lv_at hl 1 rfl) ?_
              refine lv_aload_n hx hb dX9_lastTwo_41 rfl (lv_at hl 4 rfl) ?_
              refine lv_iload_n hx hb dX9_lastTwo_42 rfl (lv_at hl 5 rfl) ?_
              refine lv_iconst (v := (1 : Int32)) hx hb dX9_lastTwo_43 (by decide) ?_
              refine z_iadd (a := u) (b := 1) X rfl rfl dX9_lastTwo_44 ?_
              refine z_callV (mc := 0) (ms := 0) (As := [.int (nI (u + 1))]) (rest := [.long y5]) (st2 := [.long ((zf_X9_lastOne ((mNow M), (mPast M), (mSav M), (mRef M), (mThen M), (zf_X9_goes ((mNow M), (mPast M), (mSav M), (mRef M), (mThen M), v2, f2, (mWay M), (mMost M), (mHash M)) u j7 j24), f2, (mWay M), (mMost M), (mHash M)) (u + 1)).1), .long y5]) (cs2 := [wMod g md ((mNow M), (mPast M), (mSav M), (mRef M), (mThen M), ((zf_X9_lastOne ((mNow M), (mPast M), (mSav M), (mRef M), (mThen M), (zf_X9_goes ((mNow M), (mPast M), (mSav M), (mRef M), (mThen M), v2, f2, (mWay M), (mMost M), (mHash M)) u j7 j24), f2, (mWay M), (mMost M), (mHash M)) (u + 1)).2.1), ((zf_X9_lastOne ((mNow M), (mPast M), (mSav M), (mRef M), (mThen M), (zf_X9_goes ((mNow M), (mPast M), (mSav M), (mRef M), (mThen M), v2, f2, (mWay M), (mMost M), (mHash M)) u j7 j24), f2, (mWay M), (mMost M), (mHash M)) (u + 1)).2.2), (mWay M), (mMost M), (mHash M))]) X Z [0] [] [0] 0 7 (zc_X9_lastOne l g B md ((mNow M), (mPast M), (mSav M), (mRef M), (mThen M), (zf_X9_goes ((mNow M), (mPast M), (mSav M), (mRef M), (mThen M), v2, f2, (mWay M), (mMost M), (mHash M)) u j7 j24), f2, (mWay M), (mMost M), (mHash M)) (u + 1) (by first | assumption | omega | decide) (by first | assumption | omega | decide)) wM_X9_160 wS_X9_lastOne wV_X9_lastOne wK_X9_lastOne wZ_X9 1 1 1 rfl (by decide +kernel) rfl (by decide) rfl rfl rfl (by decide) rfl rfl (rfl : zCl[7]? = some (RX9, TX9, 10)) hl.1 rfl rfl (by rw [hRf, hRl]; exact ⟨Nat.le_of_ble_eq_true rfl, Nat.le_of_ble_eq_true rfl⟩) (Nat.le_of_ble_eq_true rfl) ⟨Nat.zero_le _, Nat.zero_le _⟩ dX9_lastTwo_45 (fun H locs Z => ?_)
              refine lv_ladd hx hb dX9_lastTwo_48 ?_
              refine lv_lstore (lv' := [(5, .long (y5 + ((zf_X9_lastOne ((mNow M), (mPast M), (mSav M), (mRef M), (mThen M), (zf_X9_goes ((mNow M), (mPast M), (mSav M), (mRef M), (mThen M), v2, f2, (mWay M), (mMost M), (mHash M)) u j7 j24), f2, (mWay M), (mMost M), (mHash M)) (u + 1)).1))), (7, .int (nI j24)), (4, .int (nI j7)), (2, .long x2), (0, .ref (md 0)), (1, .int (nI u))]) hx hb dX9_lastTwo_49 hl (by decide) rfl (fun ls hl => ?_)
              refine z_iinc (b := (j24 + 1)) (st := 1) (lv' := [(7, .int (nI (j24 + 1))), (5, .long (y5 + ((zf_X9_lastOne ((mNow M), (mPast M), (mSav M), (mRef M), (mThen M), (zf_X9_goes ((mNow M), (mPast M), (mSav M), (mRef M), (mThen M), v2, f2, (mWay M), (mMost M), (mHash M)) u j7 j24), f2, (mWay M), (mMost M), (mHash M)) (u + 1)).1))), (4, .int (nI j7)), (2, .long x2), (0, .ref (md 0)), (1, .int (nI u))]) X dX9_lastTwo_51 hl (k := 1) rfl rfl (by decide) (by omega) (by decide) rfl (fun ls hl => ?_)
              refine lv_goto (tgt := 24) hx hb dX9_lastTwo_54 (by decide) ?_
              exact ih24 (j24 + 1) (y5 + ((zf_X9_lastOne ((mNow M), (mPast M), (mSav M), (mRef M), (mThen M), (zf_X9_goes ((mNow M), (mPast M), (mSav M), (mRef M), (mThen M), v2, f2, (mWay M), (mMost M), (mHash M)) u j7 j24), f2, (mWay M), (mMost M), (mHash M)) (u + 1)).1)) ((zf_X9_lastOne ((mNow M), (mPast M), (mSav M), (mRef M), (mThen M), (zf_X9_goes ((mNow M), (mPast M), (mSav M), (mRef M), (mThen M), v2, f2, (mWay M), (mMost M), (mHash M)) u j7 j24), f2, (mWay M), (mMost M), (mHash M)) (u + 1)).2.1) ((zf_X9_lastOne ((mNow M), (mPast M), (mSav M), (mRef M), (mThen M), (zf_X9_goes ((mNow M), (mPast M), (mSav M), (mRef M), (mThen M), v2, f2, (mWay M), (mMost M), (mHash M)) u j7 j24), f2, (mWay M), (mMost M), (mHash M)) (u + 1)).2.2) (by omega) (by have h9 := hR24; rw [zl_X9_lastTwo_24_s] at h9; exact h9) _ _ Z ls (lv_sub hl [0, 1, 2, 3, 4, 5] rfl)
        exact loop_24 3 0 (0 : Int64) v1 f1 (by omega) rfl _ _ Z ls (lv_sub hl [0, 1, 2, 3, 4, 5] rfl)
  exact loop_7 (zc (mNow M 43)) 0 (-1 : Int64) (mLev M) (mFst M) (by omega) rfl _ _ Z ls (lv_sub hl [0, 1, 2, 3] rfl)
def zl_X9_allThree_22 (M : zMo) (j6 : Nat) : Nat → Nat → Int64 → (Nat → Int64) → Int32 → Int64 × (Nat → Int64) × Int32
  | 0, _, y5, v2, f2 => (y5, v2, f2)
  | n22 + 1, j22, y5, v2, f2 => zl_X9_allThree_22 M j6 n22 (j22 + 1) (y5 + ((zf_X9_lastTwo ((mNow M), (mPast M), (mSav M), (mRef M), (mThen M), (zf_X9_goes ((mNow M), (mPast M), (mSav M), (mRef M), (mThen M), v2, f2, (mWay M), (mMost M), (mHash M)) 0 j6 j22), f2, (mWay M), (mMost M), (mHash M)) 1).1)) ((zf_X9_lastTwo ((mNow M), (mPast M), (mSav M), (mRef M), (mThen M), (zf_X9_goes ((mNow M), (mPast M), (mSav M), (mRef M), (mThen M), v2, f2, (mWay M), (mMost M), (mHash M)) 0 j6 j22), f2, (mWay M), (mMost M), (mHash M)) 1).2.1) ((zf_X9_lastTwo ((mNow M), (mPast M), (mSav M), (mRef M), (mThen M), (zf_X9_goes ((mNow M), (mPast M), (mSav M), (mRef M), (mThen M), v2, f2, (mWay M), (mMost M), (mHash M)) 0 j6 j22), f2, (mWay M), (mMost M), (mHash M)) 1).2.2)
theorem zl_X9_allThree_22_s (M : zMo) (j6 : Nat) (n22 : Nat) (j22 : Nat) (y5 : Int64) (v2 : Nat → Int64) (f2 : Int32) : zl_X9_allThree_22 M j6 (n22 + 1) j22 y5 v2 f2 = zl_X9_allThree_22 M j6 n22 (j22 + 1) (y5 + ((zf_X9_lastTwo ((mNow M), (mPast M), (mSav M), (mRef M), (mThen M), (zf_X9_goes ((mNow M), (mPast M), (mSav M), (mRef M), (mThen M), v2, f2, (mWay M), (mMost M), (mHash M)) 0 j6 j22), f2, (mWay M), (mMost M), (mHash M)) 1).1)) ((zf_X9_lastTwo ((mNow M), (mPast M), (mSav M), (mRef M), (mThen M), (zf_X9_goes ((mNow M), (mPast M), (mSav M), (mRef M), (mThen M), v2, f2, (mWay M), (mMost M), (mHash M)) 0 j6 j22), f2, (mWay M), (mMost M), (mHash M)) 1).2.1) ((zf_X9_lastTwo ((mNow M), (mPast M), (mSav M), (mRef M), (mThen M), (zf_X9_goes ((mNow M), (mPast M), (mSav M), (mRef M), (mThen M), v2, f2, (mWay M), (mMost M), (mHash M)) 0 j6 j22), f2, (mWay M), (mMost M), (mHash M)) 1).2.2) := rfl
def zl_X9_allThree_6 (M : zMo) : Nat → Nat → Int64 → (Nat → Int64) → Int32 → Int64 × (Nat → Int64) × Int32
  | 0, _, x2, v1, f1 => (x2, v1, f1)
  | n6 + 1, j6, x2, v1, f1 => (if ((zl_X9_allThree_22 M j6 3 0 (0 : Int64) v1 f1).1) ≤ x2 then (if ((zl_X9_allThree_22 M j6 3 0 (0 : Int64) v1 f1).1) ≤ x2 then zl_X9_allThree_6 M n6 (j6 + 1) x2 ((zl_X9_allThree_22 M j6 3 0 (0 : Int64) v1 f1).2.1) ((zl_X9_allThree_22 M j6 3 0 (0 : Int64) v1 f1).2.2) else zl_X9_allThree_6 M n6 (j6 + 1) ((zl_X9_allThree_22 M j6 3 0 (0 : Int64) v1 f1).1) ((zl_X9_allThree_22 M j6 3 0 (0 : Int64) v1 f1).2.1) ((zl_X9_allThree_22 M j6 3 0 (0 : Int64) v1 f1).2.2)) else (if ((zl_X9_allThree_22 M j6 3 0 (0 : Int64) v1 f1).1) ≤ x2 then zl_X9_allThree_6 M n6 (j6 + 1) x2 ((zl_X9_allThree_22 M j6 3 0 (0 : Int64) v1 f1).2.1) (nI j6) else zl_X9_allThree_6 M n6 (j6 + 1) ((zl_X9_allThree_22 M j6 3 0 (0 : Int64) v1 f1).1) ((zl_X9_allThree_22 M j6 3 0 (0 : Int64) v1 f1).2.1) (nI j6)))
theorem zl_X9_allThree_6_s (M : zMo) (n6 : Nat) (j6 : Nat) (x2 : Int64) (v1 : Nat → Int64) (f1 : Int32) : zl_X9_allThree_6 M (n6 + 1) j6 x2 v1 f1 = (if ((zl_X9_allThree_22 M j6 3 0 (0 : Int64) v1 f1).1) ≤ x2 then (if ((zl_X9_allThree_22 M j6 3 0 (0 : Int64) v1 f1).1) ≤ x2 then zl_X9_allThree_6 M n6 (j6 + 1) x2 ((zl_X9_allThree_22 M j6 3 0 (0 : Int64) v1 f1).2.1) ((zl_X9_allThree_22 M j6 3 0 (0 : Int64) v1 f1).2.2) else zl_X9_allThree_6 M n6 (j6 + 1) ((zl_X9_allThree_22 M j6 3 0 (0 : Int64) v1 f1).1) ((zl_X9_allThree_22 M j6 3 0 (0 : Int64) v1 f1).2.1) ((zl_X9_allThree_22 M j6 3 0 (0 : Int64) v1 f1).2.2)) else (if ((zl_X9_allThree_22 M j6 3 0 (0 : Int64) v1 f1).1) ≤ x2 then zl_X9_allThree_6 M n6 (j6 + 1) x2 ((zl_X9_allThree_22 M j6 3 0 (0 : Int64) v1 f1).2.1) (nI j6) else zl_X9_allThree_6 M n6 (j6 + 1) ((zl_X9_allThree_22 M j6 3 0 (0 : Int64) v1 f1).1) ((zl_X9_allThree_22 M j6 3 0 (0 : Int64) v1 f1).2.1) (nI j6))) := rfl
def zf_X9_allThree (M : zMo) : Int64 × (Nat → Int64) × Int32 := (((zl_X9_allThree_6 M (zc (mNow M 43)) 0 (-1 : Int64) (mLev M) (mFst M)).1), ((zl_X9_allThree_6 M (zc (mNow M 43)) 0 (-1 : Int64) (mLev M) (mFst M)).2.1), ((zl_X9_allThree_6 M (zc (mNow M 43)) 0 (-1 : Int64) (mLev M) (mFst M)).2.2))
theorem zf_X9_allThree_e (M : zMo) : zf_X9_allThree M = (((zl_X9_allThree_6 M (zc (mNow M 43)) 0 (-1 : Int64) (mLev M) (mFst M)).1), ((zl_X9_allThree_6 M (zc (mNow M 43)) 0 (-1 : Int64) (mLev M) (mFst M)).2.1), ((zl_X9_allThree_6 M (zc (mNow M 43)) 0 (-1 : Int64) (mLev M) (mFst M)).2.2)) := rfl
set_option maxHeartbeats 4000000 in
set_option maxRecDepth 100000 in
theorem zc_X9_allThree (l : Launch) (g : zG) (B : Nat) (md : Nat → Nat) (M : zMo) (hN : zNow (mNow M)) : zMet l g B yX9_allThree cX9_allThree 7 (some .long) 5 220 0 0 [.ref (md 0)] [wMod g md M] (zDet (some (.long ((zf_X9_allThree M).1))) [wMod g md ((mNow M), (mPast M), (mSav M), (mRef M), (mThen M), ((zf_X9_allThree M).2.1), ((zf_X9_allThree M).2.2), (mWay M), (mMost M), (mHash M))]) := by
  refine z_in (plainFor_of_name (by decide)) (Nat.le_of_ble_eq_true rfl) (fun p e R s m args below meth c A Q hRf hRl hRc hRs X Z hnm E ls hl => ?_)
  have hx := X.1
  have hb := X.2.1
  have hown := X.2.2.2.1
  have hts := X.2.2.2.2.1
  have hl : lv_has ls 7 [(0, .ref (md 0))] := hl
  have hN2 := hN; obtain ⟨he9, hb9, he34, hb34, he43, hb43, he284, hb284, he301, hb301⟩ := hN2
  refine lv_ldc2 (v := (-1 : Int64)) hx hb hown (hts _ wL_X9_148) dX9_allThree_0 ?_
  refine lv_lstore_n (lv' := [(1, .long (-1 : Int64)), (0, .ref (md 0))]) hx hb dX9_allThree_3 rfl hl (by decide) rfl (fun ls hl => ?_)
  refine lv_iconst (v := (0 : Int32)) hx hb dX9_allThree_4 (by decide) ?_
  refine lv_istore_n (lv' := [(3, .int (0 : Int32)), (1, .long (-1 : Int64)), (0, .ref (md 0))]) hx hb dX9_allThree_5 rfl hl (by decide) rfl (fun ls hl => ?_)
  have loop_6 : ∀ (n6 j6 : Nat) (x2 : Int64) (v1 : Nat → Int64) (f1 : Int32), j6 + n6 = (zc (mNow M 43)) → zl_X9_allThree_6 M n6 j6 x2 v1 f1 = (zl_X9_allThree_6 M (zc (mNow M 43)) 0 (-1 : Int64) (mLev M) (mFst M)) → ∀ (H : Heap) (locs : List Loc), zM g B A s [wMod g md ((mNow M), (mPast M), (mSav M), (mRef M), (mThen M), v1, f1, (mWay M), (mMost M), (mHash M))] H locs → ∀ ls : Array Slot, lv_has ls 7 [(3, .int (nI j6)), (1, .long x2), (0, .ref (md 0))] → W p l e R s m args below meth c H locs 0 0 Q (F0 m 6 ls []) := by
    intro n6
    induction n6 with
    | zero =>
      intro j6 x2 v1 f1 hin6 hR6 H locs Z ls hl
      have e_x2 : x2 = (zl_X9_allThree_6 M (zc (mNow M 43)) 0 (-1 : Int64) (mLev M) (mFst M)).1 := (congrArg (fun z => z.1) hR6)
      have e_v1 : v1 = (zl_X9_allThree_6 M (zc (mNow M 43)) 0 (-1 : Int64) (mLev M) (mFst M)).2.1 := (congrArg (fun z => z.2.1) hR6)
      have e_f1 : f1 = (zl_X9_allThree_6 M (zc (mNow M 43)) 0 (-1 : Int64) (mLev M) (mFst M)).2.2 := (congrArg (fun z => z.2.2) hR6)
      subst e_x2
      subst e_v1
      subst e_f1
      refine lv_iload_n hx hb dX9_allThree_6 rfl (lv_at hl 0 rfl) ?_
      refine lv_aload_n hx hb dX9_allThree_7 rfl (lv_at hl 2 rfl) ?_
      refine lv_bipush (v := (43 : Int32)) hx hb dX9_allThree_8 (by decide) ?_
      refine z_callV (mc := 0) (ms := 0) (As := [.int (43 : Int32)]) (rest := [.int (nI j6)]) (st2 := [.int (nI (zc ((mNow M) 43))), .int (nI j6)]) (cs2 := [wMod g md ((mNow M), (mPast M), (mSav M), (mRef M), (mThen M), ((zl_X9_allThree_6 M (zc (mNow M 43)) 0 (-1 : Int64) (mLev M) (mFst M)).2.1), ((zl_X9_allThree_6 M (zc (mNow M 43)) 0 (-1 : Int64) (mLev M) (mFst M)).2.2), (mWay M), (mMost M), (mHash M))]) X Z [0] [] [0] 0 7 (zc_X9_many l g B md ((mNow M), (mPast M), (mSav M), (mRef M), (mThen M), ((zl_X9_allThree_6 M (zc (mNow M 43)) 0 (-1 : Int64) (mLev M) (mFst M)).2.1), ((zl_X9_allThree_6 M (zc (mNow M 43)) 0 (-1 : Int64) (mLev M) (mFst M)).2.2), (mWay M), (mMost M), (mHash M)) 43 (zc ((mNow M) 43)) (by first | assumption | omega | decide) (by first | assumption | omega | decide)) wM_X9_66 wS_X9_many wV_X9_many wK_X9_many wZ_X9 1 1 1 rfl (by decide +kernel) rfl (by decide) rfl rfl rfl (by decide) rfl rfl (rfl : zCl[7]? = some (RX9, TX9, 10)) hl.1 rfl rfl (by rw [hRf, hRl]; exact ⟨Nat.le_of_ble_eq_true rfl, Nat.le_of_ble_eq_true rfl⟩) (Nat.le_of_ble_eq_true rfl) ⟨Nat.zero_le _, Nat.zero_le _⟩ dX9_allThree_10 (fun H locs Z => ?_)
      refine z_icmp_ge (a := j6) (b := (zc ((mNow M) 43))) (tgt := 91) X rfl rfl (by omega) (by omega) dX9_allThree_13 (by decide) (fun c_1 => ?_) (fun c_1 => ?_)
      · refine lv_lload_n hx hb dX9_allThree_91 rfl (lv_at hl 1 rfl) ?_
        exact z_rl (v := ((zl_X9_allThree_6 M (zc (mNow M 43)) 0 (-1 : Int64) (mLev M) (mFst M)).1)) E Z (by rw [zf_X9_allThree_e]; exact ⟨rfl, rfl⟩) dX9_allThree_92 (Nat.zero_le _) (Nat.zero_le _)
      · (exfalso; omega)
    | succ n6 ih6 =>
      intro j6 x2 v1 f1 hin6 hR6 H locs Z ls hl
      refine lv_iload_n hx hb dX9_allThree_6 rfl (lv_at hl 0 rfl) ?_
      refine lv_aload_n hx hb dX9_allThree_7 rfl (lv_at hl 2 rfl) ?_
      refine lv_bipush (v := (43 : Int32)) hx hb dX9_allThree_8 (by decide) ?_
      refine z_callV (mc := 0) (ms := 0) (As := [.int (43 : Int32)]) (rest := [.int (nI j6)]) (st2 := [.int (nI (zc ((mNow M) 43))), .int (nI j6)]) (cs2 := [wMod g md ((mNow M), (mPast M), (mSav M), (mRef M), (mThen M), v1, f1, (mWay M), (mMost M), (mHash M))]) X Z [0] [] [0] 0 7 (zc_X9_many l g B md ((mNow M), (mPast M), (mSav M), (mRef M), (mThen M), v1, f1, (mWay M), (mMost M), (mHash M)) 43 (zc ((mNow M) 43)) (by first | assumption | omega | decide) (by first | assumption | omega | decide)) wM_X9_66 wS_X9_many wV_X9_many wK_X9_many wZ_X9 1 1 1 rfl (by decide +kernel) rfl (by decide) rfl rfl rfl (by decide) rfl rfl (rfl : zCl[7]? = some (RX9, TX9, 10)) hl.1 rfl rfl (by rw [hRf, hRl]; exact ⟨Nat.le_of_ble_eq_true rfl, Nat.le_of_ble_eq_true rfl⟩) (Nat.le_of_ble_eq_true rfl) ⟨Nat.zero_le _, Nat.zero_le _⟩ dX9_allThree_10 (fun H locs Z => ?_)
      refine z_icmp_ge (a := j6) (b := (zc ((mNow M) 43))) (tgt := 91) X rfl rfl (by omega) (by omega) dX9_allThree_13 (by decide) (fun c_2 => ?_) (fun c_2 => ?_)
      · (exfalso; omega)
      · refine lv_lconst (v := (0 : Int64)) hx hb dX9_allThree_16 (by decide) ?_
        refine lv_lstore (lv' := [(4, .long (0 : Int64)), (3, .int (nI j6)), (1, .long x2), (0, .ref (md 0))]) hx hb dX9_allThree_17 hl (by decide) rfl (fun ls hl => ?_)
        refine lv_iconst (v := (0 : Int32)) hx hb dX9_allThree_19 (by decide) ?_
        refine lv_istore (lv' := [(6, .int (0 : Int32)), (4, .long (0 : Int64)), (3, .int (nI j6)), (1, .long x2), (0, .ref (md 0))]) hx hb dX9_allThree_20 hl (by decide) rfl (fun ls hl => ?_)
        have loop_22 : ∀ (n22 j22 : Nat) (y5 : Int64) (v2 : Nat → Int64) (f2 : Int32), j22 + n22 = 3 → zl_X9_allThree_22 M j6 n22 j22 y5 v2 f2 = (zl_X9_allThree_22 M j6 3 0 (0 : Int64) v1 f1) → ∀ (H : Heap) (locs : List Loc), zM g B A s [wMod g md ((mNow M), (mPast M), (mSav M), (mRef M), (mThen M), v2, f2, (mWay M), (mMost M), (mHash M))] H locs → ∀ ls : Array Slot, lv_has ls 7 [(6, .int (nI j22)), (4, .long y5), (3, .int (nI j6)), (1, .long x2), (0, .ref (md 0))] → W p l e R s m args below meth c H locs 0 0 Q (F0 m 22 ls []) := by
          intro n22
          induction n22 with
          | zero =>
            intro j22 y5 v2 f2 hin22 hR22 H locs Z ls hl
            have e_y5 : y5 = (zl_X9_allThree_22 M j6 3 0 (0 : Int64) v1 f1).1 := (congrArg (fun z => z.1) hR22)
            have e_v2 : v2 = (zl_X9_allThree_22 M j6 3 0 (0 : Int64) v1 f1).2.1 := (congrArg (fun z => z.2.1) hR22)
            have e_f2 : f2 = (zl_X9_allThree_22 M j6 3 0 (0 : Int64) v1 f1).2.2 := (congrArg (fun z => z.2.2) hR22)
            subst e_y5
            subst e_v2
            subst e_f2
            refine lv_iload hx hb dX9_allThree_22 (lv_at hl 0 rfl) ?_
            refine lv_iconst (v := (3 : Int32)) hx hb dX9_allThree_24 (by decide) ?_
            refine z_icmp_ge (a := j22) (b := 3) (tgt := 52) X rfl rfl (by omega) (by omega) dX9_allThree_25 (by decide) (fun c_3 => ?_) (fun c_3 => ?_)
            · refine lv_aload_n hx hb dX9_allThree_52 rfl (lv_at hl 4 rfl) ?_
              refine lv_lload hx hb dX9_allThree_53 (lv_at hl 1 rfl) ?_
              refine lv_lload_n hx hb dX9_allThree_55 rfl (lv_at hl 3 rfl) ?_
              refine z_lc_le (tgt := 64) X dX9_allThree_56 dX9_allThree_57 (by decide) (fun c_4 => ?_) (fun c_4 => ?_)
              · refine lv_aload_n hx hb dX9_allThree_64 rfl (lv_at hl 4 rfl) ?_
                refine z_get X Z 0 rfl (rfl : zCl[7]? = some (RX9, TX9, 10)) zU_X9 6 (by decide) wF_X9_157 rfl rfl dX9_allThree_65 ?_
                refine z_put (cs2 := [wMod g md ((mNow M), (mPast M), (mSav M), (mRef M), (mThen M), ((zl_X9_allThree_22 M j6 3 0 (0 : Int64) v1 f1).2.1), ((zl_X9_allThree_22 M j6 3 0 (0 : Int64) v1 f1).2.2), (mWay M), (mMost M), (mHash M))]) (v := .int ((zl_X9_allThree_22 M j6 3 0 (0 : Int64) v1 f1).2.2)) X Z 0 rfl (rfl : zCl[7]? = some (RX9, TX9, 10)) zU_X9 tyX9 tyX9_ok nmX9 6 (by decide) wF_X9_157 rfl rfl rfl rfl (Nat.le_of_ble_eq_true rfl) rfl dX9_allThree_68 (fun H locs Z => ?_)
                refine lv_lload hx hb dX9_allThree_71 (lv_at hl 1 rfl) ?_
                refine lv_lload_n hx hb dX9_allThree_73 rfl (lv_at hl 3 rfl) ?_
                refine z_lc_le (tgt := 83) X dX9_allThree_74 dX9_allThree_75 (by decide) (fun c_5 => ?_) (fun c_5 => ?_)
                · refine lv_lload_n hx hb dX9_allThree_83 rfl (lv_at hl 3 rfl) ?_
                  refine lv_lstore_n (lv' := [(1, .long x2), (6, .int (nI j22)), (4, .long ((zl_X9_allThree_22 M j6 3 0 (0 : Int64) v1 f1).1)), (3, .int (nI j6)), (0, .ref (md 0))]) hx hb dX9_allThree_84 rfl hl (by decide) rfl (fun ls hl => ?_)
                  refine z_iinc (b := (j6 + 1)) (st := 1) (lv' := [(3, .int (nI (j6 + 1))), (1, .long x2), (6, .int (nI j22)), (4, .long ((zl_X9_allThree_22 M j6 3 0 (0 : Int64) v1 f1).1)), (0, .ref (md 0))]) X dX9_allThree_85 hl (k := 3) rfl rfl (by decide) (by omega) (by decide) rfl (fun ls hl => ?_)
                  refine lv_goto (tgt := 6) hx hb dX9_allThree_88 (by decide) ?_
                  exact ih6 (j6 + 1) x2 ((zl_X9_allThree_22 M j6 3 0 (0 : Int64) v1 f1).2.1) ((zl_X9_allThree_22 M j6 3 0 (0 : Int64) v1 f1).2.2) (by omega) (by have h9 := hR6; rw [zl_X9_allThree_6_s, if_pos c_4, if_pos c_5] at h9; exact h9) _ _ Z ls (lv_sub hl [0, 1, 4] rfl)
                · refine lv_lload hx hb dX9_allThree_78 (lv_at hl 1 rfl) ?_
                  refine lv_goto (tgt := 84) hx hb dX9_allThree_80 (by decide) ?_
                  refine lv_lstore_n (lv' := [(1, .long ((zl_X9_allThree_22 M j6 3 0 (0 : Int64) v1 f1).1)), (6, .int (nI j22)), (4, .long ((zl_X9_allThree_22 M j6 3 0 (0 : Int64) v1 f1).1)), (3, .int (nI j6)), (0, .ref (md 0))]) hx hb dX9_allThree_84 rfl hl (by decide) rfl (fun ls hl => ?_)
                  refine z_iinc (b := (j6 + 1)) (st := 1) (lv' := [(3, .int (nI (j6 + 1))), (1, .long ((zl_X9_allThree_22 M j6 3 0 (0 : Int64) v1 f1).1)), (6, .int (nI j22)), (4, .long ((zl_X9_allThree_22 M j6 3 0 (0 : Int64) v1 f1).1)), (0, .ref (md 0))]) X dX9_allThree_85 hl (k := 3) rfl rfl (by decide) (by omega) (by decide) rfl (fun ls hl => ?_)
                  refine lv_goto (tgt := 6) hx hb dX9_allThree_88 (by decide) ?_
                  exact ih6 (j6 + 1) ((zl_X9_allThree_22 M j6 3 0 (0 : Int64) v1 f1).1) ((zl_X9_allThree_22 M j6 3 0 (0 : Int64) v1 f1).2.1) ((zl_X9_allThree_22 M j6 3 0 (0 : Int64) v1 f1).2.2) (by omega) (by have h9 := hR6; rw [zl_X9_allThree_6_s, if_pos c_4, if_neg c_5] at h9; exact h9) _ _ Z ls (lv_sub hl [0, 1, 4] rfl)
              · refine lv_iload_n hx hb dX9_allThree_60 rfl (lv_at hl 2 rfl) ?_
                refine lv_goto (tgt := 68) hx hb dX9_allThree_61 (by decide) ?_
                refine z_put (cs2 := [wMod g md ((mNow M), (mPast M), (mSav M), (mRef M), (mThen M), ((zl_X9_allThree_22 M j6 3 0 (0 : Int64) v1 f1).2.1), (nI j6), (mWay M), (mMost M), (mHash M))]) (v := .int (nI j6)) X Z 0 rfl (rfl : zCl[7]? = some (RX9, TX9, 10)) zU_X9 tyX9 tyX9_ok nmX9 6 (by decide) wF_X9_157 rfl rfl rfl rfl (Nat.le_of_ble_eq_true rfl) rfl dX9_allThree_68 (fun H locs Z => ?_)
                refine lv_lload hx hb dX9_allThree_71 (lv_at hl 1 rfl) ?_
                refine lv_lload_n hx hb dX9_allThree_73 rfl (lv_at hl 3 rfl) ?_
                refine z_lc_le (tgt := 83) X dX9_allThree_74 dX9_allThree_75 (by decide) (fun c_6 => ?_) (fun c_6 => ?_)
                · refine lv_lload_n hx hb dX9_allThree_83 rfl (lv_at hl 3 rfl) ?_
                  refine lv_lstore_n (lv' := [(1, .long x2), (6, .int (nI j22)), (4, .long ((zl_X9_allThree_22 M j6 3 0 (0 : Int64) v1 f1).1)), (3, .int (nI j6)), (0, .ref (md 0))]) hx hb dX9_allThree_84 rfl hl (by decide) rfl (fun ls hl => ?_)
                  refine z_iinc (b := (j6 + 1)) (st := 1) (lv' := [(3, .int (nI (j6 + 1))), (1, .long x2), (6, .int (nI j22)), (4, .long ((zl_X9_allThree_22 M j6 3 0 (0 : Int64) v1 f1).1)), (0, .ref (md 0))]) X dX9_allThree_85 hl (k := 3) rfl rfl (by decide) (by omega) (by decide) rfl (fun ls hl => ?_)
                  refine lv_goto (tgt := 6) hx hb dX9_allThree_88 (by decide) ?_
                  exact ih6 (j6 + 1) x2 ((zl_X9_allThree_22 M j6 3 0 (0 : Int64) v1 f1).2.1) (nI j6) (by omega) (by have h9 := hR6; rw [zl_X9_allThree_6_s, if_neg c_4, if_pos c_6] at h9; exact h9) _ _ Z ls (lv_sub hl [0, 1, 4] rfl)
                · refine lv_lload hx hb dX9_allThree_78 (lv_at hl 1 rfl) ?_
                  refine lv_goto (tgt := 84) hx hb dX9_allThree_80 (by decide) ?_
                  refine lv_lstore_n (lv' := [(1, .long ((zl_X9_allThree_22 M j6 3 0 (0 : Int64) v1 f1).1)), (6, .int (nI j22)), (4, .long ((zl_X9_allThree_22 M j6 3 0 (0 : Int64) v1 f1).1)), (3, .int (nI j6)), (0, .ref (md 0))]) hx hb dX9_allThree_84 rfl hl (by decide) rfl (fun ls hl => ?_)
                  refine z_iinc (b := (j6 + 1)) (st := 1) (lv' := [(3, .int (nI (j6 + 1))), (1, .long ((zl_X9_allThree_22 M j6 3 0 (0 : Int64) v1 f1).1)), (6, .int (nI j22)), (4, .long ((zl_X9_allThree_22 M j6 3 0 (0 : Int64) v1 f1).1)), (0, .ref (md 0))]) X dX9_allThree_85 hl (k := 3) rfl rfl (by decide) (by omega) (by decide) rfl (fun ls hl => ?_)
                  refine lv_goto (tgt := 6) hx hb dX9_allThree_88 (by decide) ?_
                  exact ih6 (j6 + 1) ((zl_X9_allThree_22 M j6 3 0 (0 : Int64) v1 f1).1) ((zl_X9_allThree_22 M j6 3 0 (0 : Int64) v1 f1).2.1) (nI j6) (by omega) (by have h9 := hR6; rw [zl_X9_allThree_6_s, if_neg c_4, if_neg c_6] at h9; exact h9) _ _ Z ls (lv_sub hl [0, 1, 4] rfl)
            · (exfalso; omega)
          | succ n22 ih22 =>
            intro j22 y5 v2 f2 hin22 hR22 H locs Z ls hl
            refine lv_iload hx hb dX9_allThree_22 (lv_at hl 0 rfl) ?_
            refine lv_iconst (v := (3 : Int32)) hx hb dX9_allThree_24 (by decide) ?_
            refine z_icmp_ge (a := j22) (b := 3) (tgt := 52) X rfl rfl (by omega) (by omega) dX9_allThree_25 (by decide) (fun c_7 => ?_) (fun c_7 => ?_)
            · (exfalso; omega)
            · refine lv_aload_n hx hb dX9_allThree_28 rfl (lv_at hl 4 rfl) ?_
              refine lv_iconst (v := (0 : Int32)) hx hb dX9_allThree_29 (by decide) ?_
              refine lv_iload_n hx hb dX9_allThree_30 rfl (lv_at hl 2 rfl) ?_
              refine lv_iload hx hb dX9_allThree_31 (lv_at hl 0 rfl) ?_
              refine z_callV (mc := 0) (ms := 0) (As := [.int (0 : Int32), .int (nI j6), .int (nI j22)]) (rest := []) (st2 := []) (cs2 := [wMod g md ((mNow M), (mPast M), (mSav M), (mRef M), (mThen M), (zf_X9_goes ((mNow M), (mPast M), (mSav M), (mRef M), (mThen M), v2, f2, (mWay M), (mMost M), (mHash M)) 0 j6 j22), f2, (mWay M), (mMost M), (mHash M))]) X Z [0] [] [0] 0 7 (zc_X9_goes l g B md ((mNow M), (mPast M), (mSav M), (mRef M), (mThen M), v2, f2, (mWay M), (mMost M), (mHash M)) 0 j6 j22 (by first | assumption | omega | decide) (by first | assumption | omega | decide) (by first | assumption | omega | decide)) wM_X9_150 wS_X9_goes wV_X9_goes wK_X9_goes wZ_X9 3 1 1 rfl (by decide +kernel) rfl (by decide) rfl rfl rfl (by decide) rfl rfl (rfl : zCl[7]? = some (RX9, TX9, 10)) hl.1 rfl rfl (by rw [hRf, hRl]; exact ⟨Nat.le_of_ble_eq_true rfl, Nat.le_of_ble_eq_true rfl⟩) (Nat.le_of_ble_eq_true rfl) ⟨Nat.zero_le _, Nat.zero_le _⟩ dX9_allThree_33 (fun H locs Z => ?_)
              refine lv_lload hx hb dX9_allThree_36 (lv_at hl 1 rfl) ?_
              refine lv_aload_n hx hb dX9_allThree_38 rfl (lv_at hl 4 rfl) ?_
              refine lv_iconst (v := (1 : Int32)) hx hb dX9_allThree_39 (by decide) ?_
              refine z_callV (mc := 0) (ms := 0) (As := [.int (1 : Int32)]) (rest := [.long y5]) (st2 := [.long ((zf_X9_lastTwo ((mNow M), (mPast M), (mSav M), (mRef M), (mThen M), (zf_X9_goes ((mNow M), (mPast M), (mSav M), (mRef M), (mThen M), v2, f2, (mWay M), (mMost M), (mHash M)) 0 j6 j22), f2, (mWay M), (mMost M), (mHash M)) 1).1), .long y5]) (cs2 := [wMod g md ((mNow M), (mPast M), (mSav M), (mRef M), (mThen M), ((zf_X9_lastTwo ((mNow M), (mPast M), (mSav M), (mRef M), (mThen M), (zf_X9_goes ((mNow M), (mPast M), (mSav M), (mRef M), (mThen M), v2, f2, (mWay M), (mMost M), (mHash M)) 0 j6 j22), f2, (mWay M), (mMost M), (mHash M)) 1).2.1), ((zf_X9_lastTwo ((mNow M), (mPast M), (mSav M), (mRef M), (mThen M), (zf_X9_goes ((mNow M), (mPast M), (mSav M), (mRef M), (mThen M), v2, f2, (mWay M), (mMost M), (mHash M)) 0 j6 j22), f2, (mWay M), (mMost M), (mHash M)) 1).2.2), (mWay M), (mMost M), (mHash M))]) X Z [0] [] [0] 0 7 (zc_X9_lastTwo l g B md ((mNow M), (mPast M), (mSav M), (mRef M), (mThen M), (zf_X9_goes ((mNow M), (mPast M), (mSav M), (mRef M), (mThen M), v2, f2, (mWay M), (mMost M), (mHash M)) 0 j6 j22), f2, (mWay M), (mMost M), (mHash M)) 1 (by first | assumption | omega | decide) (by first | assumption | omega | decide)) wM_X9_163 wS_X9_lastTwo wV_X9_lastTwo wK_X9_lastTwo wZ_X9 1 1 1 rfl (by decide +kernel) rfl (by decide) rfl rfl rfl (by decide) rfl rfl (rfl : zCl[7]? = some (RX9, TX9, 10)) hl.1 rfl rfl (by rw [hRf, hRl]; exact ⟨Nat.le_of_ble_eq_true rfl, Nat.le_of_ble_eq_true rfl⟩) (Nat.le_of_ble_eq_true rfl) ⟨Nat.zero_le _, Nat.zero_le _⟩ dX9_allThree_40 (fun H locs Z => ?_)
              refine lv_ladd hx hb dX9_allThree_43 ?_
              refine lv_lstore (lv' := [(4, .long (y5 + ((zf_X9_lastTwo ((mNow M), (mPast M), (mSav M), (mRef M), (mThen M), (zf_X9_goes ((mNow M), (mPast M), (mSav M), (mRef M), (mThen M), v2, f2, (mWay M), (mMost M), (mHash M)) 0 j6 j22), f2, (mWay M), (mMost M), (mHash M)) 1).1))), (6, .int (nI j22)), (3, .int (nI j6)), (1, .long x2), (0, .ref (md 0))]) hx hb dX9_allThree_44 hl (by decide) rfl (fun ls hl => ?_)
              refine z_iinc (b := (j22 + 1)) (st := 1) (lv' := [(6, .int (nI (j22 + 1))), (4, .long (y5 + ((zf_X9_lastTwo ((mNow M), (mPast M), (mSav M), (mRef M), (mThen M), (zf_X9_goes ((mNow M), (mPast M), (mSav M), (mRef M), (mThen M), v2, f2, (mWay M), (mMost M), (mHash M)) 0 j6 j22), f2, (mWay M), (mMost M), (mHash M)) 1).1))), (3, .int (nI j6)), (1, .long x2), (0, .ref (md 0))]) X dX9_allThree_46 hl (k := 1) rfl rfl (by decide) (by omega) (by decide) rfl (fun ls hl => ?_)
              refine lv_goto (tgt := 22) hx hb dX9_allThree_49 (by decide) ?_
              exact ih22 (j22 + 1) (y5 + ((zf_X9_lastTwo ((mNow M), (mPast M), (mSav M), (mRef M), (mThen M), (zf_X9_goes ((mNow M), (mPast M), (mSav M), (mRef M), (mThen M), v2, f2, (mWay M), (mMost M), (mHash M)) 0 j6 j22), f2, (mWay M), (mMost M), (mHash M)) 1).1)) ((zf_X9_lastTwo ((mNow M), (mPast M), (mSav M), (mRef M), (mThen M), (zf_X9_goes ((mNow M), (mPast M), (mSav M), (mRef M), (mThen M), v2, f2, (mWay M), (mMost M), (mHash M)) 0 j6 j22), f2, (mWay M), (mMost M), (mHash M)) 1).2.1) ((zf_X9_lastTwo ((mNow M), (mPast M), (mSav M), (mRef M), (mThen M), (zf_X9_goes ((mNow M), (mPast M), (mSav M), (mRef M), (mThen M), v2, f2, (mWay M), (mMost M), (mHash M)) 0 j6 j22), f2, (mWay M), (mMost M), (mHash M)) 1).2.2) (by omega) (by have h9 := hR22; rw [zl_X9_allThree_22_s] at h9; exact h9) _ _ Z ls (lv_sub hl [0, 1, 2, 3, 4] rfl)
        exact loop_22 3 0 (0 : Int64) v1 f1 (by omega) rfl _ _ Z ls (lv_sub hl [0, 1, 2, 3, 4] rfl)
  exact loop_6 (zc (mNow M 43)) 0 (-1 : Int64) (mLev M) (mFst M) (by omega) rfl _ _ Z ls (lv_sub hl [0, 1, 2] rfl)
def zl_X9_tens_4 : Nat → Nat → Int64 → Int64
  | 0, _, x1 => x1
  | n4 + 1, j4, x1 => zl_X9_tens_4 n4 (j4 + 1) (x1 * (10 : Int64))
theorem zl_X9_tens_4_s (n4 : Nat) (j4 : Nat) (x1 : Int64) : zl_X9_tens_4 (n4 + 1) j4 x1 = zl_X9_tens_4 n4 (j4 + 1) (x1 * (10 : Int64)) := rfl
def zf_X9_tens (k : Nat) : Int64 := (zl_X9_tens_4 k 0 (1 : Int64))
theorem zf_X9_tens_e (k : Nat) : zf_X9_tens k = (zl_X9_tens_4 k 0 (1 : Int64)) := rfl
set_option maxHeartbeats 4000000 in
set_option maxRecDepth 100000 in
theorem zc_X9_tens (l : Launch) (g : zG) (B : Nat) (k : Nat) (hk : k ≤ 15) : zMet l g B yX9_tens cX9_tens 4 (some .long) 1 60 0 0 [.int (nI k)] [] (zDet (some (.long (zf_X9_tens k))) []) := by
  refine z_in (plainFor_of_name (by decide)) (Nat.le_of_ble_eq_true rfl) (fun p e R s m args below meth c A Q hRf hRl hRc hRs X Z hnm E ls hl => ?_)
  have hx := X.1
  have hb := X.2.1
  have hown := X.2.2.2.1
  have hts := X.2.2.2.2.1
  have hl : lv_has ls 4 [(0, .int (nI k))] := hl
  refine lv_lconst (v := (1 : Int64)) hx hb dX9_tens_0 (by decide) ?_
  refine lv_lstore_n (lv' := [(1, .long (1 : Int64)), (0, .int (nI k))]) hx hb dX9_tens_1 rfl hl (by decide) rfl (fun ls hl => ?_)
  refine lv_iconst (v := (0 : Int32)) hx hb dX9_tens_2 (by decide) ?_
  refine lv_istore_n (lv' := [(3, .int (0 : Int32)), (1, .long (1 : Int64)), (0, .int (nI k))]) hx hb dX9_tens_3 rfl hl (by decide) rfl (fun ls hl => ?_)
  have loop_4 : ∀ (n4 j4 : Nat) (x1 : Int64), j4 + n4 = k → zl_X9_tens_4 n4 j4 x1 = (zl_X9_tens_4 k 0 (1 : Int64)) → ∀ (H : Heap) (locs : List Loc), zM g B A s [] H locs → ∀ ls : Array Slot, lv_has ls 4 [(3, .int (nI j4)), (1, .long x1), (0, .int (nI k))] → W p l e R s m args below meth c H locs 0 0 Q (F0 m 4 ls []) := by
    intro n4
    induction n4 with
    | zero =>
      intro j4 x1 hin4 hR4 H locs Z ls hl
      have e_x1 : x1 = (zl_X9_tens_4 k 0 (1 : Int64)) := hR4
      subst e_x1
      refine lv_iload_n hx hb dX9_tens_4 rfl (lv_at hl 0 rfl) ?_
      refine lv_iload_n hx hb dX9_tens_5 rfl (lv_at hl 2 rfl) ?_
      refine z_icmp_ge (a := j4) (b := k) (tgt := 21) X rfl rfl (by omega) (by omega) dX9_tens_6 (by decide) (fun c_1 => ?_) (fun c_1 => ?_)
      · refine lv_lload_n hx hb dX9_tens_21 rfl (lv_at hl 1 rfl) ?_
        exact z_rl (v := (zl_X9_tens_4 k 0 (1 : Int64))) E Z (by rw [zf_X9_tens_e]; exact ⟨rfl, rfl⟩) dX9_tens_22 (Nat.zero_le _) (Nat.zero_le _)
      · (exfalso; omega)
    | succ n4 ih4 =>
      intro j4 x1 hin4 hR4 H locs Z ls hl
      refine lv_iload_n hx hb dX9_tens_4 rfl (lv_at hl 0 rfl) ?_
      refine lv_iload_n hx hb dX9_tens_5 rfl (lv_at hl 2 rfl) ?_
      refine z_icmp_ge (a := j4) (b := k) (tgt := 21) X rfl rfl (by omega) (by omega) dX9_tens_6 (by decide) (fun c_2 => ?_) (fun c_2 => ?_)
      · (exfalso; omega)
      · refine lv_lload_n hx hb dX9_tens_9 rfl (lv_at hl 1 rfl) ?_
        refine lv_ldc2 (v := (10 : Int64)) hx hb hown (hts _ wL_X9_142) dX9_tens_10 ?_
        refine lv_lmul hx hb dX9_tens_13 ?_
        refine lv_lstore_n (lv' := [(1, .long (x1 * (10 : Int64))), (3, .int (nI j4)), (0, .int (nI k))]) hx hb dX9_tens_14 rfl hl (by decide) rfl (fun ls hl => ?_)
        refine z_iinc (b := (j4 + 1)) (st := 1) (lv' := [(3, .int (nI (j4 + 1))), (1, .long (x1 * (10 : Int64))), (0, .int (nI k))]) X dX9_tens_15 hl (k := 1) rfl rfl (by decide) (by omega) (by decide) rfl (fun ls hl => ?_)
        refine lv_goto (tgt := 4) hx hb dX9_tens_18 (by decide) ?_
        exact ih4 (j4 + 1) (x1 * (10 : Int64)) (by omega) (by have h9 := hR4; rw [zl_X9_tens_4_s] at h9; exact h9) _ _ Z ls (lv_sub hl [0, 1, 2] rfl)
  exact loop_4 k 0 (1 : Int64) (by omega) rfl _ _ Z ls (lv_sub hl [0, 1, 2] rfl)
def zf_X9_mix (M : zMo) (x : Int64) : Int64 := (((31 : Int64) * (mHash M)) + x)
theorem zf_X9_mix_e (M : zMo) (x : Int64) : zf_X9_mix M x = (((31 : Int64) * (mHash M)) + x) := rfl
set_option maxHeartbeats 4000000 in
set_option maxRecDepth 100000 in
theorem zc_X9_mix (l : Launch) (g : zG) (B : Nat) (md : Nat → Nat) (M : zMo) (x : Int64) : zMet l g B yX9_mix cX9_mix 3 none 1 20 0 0 [.ref (md 0), .long x] [wMod g md M] (zDet (none) [wMod g md ((mNow M), (mPast M), (mSav M), (mRef M), (mThen M), (mLev M), (mFst M), (mWay M), (mMost M), (zf_X9_mix M x))]) := by
  refine z_in (plainFor_of_name (by decide)) (Nat.le_of_ble_eq_true rfl) (fun p e R s m args below meth c A Q hRf hRl hRc hRs X Z hnm E ls hl => ?_)
  have hx := X.1
  have hb := X.2.1
  have hown := X.2.2.2.1
  have hts := X.2.2.2.2.1
  have hl : lv_has ls 3 [(0, .ref (md 0)), (1, .long x)] := hl
  refine lv_aload_n hx hb dX9_mix_0 rfl (lv_at hl 0 rfl) ?_
  refine lv_ldc2 (v := (31 : Int64)) hx hb hown (hts _ wL_X9_209) dX9_mix_1 ?_
  refine lv_aload_n hx hb dX9_mix_4 rfl (lv_at hl 0 rfl) ?_
  refine z_get X Z 0 rfl (rfl : zCl[7]? = some (RX9, TX9, 10)) zU_X9 9 (by decide) wF_X9_211 rfl rfl dX9_mix_5 ?_
  refine lv_lmul hx hb dX9_mix_8 ?_
  refine lv_lload_n hx hb dX9_mix_9 rfl (lv_at hl 1 rfl) ?_
  refine lv_ladd hx hb dX9_mix_10 ?_
  refine z_put (cs2 := [wMod g md ((mNow M), (mPast M), (mSav M), (mRef M), (mThen M), (mLev M), (mFst M), (mWay M), (mMost M), (((31 : Int64) * (mHash M)) + x))]) (v := .long (((31 : Int64) * (mHash M)) + x)) X Z 0 rfl (rfl : zCl[7]? = some (RX9, TX9, 10)) zU_X9 tyX9 tyX9_ok nmX9 9 (by decide) wF_X9_211 rfl rfl rfl rfl (Nat.le_of_ble_eq_true rfl) rfl dX9_mix_11 (fun H locs Z => ?_)
  exact z_rv E Z (by rw [zf_X9_mix_e]; exact ⟨rfl, rfl⟩) dX9_mix_14 (Nat.zero_le _) (Nat.zero_le _)
def zl_X9_mixAll_2 (M : zMo) (k : Nat) : Nat → Nat → Int64 → Int64
  | 0, _, h1 => h1
  | n2 + 1, j2, h1 => zl_X9_mixAll_2 M k n2 (j2 + 1) (zf_X9_mix ((mNow M), (mPast M), (mSav M), (mRef M), (mThen M), (mLev M), (mFst M), (mWay M), (mMost M), h1) ((mNow M) (k + j2)))
theorem zl_X9_mixAll_2_s (M : zMo) (k : Nat) (n2 : Nat) (j2 : Nat) (h1 : Int64) : zl_X9_mixAll_2 M k (n2 + 1) j2 h1 = zl_X9_mixAll_2 M k n2 (j2 + 1) (zf_X9_mix ((mNow M), (mPast M), (mSav M), (mRef M), (mThen M), (mLev M), (mFst M), (mWay M), (mMost M), h1) ((mNow M) (k + j2))) := rfl
def zf_X9_mixAll (M : zMo) (k : Nat) (t : Nat) : Int64 := (zl_X9_mixAll_2 M k t 0 (mHash M))
theorem zf_X9_mixAll_e (M : zMo) (k : Nat) (t : Nat) : zf_X9_mixAll M k t = (zl_X9_mixAll_2 M k t 0 (mHash M)) := rfl
set_option maxHeartbeats 4000000 in
set_option maxRecDepth 100000 in
theorem zc_X9_mixAll (l : Launch) (g : zG) (B : Nat) (md : Nat → Nat) (M : zMo) (k : Nat) (t : Nat) (hk : k + t ≤ 318) : zMet l g B yX9_mixAll cX9_mixAll 4 none 2 60 0 0 [.ref (md 0), .int (nI k), .int (nI t)] [wMod g md M] (zDet (none) [wMod g md ((mNow M), (mPast M), (mSav M), (mRef M), (mThen M), (mLev M), (mFst M), (mWay M), (mMost M), (zf_X9_mixAll M k t))]) := by
  refine z_in (plainFor_of_name (by decide)) (Nat.le_of_ble_eq_true rfl) (fun p e R s m args below meth c A Q hRf hRl hRc hRs X Z hnm E ls hl => ?_)
  have hx := X.1
  have hb := X.2.1
  have hown := X.2.2.2.1
  have hts := X.2.2.2.2.1
  have hl : lv_has ls 4 [(0, .ref (md 0)), (1, .int (nI k)), (2, .int (nI t))] := hl
  refine lv_iload_n hx hb dX9_mixAll_0 rfl (lv_at hl 1 rfl) ?_
  refine lv_istore_n (lv' := [(3, .int (nI k)), (0, .ref (md 0)), (1, .int (nI k)), (2, .int (nI t))]) hx hb dX9_mixAll_1 rfl hl (by decide) rfl (fun ls hl => ?_)
  have loop_2 : ∀ (n2 j2 : Nat) (h1 : Int64), j2 + n2 = t → zl_X9_mixAll_2 M k n2 j2 h1 = (zl_X9_mixAll_2 M k t 0 (mHash M)) → ∀ (H : Heap) (locs : List Loc), zM g B A s [wMod g md ((mNow M), (mPast M), (mSav M), (mRef M), (mThen M), (mLev M), (mFst M), (mWay M), (mMost M), h1)] H locs → ∀ ls : Array Slot, lv_has ls 4 [(3, .int (nI (k + j2))), (0, .ref (md 0)), (1, .int (nI k)), (2, .int (nI t))] → W p l e R s m args below meth c H locs 0 0 Q (F0 m 2 ls []) := by
    intro n2
    induction n2 with
    | zero =>
      intro j2 h1 hin2 hR2 H locs Z ls hl
      have e_h1 : h1 = (zl_X9_mixAll_2 M k t 0 (mHash M)) := hR2
      subst e_h1
      refine lv_iload_n hx hb dX9_mixAll_2 rfl (lv_at hl 0 rfl) ?_
      refine lv_iload_n hx hb dX9_mixAll_3 rfl (lv_at hl 2 rfl) ?_
      refine lv_iload_n hx hb dX9_mixAll_4 rfl (lv_at hl 3 rfl) ?_
      refine z_iadd (a := k) (b := t) X rfl rfl dX9_mixAll_5 ?_
      refine z_icmp_ge (a := (k + j2)) (b := (k + t)) (tgt := 25) X rfl rfl (by omega) (by omega) dX9_mixAll_6 (by decide) (fun c_1 => ?_) (fun c_1 => ?_)
      · exact z_rv E Z (by rw [zf_X9_mixAll_e]; exact ⟨rfl, rfl⟩) dX9_mixAll_25 (Nat.zero_le _) (Nat.zero_le _)
      · (exfalso; omega)
    | succ n2 ih2 =>
      intro j2 h1 hin2 hR2 H locs Z ls hl
      refine lv_iload_n hx hb dX9_mixAll_2 rfl (lv_at hl 0 rfl) ?_
      refine lv_iload_n hx hb dX9_mixAll_3 rfl (lv_at hl 2 rfl) ?_
      refine lv_iload_n hx hb dX9_mixAll_4 rfl (lv_at hl 3 rfl) ?_
      refine z_iadd (a := k) (b := t) X rfl rfl dX9_mixAll_5 ?_
      refine z_icmp_ge (a := (k + j2)) (b := (k + t)) (tgt := 25) X rfl rfl (by omega) (by omega) dX9_mixAll_6 (by decide) (fun c_2 => ?_) (fun c_2 => ?_)
      · (exfalso; omega)
      · refine lv_aload_n hx hb dX9_mixAll_9 rfl (lv_at hl 1 rfl) ?_
        refine lv_aload_n hx hb dX9_mixAll_10 rfl (lv_at hl 1 rfl) ?_
        refine z_get X Z 0 rfl (rfl : zCl[7]? = some (RX9, TX9, 10)) zU_X9 0 (by decide) wF_X9_7 rfl rfl dX9_mixAll_11 ?_
        refine lv_iload_n hx hb dX9_mixAll_14 rfl (lv_at hl 0 rfl) ?_
        refine z_lald (j := (k + j2)) X Z 1 rfl rfl (by omega) (by decide) dX9_mixAll_15 ?_
        refine z_callV (mc := 0) (ms := 0) (As := [.long ((mNow M) (k + j2))]) (rest := []) (st2 := []) (cs2 := [wMod g md ((mNow M), (mPast M), (mSav M), (mRef M), (mThen M), (mLev M), (mFst M), (mWay M), (mMost M), (zf_X9_mix ((mNow M), (mPast M), (mSav M), (mRef M), (mThen M), (mLev M), (mFst M), (mWay M), (mMost M), h1) ((mNow M) (k + j2))))]) X Z [0] [] [0] 0 7 (zc_X9_mix l g B md ((mNow M), (mPast M), (mSav M), (mRef M), (mThen M), (mLev M), (mFst M), (mWay M), (mMost M), h1) ((mNow M) (k + j2))) wM_X9_215 wS_X9_mix wV_X9_mix wK_X9_mix wZ_X9 1 1 1 rfl (by decide +kernel) rfl (by decide) rfl rfl rfl (by decide) rfl rfl (rfl : zCl[7]? = some (RX9, TX9, 10)) hl.1 rfl rfl (by rw [hRf, hRl]; exact ⟨Nat.le_of_ble_eq_true rfl, Nat.le_of_ble_eq_true rfl⟩) (Nat.le_of_ble_eq_true rfl) ⟨Nat.zero_le _, Nat.zero_le _⟩ dX9_mixAll_16 (fun H locs Z => ?_)
        refine z_iinc (b := (k + (j2 + 1))) (st := 1) (lv' := [(3, .int (nI (k + (j2 + 1)))), (0, .ref (md 0)), (1, .int (nI k)), (2, .int (nI t))]) X dX9_mixAll_19 hl (k := 0) rfl rfl (by decide) (by omega) (by decide) rfl (fun ls hl => ?_)
        refine lv_goto (tgt := 2) hx hb dX9_mixAll_22 (by decide) ?_
        exact ih2 (j2 + 1) (zf_X9_mix ((mNow M), (mPast M), (mSav M), (mRef M), (mThen M), (mLev M), (mFst M), (mWay M), (mMost M), h1) ((mNow M) (k + j2))) (by omega) (by have h9 := hR2; rw [zl_X9_mixAll_2_s] at h9; exact h9) _ _ Z ls (lv_sub hl [0, 1, 2, 3] rfl)
  exact loop_2 t 0 (mHash M) (by omega) rfl _ _ Z ls (lv_sub hl [0, 1, 2, 3] rfl)
def zf_X9_canTake (M : zMo) (k : Nat) (t : Nat) : Bool := (if ((mNow M) (285 + (2 * k))) < ((mNow M) (302 + (2 * t))) then false else (if ((((mNow M) ((285 + (2 * k)) + 1)) >>> ((((mNow M) ((302 + (2 * t)) + 1)).toInt32).toInt64 &&& 63)) &&& (1 : Int64)) = (1 : Int64) then true else false))
theorem zf_X9_canTake_e (M : zMo) (k : Nat) (t : Nat) : zf_X9_canTake M k t = (if ((mNow M) (285 + (2 * k))) < ((mNow M) (302 + (2 * t))) then false else (if ((((mNow M) ((285 + (2 * k)) + 1)) >>> ((((mNow M) ((302 + (2 * t)) + 1)).toInt32).toInt64 &&& 63)) &&& (1 : Int64)) = (1 : Int64) then true else false)) := rfl
set_option maxHeartbeats 4000000 in
set_option maxRecDepth 100000 in
theorem zc_X9_canTake (l : Launch) (g : zG) (B : Nat) (md : Nat → Nat) (M : zMo) (k : Nat) (t : Nat) (hk : k < 8) (ht : t < 8) : zMet l g B yX9_canTake cX9_canTake 7 (some .boolean) 1 60 0 0 [.ref (md 0), .int (nI k), .int (nI t)] [wMod g md M] (zDet (some (.int (zB (zf_X9_canTake M k t)))) [wMod g md M]) := by
  refine z_in (plainFor_of_name (by decide)) (Nat.le_of_ble_eq_true rfl) (fun p e R s m args below meth c A Q hRf hRl hRc hRs X Z hnm E ls hl => ?_)
  have hx := X.1
  have hb := X.2.1
  have hown := X.2.2.2.1
  have hts := X.2.2.2.2.1
  have hl : lv_has ls 7 [(0, .ref (md 0)), (1, .int (nI k)), (2, .int (nI t))] := hl
  refine lv_aload_n hx hb dX9_canTake_0 rfl (lv_at hl 0 rfl) ?_
  refine z_get X Z 0 rfl (rfl : zCl[7]? = some (RX9, TX9, 10)) zU_X9 0 (by decide) wF_X9_7 rfl rfl dX9_canTake_1 ?_
  refine lv_sipush (v := (302 : Int32)) hx hb dX9_canTake_4 (by decide) ?_
  refine lv_iconst (v := (2 : Int32)) hx hb dX9_canTake_7 (by decide) ?_
  refine lv_iload_n hx hb dX9_canTake_8 rfl (lv_at hl 2 rfl) ?_
  refine z_imul (a := 2) (b := t) X rfl rfl dX9_canTake_9 ?_
  refine z_iadd (a := 302) (b := (2 * t)) X rfl rfl dX9_canTake_10 ?_
  refine z_lald (j := (302 + (2 * t))) X Z 1 rfl rfl (by omega) (by decide) dX9_canTake_11 ?_
  refine lv_lstore_n (lv' := [(3, .long ((mNow M) (302 + (2 * t)))), (0, .ref (md 0)), (1, .int (nI k)), (2, .int (nI t))]) hx hb dX9_canTake_12 rfl hl (by decide) rfl (fun ls hl => ?_)
  refine lv_aload_n hx hb dX9_canTake_13 rfl (lv_at hl 1 rfl) ?_
  refine z_get X Z 0 rfl (rfl : zCl[7]? = some (RX9, TX9, 10)) zU_X9 0 (by decide) wF_X9_7 rfl rfl dX9_canTake_14 ?_
  refine lv_sipush (v := (302 : Int32)) hx hb dX9_canTake_17 (by decide) ?_
  refine lv_iconst (v := (2 : Int32)) hx hb dX9_canTake_20 (by decide) ?_
  refine lv_iload_n hx hb dX9_canTake_21 rfl (lv_at hl 3 rfl) ?_
  refine z_imul (a := 2) (b := t) X rfl rfl dX9_canTake_22 ?_
  refine z_iadd (a := 302) (b := (2 * t)) X rfl rfl dX9_canTake_23 ?_
  refine lv_iconst (v := (1 : Int32)) hx hb dX9_canTake_24 (by decide) ?_
  refine z_iadd (a := (302 + (2 * t))) (b := 1) X rfl rfl dX9_canTake_25 ?_
  refine z_lald (j := ((302 + (2 * t)) + 1)) X Z 1 rfl rfl (by omega) (by decide) dX9_canTake_26 ?_
  refine lv_lstore (lv' := [(5, .long ((mNow M) ((302 + (2 * t)) + 1))), (3, .long ((mNow M) (302 + (2 * t)))), (0, .ref (md 0)), (1, .int (nI k)), (2, .int (nI t))]) hx hb dX9_canTake_27 hl (by decide) rfl (fun ls hl => ?_)
  refine lv_aload_n hx hb dX9_canTake_29 rfl (lv_at hl 2 rfl) ?_
  refine z_get X Z 0 rfl (rfl : zCl[7]? = some (RX9, TX9, 10)) zU_X9 0 (by decide) wF_X9_7 rfl rfl dX9_canTake_30 ?_
  refine lv_sipush (v := (285 : Int32)) hx hb dX9_canTake_33 (by decide) ?_
  refine lv_iconst (v := (2 : Int32)) hx hb dX9_canTake_36 (by decide) ?_
  refine lv_iload_n hx hb dX9_canTake_37 rfl (lv_at hl 3 rfl) ?_
  refine z_imul (a := 2) (b := k) X rfl rfl dX9_canTake_38 ?_
  refine z_iadd (a := 285) (b := (2 * k)) X rfl rfl dX9_canTake_39 ?_
  refine z_lald (j := (285 + (2 * k))) X Z 1 rfl rfl (by omega) (by decide) dX9_canTake_40 ?_
  refine lv_lload_n hx hb dX9_canTake_41 rfl (lv_at hl 1 rfl) ?_
  refine z_lc_lt (tgt := 75) X dX9_canTake_42 dX9_canTake_43 (by decide) (fun c_1 => ?_) (fun c_1 => ?_)
  · refine lv_iconst (v := (0 : Int32)) hx hb dX9_canTake_75 (by decide) ?_
    exact z_ri (v := zB false) E Z (zB_narrow _) (by rw [zf_X9_canTake_e, if_pos c_1]; exact ⟨rfl, rfl⟩) dX9_canTake_76 (Nat.zero_le _) (Nat.zero_le _)
  · refine lv_aload_n hx hb dX9_canTake_46 rfl (lv_at hl 2 rfl) ?_
    refine z_get X Z 0 rfl (rfl : zCl[7]? = some (RX9, TX9, 10)) zU_X9 0 (by decide) wF_X9_7 rfl rfl dX9_canTake_47 ?_
    refine lv_sipush (v := (285 : Int32)) hx hb dX9_canTake_50 (by decide) ?_
    refine lv_iconst (v := (2 : Int32)) hx hb dX9_canTake_53 (by decide) ?_
    refine lv_iload_n hx hb dX9_canTake_54 rfl (lv_at hl 3 rfl) ?_
    refine z_imul (a := 2) (b := k) X rfl rfl dX9_canTake_55 ?_
    refine z_iadd (a := 285) (b := (2 * k)) X rfl rfl dX9_canTake_56 ?_
    refine lv_iconst (v := (1 : Int32)) hx hb dX9_canTake_57 (by decide) ?_
    refine z_iadd (a := (285 + (2 * k))) (b := 1) X rfl rfl dX9_canTake_58 ?_
    refine z_lald (j := ((285 + (2 * k)) + 1)) X Z 1 rfl rfl (by omega) (by decide) dX9_canTake_59 ?_
    refine lv_lload hx hb dX9_canTake_60 (lv_at hl 0 rfl) ?_
    refine lv_l2i hx hb dX9_canTake_62 rfl ?_
    refine lv_lshr hx hb dX9_canTake_63 rfl ?_
    refine lv_lconst (v := (1 : Int64)) hx hb dX9_canTake_64 (by decide) ?_
    refine lv_land hx hb dX9_canTake_65 ?_
    refine lv_lconst (v := (1 : Int64)) hx hb dX9_canTake_66 (by decide) ?_
    refine z_lc_ne (tgt := 75) X dX9_canTake_67 dX9_canTake_68 (by decide) (fun c_2 => ?_) (fun c_2 => ?_)
    · refine lv_iconst (v := (0 : Int32)) hx hb dX9_canTake_75 (by decide) ?_
      exact z_ri (v := zB false) E Z (zB_narrow _) (by rw [zf_X9_canTake_e, if_neg c_1, if_neg c_2]; exact ⟨rfl, rfl⟩) dX9_canTake_76 (Nat.zero_le _) (Nat.zero_le _)
    · refine lv_iconst (v := (1 : Int32)) hx hb dX9_canTake_71 (by decide) ?_
      refine lv_goto (tgt := 76) hx hb dX9_canTake_72 (by decide) ?_
      exact z_ri (v := zB true) E Z (zB_narrow _) (by rw [zf_X9_canTake_e, if_neg c_1, if_pos c_2]; exact ⟨rfl, rfl⟩) dX9_canTake_76 (Nat.zero_le _) (Nat.zero_le _)
