def zf_X8_requireIndex (x : Int32) (y : Int32) : Nat := (if x < 0 then 1 else (if x < y then 0 else 1))
theorem zf_X8_requireIndex_e (x : Int32) (y : Int32) : zf_X8_requireIndex x y = (if x < 0 then 1 else (if x < y then 0 else 1)) := rfl
set_option maxHeartbeats 4000000 in
set_option maxRecDepth 100000 in
theorem zc_X8_requireIndex (l : Launch) (hlt : l.stackTraces = false) (g : zG) (B : Nat) (x : Int32) (y : Int32) : zMetX l g B yX8_requireIndex cX8_requireIndex 2 none 6 90 1 6 [.int x, .int y] [] (zDetC ((zf_X8_requireIndex x y)) (none) []) (zThr ((zf_X8_requireIndex x y)) []) := by
  refine z_inX (by decide +kernel) (Nat.le_of_ble_eq_true rfl) (fun p e R s m args below meth c A Q hRf hRl hRc hRs X Z hnx E hA hQ ls hl => ?_)
  have hx := X.1
  have hb := X.2.1
  have hown := X.2.2.2.1
  have hts := X.2.2.2.2.1
  have hl : lv_has ls 2 [(0, .int x), (1, .int y)] := hl
  refine lv_iload_n hx hb dX8_requireIndex_0 rfl (lv_at hl 0 rfl) ?_
  refine lv_if_lt (tgt := 9) hx hb dX8_requireIndex_1 (by decide) (fun c_1 => ?_) (fun c_1 => ?_)
  · exact z_throwSW (cls := "java/lang/IndexOutOfBoundsException") (text := "there is no such number") (ik := 263) (is := 265) (ic := 267) X Z hA hQ hlt hnx hl.1 (by decide +kernel) (by decide +kernel) wC_X8_263 wZ_IndexOutOfBoundsException (by decide +kernel) (by decide +kernel) (by decide +kernel) dX8_requireIndex_9 dX8_requireIndex_12 dX8_requireIndex_13 dX8_requireIndex_16 dX8_requireIndex_19 (by rw [hRf]; decide) (by rw [hRl]; exact Nat.le_of_ble_eq_true rfl) (by rw [hRc]; exact Nat.le_of_ble_eq_true rfl) (by rw [hRs]; exact Nat.le_of_ble_eq_true rfl) (Nat.le_of_ble_eq_true rfl) (Nat.le_of_ble_eq_true rfl) (by rw [zf_X8_requireIndex_e, if_pos c_1]; exact ⟨by decide, rfl, rfl⟩)
  · refine lv_iload_n hx hb dX8_requireIndex_4 rfl (lv_at hl 0 rfl) ?_
    refine lv_iload_n hx hb dX8_requireIndex_5 rfl (lv_at hl 1 rfl) ?_
    refine lv_icmp_lt (tgt := 20) hx hb dX8_requireIndex_6 (by decide) (fun c_2 => ?_) (fun c_2 => ?_)
    · exact z_rv E Z (by rw [zf_X8_requireIndex_e, if_neg c_1, if_pos c_2]; exact ⟨rfl, rfl, rfl⟩) dX8_requireIndex_20 (by rw [hRc]; exact Nat.le_of_ble_eq_true rfl) (by rw [hRs]; exact Nat.le_of_ble_eq_true rfl)
    · exact z_throwSW (cls := "java/lang/IndexOutOfBoundsException") (text := "there is no such number") (ik := 263) (is := 265) (ic := 267) X Z hA hQ hlt hnx hl.1 (by decide +kernel) (by decide +kernel) wC_X8_263 wZ_IndexOutOfBoundsException (by decide +kernel) (by decide +kernel) (by decide +kernel) dX8_requireIndex_9 dX8_requireIndex_12 dX8_requireIndex_13 dX8_requireIndex_16 dX8_requireIndex_19 (by rw [hRf]; decide) (by rw [hRl]; exact Nat.le_of_ble_eq_true rfl) (by rw [hRc]; exact Nat.le_of_ble_eq_true rfl) (by rw [hRs]; exact Nat.le_of_ble_eq_true rfl) (Nat.le_of_ble_eq_true rfl) (Nat.le_of_ble_eq_true rfl) (by rw [zf_X8_requireIndex_e, if_neg c_1, if_neg c_2]; exact ⟨by decide, rfl, rfl⟩)
def zf_X8_requireRange (x : Int32) (y : Int32) (z : Int32) : Nat := (if x < y then 2 else (if x ≤ z then 0 else 2))
theorem zf_X8_requireRange_e (x : Int32) (y : Int32) (z : Int32) : zf_X8_requireRange x y z = (if x < y then 2 else (if x ≤ z then 0 else 2)) := rfl
set_option maxHeartbeats 4000000 in
set_option maxRecDepth 100000 in
theorem zc_X8_requireRange (l : Launch) (hlt : l.stackTraces = false) (g : zG) (B : Nat) (x : Int32) (y : Int32) (z : Int32) : zMetX l g B yX8_requireRange cX8_requireRange 3 none 6 90 1 6 [.int x, .int y, .int z] [] (zDetC ((zf_X8_requireRange x y z)) (none) []) (zThr ((zf_X8_requireRange x y z)) []) := by
  refine z_inX (by decide +kernel) (Nat.le_of_ble_eq_true rfl) (fun p e R s m args below meth c A Q hRf hRl hRc hRs X Z hnx E hA hQ ls hl => ?_)
  have hx := X.1
  have hb := X.2.1
  have hown := X.2.2.2.1
  have hts := X.2.2.2.2.1
  have hl : lv_has ls 3 [(0, .int x), (1, .int y), (2, .int z)] := hl
  refine lv_iload_n hx hb dX8_requireRange_0 rfl (lv_at hl 0 rfl) ?_
  refine lv_iload_n hx hb dX8_requireRange_1 rfl (lv_at hl 1 rfl) ?_
  refine lv_icmp_lt (tgt := 10) hx hb dX8_requireRange_2 (by decide) (fun c_1 => ?_) (fun c_1 => ?_)
  · exact z_throwSW (cls := "java/lang/IllegalArgumentException") (text := "an argument is out of range") (ik := 64) (is := 268) (ic := 68) X Z hA hQ hlt hnx hl.1 (by decide +kernel) (by decide +kernel) wC_X8_64 wZ_IllegalArgumentException (by decide +kernel) (by decide +kernel) (by decide +kernel) dX8_requireRange_10 dX8_requireRange_13 dX8_requireRange_14 dX8_requireRange_17 dX8_requireRange_20 (by rw [hRf]; decide) (by rw [hRl]; exact Nat.le_of_ble_eq_true rfl) (by rw [hRc]; exact Nat.le_of_ble_eq_true rfl) (by rw [hRs]; exact Nat.le_of_ble_eq_true rfl) (Nat.le_of_ble_eq_true rfl) (Nat.le_of_ble_eq_true rfl) (by rw [zf_X8_requireRange_e, if_pos c_1]; exact ⟨by decide, rfl, rfl⟩)
  · refine lv_iload_n hx hb dX8_requireRange_5 rfl (lv_at hl 0 rfl) ?_
    refine lv_iload_n hx hb dX8_requireRange_6 rfl (lv_at hl 2 rfl) ?_
    refine lv_icmp_le (tgt := 21) hx hb dX8_requireRange_7 (by decide) (fun c_2 => ?_) (fun c_2 => ?_)
    · exact z_rv E Z (by rw [zf_X8_requireRange_e, if_neg c_1, if_pos c_2]; exact ⟨rfl, rfl, rfl⟩) dX8_requireRange_21 (by rw [hRc]; exact Nat.le_of_ble_eq_true rfl) (by rw [hRs]; exact Nat.le_of_ble_eq_true rfl)
    · exact z_throwSW (cls := "java/lang/IllegalArgumentException") (text := "an argument is out of range") (ik := 64) (is := 268) (ic := 68) X Z hA hQ hlt hnx hl.1 (by decide +kernel) (by decide +kernel) wC_X8_64 wZ_IllegalArgumentException (by decide +kernel) (by decide +kernel) (by decide +kernel) dX8_requireRange_10 dX8_requireRange_13 dX8_requireRange_14 dX8_requireRange_17 dX8_requireRange_20 (by rw [hRf]; decide) (by rw [hRl]; exact Nat.le_of_ble_eq_true rfl) (by rw [hRc]; exact Nat.le_of_ble_eq_true rfl) (by rw [hRs]; exact Nat.le_of_ble_eq_true rfl) (Nat.le_of_ble_eq_true rfl) (Nat.le_of_ble_eq_true rfl) (by rw [zf_X8_requireRange_e, if_neg c_1, if_neg c_2]; exact ⟨by decide, rfl, rfl⟩)
def zf_X8_requirePlace (x : Int32) (y : Int32) : Nat := (if (zf_X8_requireRange x (-100 : Int32) (100 : Int32)) = 0 then (if (zf_X8_requireRange y (-100 : Int32) (100 : Int32)) = 0 then 0 else (zf_X8_requireRange y (-100 : Int32) (100 : Int32))) else (zf_X8_requireRange x (-100 : Int32) (100 : Int32)))
theorem zf_X8_requirePlace_e (x : Int32) (y : Int32) : zf_X8_requirePlace x y = (if (zf_X8_requireRange x (-100 : Int32) (100 : Int32)) = 0 then (if (zf_X8_requireRange y (-100 : Int32) (100 : Int32)) = 0 then 0 else (zf_X8_requireRange y (-100 : Int32) (100 : Int32))) else (zf_X8_requireRange x (-100 : Int32) (100 : Int32))) := rfl
set_option maxHeartbeats 4000000 in
set_option maxRecDepth 100000 in
theorem zc_X8_requirePlace (l : Launch) (hlt : l.stackTraces = false) (g : zG) (B : Nat) (x : Int32) (y : Int32) : zMetX l g B yX8_requirePlace cX8_requirePlace 2 none 7 125 2 12 [.int x, .int y] [] (zDetC ((zf_X8_requirePlace x y)) (none) []) (zThr ((zf_X8_requirePlace x y)) []) := by
  refine z_inX (by decide +kernel) (Nat.le_of_ble_eq_true rfl) (fun p e R s m args below meth c A Q hRf hRl hRc hRs X Z hnx E hA hQ ls hl => ?_)
  have hx := X.1
  have hb := X.2.1
  have hown := X.2.2.2.1
  have hts := X.2.2.2.2.1
  have hl : lv_has ls 2 [(0, .int x), (1, .int y)] := hl
  refine lv_iload_n hx hb dX8_requirePlace_0 rfl (lv_at hl 0 rfl) ?_
  refine lv_bipush (v := (-100 : Int32)) hx hb dX8_requirePlace_1 (by decide) ?_
  refine lv_bipush (v := (100 : Int32)) hx hb dX8_requirePlace_3 (by decide) ?_
  refine z_callSX (mc := 1) (ms := 6) (As := [.int x, .int (-100 : Int32), .int (100 : Int32)]) (rest := []) (st2 := []) (cs2 := []) (cs3 := []) (k := (zf_X8_requireRange x (-100 : Int32) (100 : Int32))) ⟨hA, hQ, hnx⟩ X Z [] [] [] (zc_X8_requireRange l hlt g B x (-100 : Int32) (100 : Int32)) wM_X8_50 wS_X8_requireRange wK_X8_requireRange wZ_X8 3 0 0 rfl (by decide +kernel) rfl (by decide) rfl rfl rfl (by decide) rfl rfl rfl hl.1 rfl rfl (by rw [hRf, hRl]; exact ⟨Nat.le_of_ble_eq_true rfl, Nat.le_of_ble_eq_true rfl⟩) (Nat.le_of_ble_eq_true rfl) (by rw [hRc, hRs]; exact ⟨Nat.le_of_ble_eq_true rfl, Nat.le_of_ble_eq_true rfl⟩) ⟨Nat.le_of_ble_eq_true rfl, Nat.le_of_ble_eq_true rfl⟩ dX8_requirePlace_5 (fun h9 => (by rw [zf_X8_requirePlace_e, if_neg (Nat.ne_of_gt h9)]; exact ⟨h9, rfl, rfl⟩)) (fun c_1 H locs Z => ?_)
  refine lv_iload_n hx hb dX8_requirePlace_8 rfl (lv_at hl 1 rfl) ?_
  refine lv_bipush (v := (-100 : Int32)) hx hb dX8_requirePlace_9 (by decide) ?_
  refine lv_bipush (v := (100 : Int32)) hx hb dX8_requirePlace_11 (by decide) ?_
  refine z_callSX (mc := 1) (ms := 6) (As := [.int y, .int (-100 : Int32), .int (100 : Int32)]) (rest := []) (st2 := []) (cs2 := []) (cs3 := []) (k := (zf_X8_requireRange y (-100 : Int32) (100 : Int32))) ⟨hA, hQ, hnx⟩ X Z [] [] [] (zc_X8_requireRange l hlt g B y (-100 : Int32) (100 : Int32)) wM_X8_50 wS_X8_requireRange wK_X8_requireRange wZ_X8 3 0 0 rfl (by decide +kernel) rfl (by decide) rfl rfl rfl (by decide) rfl rfl rfl hl.1 rfl rfl (by rw [hRf, hRl]; exact ⟨Nat.le_of_ble_eq_true rfl, Nat.le_of_ble_eq_true rfl⟩) (Nat.le_of_ble_eq_true rfl) (by rw [hRc, hRs]; exact ⟨Nat.le_of_ble_eq_true rfl, Nat.le_of_ble_eq_true rfl⟩) ⟨Nat.le_of_ble_eq_true rfl, Nat.le_of_ble_eq_true rfl⟩ dX8_requirePlace_13 (fun h9 => (by rw [zf_X8_requirePlace_e, if_pos c_1, if_neg (Nat.ne_of_gt h9)]; exact ⟨h9, rfl, rfl⟩)) (fun c_2 H locs Z => ?_)
  exact z_rv E Z (by rw [zf_X8_requirePlace_e, if_pos c_1, if_pos c_2]; exact ⟨rfl, rfl, rfl⟩) dX8_requirePlace_16 (by rw [hRc]; exact Nat.le_of_ble_eq_true rfl) (by rw [hRs]; exact Nat.le_of_ble_eq_true rfl)
def zf_X8_requireSpace (x : Int32) (y : Int32) : Nat := (if x < y then 0 else 3)
theorem zf_X8_requireSpace_e (x : Int32) (y : Int32) : zf_X8_requireSpace x y = (if x < y then 0 else 3) := rfl
set_option maxHeartbeats 4000000 in
set_option maxRecDepth 100000 in
theorem zc_X8_requireSpace (l : Launch) (hlt : l.stackTraces = false) (g : zG) (B : Nat) (x : Int32) (y : Int32) : zMetX l g B yX8_requireSpace cX8_requireSpace 2 none 6 90 1 6 [.int x, .int y] [] (zDetC ((zf_X8_requireSpace x y)) (none) []) (zThr ((zf_X8_requireSpace x y)) []) := by
  refine z_inX (by decide +kernel) (Nat.le_of_ble_eq_true rfl) (fun p e R s m args below meth c A Q hRf hRl hRc hRs X Z hnx E hA hQ ls hl => ?_)
  have hx := X.1
  have hb := X.2.1
  have hown := X.2.2.2.1
  have hts := X.2.2.2.2.1
  have hl : lv_has ls 2 [(0, .int x), (1, .int y)] := hl
  refine lv_iload_n hx hb dX8_requireSpace_0 rfl (lv_at hl 0 rfl) ?_
  refine lv_iload_n hx hb dX8_requireSpace_1 rfl (lv_at hl 1 rfl) ?_
  refine lv_icmp_lt (tgt := 16) hx hb dX8_requireSpace_2 (by decide) (fun c_1 => ?_) (fun c_1 => ?_)
  · exact z_rv E Z (by rw [zf_X8_requireSpace_e, if_pos c_1]; exact ⟨rfl, rfl, rfl⟩) dX8_requireSpace_16 (by rw [hRc]; exact Nat.le_of_ble_eq_true rfl) (by rw [hRs]; exact Nat.le_of_ble_eq_true rfl)
  · exact z_throwSW (cls := "java/lang/IllegalStateException") (text := "there is no space for one more") (ik := 129) (is := 270) (ic := 133) X Z hA hQ hlt hnx hl.1 (by decide +kernel) (by decide +kernel) wC_X8_129 wZ_IllegalStateException (by decide +kernel) (by decide +kernel) (by decide +kernel) dX8_requireSpace_5 dX8_requireSpace_8 dX8_requireSpace_9 dX8_requireSpace_12 dX8_requireSpace_15 (by rw [hRf]; decide) (by rw [hRl]; exact Nat.le_of_ble_eq_true rfl) (by rw [hRc]; exact Nat.le_of_ble_eq_true rfl) (by rw [hRs]; exact Nat.le_of_ble_eq_true rfl) (Nat.le_of_ble_eq_true rfl) (Nat.le_of_ble_eq_true rfl) (by rw [zf_X8_requireSpace_e, if_neg c_1]; exact ⟨by decide, rfl, rfl⟩)
def zf_X8_requireTests (bT : Nat) : Nat := (if bT = 0 then 3 else 0)
theorem zf_X8_requireTests_e (bT : Nat) : zf_X8_requireTests bT = (if bT = 0 then 3 else 0) := rfl
set_option maxHeartbeats 4000000 in
set_option maxRecDepth 100000 in
theorem zc_X8_requireTests (l : Launch) (hlt : l.stackTraces = false) (g : zG) (B : Nat) (td : Nat → Nat) (ad : Nat → Nat) (pd : Nat → Nat) (qd : Nat → Nat) (ow : Nat) (zSD : Nat → Nat → Nat) (zSc : Nat) (bH : Nat) (bW : Nat → Int64) (bT : Nat) (bM : Nat → Nat → Int32) (ht : bT ≤ 10) : zMetX l g B yX8_requireTests cX8_requireTests 1 none 6 90 1 6 [.ref (td 0)] [wTri g td (ad 0) (pd 0) (qd 0) ow (fun i => zSD i 0) zSc, wStc ad, wBel g ad bH bW bT bM] (zDetC ((zf_X8_requireTests bT)) (none) [wTri g td (ad 0) (pd 0) (qd 0) ow (fun i => zSD i 0) zSc, wStc ad, wBel g ad bH bW bT bM]) (zThr ((zf_X8_requireTests bT)) [wTri g td (ad 0) (pd 0) (qd 0) ow (fun i => zSD i 0) zSc, wStc ad, wBel g ad bH bW bT bM]) := by
  refine z_inX (by decide +kernel) (Nat.le_of_ble_eq_true rfl) (fun p e R s m args below meth c A Q hRf hRl hRc hRs X Z hnx E hA hQ ls hl => ?_)
  have hx := X.1
  have hb := X.2.1
  have hown := X.2.2.2.1
  have hts := X.2.2.2.2.1
  have hl : lv_has ls 1 [(0, .ref (td 0))] := hl
  refine lv_aload_n hx hb dX8_requireTests_0 rfl (lv_at hl 0 rfl) ?_
  refine z_get X Z 0 rfl (rfl : zCl[6]? = some (RX8, TX8, 6)) zU_X8 0 (by decide) wF_X8_10 rfl rfl dX8_requireTests_1 ?_
  refine z_get X Z 2 rfl (rfl : zCl[5]? = some (RX6, TX6, 3)) zU_X6 1 (by decide) wF_X8_111 rfl rfl dX8_requireTests_4 ?_
  refine z_get X Z 3 rfl (rfl : zCl[1]? = some (RX1, TX1, 4)) zU_X1 2 (by decide) wF_X8_138 rfl rfl dX8_requireTests_7 ?_
  refine z_ifneN (a := bT) (tgt := 24) X rfl (by omega) dX8_requireTests_10 (by decide) (fun c_1 => ?_) (fun c_1 => ?_)
  · exact z_rv E Z (by rw [zf_X8_requireTests_e, if_neg c_1]; exact ⟨rfl, rfl, rfl⟩) dX8_requireTests_24 (by rw [hRc]; exact Nat.le_of_ble_eq_true rfl) (by rw [hRs]; exact Nat.le_of_ble_eq_true rfl)
  · exact z_throwSW (cls := "java/lang/IllegalStateException") (text := "there are no tests") (ik := 129) (is := 272) (ic := 133) X Z hA hQ hlt hnx hl.1 (by decide +kernel) (by decide +kernel) wC_X8_129 wZ_IllegalStateException (by decide +kernel) (by decide +kernel) (by decide +kernel) dX8_requireTests_13 dX8_requireTests_16 dX8_requireTests_17 dX8_requireTests_20 dX8_requireTests_23 (by rw [hRf]; decide) (by rw [hRl]; exact Nat.le_of_ble_eq_true rfl) (by rw [hRc]; exact Nat.le_of_ble_eq_true rfl) (by rw [hRs]; exact Nat.le_of_ble_eq_true rfl) (Nat.le_of_ble_eq_true rfl) (Nat.le_of_ble_eq_true rfl) (by rw [zf_X8_requireTests_e, if_pos c_1]; exact ⟨by decide, rfl, rfl⟩)
