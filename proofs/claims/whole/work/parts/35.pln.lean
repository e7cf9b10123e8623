def zf_X3_begin_0 (bW : Nat → Int64) (f : Nat → Int64) : (Nat → Int64) := (va_cpy bW f 0 0 8)
theorem zf_X3_begin_0_e (bW : Nat → Int64) (f : Nat → Int64) : zf_X3_begin_0 bW f = (va_cpy bW f 0 0 8) := rfl
set_option maxHeartbeats 4000000 in
set_option maxRecDepth 100000 in
theorem zc_X3_begin_0 (l : Launch) (g : zG) (B : Nat) (pd : Nat → Nat) (bd : Nat → Nat) (bH : Nat) (bW : Nat → Int64) (bT : Nat) (bM : Nat → Nat → Int32) (f : Nat → Int64) : zMet l g B yX3_begin cX3_begin 3 none 1 60 0 0 [.ref (pd 0), .ref (bd 8), .int (0 : Int32)] [wPln g pd, wBel g bd bH bW bT bM, wLng g (pd 2) f] (zDet (none) [wPln g pd, wBel g bd bH bW bT bM, wLng g (pd 2) (zf_X3_begin_0 bW f)]) := by
  refine z_in (plainFor_of_name (by decide)) (Nat.le_of_ble_eq_true rfl) (fun p e R s m args below meth c A Q hRf hRl hRc hRs X Z hnm E ls hl => ?_)
  have hx := X.1
  have hb := X.2.1
  have hown := X.2.2.2.1
  have hts := X.2.2.2.2.1
  have hl : lv_has ls 3 [(0, .ref (pd 0)), (1, .ref (bd 8)), (2, .int (0 : Int32))] := hl
  refine lv_aload_n hx hb dX3_begin_0 rfl (lv_at hl 1 rfl) ?_
  refine z_get X Z 2 rfl (rfl : zCl[1]? = some (RX1, TX1, 4)) zU_X1 1 (by decide) wF_X3_36 rfl rfl dX3_begin_1 ?_
  refine lv_iconst (v := (0 : Int32)) hx hb dX3_begin_4 (by decide) ?_
  refine lv_aload_n hx hb dX3_begin_5 rfl (lv_at hl 0 rfl) ?_
  refine z_get X Z 0 rfl (rfl : zCl[2]? = some (RX3, TX3, 1)) zU_X3 0 (by decide) wF_X3_11 rfl rfl dX3_begin_6 ?_
  refine lv_iload_n hx hb dX3_begin_9 rfl (lv_at hl 2 rfl) ?_
  refine z_aald (j := 0) (r := (pd 2)) X Z 1 3 rfl rfl rfl rfl (by omega) (by decide) rfl dX3_begin_10 ?_
  refine lv_iconst (v := (0 : Int32)) hx hb dX3_begin_11 (by decide) ?_
  refine lv_bipush (v := (8 : Int32)) hx hb dX3_begin_12 (by decide) ?_
  refine z_copyl (cs2 := [wPln g pd, wBel g bd bH bW bT bM, wLng g (pd 2) (va_cpy bW f 0 0 8)]) (n := 8) (f := bW) (g9 := f) X Z 3 15 rfl rfl hl.1 wM_X3_40 rfl (by omega) (by omega) (by decide) (by decide) (by rw [hRf]; decide) (by rw [hRl]; decide) rfl dX3_begin_14 (fun H locs Z => ?_)
  exact z_rv E Z (by rw [zf_X3_begin_0_e]; exact ⟨rfl, rfl⟩) dX3_begin_17 (Nat.zero_le _) (Nat.zero_le _)
def zf_X3_begin_1 (bW : Nat → Int64) (f : Nat → Int64) : (Nat → Int64) := (va_cpy bW f 0 0 8)
theorem zf_X3_begin_1_e (bW : Nat → Int64) (f : Nat → Int64) : zf_X3_begin_1 bW f = (va_cpy bW f 0 0 8) := rfl
set_option maxHeartbeats 4000000 in
set_option maxRecDepth 100000 in
theorem zc_X3_begin_1 (l : Launch) (g : zG) (B : Nat) (pd : Nat → Nat) (bd : Nat → Nat) (bH : Nat) (bW : Nat → Int64) (bT : Nat) (bM : Nat → Nat → Int32) (f : Nat → Int64) : zMet l g B yX3_begin cX3_begin 3 none 1 60 0 0 [.ref (pd 0), .ref (bd 8), .int (1 : Int32)] [wPln g pd, wBel g bd bH bW bT bM, wLng g (pd 3) f] (zDet (none) [wPln g pd, wBel g bd bH bW bT bM, wLng g (pd 3) (zf_X3_begin_1 bW f)]) := by
  refine z_in (plainFor_of_name (by decide)) (Nat.le_of_ble_eq_true rfl) (fun p e R s m args below meth c A Q hRf hRl hRc hRs X Z hnm E ls hl => ?_)
  have hx := X.1
  have hb := X.2.1
  have hown := X.2.2.2.1
  have hts := X.2.2.2.2.1
  have hl : lv_has ls 3 [(0, .ref (pd 0)), (1, .ref (bd 8)), (2, .int (1 : Int32))] := hl
  refine lv_aload_n hx hb dX3_begin_0 rfl (lv_at hl 1 rfl) ?_
  refine z_get X Z 2 rfl (rfl : zCl[1]? = some (RX1, TX1, 4)) zU_X1 1 (by decide) wF_X3_36 rfl rfl dX3_begin_1 ?_
  refine lv_iconst (v := (0 : Int32)) hx hb dX3_begin_4 (by decide) ?_
  refine lv_aload_n hx hb dX3_begin_5 rfl (lv_at hl 0 rfl) ?_
  refine z_get X Z 0 rfl (rfl : zCl[2]? = some (RX3, TX3, 1)) zU_X3 0 (by decide) wF_X3_11 rfl rfl dX3_begin_6 ?_
  refine lv_iload_n hx hb dX3_begin_9 rfl (lv_at hl 2 rfl) ?_
  refine z_aald (j := 1) (r := (pd 3)) X Z 1 3 rfl rfl rfl rfl (by omega) (by decide) rfl dX3_begin_10 ?_
  refine lv_iconst (v := (0 : Int32)) hx hb dX3_begin_11 (by decide) ?_
  refine lv_bipush (v := (8 : Int32)) hx hb dX3_begin_12 (by decide) ?_
  refine z_copyl (cs2 := [wPln g pd, wBel g bd bH bW bT bM, wLng g (pd 3) (va_cpy bW f 0 0 8)]) (n := 8) (f := bW) (g9 := f) X Z 3 15 rfl rfl hl.1 wM_X3_40 rfl (by omega) (by omega) (by decide) (by decide) (by rw [hRf]; decide) (by rw [hRl]; decide) rfl dX3_begin_14 (fun H locs Z => ?_)
  exact z_rv E Z (by rw [zf_X3_begin_1_e]; exact ⟨rfl, rfl⟩) dX3_begin_17 (Nat.zero_le _) (Nat.zero_le _)
def zf_X3_begin_2 (bW : Nat → Int64) (f : Nat → Int64) : (Nat → Int64) := (va_cpy bW f 0 0 8)
theorem zf_X3_begin_2_e (bW : Nat → Int64) (f : Nat → Int64) : zf_X3_begin_2 bW f = (va_cpy bW f 0 0 8) := rfl
set_option maxHeartbeats 4000000 in
set_option maxRecDepth 100000 in
theorem zc_X3_begin_2 (l : Launch) (g : zG) (B : Nat) (pd : Nat → Nat) (bd : Nat → Nat) (bH : Nat) (bW : Nat → Int64) (bT : Nat) (bM : Nat → Nat → Int32) (f : Nat → Int64) : zMet l g B yX3_begin cX3_begin 3 none 1 60 0 0 [.ref (pd 0), .ref (bd 8), .int (2 : Int32)] [wPln g pd, wBel g bd bH bW bT bM, wLng g (pd 4) f] (zDet (none) [wPln g pd, wBel g bd bH bW bT bM, wLng g (pd 4) (zf_X3_begin_2 bW f)]) := by
  refine z_in (plainFor_of_name (by decide)) (Nat.le_of_ble_eq_true rfl) (fun p e R s m args below meth c A Q hRf hRl hRc hRs X Z hnm E ls hl => ?_)
  have hx := X.1
  have hb := X.2.1
  have hown := X.2.2.2.1
  have hts := X.2.2.2.2.1
  have hl : lv_has ls 3 [(0, .ref (pd 0)), (1, .ref (bd 8)), (2, .int (2 : Int32))] := hl
  refine lv_aload_n hx hb dX3_begin_0 rfl (lv_at hl 1 rfl) ?_
  refine z_get X Z 2 rfl (rfl : zCl[1]? = some (RX1, TX1, 4)) zU_X1 1 (by decide) wF_X3_36 rfl rfl dX3_begin_1 ?_
  refine lv_iconst (v := (0 : Int32)) hx hb dX3_begin_4 (by decide) ?_
  refine lv_aload_n hx hb dX3_begin_5 rfl (lv_at hl 0 rfl) ?_
  refine z_get X Z 0 rfl (rfl : zCl[2]? = some (RX3, TX3, 1)) zU_X3 0 (by decide) wF_X3_11 rfl rfl dX3_begin_6 ?_
  refine lv_iload_n hx hb dX3_begin_9 rfl (lv_at hl 2 rfl) ?_
  refine z_aald (j := 2) (r := (pd 4)) X Z 1 3 rfl rfl rfl rfl (by omega) (by decide) rfl dX3_begin_10 ?_
  refine lv_iconst (v := (0 : Int32)) hx hb dX3_begin_11 (by decide) ?_
  refine lv_bipush (v := (8 : Int32)) hx hb dX3_begin_12 (by decide) ?_
  refine z_copyl (cs2 := [wPln g pd, wBel g bd bH bW bT bM, wLng g (pd 4) (va_cpy bW f 0 0 8)]) (n := 8) (f := bW) (g9 := f) X Z 3 15 rfl rfl hl.1 wM_X3_40 rfl (by omega) (by omega) (by decide) (by decide) (by rw [hRf]; decide) (by rw [hRl]; decide) rfl dX3_begin_14 (fun H locs Z => ?_)
  exact z_rv E Z (by rw [zf_X3_begin_2_e]; exact ⟨rfl, rfl⟩) dX3_begin_17 (Nat.zero_le _) (Nat.zero_le _)
def zf_X3_begin_3 (bW : Nat → Int64) (f : Nat → Int64) : (Nat → Int64) := (va_cpy bW f 0 0 8)
theorem zf_X3_begin_3_e (bW : Nat → Int64) (f : Nat → Int64) : zf_X3_begin_3 bW f = (va_cpy bW f 0 0 8) := rfl
set_option maxHeartbeats 4000000 in
set_option maxRecDepth 100000 in
theorem zc_X3_begin_3 (l : Launch) (g : zG) (B : Nat) (pd : Nat → Nat) (bd : Nat → Nat) (bH : Nat) (bW : Nat → Int64) (bT : Nat) (bM : Nat → Nat → Int32) (f : Nat → Int64) : zMet l g B yX3_begin cX3_begin 3 none 1 60 0 0 [.ref (pd 0), .ref (bd 8), .int (3 : Int32)] [wPln g pd, wBel g bd bH bW bT bM, wLng g (pd 5) f] (zDet (none) [wPln g pd, wBel g bd bH bW bT bM, wLng g (pd 5) (zf_X3_begin_3 bW f)]) := by
  refine z_in (plainFor_of_name (by decide)) (Nat.le_of_ble_eq_true rfl) (fun p e R s m args below meth c A Q hRf hRl hRc hRs X Z hnm E ls hl => ?_)
  have hx := X.1
  have hb := X.2.1
  have hown := X.2.2.2.1
  have hts := X.2.2.2.2.1
  have hl : lv_has ls 3 [(0, .ref (pd 0)), (1, .ref (bd 8)), (2, .int (3 : Int32))] := hl
  refine lv_aload_n hx hb dX3_begin_0 rfl (lv_at hl 1 rfl) ?_
  refine z_get X Z 2 rfl (rfl : zCl[1]? = some (RX1, TX1, 4)) zU_X1 1 (by decide) wF_X3_36 rfl rfl dX3_begin_1 ?_
  refine lv_iconst (v := (0 : Int32)) hx hb dX3_begin_4 (by decide) ?_
  refine lv_aload_n hx hb dX3_begin_5 rfl (lv_at hl 0 rfl) ?_
  refine z_get X Z 0 rfl (rfl : zCl[2]? = some (RX3, TX3, 1)) zU_X3 0 (by decide) wF_X3_11 rfl rfl dX3_begin_6 ?_
  refine lv_iload_n hx hb dX3_begin_9 rfl (lv_at hl 2 rfl) ?_
  refine z_aald (j := 3) (r := (pd 5)) X Z 1 3 rfl rfl rfl rfl (by omega) (by decide) rfl dX3_begin_10 ?_
  refine lv_iconst (v := (0 : Int32)) hx hb dX3_begin_11 (by decide) ?_
  refine lv_bipush (v := (8 : Int32)) hx hb dX3_begin_12 (by decide) ?_
  refine z_copyl (cs2 := [wPln g pd, wBel g bd bH bW bT bM, wLng g (pd 5) (va_cpy bW f 0 0 8)]) (n := 8) (f := bW) (g9 := f) X Z 3 15 rfl rfl hl.1 wM_X3_40 rfl (by omega) (by omega) (by decide) (by decide) (by rw [hRf]; decide) (by rw [hRl]; decide) rfl dX3_begin_14 (fun H locs Z => ?_)
  exact z_rv E Z (by rw [zf_X3_begin_3_e]; exact ⟨rfl, rfl⟩) dX3_begin_17 (Nat.zero_le _) (Nat.zero_le _)
