def zf_X3_begin_0 (bW : Nat → Int64) (f : Nat → Int64) : (Nat → Int64) := (va_cpy bW f 0 0 8)
theorem zf_X3_begin_0_e (bW : Nat → Int64) (f : Nat → Int64) : zf_X3_begin_0 bW f = (va_cpy bW f 0 0 8) := rfl
set_option maxHeartbeats 4000000 in
set_option maxRecDepth 100000 in
theorem zc_X3_begin_0 (l : Launch) (g : zG) (B : Nat) (pd : Nat → Nat) (bd : Nat → Nat) (bH : Nat) (bW : Nat → Int64) (bT : Nat) (bM : Nat → Nat → Int32) (f : Nat → Int64) : zMet l g B yX3_begin cX3_begin 3 none 1 60 0 0 [.ref (pd 0), .ref (bd 8), .int (0 : Int32)] [wPln g pd, wBel g bd bH bW bT bM, wLng g (pd 2) f] (zDet (none) [wPln g pd, wBel g bd bH bW bT bM, wLng g (pd 2) (zf_X3_begin_0 bW f)]) := by
  refine z_in (plainFor_of_name (by decide)) (Nat.le_of_ble_eq_true rfl) (fun p e R s m args below meth c A Q hRf hRl hRc hRs X Z hnm E ls hl => ?_)
  have hx := X.1
  have hb := X.2.1
  have hown := X.2.2.2.1
  have hts := X.2.2.2.2.1
  have hl : lv_has ls 3 [(0, .ref (pd 0)), (1, .ref (bd 8)), (2, .int (0 : Int32))] := hl
  refine lv_aload_n hx hb dX3_begin_0 rfl (lv_at hl 1 rfl) ?_
  refine z_get X Z 2 rfl (rfl : zCl[1]? = some (RX1, TX1, 4)) zU_X1 1 (by decide) wF_X3_36 rfl rfl dX3_begin_1 ?_
  refine lv_iconst (v := (0 : Int32)) hx hb dX3_begin_4 (by decide) ?_
  refine lv_aload_n hx hb dX3_begin_5 rfl (lv_at hl 0 rfl) ?_
  refine z_get X Z 0 rfl (rfl : zCl[2]? = some (RX3, TX3, 1)) zU_X3 0 (by decide) wF_X3_11 rfl rfl dX3_begin_6 ?_
  refine lv_iload_n hx hb dX3_begin_9 rfl (lv_at hl 2 rfl) ?_
  refine z_aald (j := 0) (r := (pd 2)) X Z 1 3 rfl rfl rfl rfl (by omega) (by decide) rfl dX3_begin_10 ?_
  refine lv_iconst (v := (0 : Int32)) hx hb dX3_begin_11 (by decide) ?_
  refine lv_bipush (v := (8 : Int32)) hx hb dX3_begin_12 (by decide) ?_
  refine z_copyl (cs2 := [wPln g pd, wBel g bd bH bW bT bM, wLng g (pd 2) (va_cpy bW f 0 0 8)]) (n := 8) (f := bW) (g9 := f) X Z 3 15 rfl rfl hl.1 wM_X3_40 rfl (by omega) (by omega) (by decide) (by decide) (by rw [hRf]; decide) (by rw [hRl]; decide) rfl dX3_begin_14 (fun H locs Z => ?_)
  exact z_rv E Z (by rw [zf_X3_begin_0_e]; exact ⟨rfl, rfl⟩) dX3_begin_17 (Nat.zero_le _) (Nat.zero_le _)
def zf_X3_begin_1 (bW : Nat → Int64) (f : Nat → Int64) : (Nat → Int64) := (va_cpy bW f 0 0 8)
theorem zf_X3_begin_1_e (bW : Nat → Int64) (f : Nat → Int64) : zf_X3_begin_1 bW f = (va_cpy bW f 0 0 8) := rfl
set_option maxHeartbeats 4000000 in
set_option maxRecDepth 100000 in
theorem zc_X3_begin_1 (l : Launch) (g : zG) (B : Nat) (pd : Nat → Nat) (bd : Nat → Nat) (bH : Nat) (bW : Nat → Int64) (bT : Nat) (bM : Nat → Nat → Int32) (f : Nat → Int64) : zMet l g B yX3_begin cX3_begin 3 none 1 60 0 0 [.ref (pd 0), .ref (bd 8), .int (1 : Int32)] [wPln g pd, wBel g bd bH bW bT bM, wLng g (pd 3) f] (zDet (none) [wPln g pd, wBel g bd bH bW bT bM, wLng g (pd 3) (zf_X3_begin_1 bW f)]) := by
  refine z_in (plainFor_of_name (by decide)) (Nat.le_of_ble_eq_true rfl) (fun p e R s m args below meth c A Q hRf hRl hRc hRs X Z hnm E ls hl => ?_)
  have hx := X.1
  have hb := X.2.1
  have hown := X.2.2.2.1
  have hts := X.2.2.2.2.1
  have hl : lv_has ls 3 [(0, .ref (pd 0)), (1, .ref (bd 8)), (2, .int (1 : Int32))] := hl
  refine lv_aload_n hx hb dX3_begin_0 rfl (lv_at hl 1 rfl) ?_
  refine z_get X Z 2 rfl (rfl : zCl[1]? = some (RX1, TX1, 4)) zU_X1 1 (by decide) wF_X3_36 rfl rfl dX3_begin_1 ?_
  refine lv_iconst (v := (0 : Int32)) hx hb dX3_begin_4 (by decide) ?_
  refine lv_aload_n hx hb dX3_begin_5 rfl (lv_at hl 0 rfl) ?_
  refine z_get X Z 0 rfl (rfl : zCl[2]? = some (RX3, TX3, 1)) zU_X3 0 (by decide) wF_X3_11 rfl rfl dX3_begin_6 ?_
  refine lv_iload_n hx hb dX3_begin_9 rfl (lv_at hl 2 rfl) ?_
  refine z_aald (j := 1) (r := (pd 3)) X Z 1 3 rfl rfl rfl rfl (by omega) (by decide) rfl dX3_begin_10 ?_
  refine lv_iconst (v := (0 : Int32)) hx hb dX3_begin_11 (by decide) ?_
  refine lv_bipush (v := (8 : Int32)) hx hb dX3_begin_12 (by decide) ?_
  refine z_copyl (cs2 := [wPln g pd, wBel g bd bH bW bT bM, wLng g (pd 3) (va_cpy bW f 0 0 8)]) (n := 8) (f := bW) (g9 := f) X Z 3 15 rfl rfl hl.1 wM_X3_40 rfl (by omega) (by omega) (by decide) (by decide) (by rw [hRf]; decide) (by rw [hRl]; decide) rfl dX3_begin_14 (fun H locs Z => ?_)
  exact z_rv E Z (by rw [zf_X3_begin_1_e]; exact ⟨rfl, rfl⟩) dX3_begin_17 (Nat.zero_le _) (Nat.zero_le _)
def zf_X3_begin_2 (bW : Nat → Int64) (f : Nat → Int64) : (Nat → Int64) := (va_cpy bW f 0 0 8)
theorem zf_X3_begin_2_e (bW : Nat → Int64) (f : Nat → Int64) : zf_X3_begin_2 bW f = (va_cpy bW f 0 0 8) := rfl
set_option maxHeartbeats 4000000 in
set_option maxRecDepth 100000 in
theorem zc_X3_begin_2 (l : Launch) (g : zG) (B : Nat) (pd : Nat → Nat) (bd : Nat → Nat) (bH : Nat) (bW : Nat → Int64) (bT : Nat) (bM : Nat → Nat → Int32) (f : Nat → Int64) : zMet l g B yX3_begin cX3_begin 3 none 1 60 0 0 [.ref (pd 0), .ref (bd 8), .int (2 : Int32)] [wPln g pd, wBel g bd bH bW bT bM, wLng g (pd 4) f] (zDet (none) [wPln g pd, wBel g bd bH bW bT bM, wLng g (pd 4) (zf_X3_begin_2 bW f)]) := by
  refine z_in (plainFor_of_name (by decide)) (Nat.le_of_ble_eq_true rfl) (fun p e R s m args below meth c A Q hRf hRl hRc hRs X Z hnm E ls hl => ?_)
  have hx := X.1
  have hb := X.2.1
  have hown := X.2.2.2.1
  have hts := X.2.2.2.2.1
  have hl : lv_has ls 3 [(0, .ref (pd 0)), (1, .ref (bd 8)), (2, .int (2 : Int32))] := hl
  refine lv_aload_n hx hb dX3_begin_0 rfl (lv_at hl 1 rfl) ?_
  refine z_get X Z 2 rfl (rfl : zCl[1]? = some (RX1, TX1, 4)) zU_X1 1 (by decide) wF_X3_36 rfl rfl dX3_begin_1 ?_
  refine lv_iconst (v := (0 : Int32)) hx hb dX3_begin_4 (by decide) ?_
  refine lv_aload_n hx hb dX3_begin_5 rfl (lv_at hl 0 rfl) ?_
  refine z_get X Z 0 rfl (rfl : zCl[2]? = some (RX3, TX3, 1)) zU_X3 0 (by decide) wF_X3_11 rfl rfl dX3_begin_6 ?_
  refine lv_iload_n hx hb dX3_begin_9 rfl (lv_at hl 2 rfl) ?_
  refine z_aald (j := 2) (r := (pd 4)) X Z 1 3 rfl rfl rfl rfl (by omega) (by decide) rfl dX3_begin_10 ?_
  refine lv_iconst (v := (0 : Int32)) hx hb dX3_begin_11 (by decide) ?_
  refine lv_bipush (v := (8 : Int32)) hx hb dX3_begin_12 (by decide) ?_
  refine z_copyl (cs2 := [wPln g pd, wBel g bd bH bW bT bM, wLng g (pd 4) (va_cpy bW f 0 0 8)]) (n := 8) (f := bW) (g9 := f) X Z 3 15 rfl rfl hl.1 wM_X3_40 rfl (by omega) (by omega) (by decide) (by decide) (by rw [hRf]; decide) (by rw [hRl]; decide) rfl dX3_begin_14 (fun H locs Z => ?_)
  exact z_rv E Z (by rw [zf_X3_begin_2_e]; exact ⟨rfl, rfl⟩) dX3_begin_17 (Nat.zero_le _) (Nat.zero_le _)
def zf_X3_begin_3 (bW : Nat → Int64) (f : Nat → Int64) : (Nat → Int64) := (va_cpy bW f 0 0 8)
theorem zf_X3_begin_3_e (bW : Nat → Int64) (f : Nat → Int64) : zf_X3_begin_3 bW f = (va_cpy bW f 0 0 8) := rfl
set_option maxHeartbeats 4000000 in
set_option maxRecDepth 100000 in
theorem zc_X3_begin_3 (l : Launch) (g : zG) (B : Nat) (pd : Nat → Nat) (bd : Nat → Nat) (bH : Nat) (bW : Nat → Int64) (bT : Nat) (bM : Nat → Nat → Int32) (f : Nat → Int64) : zMet l g B yX3_begin cX3_begin 3 none 1 60 0 0 [.ref (pd 0), .ref (bd 8), .int (3 : Int32)] [wPln g pd, wBel g bd bH bW bT bM, wLng g (pd 5) f] (zDet (none) [wPln g pd, wBel g bd bH bW bT bM, wLng g (pd 5) (zf_X3_begin_3 bW f)]) := by
  refine z_in (plainFor_of_name (by decide)) (Nat.le_of_ble_eq_true rfl) (fun p e R s m args below meth c A Q hRf hRl hRc hRs X Z hnm E ls hl => ?_)
  have hx := X.1
  have hb := X.2.1
  have hown := X.2.2.2.1
  have hts := X.2.2.2.2.1
  have hl : lv_has ls 3 [(0, .ref (pd 0)), (1, .ref (bd 8)), (2, .int (3 : Int32))] := hl
  refine lv_aload_n hx hb dX3_begin_0 rfl (lv_at hl 1 rfl) ?_
  refine z_get X Z 2 rfl (rfl : zCl[1]? = some (RX1, TX1, 4)) zU_X1 1 (by decide) wF_X3_36 rfl rfl dX3_begin_1 ?_
  refine lv_iconst (v := (0 : Int32)) hx hb dX3_begin_4 (by decide) ?_
  refine lv_aload_n hx hb dX3_begin_5 rfl (lv_at hl 0 rfl) ?_
  refine z_get X Z 0 rfl (rfl : zCl[2]? = some (RX3, TX3, 1)) zU_X3 0 (by decide) wF_X3_11 rfl rfl dX3_begin_6 ?_
  refine lv_iload_n hx hb dX3_begin_9 rfl (lv_at hl 2 rfl) ?_
  refine z_aald (j := 3) (r := (pd 5)) X Z 1 3 rfl rfl rfl rfl (by omega) (by decide) rfl dX3_begin_10 ?_
  refine lv_iconst (v := (0 : Int32)) hx hb dX3_begin_11 (by decide) ?_
  refine lv_bipush (v := (8 : Int32)) hx hb dX3_begin_12 (by decide) ?_
  refine z_copyl (cs2 := [wPln g pd, wBel g bd bH bW bT bM, wLng g (pd 5) (va_cpy bW f 0 0 8)]) (n := 8) (f := bW) (g9 := f) X Z 3 15 rfl rfl hl.1 wM_X3_40 rfl (by omega) (by omega) (by decide) (by decide) (by rw [hRf]; decide) (by rw [hRl]; decide) rfl dX3_begin_14 (fun H locs Z => ?_)
  exact z_rv E Z (by rw [zf_X3_begin_3_e]; exact ⟨rfl, rfl⟩) dX3_begin_17 (Nat.zero_le _) (Nat.zero_le _)
def zf_X3_greatestValue_0 (bH : Nat) (f0 : Nat → Int64) : Int64 := (zf_X1_greatest bH f0)
theorem zf_X3_greatestValue_0_e (bH : Nat) (f0 : Nat → Int64) : zf_X3_greatestValue_0 bH f0 = (zf_X1_greatest bH f0) := rfl
set_option maxHeartbeats 4000000 in
set_option maxRecDepth 100000 in
theorem zc_X3_greatestValue_0 (l : Launch) (g : zG) (B : Nat) (pd : Nat → Nat) (bd : Nat → Nat) (bH : Nat) (bW : Nat → Int64) (bT : Nat) (bM : Nat → Nat → Int32) (f0 : Nat → Int64) (hh : bH ≤ 8) (ht : bT ≤ 10) : zMet l g B yX3_greatestValue cX3_greatestValue 6 (some .long) 3 90 0 0 [.ref (bd 8), .ref (pd 1), .int (0 : Int32)] [wPln g pd, wBel g bd bH bW bT bM, wLng g (pd 2) f0] (zDet (some (.long (zf_X3_greatestValue_0 bH f0))) [wPln g pd, wBel g bd bH bW bT bM, wLng g (pd 2) f0]) := by
  refine z_in (plainFor_of_name (by decide)) (Nat.le_of_ble_eq_true rfl) (fun p e R s m args below meth c A Q hRf hRl hRc hRs X Z hnm E ls hl => ?_)
  have hx := X.1
  have hb := X.2.1
  have hown := X.2.2.2.1
  have hts := X.2.2.2.2.1
  have hl : lv_has ls 6 [(0, .ref (bd 8)), (1, .ref (pd 1)), (2, .int (0 : Int32))] := hl
  refine lv_iload_n hx hb dX3_greatestValue_0 rfl (lv_at hl 2 rfl) ?_
  refine lv_if_gt (tgt := 12) hx hb dX3_greatestValue_1 (by decide) (fun c_1 => ?_) (fun c_1 => ?_)
  · (exact absurd c_1 (by decide))
  · refine lv_aload_n hx hb dX3_greatestValue_4 rfl (lv_at hl 0 rfl) ?_
    refine lv_aload_n hx hb dX3_greatestValue_5 rfl (lv_at hl 1 rfl) ?_
    refine lv_iconst (v := (0 : Int32)) hx hb dX3_greatestValue_6 (by decide) ?_
    refine z_aald (j := 0) (r := (pd 2)) X Z 1 3 rfl rfl rfl rfl (by omega) (by decide) rfl dX3_greatestValue_7 ?_
    refine z_callV (mc := 0) (ms := 0) (As := [.ref (pd 2)]) (rest := []) (st2 := [.long (zf_X1_greatest bH f0)]) (cs2 := [wPln g pd, wBel g bd bH bW bT bM, wLng g (pd 2) f0]) X Z [1, 2] [0] [2, 0, 1] 0 1 (zc_X1_greatest l g B bd bH bW bT bM (pd 2) f0 (by first | assumption | omega | decide)) wM_X3_46 wS_X1_greatest wV_X1_greatest wK_X1_greatest wZ_X1 1 3 3 rfl (by decide +kernel) rfl (by decide) rfl rfl rfl (by decide) rfl rfl (rfl : zCl[1]? = some (RX1, TX1, 4)) hl.1 rfl rfl (by rw [hRf, hRl]; exact ⟨Nat.le_of_ble_eq_true rfl, Nat.le_of_ble_eq_true rfl⟩) (Nat.le_of_ble_eq_true rfl) ⟨Nat.zero_le _, Nat.zero_le _⟩ dX3_greatestValue_8 (fun H locs Z => ?_)
    exact z_rl (v := (zf_X1_greatest bH f0)) E Z (by rw [zf_X3_greatestValue_0_e]; exact ⟨rfl, rfl⟩) dX3_greatestValue_11 (Nat.zero_le _) (Nat.zero_le _)
def zl_X3_valueOfTest_1_17 (bH : Nat) (bM : Nat → Nat → Int32) (f1 : Nat → Int64) (t : Nat) : Nat → Nat → Int64 → (Nat → Int64) → Int64 × (Nat → Int64)
  | 0, _, x4, g0 => (x4, g0)
  | n17 + 1, j17, x4, g0 => zl_X3_valueOfTest_1_17 bH bM f1 t n17 (j17 + 1) (x4 + (zf_X3_greatestValue_0 bH (zf_X1_multiply bH bM f1 t j17 g0))) (zf_X1_multiply bH bM f1 t j17 g0)
theorem zl_X3_valueOfTest_1_17_s (bH : Nat) (bM : Nat → Nat → Int32) (f1 : Nat → Int64) (t : Nat) (n17 : Nat) (j17 : Nat) (x4 : Int64) (g0 : Nat → Int64) : zl_X3_valueOfTest_1_17 bH bM f1 t (n17 + 1) j17 x4 g0 = zl_X3_valueOfTest_1_17 bH bM f1 t n17 (j17 + 1) (x4 + (zf_X3_greatestValue_0 bH (zf_X1_multiply bH bM f1 t j17 g0))) (zf_X1_multiply bH bM f1 t j17 g0) := rfl
def zf_X3_valueOfTest_1 (bH : Nat) (bM : Nat → Nat → Int32) (f0 : Nat → Int64) (f1 : Nat → Int64) (t : Nat) : Int64 × (Nat → Int64) := (((zl_X3_valueOfTest_1_17 bH bM f1 t 3 0 (0 : Int64) f0).1), ((zl_X3_valueOfTest_1_17 bH bM f1 t 3 0 (0 : Int64) f0).2))
theorem zf_X3_valueOfTest_1_e (bH : Nat) (bM : Nat → Nat → Int32) (f0 : Nat → Int64) (f1 : Nat → Int64) (t : Nat) : zf_X3_valueOfTest_1 bH bM f0 f1 t = (((zl_X3_valueOfTest_1_17 bH bM f1 t 3 0 (0 : Int64) f0).1), ((zl_X3_valueOfTest_1_17 bH bM f1 t 3 0 (0 : Int64) f0).2)) := rfl
set_option maxHeartbeats 4000000 in
set_option maxRecDepth 100000 in
theorem zc_X3_valueOfTest_1 (l : Launch) (g : zG) (B : Nat) (pd : Nat → Nat) (bd : Nat → Nat) (bH : Nat) (bW : Nat → Int64) (bT : Nat) (bM : Nat → Nat → Int32) (f0 : Nat → Int64) (f1 : Nat → Int64) (t : Nat) (hh : bH ≤ 8) (ht : bT ≤ 10) (hk : t < bT) : zMet l g B yX3_valueOfTest cX3_valueOfTest 7 (some .long) 4 120 0 0 [.ref (bd 8), .ref (pd 1), .int (1 : Int32), .int (nI t)] [wPln g pd, wBel g bd bH bW bT bM, wLng g (pd 2) f0, wLng g (pd 3) f1] (zDet (some (.long ((zf_X3_valueOfTest_1 bH bM f0 f1 t).1))) [wPln g pd, wBel g bd bH bW bT bM, wLng g (pd 2) ((zf_X3_valueOfTest_1 bH bM f0 f1 t).2), wLng g (pd 3) f1]) := by
  refine z_in (plainFor_of_name (by decide)) (Nat.le_of_ble_eq_true rfl) (fun p e R s m args below meth c A Q hRf hRl hRc hRs X Z hnm E ls hl => ?_)
  have hx := X.1
  have hb := X.2.1
  have hown := X.2.2.2.1
  have hts := X.2.2.2.2.1
  have hl : lv_has ls 7 [(0, .ref (bd 8)), (1, .ref (pd 1)), (2, .int (1 : Int32)), (3, .int (nI t))] := hl
  refine lv_iload_n hx hb dX3_valueOfTest_0 rfl (lv_at hl 2 rfl) ?_
  refine lv_if_le (tgt := 9) hx hb dX3_valueOfTest_1 (by decide) (fun c_1 => ?_) (fun c_1 => ?_)
  · (exact absurd c_1 (by decide))
  · refine lv_iload_n hx hb dX3_valueOfTest_4 rfl (lv_at hl 2 rfl) ?_
    refine lv_iconst (v := (3 : Int32)) hx hb dX3_valueOfTest_5 (by decide) ?_
    refine lv_icmp_le (tgt := 11) hx hb dX3_valueOfTest_6 (by decide) (fun c_2 => ?_) (fun c_2 => ?_)
    · refine lv_lconst (v := (0 : Int64)) hx hb dX3_valueOfTest_11 (by decide) ?_
      refine lv_lstore (lv' := [(4, .long (0 : Int64)), (0, .ref (bd 8)), (1, .ref (pd 1)), (2, .int (1 : Int32)), (3, .int (nI t))]) hx hb dX3_valueOfTest_12 hl (by decide) rfl (fun ls hl => ?_)
      refine lv_iconst (v := (0 : Int32)) hx hb dX3_valueOfTest_14 (by decide) ?_
      refine lv_istore (lv' := [(6, .int (0 : Int32)), (4, .long (0 : Int64)), (0, .ref (bd 8)), (1, .ref (pd 1)), (2, .int (1 : Int32)), (3, .int (nI t))]) hx hb dX3_valueOfTest_15 hl (by decide) rfl (fun ls hl => ?_)
      have loop_17 : ∀ (n17 j17 : Nat) (x4 : Int64) (g0 : Nat → Int64), j17 + n17 = 3 → zl_X3_valueOfTest_1_17 bH bM f1 t n17 j17 x4 g0 = (zl_X3_valueOfTest_1_17 bH bM f1 t 3 0 (0 : Int64) f0) → ∀ (H : Heap) (locs : List Loc), zM g B A s [wPln g pd, wBel g bd bH bW bT bM, wLng g (pd 2) g0, wLng g (pd 3) f1] H locs → ∀ ls : Array Slot, lv_has ls 7 [(6, .int (nI j17)), (4, .long x4), (0, .ref (bd 8)), (1, .ref (pd 1)), (2, .int (1 : Int32)), (3, .int (nI t))] → W p l e R s m args below meth c H locs 0 0 Q (F0 m 17 ls []) := by
        intro n17
        induction n17 with
        | zero =>
          intro j17 x4 g0 hin17 hR17 H locs Z ls hl
          have e_x4 : (zl_X3_valueOfTest_1_17 bH bM f1 t 3 0 (0 : Int64) f0).1 = x4 := (by rw [← hR17]; rfl)
          have e_g0 : (zl_X3_valueOfTest_1_17 bH bM f1 t 3 0 (0 : Int64) f0).2 = g0 := (by rw [← hR17]; rfl)
          subst e_x4
          subst e_g0
          refine lv_iload hx hb dX3_valueOfTest_17 (lv_at hl 0 rfl) ?_
          refine lv_iconst (v := (3 : Int32)) hx hb dX3_valueOfTest_19 (by decide) ?_
          refine z_icmp_ge (a := j17) (b := 3) (tgt := 57) X rfl rfl (by omega) (by omega) dX3_valueOfTest_20 (by decide) (fun c_3 => ?_) (fun c_3 => ?_)
          · refine lv_lload hx hb dX3_valueOfTest_57 (lv_at hl 1 rfl) ?_
            exact z_rl (v := ((zl_X3_valueOfTest_1_17 bH bM f1 t 3 0 (0 : Int64) f0).1)) E Z (by rw [zf_X3_valueOfTest_1_e]; dsimp only; exact ⟨rfl, rfl⟩) dX3_valueOfTest_59 (Nat.zero_le _) (Nat.zero_le _)
          · (exfalso; omega)
        | succ n17 ih17 =>
          intro j17 x4 g0 hin17 hR17 H locs Z ls hl
          refine lv_iload hx hb dX3_valueOfTest_17 (lv_at hl 0 rfl) ?_
          refine lv_iconst (v := (3 : Int32)) hx hb dX3_valueOfTest_19 (by decide) ?_
          refine z_icmp_ge (a := j17) (b := 3) (tgt := 57) X rfl rfl (by omega) (by omega) dX3_valueOfTest_20 (by decide) (fun c_4 => ?_) (fun c_4 => ?_)
          · (exfalso; omega)
          · refine lv_aload_n hx hb dX3_valueOfTest_23 rfl (lv_at hl 2 rfl) ?_
            refine lv_aload_n hx hb dX3_valueOfTest_24 rfl (lv_at hl 3 rfl) ?_
            refine lv_iload_n hx hb dX3_valueOfTest_25 rfl (lv_at hl 4 rfl) ?_
            refine z_aald (j := 1) (r := (pd 3)) X Z 1 3 rfl rfl rfl rfl (by omega) (by decide) rfl dX3_valueOfTest_26 ?_
            refine lv_iload_n hx hb dX3_valueOfTest_27 rfl (lv_at hl 5 rfl) ?_
            refine lv_iload hx hb dX3_valueOfTest_28 (lv_at hl 0 rfl) ?_
            refine lv_aload_n hx hb dX3_valueOfTest_30 rfl (lv_at hl 3 rfl) ?_
            refine lv_iload_n hx hb dX3_valueOfTest_31 rfl (lv_at hl 4 rfl) ?_
            refine lv_iconst (v := (1 : Int32)) hx hb dX3_valueOfTest_32 (by decide) ?_
            refine z_isub (a := 1) (b := 1) X rfl rfl (by omega) dX3_valueOfTest_33 ?_
            refine z_aald (j := 0) (r := (pd 2)) X Z 1 3 rfl rfl rfl rfl (by omega) (by decide) rfl dX3_valueOfTest_34 ?_
            refine z_callV (mc := 0) (ms := 0) (As := [.ref (pd 3), .int (nI t), .int (nI j17), .ref (pd 2)]) (rest := []) (st2 := []) (cs2 := [wPln g pd, wBel g bd bH bW bT bM, wLng g (pd 2) (zf_X1_multiply bH bM f1 t j17 g0), wLng g (pd 3) f1]) X Z [1, 3, 2] [0] [3, 0, 2, 1] 0 1 (zc_X1_multiply l g B bd bH bW bT bM (pd 3) f1 t j17 (pd 2) g0 (by first | assumption | omega | decide) (by first | assumption | omega | decide) (by first | assumption | omega | decide)) wM_X3_56 wS_X1_multiply wV_X1_multiply wK_X1_multiply wZ_X1 4 4 4 rfl (by decide +kernel) rfl (by decide) rfl rfl rfl (by decide) rfl rfl (rfl : zCl[1]? = some (RX1, TX1, 4)) hl.1 rfl rfl (by rw [hRf, hRl]; exact ⟨Nat.le_of_ble_eq_true rfl, Nat.le_of_ble_eq_true rfl⟩) (Nat.le_of_ble_eq_true rfl) ⟨Nat.zero_le _, Nat.zero_le _⟩ dX3_valueOfTest_35 (fun H locs Z => ?_)
            refine lv_lload hx hb dX3_valueOfTest_38 (lv_at hl 1 rfl) ?_
            refine lv_aload_n hx hb dX3_valueOfTest_40 rfl (lv_at hl 2 rfl) ?_
            refine lv_aload_n hx hb dX3_valueOfTest_41 rfl (lv_at hl 3 rfl) ?_
            refine lv_iload_n hx hb dX3_valueOfTest_42 rfl (lv_at hl 4 rfl) ?_
            refine lv_iconst (v := (1 : Int32)) hx hb dX3_valueOfTest_43 (by decide) ?_
            refine z_isub (a := 1) (b := 1) X rfl rfl (by omega) dX3_valueOfTest_44 ?_
            refine z_callS (mc := 0) (ms := 0) (As := [.ref (bd 8), .ref (pd 1), .int (0 : Int32)]) (rest := [.long x4]) (st2 := [.long (zf_X3_greatestValue_0 bH (zf_X1_multiply bH bM f1 t j17 g0)), .long x4]) (cs2 := [wPln g pd, wBel g bd bH bW bT bM, wLng g (pd 2) (zf_X1_multiply bH bM f1 t j17 g0), wLng g (pd 3) f1]) X Z [0, 1, 2] [3] [0, 1, 2, 3] (zc_X3_greatestValue_0 l g B pd bd bH bW bT bM (zf_X1_multiply bH bM f1 t j17 g0) (by first | assumption | omega | decide) (by first | assumption | omega | decide)) wM_X3_20 wS_X3_greatestValue wK_X3_greatestValue wZ_X3 3 4 4 rfl (by decide +kernel) rfl (by decide) rfl rfl rfl (by decide) rfl hl.1 rfl rfl (by rw [hRf, hRl]; exact ⟨Nat.le_of_ble_eq_true rfl, Nat.le_of_ble_eq_true rfl⟩) (Nat.le_of_ble_eq_true rfl) ⟨Nat.zero_le _, Nat.zero_le _⟩ dX3_valueOfTest_45 (fun H locs Z => ?_)
            refine lv_ladd hx hb dX3_valueOfTest_48 ?_
            refine lv_lstore (lv' := [(4, .long (x4 + (zf_X3_greatestValue_0 bH (zf_X1_multiply bH bM f1 t j17 g0)))), (6, .int (nI j17)), (0, .ref (bd 8)), (1, .ref (pd 1)), (2, .int (1 : Int32)), (3, .int (nI t))]) hx hb dX3_valueOfTest_49 hl (by decide) rfl (fun ls hl => ?_)
            refine z_iinc (b := (j17 + 1)) (st := 1) (lv' := [(6, .int (nI (j17 + 1))), (4, .long (x4 + (zf_X3_greatestValue_0 bH (zf_X1_multiply bH bM f1 t j17 g0)))), (0, .ref (bd 8)), (1, .ref (pd 1)), (2, .int (1 : Int32)), (3, .int (nI t))]) X dX3_valueOfTest_51 hl (k := 1) rfl rfl (by decide) (by omega) (by decide) rfl (fun ls hl => ?_)
            refine lv_goto (tgt := 17) hx hb dX3_valueOfTest_54 (by decide) ?_
            exact ih17 (j17 + 1) (x4 + (zf_X3_greatestValue_0 bH (zf_X1_multiply bH bM f1 t j17 g0))) (zf_X1_multiply bH bM f1 t j17 g0) (by omega) (by have h9 := hR17; rw [zl_X3_valueOfTest_1_17_s] at h9; exact h9) _ _ Z ls (lv_sub hl [0, 1, 2, 3, 4, 5] rfl)
      exact loop_17 3 0 (0 : Int64) f0 (by omega) rfl _ _ Z ls (lv_sub hl [0, 1, 2, 3, 4, 5] rfl)
    · (exact absurd c_2 (by decide))
def zl_X3_greatestValue_1_17 (bH : Nat) (bM : Nat → Nat → Int32) (f1 : Nat → Int64) : Nat → Nat → Int64 → (Nat → Int64) → Int64 × (Nat → Int64)
  | 0, _, x3, g0 => (x3, g0)
  | n17 + 1, j17, x3, g0 => zl_X3_greatestValue_1_17 bH bM f1 n17 (j17 + 1) (zmaxL x3 ((zf_X3_valueOfTest_1 bH bM g0 f1 j17).1)) ((zf_X3_valueOfTest_1 bH bM g0 f1 j17).2)
theorem zl_X3_greatestValue_1_17_s (bH : Nat) (bM : Nat → Nat → Int32) (f1 : Nat → Int64) (n17 : Nat) (j17 : Nat) (x3 : Int64) (g0 : Nat → Int64) : zl_X3_greatestValue_1_17 bH bM f1 (n17 + 1) j17 x3 g0 = zl_X3_greatestValue_1_17 bH bM f1 n17 (j17 + 1) (zmaxL x3 ((zf_X3_valueOfTest_1 bH bM g0 f1 j17).1)) ((zf_X3_valueOfTest_1 bH bM g0 f1 j17).2) := rfl
def zf_X3_greatestValue_1 (bH : Nat) (bT : Nat) (bM : Nat → Nat → Int32) (f0 : Nat → Int64) (f1 : Nat → Int64) : Int64 × (Nat → Int64) := (((zl_X3_greatestValue_1_17 bH bM f1 bT 0 (0 : Int64) f0).1), ((zl_X3_greatestValue_1_17 bH bM f1 bT 0 (0 : Int64) f0).2))
theorem zf_X3_greatestValue_1_e (bH : Nat) (bT : Nat) (bM : Nat → Nat → Int32) (f0 : Nat → Int64) (f1 : Nat → Int64) : zf_X3_greatestValue_1 bH bT bM f0 f1 = (((zl_X3_greatestValue_1_17 bH bM f1 bT 0 (0 : Int64) f0).1), ((zl_X3_greatestValue_1_17 bH bM f1 bT 0 (0 : Int64) f0).2)) := rfl
set_option maxHeartbeats 4000000 in
set_option maxRecDepth 100000 in
theorem zc_X3_greatestValue_1 (l : Launch) (g : zG) (B : Nat) (pd : Nat → Nat) (bd : Nat → Nat) (bH : Nat) (bW : Nat → Int64) (bT : Nat) (bM : Nat → Nat → Int32) (f0 : Nat → Int64) (f1 : Nat → Int64) (hh : bH ≤ 8) (ht : bT ≤ 10) : zMet l g B yX3_greatestValue cX3_greatestValue 6 (some .long) 5 150 0 0 [.ref (bd 8), .ref (pd 1), .int (1 : Int32)] [wPln g pd, wBel g bd bH bW bT bM, wLng g (pd 2) f0, wLng g (pd 3) f1] (zDet (some (.long ((zf_X3_greatestValue_1 bH bT bM f0 f1).1))) [wPln g pd, wBel g bd bH bW bT bM, wLng g (pd 2) ((zf_X3_greatestValue_1 bH bT bM f0 f1).2), wLng g (pd 3) f1]) := by
  refine z_in (plainFor_of_name (by decide)) (Nat.le_of_ble_eq_true rfl) (fun p e R s m args below meth c A Q hRf hRl hRc hRs X Z hnm E ls hl => ?_)
  have hx := X.1
  have hb := X.2.1
  have hown := X.2.2.2.1
  have hts := X.2.2.2.2.1
  have hl : lv_has ls 6 [(0, .ref (bd 8)), (1, .ref (pd 1)), (2, .int (1 : Int32))] := hl
  refine lv_iload_n hx hb dX3_greatestValue_0 rfl (lv_at hl 2 rfl) ?_
  refine lv_if_gt (tgt := 12) hx hb dX3_greatestValue_1 (by decide) (fun c_1 => ?_) (fun c_1 => ?_)
  · refine lv_lconst (v := (0 : Int64)) hx hb dX3_greatestValue_12 (by decide) ?_
    refine lv_lstore_n (lv' := [(3, .long (0 : Int64)), (0, .ref (bd 8)), (1, .ref (pd 1)), (2, .int (1 : Int32))]) hx hb dX3_greatestValue_13 rfl hl (by decide) rfl (fun ls hl => ?_)
    refine lv_iconst (v := (0 : Int32)) hx hb dX3_greatestValue_14 (by decide) ?_
    refine lv_istore (lv' := [(5, .int (0 : Int32)), (3, .long (0 : Int64)), (0, .ref (bd 8)), (1, .ref (pd 1)), (2, .int (1 : Int32))]) hx hb dX3_greatestValue_15 hl (by decide) rfl (fun ls hl => ?_)
    have loop_17 : ∀ (n17 j17 : Nat) (x3 : Int64) (g0 : Nat → Int64), j17 + n17 = bT → zl_X3_greatestValue_1_17 bH bM f1 n17 j17 x3 g0 = (zl_X3_greatestValue_1_17 bH bM f1 bT 0 (0 : Int64) f0) → ∀ (H : Heap) (locs : List Loc), zM g B A s [wPln g pd, wBel g bd bH bW bT bM, wLng g (pd 2) g0, wLng g (pd 3) f1] H locs → ∀ ls : Array Slot, lv_has ls 6 [(5, .int (nI j17)), (3, .long x3), (0, .ref (bd 8)), (1, .ref (pd 1)), (2, .int (1 : Int32))] → W p l e R s m args below meth c H locs 0 0 Q (F0 m 17 ls []) := by
      intro n17
      induction n17 with
      | zero =>
        intro j17 x3 g0 hin17 hR17 H locs Z ls hl
        have e_x3 : (zl_X3_greatestValue_1_17 bH bM f1 bT 0 (0 : Int64) f0).1 = x3 := (by rw [← hR17]; rfl)
        have e_g0 : (zl_X3_greatestValue_1_17 bH bM f1 bT 0 (0 : Int64) f0).2 = g0 := (by rw [← hR17]; rfl)
        subst e_x3
        subst e_g0
        refine lv_iload hx hb dX3_greatestValue_17 (lv_at hl 0 rfl) ?_
        refine lv_aload_n hx hb dX3_greatestValue_19 rfl (lv_at hl 2 rfl) ?_
        refine z_get X Z 2 rfl (rfl : zCl[1]? = some (RX1, TX1, 4)) zU_X1 2 (by decide) wF_X3_26 rfl rfl dX3_greatestValue_20 ?_
        refine z_icmp_ge (a := j17) (b := bT) (tgt := 45) X rfl rfl (by omega) (by omega) dX3_greatestValue_23 (by decide) (fun c_2 => ?_) (fun c_2 => ?_)
        · refine lv_lload_n hx hb dX3_greatestValue_45 rfl (lv_at hl 1 rfl) ?_
          exact z_rl (v := ((zl_X3_greatestValue_1_17 bH bM f1 bT 0 (0 : Int64) f0).1)) E Z (by rw [zf_X3_greatestValue_1_e]; dsimp only; exact ⟨rfl, rfl⟩) dX3_greatestValue_46 (Nat.zero_le _) (Nat.zero_le _)
        · (exfalso; omega)
      | succ n17 ih17 =>
        intro j17 x3 g0 hin17 hR17 H locs Z ls hl
        refine lv_iload hx hb dX3_greatestValue_17 (lv_at hl 0 rfl) ?_
        refine lv_aload_n hx hb dX3_greatestValue_19 rfl (lv_at hl 2 rfl) ?_
        refine z_get X Z 2 rfl (rfl : zCl[1]? = some (RX1, TX1, 4)) zU_X1 2 (by decide) wF_X3_26 rfl rfl dX3_greatestValue_20 ?_
        refine z_icmp_ge (a := j17) (b := bT) (tgt := 45) X rfl rfl (by omega) (by omega) dX3_greatestValue_23 (by decide) (fun c_3 => ?_) (fun c_3 => ?_)
        · (exfalso; omega)
        · refine lv_lload_n hx hb dX3_greatestValue_26 rfl (lv_at hl 1 rfl) ?_
          refine lv_aload_n hx hb dX3_greatestValue_27 rfl (lv_at hl 2 rfl) ?_
          refine lv_aload_n hx hb dX3_greatestValue_28 rfl (lv_at hl 3 rfl) ?_
          refine lv_iload_n hx hb dX3_greatestValue_29 rfl (lv_at hl 4 rfl) ?_
          refine lv_iload hx hb dX3_greatestValue_30 (lv_at hl 0 rfl) ?_
          refine z_callS (mc := 0) (ms := 0) (As := [.ref (bd 8), .ref (pd 1), .int (1 : Int32), .int (nI j17)]) (rest := [.long x3]) (st2 := [.long ((zf_X3_valueOfTest_1 bH bM g0 f1 j17).1), .long x3]) (cs2 := [wPln g pd, wBel g bd bH bW bT bM, wLng g (pd 2) ((zf_X3_valueOfTest_1 bH bM g0 f1 j17).2), wLng g (pd 3) f1]) X Z [0, 1, 2, 3] [] [0, 1, 2, 3] (zc_X3_valueOfTest_1 l g B pd bd bH bW bT bM g0 f1 j17 (by first | assumption | omega | decide) (by first | assumption | omega | decide) (by first | assumption | omega | decide)) wM_X3_32 wS_X3_valueOfTest wK_X3_valueOfTest wZ_X3 4 4 4 rfl (by decide +kernel) rfl (by decide) rfl rfl rfl (by decide) rfl hl.1 rfl rfl (by rw [hRf, hRl]; exact ⟨Nat.le_of_ble_eq_true rfl, Nat.le_of_ble_eq_true rfl⟩) (Nat.le_of_ble_eq_true rfl) ⟨Nat.zero_le _, Nat.zero_le _⟩ dX3_greatestValue_32 (fun H locs Z => ?_)
          refine z_Mmaxlong X hl.1 wM_X3_50 (by rw [hRf]; decide) (by rw [hRl]; exact Nat.le_of_ble_eq_true rfl) (Nat.zero_le _) (Nat.zero_le _) dX3_greatestValue_35 ?_
          refine lv_lstore_n (lv' := [(3, .long (zmaxL x3 ((zf_X3_valueOfTest_1 bH bM g0 f1 j17).1))), (5, .int (nI j17)), (0, .ref (bd 8)), (1, .ref (pd 1)), (2, .int (1 : Int32))]) hx hb dX3_greatestValue_38 rfl hl (by decide) rfl (fun ls hl => ?_)
          refine z_iinc (b := (j17 + 1)) (st := 1) (lv' := [(5, .int (nI (j17 + 1))), (3, .long (zmaxL x3 ((zf_X3_valueOfTest_1 bH bM g0 f1 j17).1))), (0, .ref (bd 8)), (1, .ref (pd 1)), (2, .int (1 : Int32))]) X dX3_greatestValue_39 hl (k := 1) rfl rfl (by decide) (by omega) (by decide) rfl (fun ls hl => ?_)
          refine lv_goto (tgt := 17) hx hb dX3_greatestValue_42 (by decide) ?_
          exact ih17 (j17 + 1) (zmaxL x3 ((zf_X3_valueOfTest_1 bH bM g0 f1 j17).1)) ((zf_X3_valueOfTest_1 bH bM g0 f1 j17).2) (by omega) (by have h9 := hR17; rw [zl_X3_greatestValue_1_17_s] at h9; exact h9) _ _ Z ls (lv_sub hl [0, 1, 2, 3, 4] rfl)
    exact loop_17 bT 0 (0 : Int64) f0 (by omega) rfl _ _ Z ls (lv_sub hl [0, 1, 2, 3, 4] rfl)
  · (exact absurd c_1 (by decide))
def zl_X3_valueOfTest_2_17 (bH : Nat) (bT : Nat) (bM : Nat → Nat → Int32) (f2 : Nat → Int64) (t : Nat) : Nat → Nat → Int64 → (Nat → Int64) → (Nat → Int64) → Int64 × (Nat → Int64) × (Nat → Int64)
  | 0, _, x4, g0, g1 => (x4, g0, g1)
  | n17 + 1, j17, x4, g0, g1 => zl_X3_valueOfTest_2_17 bH bT bM f2 t n17 (j17 + 1) (x4 + ((zf_X3_greatestValue_1 bH bT bM g0 (zf_X1_multiply bH bM f2 t j17 g1)).1)) ((zf_X3_greatestValue_1 bH bT bM g0 (zf_X1_multiply bH bM f2 t j17 g1)).2) (zf_X1_multiply bH bM f2 t j17 g1)
theorem zl_X3_valueOfTest_2_17_s (bH : Nat) (bT : Nat) (bM : Nat → Nat → Int32) (f2 : Nat → Int64) (t : Nat) (n17 : Nat) (j17 : Nat) (x4 : Int64) (g0 : Nat → Int64) (g1 : Nat → Int64) : zl_X3_valueOfTest_2_17 bH bT bM f2 t (n17 + 1) j17 x4 g0 g1 = zl_X3_valueOfTest_2_17 bH bT bM f2 t n17 (j17 + 1) (x4 + ((zf_X3_greatestValue_1 bH bT bM g0 (zf_X1_multiply bH bM f2 t j17 g1)).1)) ((zf_X3_greatestValue_1 bH bT bM g0 (zf_X1_multiply bH bM f2 t j17 g1)).2) (zf_X1_multiply bH bM f2 t j17 g1) := rfl
def zf_X3_valueOfTest_2 (bH : Nat) (bT : Nat) (bM : Nat → Nat → Int32) (f0 : Nat → Int64) (f1 : Nat → Int64) (f2 : Nat → Int64) (t : Nat) : Int64 × (Nat → Int64) × (Nat → Int64) := (((zl_X3_valueOfTest_2_17 bH bT bM f2 t 3 0 (0 : Int64) f0 f1).1), ((zl_X3_valueOfTest_2_17 bH bT bM f2 t 3 0 (0 : Int64) f0 f1).2.1), ((zl_X3_valueOfTest_2_17 bH bT bM f2 t 3 0 (0 : Int64) f0 f1).2.2))
theorem zf_X3_valueOfTest_2_e (bH : Nat) (bT : Nat) (bM : Nat → Nat → Int32) (f0 : Nat → Int64) (f1 : Nat → Int64) (f2 : Nat → Int64) (t : Nat) : zf_X3_valueOfTest_2 bH bT bM f0 f1 f2 t = (((zl_X3_valueOfTest_2_17 bH bT bM f2 t 3 0 (0 : Int64) f0 f1).1), ((zl_X3_valueOfTest_2_17 bH bT bM f2 t 3 0 (0 : Int64) f0 f1).2.1), ((zl_X3_valueOfTest_2_17 bH bT bM f2 t 3 0 (0 : Int64) f0 f1).2.2)) := rfl
set_option maxHeartbeats 4000000 in
set_option maxRecDepth 100000 in
theorem zc_X3_valueOfTest_2 (l : Launch) (g : zG) (B : Nat) (pd : Nat → Nat) (bd : Nat → Nat) (bH : Nat) (bW : Nat → Int64) (bT : Nat) (bM : Nat → Nat → Int32) (f0 : Nat → Int64) (f1 : Nat → Int64) (f2 : Nat → Int64) (t : Nat) (hh : bH ≤ 8) (ht : bT ≤ 10) (hk : t < bT) : zMet l g B yX3_valueOfTest cX3_valueOfTest 7 (some .long) 6 180 0 0 [.ref (bd 8), .ref (pd 1), .int (2 : Int32), .int (nI t)] [wPln g pd, wBel g bd bH bW bT bM, wLng g (pd 2) f0, wLng g (pd 3) f1, wLng g (pd 4) f2] (zDet (some (.long ((zf_X3_valueOfTest_2 bH bT bM f0 f1 f2 t).1))) [wPln g pd, wBel g bd bH bW bT bM, wLng g (pd 2) ((zf_X3_valueOfTest_2 bH bT bM f0 f1 f2 t).2.1), wLng g (pd 3) ((zf_X3_valueOfTest_2 bH bT bM f0 f1 f2 t).2.2), wLng g (pd 4) f2]) := by
  refine z_in (plainFor_of_name (by decide)) (Nat.le_of_ble_eq_true rfl) (fun p e R s m args below meth c A Q hRf hRl hRc hRs X Z hnm E ls hl => ?_)
  have hx := X.1
  have hb := X.2.1
  have hown := X.2.2.2.1
  have hts := X.2.2.2.2.1
  have hl : lv_has ls 7 [(0, .ref (bd 8)), (1, .ref (pd 1)), (2, .int (2 : Int32)), (3, .int (nI t))] := hl
  refine lv_iload_n hx hb dX3_valueOfTest_0 rfl (lv_at hl 2 rfl) ?_
  refine lv_if_le (tgt := 9) hx hb dX3_valueOfTest_1 (by decide) (fun c_1 => ?_) (fun c_1 => ?_)
  · (exact absurd c_1 (by decide))
  · refine lv_iload_n hx hb dX3_valueOfTest_4 rfl (lv_at hl 2 rfl) ?_
    refine lv_iconst (v := (3 : Int32)) hx hb dX3_valueOfTest_5 (by decide) ?_
    refine lv_icmp_le (tgt := 11) hx hb dX3_valueOfTest_6 (by decide) (fun c_2 => ?_) (fun c_2 => ?_)
    · refine lv_lconst (v := (0 : Int64)) hx hb dX3_valueOfTest_11 (by decide) ?_
      refine lv_lstore (lv' := [(4, .long (0 : Int64)), (0, .ref (bd 8)), (1, .ref (pd 1)), (2, .int (2 : Int32)), (3, .int (nI t))]) hx hb dX3_valueOfTest_12 hl (by decide) rfl (fun ls hl => ?_)
      refine lv_iconst (v := (0 : Int32)) hx hb dX3_valueOfTest_14 (by decide) ?_
      refine lv_istore (lv' := [(6, .int (0 : Int32)), (4, .long (0 : Int64)), (0, .ref (bd 8)), (1, .ref (pd 1)), (2, .int (2 : Int32)), (3, .int (nI t))]) hx hb dX3_valueOfTest_15 hl (by decide) rfl (fun ls hl => ?_)
      have loop_17 : ∀ (n17 j17 : Nat) (x4 : Int64) (g0 : Nat → Int64) (g1 : Nat → Int64), j17 + n17 = 3 → zl_X3_valueOfTest_2_17 bH bT bM f2 t n17 j17 x4 g0 g1 = (zl_X3_valueOfTest_2_17 bH bT bM f2 t 3 0 (0 : Int64) f0 f1) → ∀ (H : Heap) (locs : List Loc), zM g B A s [wPln g pd, wBel g bd bH bW bT bM, wLng g (pd 2) g0, wLng g (pd 3) g1, wLng g (pd 4) f2] H locs → ∀ ls : Array Slot, lv_has ls 7 [(6, .int (nI j17)), (4, .long x4), (0, .ref (bd 8)), (1, .ref (pd 1)), (2, .int (2 : Int32)), (3, .int (nI t))] → W p l e R s m args below meth c H locs 0 0 Q (F0 m 17 ls []) := by
        intro n17
        induction n17 with
        | zero =>
          intro j17 x4 g0 g1 hin17 hR17 H locs Z ls hl
          have e_x4 : (zl_X3_valueOfTest_2_17 bH bT bM f2 t 3 0 (0 : Int64) f0 f1).1 = x4 := (by rw [← hR17]; rfl)
          have e_g0 : (zl_X3_valueOfTest_2_17 bH bT bM f2 t 3 0 (0 : Int64) f0 f1).2.1 = g0 := (by rw [← hR17]; rfl)
          have e_g1 : (zl_X3_valueOfTest_2_17 bH bT bM f2 t 3 0 (0 : Int64) f0 f1).2.2 = g1 := (by rw [← hR17]; rfl)
          subst e_x4
          subst e_g0
          subst e_g1
          refine lv_iload hx hb dX3_valueOfTest_17 (lv_at hl 0 rfl) ?_
          refine lv_iconst (v := (3 : Int32)) hx hb dX3_valueOfTest_19 (by decide) ?_
          refine z_icmp_ge (a := j17) (b := 3) (tgt := 57) X rfl rfl (by omega) (by omega) dX3_valueOfTest_20 (by decide) (fun c_3 => ?_) (fun c_3 => ?_)
          · refine lv_lload hx hb dX3_valueOfTest_57 (lv_at hl 1 rfl) ?_
            exact z_rl (v := ((zl_X3_valueOfTest_2_17 bH bT bM f2 t 3 0 (0 : Int64) f0 f1).1)) E Z (by rw [zf_X3_valueOfTest_2_e]; dsimp only; exact ⟨rfl, rfl⟩) dX3_valueOfTest_59 (Nat.zero_le _) (Nat.zero_le _)
          · (exfalso; omega)
        | succ n17 ih17 =>
          intro j17 x4 g0 g1 hin17 hR17 H locs Z ls hl
          refine lv_iload hx hb dX3_valueOfTest_17 (lv_at hl 0 rfl) ?_
          refine lv_iconst (v := (3 : Int32)) hx hb dX3_valueOfTest_19 (by decide) ?_
          refine z_icmp_ge (a := j17) (b := 3) (tgt := 57) X rfl rfl (by omega) (by omega) dX3_valueOfTest_20 (by decide) (fun c_4 => ?_) (fun c_4 => ?_)
          · (exfalso; omega)
          · refine lv_aload_n hx hb dX3_valueOfTest_23 rfl (lv_at hl 2 rfl) ?_
            refine lv_aload_n hx hb dX3_valueOfTest_24 rfl (lv_at hl 3 rfl) ?_
            refine lv_iload_n hx hb dX3_valueOfTest_25 rfl (lv_at hl 4 rfl) ?_
            refine z_aald (j := 2) (r := (pd 4)) X Z 1 3 rfl rfl rfl rfl (by omega) (by decide) rfl dX3_valueOfTest_26 ?_
            refine lv_iload_n hx hb dX3_valueOfTest_27 rfl (lv_at hl 5 rfl) ?_
            refine lv_iload hx hb dX3_valueOfTest_28 (lv_at hl 0 rfl) ?_
            refine lv_aload_n hx hb dX3_valueOfTest_30 rfl (lv_at hl 3 rfl) ?_
            refine lv_iload_n hx hb dX3_valueOfTest_31 rfl (lv_at hl 4 rfl) ?_
            refine lv_iconst (v := (1 : Int32)) hx hb dX3_valueOfTest_32 (by decide) ?_
            refine z_isub (a := 2) (b := 1) X rfl rfl (by omega) dX3_valueOfTest_33 ?_
            refine z_aald (j := 1) (r := (pd 3)) X Z 1 3 rfl rfl rfl rfl (by omega) (by decide) rfl dX3_valueOfTest_34 ?_
            refine z_callV (mc := 0) (ms := 0) (As := [.ref (pd 4), .int (nI t), .int (nI j17), .ref (pd 3)]) (rest := []) (st2 := []) (cs2 := [wPln g pd, wBel g bd bH bW bT bM, wLng g (pd 2) g0, wLng g (pd 3) (zf_X1_multiply bH bM f2 t j17 g1), wLng g (pd 4) f2]) X Z [1, 4, 3] [0, 2] [3, 0, 4, 2, 1] 0 1 (zc_X1_multiply l g B bd bH bW bT bM (pd 4) f2 t j17 (pd 3) g1 (by first | assumption | omega | decide) (by first | assumption | omega | decide) (by first | assumption | omega | decide)) wM_X3_56 wS_X1_multiply wV_X1_multiply wK_X1_multiply wZ_X1 4 5 5 rfl (by decide +kernel) rfl (by decide) rfl rfl rfl (by decide) rfl rfl (rfl : zCl[1]? = some (RX1, TX1, 4)) hl.1 rfl rfl (by rw [hRf, hRl]; exact ⟨Nat.le_of_ble_eq_true rfl, Nat.le_of_ble_eq_true rfl⟩) (Nat.le_of_ble_eq_true rfl) ⟨Nat.zero_le _, Nat.zero_le _⟩ dX3_valueOfTest_35 (fun H locs Z => ?_)
            refine lv_lload hx hb dX3_valueOfTest_38 (lv_at hl 1 rfl) ?_
            refine lv_aload_n hx hb dX3_valueOfTest_40 rfl (lv_at hl 2 rfl) ?_
            refine lv_aload_n hx hb dX3_valueOfTest_41 rfl (lv_at hl 3 rfl) ?_
            refine lv_iload_n hx hb dX3_valueOfTest_42 rfl (lv_at hl 4 rfl) ?_
            refine lv_iconst (v := (1 : Int32)) hx hb dX3_valueOfTest_43 (by decide) ?_
            refine z_isub (a := 2) (b := 1) X rfl rfl (by omega) dX3_valueOfTest_44 ?_
            refine z_callS (mc := 0) (ms := 0) (As := [.ref (bd 8), .ref (pd 1), .int (1 : Int32)]) (rest := [.long x4]) (st2 := [.long ((zf_X3_greatestValue_1 bH bT bM g0 (zf_X1_multiply bH bM f2 t j17 g1)).1), .long x4]) (cs2 := [wPln g pd, wBel g bd bH bW bT bM, wLng g (pd 2) ((zf_X3_greatestValue_1 bH bT bM g0 (zf_X1_multiply bH bM f2 t j17 g1)).2), wLng g (pd 3) (zf_X1_multiply bH bM f2 t j17 g1), wLng g (pd 4) f2]) X Z [0, 1, 2, 3] [4] [0, 1, 2, 3, 4] (zc_X3_greatestValue_1 l g B pd bd bH bW bT bM g0 (zf_X1_multiply bH bM f2 t j17 g1) (by first | assumption | omega | decide) (by first | assumption | omega | decide)) wM_X3_20 wS_X3_greatestValue wK_X3_greatestValue wZ_X3 3 5 5 rfl (by decide +kernel) rfl (by decide) rfl rfl rfl (by decide) rfl hl.1 rfl rfl (by rw [hRf, hRl]; exact ⟨Nat.le_of_ble_eq_true rfl, Nat.le_of_ble_eq_true rfl⟩) (Nat.le_of_ble_eq_true rfl) ⟨Nat.zero_le _, Nat.zero_le _⟩ dX3_valueOfTest_45 (fun H locs Z => ?_)
            refine lv_ladd hx hb dX3_valueOfTest_48 ?_
            refine lv_lstore (lv' := [(4, .long (x4 + ((zf_X3_greatestValue_1 bH bT bM g0 (zf_X1_multiply bH bM f2 t j17 g1)).1))), (6, .int (nI j17)), (0, .ref (bd 8)), (1, .ref (pd 1)), (2, .int (2 : Int32)), (3, .int (nI t))]) hx hb dX3_valueOfTest_49 hl (by decide) rfl (fun ls hl => ?_)
            refine z_iinc (b := (j17 + 1)) (st := 1) (lv' := [(6, .int (nI (j17 + 1))), (4, .long (x4 + ((zf_X3_greatestValue_1 bH bT bM g0 (zf_X1_multiply bH bM f2 t j17 g1)).1))), (0, .ref (bd 8)), (1, .ref (pd 1)), (2, .int (2 : Int32)), (3, .int (nI t))]) X dX3_valueOfTest_51 hl (k := 1) rfl rfl (by decide) (by omega) (by decide) rfl (fun ls hl => ?_)
            refine lv_goto (tgt := 17) hx hb dX3_valueOfTest_54 (by decide) ?_
            exact ih17 (j17 + 1) (x4 + ((zf_X3_greatestValue_1 bH bT bM g0 (zf_X1_multiply bH bM f2 t j17 g1)).1)) ((zf_X3_greatestValue_1 bH bT bM g0 (zf_X1_multiply bH bM f2 t j17 g1)).2) (zf_X1_multiply bH bM f2 t j17 g1) (by omega) (by have h9 := hR17; rw [zl_X3_valueOfTest_2_17_s] at h9; exact h9) _ _ Z ls (lv_sub hl [0, 1, 2, 3, 4, 5] rfl)
      exact loop_17 3 0 (0 : Int64) f0 f1 (by omega) rfl _ _ Z ls (lv_sub hl [0, 1, 2, 3, 4, 5] rfl)
    · (exact absurd c_2 (by decide))
def zl_X3_greatestValue_2_17 (bH : Nat) (bT : Nat) (bM : Nat → Nat → Int32) (f2 : Nat → Int64) : Nat → Nat → Int64 → (Nat → Int64) → (Nat → Int64) → Int64 × (Nat → Int64) × (Nat → Int64)
  | 0, _, x3, g0, g1 => (x3, g0, g1)
  | n17 + 1, j17, x3, g0, g1 => zl_X3_greatestValue_2_17 bH bT bM f2 n17 (j17 + 1) (zmaxL x3 ((zf_X3_valueOfTest_2 bH bT bM g0 g1 f2 j17).1)) ((zf_X3_valueOfTest_2 bH bT bM g0 g1 f2 j17).2.1) ((zf_X3_valueOfTest_2 bH bT bM g0 g1 f2 j17).2.2)
theorem zl_X3_greatestValue_2_17_s (bH : Nat) (bT : Nat) (bM : Nat → Nat → Int32) (f2 : Nat → Int64) (n17 : Nat) (j17 : Nat) (x3 : Int64) (g0 : Nat → Int64) (g1 : Nat → Int64) : zl_X3_greatestValue_2_17 bH bT bM f2 (n17 + 1) j17 x3 g0 g1 = zl_X3_greatestValue_2_17 bH bT bM f2 n17 (j17 + 1) (zmaxL x3 ((zf_X3_valueOfTest_2 bH bT bM g0 g1 f2 j17).1)) ((zf_X3_valueOfTest_2 bH bT bM g0 g1 f2 j17).2.1) ((zf_X3_valueOfTest_2 bH bT bM g0 g1 f2 j17).2.2) := rfl
def zf_X3_greatestValue_2 (bH : Nat) (bT : Nat) (bM : Nat → Nat → Int32) (f0 : Nat → Int64) (f1 : Nat → Int64) (f2 : Nat → Int64) : Int64 × (Nat → Int64) × (Nat → Int64) := (((zl_X3_greatestValue_2_17 bH bT bM f2 bT 0 (0 : Int64) f0 f1).1), ((zl_X3_greatestValue_2_17 bH bT bM f2 bT 0 (0 : Int64) f0 f1).2.1), ((zl_X3_greatestValue_2_17 bH bT bM f2 bT 0 (0 : Int64) f0 f1).2.2))
theorem zf_X3_greatestValue_2_e (bH : Nat) (bT : Nat) (bM : Nat → Nat → Int32) (f0 : Nat → Int64) (f1 : Nat → Int64) (f2 : Nat → Int64) : zf_X3_greatestValue_2 bH bT bM f0 f1 f2 = (((zl_X3_greatestValue_2_17 bH bT bM f2 bT 0 (0 : Int64) f0 f1).1), ((zl_X3_greatestValue_2_17 bH bT bM f2 bT 0 (0 : Int64) f0 f1).2.1), ((zl_X3_greatestValue_2_17 bH bT bM f2 bT 0 (0 : Int64) f0 f1).2.2)) := rfl
set_option maxHeartbeats 4000000 in
set_option maxRecDepth 100000 in
theorem zc_X3_greatestValue_2 (l : Launch) (g : zG) (B : Nat) (pd : Nat → Nat) (bd : Nat → Nat) (bH : Nat) (bW : Nat → Int64) (bT : Nat) (bM : Nat → Nat → Int32) (f0 : Nat → Int64) (f1 : Nat → Int64) (f2 : Nat → Int64) (hh : bH ≤ 8) (ht : bT ≤ 10) : zMet l g B yX3_greatestValue cX3_greatestValue 6 (some .long) 7 210 0 0 [.ref (bd 8), .ref (pd 1), .int (2 : Int32)] [wPln g pd, wBel g bd bH bW bT bM, wLng g (pd 2) f0, wLng g (pd 3) f1, wLng g (pd 4) f2] (zDet (some (.long ((zf_X3_greatestValue_2 bH bT bM f0 f1 f2).1))) [wPln g pd, wBel g bd bH bW bT bM, wLng g (pd 2) ((zf_X3_greatestValue_2 bH bT bM f0 f1 f2).2.1), wLng g (pd 3) ((zf_X3_greatestValue_2 bH bT bM f0 f1 f2).2.2), wLng g (pd 4) f2]) := by
  refine z_in (plainFor_of_name (by decide)) (Nat.le_of_ble_eq_true rfl) (fun p e R s m args below meth c A Q hRf hRl hRc hRs X Z hnm E ls hl => ?_)
  have hx := X.1
  have hb := X.2.1
  have hown := X.2.2.2.1
  have hts := X.2.2.2.2.1
  have hl : lv_has ls 6 [(0, .ref (bd 8)), (1, .ref (pd 1)), (2, .int (2 : Int32))] := hl
  refine lv_iload_n hx hb dX3_greatestValue_0 rfl (lv_at hl 2 rfl) ?_
  refine lv_if_gt (tgt := 12) hx hb dX3_greatestValue_1 (by decide) (fun c_1 => ?_) (fun c_1 => ?_)
  · refine lv_lconst (v := (0 : Int64)) hx hb dX3_greatestValue_12 (by decide) ?_
    refine lv_lstore_n (lv' := [(3, .long (0 : Int64)), (0, .ref (bd 8)), (1, .ref (pd 1)), (2, .int (2 : Int32))]) hx hb dX3_greatestValue_13 rfl hl (by decide) rfl (fun ls hl => ?_)
    refine lv_iconst (v := (0 : Int32)) hx hb dX3_greatestValue_14 (by decide) ?_
    refine lv_istore (lv' := [(5, .int (0 : Int32)), (3, .long (0 : Int64)), (0, .ref (bd 8)), (1, .ref (pd 1)), (2, .int (2 : Int32))]) hx hb dX3_greatestValue_15 hl (by decide) rfl (fun ls hl => ?_)
    have loop_17 : ∀ (n17 j17 : Nat) (x3 : Int64) (g0 : Nat → Int64) (g1 : Nat → Int64), j17 + n17 = bT → zl_X3_greatestValue_2_17 bH bT bM f2 n17 j17 x3 g0 g1 = (zl_X3_greatestValue_2_17 bH bT bM f2 bT 0 (0 : Int64) f0 f1) → ∀ (H : Heap) (locs : List Loc), zM g B A s [wPln g pd, wBel g bd bH bW bT bM, wLng g (pd 2) g0, wLng g (pd 3) g1, wLng g (pd 4) f2] H locs → ∀ ls : Array Slot, lv_has ls 6 [(5, .int (nI j17)), (3, .long x3), (0, .ref (bd 8)), (1, .ref (pd 1)), (2, .int (2 : Int32))] → W p l e R s m args below meth c H locs 0 0 Q (F0 m 17 ls []) := by
      intro n17
      induction n17 with
      | zero =>
        intro j17 x3 g0 g1 hin17 hR17 H locs Z ls hl
        have e_x3 : (zl_X3_greatestValue_2_17 bH bT bM f2 bT 0 (0 : Int64) f0 f1).1 = x3 := (by rw [← hR17]; rfl)
        have e_g0 : (zl_X3_greatestValue_2_17 bH bT bM f2 bT 0 (0 : Int64) f0 f1).2.1 = g0 := (by rw [← hR17]; rfl)
        have e_g1 : (zl_X3_greatestValue_2_17 bH bT bM f2 bT 0 (0 : Int64) f0 f1).2.2 = g1 := (by rw [← hR17]; rfl)
        subst e_x3
        subst e_g0
        subst e_g1
        refine lv_iload hx hb dX3_greatestValue_17 (lv_at hl 0 rfl) ?_
        refine lv_aload_n hx hb dX3_greatestValue_19 rfl (lv_at hl 2 rfl) ?_
        refine z_get X Z 2 rfl (rfl : zCl[1]? = some (RX1, TX1, 4)) zU_X1 2 (by decide) wF_X3_26 rfl rfl dX3_greatestValue_20 ?_
        refine z_icmp_ge (a := j17) (b := bT) (tgt := 45) X rfl rfl (by omega) (by omega) dX3_greatestValue_23 (by decide) (fun c_2 => ?_) (fun c_2 => ?_)
        · refine lv_lload_n hx hb dX3_greatestValue_45 rfl (lv_at hl 1 rfl) ?_
          exact z_rl (v := ((zl_X3_greatestValue_2_17 bH bT bM f2 bT 0 (0 : Int64) f0 f1).1)) E Z (by rw [zf_X3_greatestValue_2_e]; dsimp only; exact ⟨rfl, rfl⟩) dX3_greatestValue_46 (Nat.zero_le _) (Nat.zero_le _)
        · (exfalso; omega)
      | succ n17 ih17 =>
        intro j17 x3 g0 g1 hin17 hR17 H locs Z ls hl
        refine lv_iload hx hb dX3_greatestValue_17 (lv_at hl 0 rfl) ?_
        refine lv_aload_n hx hb dX3_greatestValue_19 rfl (lv_at hl 2 rfl) ?_
        refine z_get X Z 2 rfl (rfl : zCl[1]? = some (RX1, TX1, 4)) zU_X1 2 (by decide) wF_X3_26 rfl rfl dX3_greatestValue_20 ?_
        refine z_icmp_ge (a := j17) (b := bT) (tgt := 45) X rfl rfl (by omega) (by omega) dX3_greatestValue_23 (by decide) (fun c_3 => ?_) (fun c_3 => ?_)
        · (exfalso; omega)
        · refine lv_lload_n hx hb dX3_greatestValue_26 rfl (lv_at hl 1 rfl) ?_
          refine lv_aload_n hx hb dX3_greatestValue_27 rfl (lv_at hl 2 rfl) ?_
          refine lv_aload_n hx hb dX3_greatestValue_28 rfl (lv_at hl 3 rfl) ?_
          refine lv_iload_n hx hb dX3_greatestValue_29 rfl (lv_at hl 4 rfl) ?_
          refine lv_iload hx hb dX3_greatestValue_30 (lv_at hl 0 rfl) ?_
          refine z_callS (mc := 0) (ms := 0) (As := [.ref (bd 8), .ref (pd 1), .int (2 : Int32), .int (nI j17)]) (rest := [.long x3]) (st2 := [.long ((zf_X3_valueOfTest_2 bH bT bM g0 g1 f2 j17).1), .long x3]) (cs2 := [wPln g pd, wBel g bd bH bW bT bM, wLng g (pd 2) ((zf_X3_valueOfTest_2 bH bT bM g0 g1 f2 j17).2.1), wLng g (pd 3) ((zf_X3_valueOfTest_2 bH bT bM g0 g1 f2 j17).2.2), wLng g (pd 4) f2]) X Z [0, 1, 2, 3, 4] [] [0, 1, 2, 3, 4] (zc_X3_valueOfTest_2 l g B pd bd bH bW bT bM g0 g1 f2 j17 (by first | assumption | omega | decide) (by first | assumption | omega | decide) (by first | assumption | omega | decide)) wM_X3_32 wS_X3_valueOfTest wK_X3_valueOfTest wZ_X3 4 5 5 rfl (by decide +kernel) rfl (by decide) rfl rfl rfl (by decide) rfl hl.1 rfl rfl (by rw [hRf, hRl]; exact ⟨Nat.le_of_ble_eq_true rfl, Nat.le_of_ble_eq_true rfl⟩) (Nat.le_of_ble_eq_true rfl) ⟨Nat.zero_le _, Nat.zero_le _⟩ dX3_greatestValue_32 (fun H locs Z => ?_)
          refine z_Mmaxlong X hl.1 wM_X3_50 (by rw [hRf]; decide) (by rw [hRl]; exact Nat.le_of_ble_eq_true rfl) (Nat.zero_le _) (Nat.zero_le _) dX3_greatestValue_35 ?_
          refine lv_lstore_n (lv' := [(3, .long (zmaxL x3 ((zf_X3_valueOfTest_2 bH bT bM g0 g1 f2 j17).1))), (5, .int (nI j17)), (0, .ref (bd 8)), (1, .ref (pd 1)), (2, .int (2 : Int32))]) hx hb dX3_greatestValue_38 rfl hl (by decide) rfl (fun ls hl => ?_)
          refine z_iinc (b := (j17 + 1)) (st := 1) (lv' := [(5, .int (nI (j17 + 1))), (3, .long (zmaxL x3 ((zf_X3_valueOfTest_2 bH bT bM g0 g1 f2 j17).1))), (0, .ref (bd 8)), (1, .ref (pd 1)), (2, .int (2 : Int32))]) X dX3_greatestValue_39 hl (k := 1) rfl rfl (by decide) (by omega) (by decide) rfl (fun ls hl => ?_)
          refine lv_goto (tgt := 17) hx hb dX3_greatestValue_42 (by decide) ?_
          exact ih17 (j17 + 1) (zmaxL x3 ((zf_X3_valueOfTest_2 bH bT bM g0 g1 f2 j17).1)) ((zf_X3_valueOfTest_2 bH bT bM g0 g1 f2 j17).2.1) ((zf_X3_valueOfTest_2 bH bT bM g0 g1 f2 j17).2.2) (by omega) (by have h9 := hR17; rw [zl_X3_greatestValue_2_17_s] at h9; exact h9) _ _ Z ls (lv_sub hl [0, 1, 2, 3, 4] rfl)
    exact loop_17 bT 0 (0 : Int64) f0 f1 (by omega) rfl _ _ Z ls (lv_sub hl [0, 1, 2, 3, 4] rfl)
  · (exact absurd c_1 (by decide))
def zl_X3_valueOfTest_3_17 (bH : Nat) (bT : Nat) (bM : Nat → Nat → Int32) (f3 : Nat → Int64) (t : Nat) : Nat → Nat → Int64 → (Nat → Int64) → (Nat → Int64) → (Nat → Int64) → Int64 × (Nat → Int64) × (Nat → Int64) × (Nat → Int64)
  | 0, _, x4, g0, g1, g2 => (x4, g0, g1, g2)
  | n17 + 1, j17, x4, g0, g1, g2 => zl_X3_valueOfTest_3_17 bH bT bM f3 t n17 (j17 + 1) (x4 + ((zf_X3_greatestValue_2 bH bT bM g0 g1 (zf_X1_multiply bH bM f3 t j17 g2)).1)) ((zf_X3_greatestValue_2 bH bT bM g0 g1 (zf_X1_multiply bH bM f3 t j17 g2)).2.1) ((zf_X3_greatestValue_2 bH bT bM g0 g1 (zf_X1_multiply bH bM f3 t j17 g2)).2.2) (zf_X1_multiply bH bM f3 t j17 g2)
theorem zl_X3_valueOfTest_3_17_s (bH : Nat) (bT : Nat) (bM : Nat → Nat → Int32) (f3 : Nat → Int64) (t : Nat) (n17 : Nat) (j17 : Nat) (x4 : Int64) (g0 : Nat → Int64) (g1 : Nat → Int64) (g2 : Nat → Int64) : zl_X3_valueOfTest_3_17 bH bT bM f3 t (n17 + 1) j17 x4 g0 g1 g2 = zl_X3_valueOfTest_3_17 bH bT bM f3 t n17 (j17 + 1) (x4 + ((zf_X3_greatestValue_2 bH bT bM g0 g1 (zf_X1_multiply bH bM f3 t j17 g2)).1)) ((zf_X3_greatestValue_2 bH bT bM g0 g1 (zf_X1_multiply bH bM f3 t j17 g2)).2.1) ((zf_X3_greatestValue_2 bH bT bM g0 g1 (zf_X1_multiply bH bM f3 t j17 g2)).2.2) (zf_X1_multiply bH bM f3 t j17 g2) := rfl
def zf_X3_valueOfTest_3 (bH : Nat) (bT : Nat) (bM : Nat → Nat → Int32) (f0 : Nat → Int64) (f1 : Nat → Int64) (f2 : Nat → Int64) (f3 : Nat → Int64) (t : Nat) : Int64 × (Nat → Int64) × (Nat → Int64) × (Nat → Int64) := (((zl_X3_valueOfTest_3_17 bH bT bM f3 t 3 0 (0 : Int64) f0 f1 f2).1), ((zl_X3_valueOfTest_3_17 bH bT bM f3 t 3 0 (0 : Int64) f0 f1 f2).2.1), ((zl_X3_valueOfTest_3_17 bH bT bM f3 t 3 0 (0 : Int64) f0 f1 f2).2.2.1), ((zl_X3_valueOfTest_3_17 bH bT bM f3 t 3 0 (0 : Int64) f0 f1 f2).2.2.2))
theorem zf_X3_valueOfTest_3_e (bH : Nat) (bT : Nat) (bM : Nat → Nat → Int32) (f0 : Nat → Int64) (f1 : Nat → Int64) (f2 : Nat → Int64) (f3 : Nat → Int64) (t : Nat) : zf_X3_valueOfTest_3 bH bT bM f0 f1 f2 f3 t = (((zl_X3_valueOfTest_3_17 bH bT bM f3 t 3 0 (0 : Int64) f0 f1 f2).1), ((zl_X3_valueOfTest_3_17 bH bT bM f3 t 3 0 (0 : Int64) f0 f1 f2).2.1), ((zl_X3_valueOfTest_3_17 bH bT bM f3 t 3 0 (0 : Int64) f0 f1 f2).2.2.1), ((zl_X3_valueOfTest_3_17 bH bT bM f3 t 3 0 (0 : Int64) f0 f1 f2).2.2.2)) := rfl
set_option maxHeartbeats 4000000 in
set_option maxRecDepth 100000 in
theorem zc_X3_valueOfTest_3 (l : Launch) (g : zG) (B : Nat) (pd : Nat → Nat) (bd : Nat → Nat) (bH : Nat) (bW : Nat → Int64) (bT : Nat) (bM : Nat → Nat → Int32) (f0 : Nat → Int64) (f1 : Nat → Int64) (f2 : Nat → Int64) (f3 : Nat → Int64) (t : Nat) (hh : bH ≤ 8) (ht : bT ≤ 10) (hk : t < bT) : zMet l g B yX3_valueOfTest cX3_valueOfTest 7 (some .long) 8 240 0 0 [.ref (bd 8), .ref (pd 1), .int (3 : Int32), .int (nI t)] [wPln g pd, wBel g bd bH bW bT bM, wLng g (pd 2) f0, wLng g (pd 3) f1, wLng g (pd 4) f2, wLng g (pd 5) f3] (zDet (some (.long ((zf_X3_valueOfTest_3 bH bT bM f0 f1 f2 f3 t).1))) [wPln g pd, wBel g bd bH bW bT bM, wLng g (pd 2) ((zf_X3_valueOfTest_3 bH bT bM f0 f1 f2 f3 t).2.1), wLng g (pd 3) ((zf_X3_valueOfTest_3 bH bT bM f0 f1 f2 f3 t).2.2.1), wLng g (pd 4) ((zf_X3_valueOfTest_3 bH bT bM f0 f1 f2 f3 t).2.2.2), wLng g (pd 5) f3]) := by
  refine z_in (plainFor_of_name (by decide)) (Nat.le_of_ble_eq_true rfl) (fun p e R s m args below meth c A Q hRf hRl hRc hRs X Z hnm E ls hl => ?_)
  have hx := X.1
  have hb := X.2.1
  have hown := X.2.2.2.1
  have hts := X.2.2.2.2.1
  have hl : lv_has ls 7 [(0, .ref (bd 8)), (1, .ref (pd 1)), (2, .int (3 : Int32)), (3, .int (nI t))] := hl
  refine lv_iload_n hx hb dX3_valueOfTest_0 rfl (lv_at hl 2 rfl) ?_
  refine lv_if_le (tgt := 9) hx hb dX3_valueOfTest_1 (by decide) (fun c_1 => ?_) (fun c_1 => ?_)
  · (exact absurd c_1 (by decide))
  · refine lv_iload_n hx hb dX3_valueOfTest_4 rfl (lv_at hl 2 rfl) ?_
    refine lv_iconst (v := (3 : Int32)) hx hb dX3_valueOfTest_5 (by decide) ?_
    refine lv_icmp_le (tgt := 11) hx hb dX3_valueOfTest_6 (by decide) (fun c_2 => ?_) (fun c_2 => ?_)
    · refine lv_lconst (v := (0 : Int64)) hx hb dX3_valueOfTest_11 (by decide) ?_
      refine lv_lstore (lv' := [(4, .long (0 : Int64)), (0, .ref (bd 8)), (1, .ref (pd 1)), (2, .int (3 : Int32)), (3, .int (nI t))]) hx hb dX3_valueOfTest_12 hl (by decide) rfl (fun ls hl => ?_)
      refine lv_iconst (v := (0 : Int32)) hx hb dX3_valueOfTest_14 (by decide) ?_
      refine lv_istore (lv' := [(6, .int (0 : Int32)), (4, .long (0 : Int64)), (0, .ref (bd 8)), (1, .ref (pd 1)), (2, .int (3 : Int32)), (3, .int (nI t))]) hx hb dX3_valueOfTest_15 hl (by decide) rfl (fun ls hl => ?_)
      have loop_17 : ∀ (n17 j17 : Nat) (x4 : Int64) (g0 : Nat → Int64) (g1 : Nat → Int64) (g2 : Nat → Int64), j17 + n17 = 3 → zl_X3_valueOfTest_3_17 bH bT bM f3 t n17 j17 x4 g0 g1 g2 = (zl_X3_valueOfTest_3_17 bH bT bM f3 t 3 0 (0 : Int64) f0 f1 f2) → ∀ (H : Heap) (locs : List Loc), zM g B A s [wPln g pd, wBel g bd bH bW bT bM, wLng g (pd 2) g0, wLng g (pd 3) g1, wLng g (pd 4) g2, wLng g (pd 5) f3] H locs → ∀ ls : Array Slot, lv_has ls 7 [(6, .int (nI j17)), (4, .long x4), (0, .ref (bd 8)), (1, .ref (pd 1)), (2, .int (3 : Int32)), (3, .int (nI t))] → W p l e R s m args below meth c H locs 0 0 Q (F0 m 17 ls []) := by
        intro n17
        induction n17 with
        | zero =>
          intro j17 x4 g0 g1 g2 hin17 hR17 H locs Z ls hl
          have e_x4 : (zl_X3_valueOfTest_3_17 bH bT bM f3 t 3 0 (0 : Int64) f0 f1 f2).1 = x4 := (by rw [← hR17]; rfl)
          have e_g0 : (zl_X3_valueOfTest_3_17 bH bT bM f3 t 3 0 (0 : Int64) f0 f1 f2).2.1 = g0 := (by rw [← hR17]; rfl)
          have e_g1 : (zl_X3_valueOfTest_3_17 bH bT bM f3 t 3 0 (0 : Int64) f0 f1 f2).2.2.1 = g1 := (by rw [← hR17]; rfl)
          have e_g2 : (zl_X3_valueOfTest_3_17 bH bT bM f3 t 3 0 (0 : Int64) f0 f1 f2).2.2.2 = g2 := (by rw [← hR17]; rfl)
          subst e_x4
          subst e_g0
          subst e_g1
          subst e_g2
          refine lv_iload hx hb dX3_valueOfTest_17 (lv_at hl 0 rfl) ?_
          refine lv_iconst (v := (3 : Int32)) hx hb dX3_valueOfTest_19 (by decide) ?_
          refine z_icmp_ge (a := j17) (b := 3) (tgt := 57) X rfl rfl (by omega) (by omega) dX3_valueOfTest_20 (by decide) (fun c_3 => ?_) (fun c_3 => ?_)
          · refine lv_lload hx hb dX3_valueOfTest_57 (lv_at hl 1 rfl) ?_
            exact z_rl (v := ((zl_X3_valueOfTest_3_17 bH bT bM f3 t 3 0 (0 : Int64) f0 f1 f2).1)) E Z (by rw [zf_X3_valueOfTest_3_e]; dsimp only; exact ⟨rfl, rfl⟩) dX3_valueOfTest_59 (Nat.zero_le _) (Nat.zero_le _)
          · (exfalso; omega)
        | succ n17 ih17 =>
          intro j17 x4 g0 g1 g2 hin17 hR17 H locs Z ls hl
          refine lv_iload hx hb dX3_valueOfTest_17 (lv_at hl 0 rfl) ?_
          refine lv_iconst (v := (3 : Int32)) hx hb dX3_valueOfTest_19 (by decide) ?_
          refine z_icmp_ge (a := j17) (b := 3) (tgt := 57) X rfl rfl (by omega) (by omega) dX3_valueOfTest_20 (by decide) (fun c_4 => ?_) (fun c_4 => ?_)
          · (exfalso; omega)
          · refine lv_aload_n hx hb dX3_valueOfTest_23 rfl (lv_at hl 2 rfl) ?_
            refine lv_aload_n hx hb dX3_valueOfTest_24 rfl (lv_at hl 3 rfl) ?_
            refine lv_iload_n hx hb dX3_valueOfTest_25 rfl (lv_at hl 4 rfl) ?_
            refine z_aald (j := 3) (r := (pd 5)) X Z 1 3 rfl rfl rfl rfl (by omega) (by decide) rfl dX3_valueOfTest_26 ?_
            refine lv_iload_n hx hb dX3_valueOfTest_27 rfl (lv_at hl 5 rfl) ?_
            refine lv_iload hx hb dX3_valueOfTest_28 (lv_at hl 0 rfl) ?_
            refine lv_aload_n hx hb dX3_valueOfTest_30 rfl (lv_at hl 3 rfl) ?_
            refine lv_iload_n hx hb dX3_valueOfTest_31 rfl (lv_at hl 4 rfl) ?_
            refine lv_iconst (v := (1 : Int32)) hx hb dX3_valueOfTest_32 (by decide) ?_
            refine z_isub (a := 3) (b := 1) X rfl rfl (by omega) dX3_valueOfTest_33 ?_
            refine z_aald (j := 2) (r := (pd 4)) X Z 1 3 rfl rfl rfl rfl (by omega) (by decide) rfl dX3_valueOfTest_34 ?_
            refine z_callV (mc := 0) (ms := 0) (As := [.ref (pd 5), .int (nI t), .int (nI j17), .ref (pd 4)]) (rest := []) (st2 := []) (cs2 := [wPln g pd, wBel g bd bH bW bT bM, wLng g (pd 2) g0, wLng g (pd 3) g1, wLng g (pd 4) (zf_X1_multiply bH bM f3 t j17 g2), wLng g (pd 5) f3]) X Z [1, 5, 4] [0, 2, 3] [3, 0, 4, 5, 2, 1] 0 1 (zc_X1_multiply l g B bd bH bW bT bM (pd 5) f3 t j17 (pd 4) g2 (by first | assumption | omega | decide) (by first | assumption | omega | decide) (by first | assumption | omega | decide)) wM_X3_56 wS_X1_multiply wV_X1_multiply wK_X1_multiply wZ_X1 4 6 6 rfl (by decide +kernel) rfl (by decide) rfl rfl rfl (by decide) rfl rfl (rfl : zCl[1]? = some (RX1, TX1, 4)) hl.1 rfl rfl (by rw [hRf, hRl]; exact ⟨Nat.le_of_ble_eq_true rfl, Nat.le_of_ble_eq_true rfl⟩) (Nat.le_of_ble_eq_true rfl) ⟨Nat.zero_le _, Nat.zero_le _⟩ dX3_valueOfTest_35 (fun H locs Z => ?_)
            refine lv_lload hx hb dX3_valueOfTest_38 (lv_at hl 1 rfl) ?_
            refine lv_aload_n hx hb dX3_valueOfTest_40 rfl (lv_at hl 2 rfl) ?_
            refine lv_aload_n hx hb dX3_valueOfTest_41 rfl (lv_at hl 3 rfl) ?_
            refine lv_iload_n hx hb dX3_valueOfTest_42 rfl (lv_at hl 4 rfl) ?_
            refine lv_iconst (v := (1 : Int32)) hx hb dX3_valueOfTest_43 (by decide) ?_
            refine z_isub (a := 3) (b := 1) X rfl rfl (by omega) dX3_valueOfTest_44 ?_
            refine z_callS (mc := 0) (ms := 0) (As := [.ref (bd 8), .ref (pd 1), .int (2 : Int32)]) (rest := [.long x4]) (st2 := [.long ((zf_X3_greatestValue_2 bH bT bM g0 g1 (zf_X1_multiply bH bM f3 t j17 g2)).1), .long x4]) (cs2 := [wPln g pd, wBel g bd bH bW bT bM, wLng g (pd 2) ((zf_X3_greatestValue_2 bH bT bM g0 g1 (zf_X1_multiply bH bM f3 t j17 g2)).2.1), wLng g (pd 3) ((zf_X3_greatestValue_2 bH bT bM g0 g1 (zf_X1_multiply bH bM f3 t j17 g2)).2.2), wLng g (pd 4) (zf_X1_multiply bH bM f3 t j17 g2), wLng g (pd 5) f3]) X Z [0, 1, 2, 3, 4] [5] [0, 1, 2, 3, 4, 5] (zc_X3_greatestValue_2 l g B pd bd bH bW bT bM g0 g1 (zf_X1_multiply bH bM f3 t j17 g2) (by first | assumption | omega | decide) (by first | assumption | omega | decide)) wM_X3_20 wS_X3_greatestValue wK_X3_greatestValue wZ_X3 3 6 6 rfl (by decide +kernel) rfl (by decide) rfl rfl rfl (by decide) rfl hl.1 rfl rfl (by rw [hRf, hRl]; exact ⟨Nat.le_of_ble_eq_true rfl, Nat.le_of_ble_eq_true rfl⟩) (Nat.le_of_ble_eq_true rfl) ⟨Nat.zero_le _, Nat.zero_le _⟩ dX3_valueOfTest_45 (fun H locs Z => ?_)
            refine lv_ladd hx hb dX3_valueOfTest_48 ?_
            refine lv_lstore (lv' := [(4, .long (x4 + ((zf_X3_greatestValue_2 bH bT bM g0 g1 (zf_X1_multiply bH bM f3 t j17 g2)).1))), (6, .int (nI j17)), (0, .ref (bd 8)), (1, .ref (pd 1)), (2, .int (3 : Int32)), (3, .int (nI t))]) hx hb dX3_valueOfTest_49 hl (by decide) rfl (fun ls hl => ?_)
            refine z_iinc (b := (j17 + 1)) (st := 1) (lv' := [(6, .int (nI (j17 + 1))), (4, .long (x4 + ((zf_X3_greatestValue_2 bH bT bM g0 g1 (zf_X1_multiply bH bM f3 t j17 g2)).1))), (0, .ref (bd 8)), (1, .ref (pd 1)), (2, .int (3 : Int32)), (3, .int (nI t))]) X dX3_valueOfTest_51 hl (k := 1) rfl rfl (by decide) (by omega) (by decide) rfl (fun ls hl => ?_)
            refine lv_goto (tgt := 17) hx hb dX3_valueOfTest_54 (by decide) ?_
            exact ih17 (j17 + 1) (x4 + ((zf_X3_greatestValue_2 bH bT bM g0 g1 (zf_X1_multiply bH bM f3 t j17 g2)).1)) ((zf_X3_greatestValue_2 bH bT bM g0 g1 (zf_X1_multiply bH bM f3 t j17 g2)).2.1) ((zf_X3_greatestValue_2 bH bT bM g0 g1 (zf_X1_multiply bH bM f3 t j17 g2)).2.2) (zf_X1_multiply bH bM f3 t j17 g2) (by omega) (by have h9 := hR17; rw [zl_X3_valueOfTest_3_17_s] at h9; exact h9) _ _ Z ls (lv_sub hl [0, 1, 2, 3, 4, 5] rfl)
      exact loop_17 3 0 (0 : Int64) f0 f1 f2 (by omega) rfl _ _ Z ls (lv_sub hl [0, 1, 2, 3, 4, 5] rfl)
    · (exact absurd c_2 (by decide))
def zl_X3_greatestValue_3_17 (bH : Nat) (bT : Nat) (bM : Nat → Nat → Int32) (f3 : Nat → Int64) : Nat → Nat → Int64 → (Nat → Int64) → (Nat → Int64) → (Nat → Int64) → Int64 × (Nat → Int64) × (Nat → Int64) × (Nat → Int64)
  | 0, _, x3, g0, g1, g2 => (x3, g0, g1, g2)
  | n17 + 1, j17, x3, g0, g1, g2 => zl_X3_greatestValue_3_17 bH bT bM f3 n17 (j17 + 1) (zmaxL x3 ((zf_X3_valueOfTest_3 bH bT bM g0 g1 g2 f3 j17).1)) ((zf_X3_valueOfTest_3 bH bT bM g0 g1 g2 f3 j17).2.1) ((zf_X3_valueOfTest_3 bH bT bM g0 g1 g2 f3 j17).2.2.1) ((zf_X3_valueOfTest_3 bH bT bM g0 g1 g2 f3 j17).2.2.2)
theorem zl_X3_greatestValue_3_17_s (bH : Nat) (bT : Nat) (bM : Nat → Nat → Int32) (f3 : Nat → Int64) (n17 : Nat) (j17 : Nat) (x3 : Int64) (g0 : Nat → Int64) (g1 : Nat → Int64) (g2 : Nat → Int64) : zl_X3_greatestValue_3_17 bH bT bM f3 (n17 + 1) j17 x3 g0 g1 g2 = zl_X3_greatestValue_3_17 bH bT bM f3 n17 (j17 + 1) (zmaxL x3 ((zf_X3_valueOfTest_3 bH bT bM g0 g1 g2 f3 j17).1)) ((zf_X3_valueOfTest_3 bH bT bM g0 g1 g2 f3 j17).2.1) ((zf_X3_valueOfTest_3 bH bT bM g0 g1 g2 f3 j17).2.2.1) ((zf_X3_valueOfTest_3 bH bT bM g0 g1 g2 f3 j17).2.2.2) := rfl
def zf_X3_greatestValue_3 (bH : Nat) (bT : Nat) (bM : Nat → Nat → Int32) (f0 : Nat → Int64) (f1 : Nat → Int64) (f2 : Nat → Int64) (f3 : Nat → Int64) : Int64 × (Nat → Int64) × (Nat → Int64) × (Nat → Int64) := (((zl_X3_greatestValue_3_17 bH bT bM f3 bT 0 (0 : Int64) f0 f1 f2).1), ((zl_X3_greatestValue_3_17 bH bT bM f3 bT 0 (0 : Int64) f0 f1 f2).2.1), ((zl_X3_greatestValue_3_17 bH bT bM f3 bT 0 (0 : Int64) f0 f1 f2).2.2.1), ((zl_X3_greatestValue_3_17 bH bT bM f3 bT 0 (0 : Int64) f0 f1 f2).2.2.2))
theorem zf_X3_greatestValue_3_e (bH : Nat) (bT : Nat) (bM : Nat → Nat → Int32) (f0 : Nat → Int64) (f1 : Nat → Int64) (f2 : Nat → Int64) (f3 : Nat → Int64) : zf_X3_greatestValue_3 bH bT bM f0 f1 f2 f3 = (((zl_X3_greatestValue_3_17 bH bT bM f3 bT 0 (0 : Int64) f0 f1 f2).1), ((zl_X3_greatestValue_3_17 bH bT bM f3 bT 0 (0 : Int64) f0 f1 f2).2.1), ((zl_X3_greatestValue_3_17 bH bT bM f3 bT 0 (0 : Int64) f0 f1 f2).2.2.1), ((zl_X3_greatestValue_3_17 bH bT bM f3 bT 0 (0 : Int64) f0 f1 f2).2.2.2)) := rfl
set_option maxHeartbeats 4000000 in
set_option maxRecDepth 100000 in
theorem zc_X3_greatestValue_3 (l : Launch) (g : zG) (B : Nat) (pd : Nat → Nat) (bd : Nat → Nat) (bH : Nat) (bW : Nat → Int64) (bT : Nat) (bM : Nat → Nat → Int32) (f0 : Nat → Int64) (f1 : Nat → Int64) (f2 : Nat → Int64) (f3 : Nat → Int64) (hh : bH ≤ 8) (ht : bT ≤ 10) : zMet l g B yX3_greatestValue cX3_greatestValue 6 (some .long) 9 270 0 0 [.ref (bd 8), .ref (pd 1), .int (3 : Int32)] [wPln g pd, wBel g bd bH bW bT bM, wLng g (pd 2) f0, wLng g (pd 3) f1, wLng g (pd 4) f2, wLng g (pd 5) f3] (zDet (some (.long ((zf_X3_greatestValue_3 bH bT bM f0 f1 f2 f3).1))) [wPln g pd, wBel g bd bH bW bT bM, wLng g (pd 2) ((zf_X3_greatestValue_3 bH bT bM f0 f1 f2 f3).2.1), wLng g (pd 3) ((zf_X3_greatestValue_3 bH bT bM f0 f1 f2 f3).2.2.1), wLng g (pd 4) ((zf_X3_greatestValue_3 bH bT bM f0 f1 f2 f3).2.2.2), wLng g (pd 5) f3]) := by
  refine z_in (plainFor_of_name (by decide)) (Nat.le_of_ble_eq_true rfl) (fun p e R s m args below meth c A Q hRf hRl hRc hRs X Z hnm E ls hl => ?_)
  have hx := X.1
  have hb := X.2.1
  have hown := X.2.2.2.1
  have hts := X.2.2.2.2.1
  have hl : lv_has ls 6 [(0, .ref (bd 8)), (1, .ref (pd 1)), (2, .int (3 : Int32))] := hl
  refine lv_iload_n hx hb dX3_greatestValue_0 rfl (lv_at hl 2 rfl) ?_
  refine lv_if_gt (tgt := 12) hx hb dX3_greatestValue_1 (by decide) (fun c_1 => ?_) (fun c_1 => ?_)
  · refine lv_lconst (v := (0 : Int64)) hx hb dX3_greatestValue_12 (by decide) ?_
    refine lv_lstore_n (lv' := [(3, .long (0 : Int64)), (0, .ref (bd 8)), (1, .ref (pd 1)), (2, .int (3 : Int32))]) hx hb dX3_greatestValue_13 rfl hl (by decide) rfl (fun ls hl => ?_)
    refine lv_iconst (v := (0 : Int32)) hx hb dX3_greatestValue_14 (by decide) ?_
    refine lv_istore (lv' := [(5, .int (0 : Int32)), (3, .long (0 : Int64)), (0, .ref (bd 8)), (1, .ref (pd 1)), (2, .int (3 : Int32))]) hx hb dX3_greatestValue_15 hl (by decide) rfl (fun ls hl => ?_)
    have loop_17 : ∀ (n17 j17 : Nat) (x3 : Int64) (g0 : Nat → Int64) (g1 : Nat → Int64) (g2 : Nat → Int64), j17 + n17 = bT → zl_X3_greatestValue_3_17 bH bT bM f3 n17 j17 x3 g0 g1 g2 = (zl_X3_greatestValue_3_17 bH bT bM f3 bT 0 (0 : Int64) f0 f1 f2) → ∀ (H : Heap) (locs : List Loc), zM g B A s [wPln g pd, wBel g bd bH bW bT bM, wLng g (pd 2) g0, wLng g (pd 3) g1, wLng g (pd 4) g2, wLng g (pd 5) f3] H locs → ∀ ls : Array Slot, lv_has ls 6 [(5, .int (nI j17)), (3, .long x3), (0, .ref (bd 8)), (1, .ref (pd 1)), (2, .int (3 : Int32))] → W p l e R s m args below meth c H locs 0 0 Q (F0 m 17 ls []) := by
      intro n17
      induction n17 with
      | zero =>
        intro j17 x3 g0 g1 g2 hin17 hR17 H locs Z ls hl
        have e_x3 : (zl_X3_greatestValue_3_17 bH bT bM f3 bT 0 (0 : Int64) f0 f1 f2).1 = x3 := (by rw [← hR17]; rfl)
        have e_g0 : (zl_X3_greatestValue_3_17 bH bT bM f3 bT 0 (0 : Int64) f0 f1 f2).2.1 = g0 := (by rw [← hR17]; rfl)
        have e_g1 : (zl_X3_greatestValue_3_17 bH bT bM f3 bT 0 (0 : Int64) f0 f1 f2).2.2.1 = g1 := (by rw [← hR17]; rfl)
        have e_g2 : (zl_X3_greatestValue_3_17 bH bT bM f3 bT 0 (0 : Int64) f0 f1 f2).2.2.2 = g2 := (by rw [← hR17]; rfl)
        subst e_x3
        subst e_g0
        subst e_g1
        subst e_g2
        refine lv_iload hx hb dX3_greatestValue_17 (lv_at hl 0 rfl) ?_
        refine lv_aload_n hx hb dX3_greatestValue_19 rfl (lv_at hl 2 rfl) ?_
        refine z_get X Z 2 rfl (rfl : zCl[1]? = some (RX1, TX1, 4)) zU_X1 2 (by decide) wF_X3_26 rfl rfl dX3_greatestValue_20 ?_
        refine z_icmp_ge (a := j17) (b := bT) (tgt := 45) X rfl rfl (by omega) (by omega) dX3_greatestValue_23 (by decide) (fun c_2 => ?_) (fun c_2 => ?_)
        · refine lv_lload_n hx hb dX3_greatestValue_45 rfl (lv_at hl 1 rfl) ?_
          exact z_rl (v := ((zl_X3_greatestValue_3_17 bH bT bM f3 bT 0 (0 : Int64) f0 f1 f2).1)) E Z (by rw [zf_X3_greatestValue_3_e]; dsimp only; exact ⟨rfl, rfl⟩) dX3_greatestValue_46 (Nat.zero_le _) (Nat.zero_le _)
        · (exfalso; omega)
      | succ n17 ih17 =>
        intro j17 x3 g0 g1 g2 hin17 hR17 H locs Z ls hl
        refine lv_iload hx hb dX3_greatestValue_17 (lv_at hl 0 rfl) ?_
        refine lv_aload_n hx hb dX3_greatestValue_19 rfl (lv_at hl 2 rfl) ?_
        refine z_get X Z 2 rfl (rfl : zCl[1]? = some (RX1, TX1, 4)) zU_X1 2 (by decide) wF_X3_26 rfl rfl dX3_greatestValue_20 ?_
        refine z_icmp_ge (a := j17) (b := bT) (tgt := 45) X rfl rfl (by omega) (by omega) dX3_greatestValue_23 (by decide) (fun c_3 => ?_) (fun c_3 => ?_)
        · (exfalso; omega)
        · refine lv_lload_n hx hb dX3_greatestValue_26 rfl (lv_at hl 1 rfl) ?_
          refine lv_aload_n hx hb dX3_greatestValue_27 rfl (lv_at hl 2 rfl) ?_
          refine lv_aload_n hx hb dX3_greatestValue_28 rfl (lv_at hl 3 rfl) ?_
          refine lv_iload_n hx hb dX3_greatestValue_29 rfl (lv_at hl 4 rfl) ?_
          refine lv_iload hx hb dX3_greatestValue_30 (lv_at hl 0 rfl) ?_
          refine z_callS (mc := 0) (ms := 0) (As := [.ref (bd 8), .ref (pd 1), .int (3 : Int32), .int (nI j17)]) (rest := [.long x3]) (st2 := [.long ((zf_X3_valueOfTest_3 bH bT bM g0 g1 g2 f3 j17).1), .long x3]) (cs2 := [wPln g pd, wBel g bd bH bW bT bM, wLng g (pd 2) ((zf_X3_valueOfTest_3 bH bT bM g0 g1 g2 f3 j17).2.1), wLng g (pd 3) ((zf_X3_valueOfTest_3 bH bT bM g0 g1 g2 f3 j17).2.2.1), wLng g (pd 4) ((zf_X3_valueOfTest_3 bH bT bM g0 g1 g2 f3 j17).2.2.2), wLng g (pd 5) f3]) X Z [0, 1, 2, 3, 4, 5] [] [0, 1, 2, 3, 4, 5] (zc_X3_valueOfTest_3 l g B pd bd bH bW bT bM g0 g1 g2 f3 j17 (by first | assumption | omega | decide) (by first | assumption | omega | decide) (by first | assumption | omega | decide)) wM_X3_32 wS_X3_valueOfTest wK_X3_valueOfTest wZ_X3 4 6 6 rfl (by decide +kernel) rfl (by decide) rfl rfl rfl (by decide) rfl hl.1 rfl rfl (by rw [hRf, hRl]; exact ⟨Nat.le_of_ble_eq_true rfl, Nat.le_of_ble_eq_true rfl⟩) (Nat.le_of_ble_eq_true rfl) ⟨Nat.zero_le _, Nat.zero_le _⟩ dX3_greatestValue_32 (fun H locs Z => ?_)
          refine z_Mmaxlong X hl.1 wM_X3_50 (by rw [hRf]; decide) (by rw [hRl]; exact Nat.le_of_ble_eq_true rfl) (Nat.zero_le _) (Nat.zero_le _) dX3_greatestValue_35 ?_
          refine lv_lstore_n (lv' := [(3, .long (zmaxL x3 ((zf_X3_valueOfTest_3 bH bT bM g0 g1 g2 f3 j17).1))), (5, .int (nI j17)), (0, .ref (bd 8)), (1, .ref (pd 1)), (2, .int (3 : Int32))]) hx hb dX3_greatestValue_38 rfl hl (by decide) rfl (fun ls hl => ?_)
          refine z_iinc (b := (j17 + 1)) (st := 1) (lv' := [(5, .int (nI (j17 + 1))), (3, .long (zmaxL x3 ((zf_X3_valueOfTest_3 bH bT bM g0 g1 g2 f3 j17).1))), (0, .ref (bd 8)), (1, .ref (pd 1)), (2, .int (3 : Int32))]) X dX3_greatestValue_39 hl (k := 1) rfl rfl (by decide) (by omega) (by decide) rfl (fun ls hl => ?_)
          refine lv_goto (tgt := 17) hx hb dX3_greatestValue_42 (by decide) ?_
          exact ih17 (j17 + 1) (zmaxL x3 ((zf_X3_valueOfTest_3 bH bT bM g0 g1 g2 f3 j17).1)) ((zf_X3_valueOfTest_3 bH bT bM g0 g1 g2 f3 j17).2.1) ((zf_X3_valueOfTest_3 bH bT bM g0 g1 g2 f3 j17).2.2.1) ((zf_X3_valueOfTest_3 bH bT bM g0 g1 g2 f3 j17).2.2.2) (by omega) (by have h9 := hR17; rw [zl_X3_greatestValue_3_17_s] at h9; exact h9) _ _ Z ls (lv_sub hl [0, 1, 2, 3, 4] rfl)
    exact loop_17 bT 0 (0 : Int64) f0 f1 f2 (by omega) rfl _ _ Z ls (lv_sub hl [0, 1, 2, 3, 4] rfl)
  · (exact absurd c_1 (by decide))
def zf_X3_bestValue_0 (bH : Nat) (bW : Nat → Int64) (f0 : Nat → Int64) : Int64 × (Nat → Int64) := ((zf_X3_greatestValue_0 bH (zf_X3_begin_0 bW f0)), (zf_X3_begin_0 bW f0))
theorem zf_X3_bestValue_0_e (bH : Nat) (bW : Nat → Int64) (f0 : Nat → Int64) : zf_X3_bestValue_0 bH bW f0 = ((zf_X3_greatestValue_0 bH (zf_X3_begin_0 bW f0)), (zf_X3_begin_0 bW f0)) := rfl
set_option maxHeartbeats 4000000 in
set_option maxRecDepth 100000 in
theorem zc_X3_bestValue_0 (l : Launch) (g : zG) (B : Nat) (pd : Nat → Nat) (bd : Nat → Nat) (bH : Nat) (bW : Nat → Int64) (bT : Nat) (bM : Nat → Nat → Int32) (f0 : Nat → Int64) (hh : bH ≤ 8) (ht : bT ≤ 10) : zMet l g B yX3_bestValue cX3_bestValue 3 (some .long) 4 130 0 0 [.ref (pd 0), .ref (bd 8), .int (0 : Int32)] [wPln g pd, wBel g bd bH bW bT bM, wLng g (pd 2) f0] (zDet (some (.long ((zf_X3_bestValue_0 bH bW f0).1))) [wPln g pd, wBel g bd bH bW bT bM, wLng g (pd 2) ((zf_X3_bestValue_0 bH bW f0).2)]) := by
  refine z_in (plainFor_of_name (by decide)) (Nat.le_of_ble_eq_true rfl) (fun p e R s m args below meth c A Q hRf hRl hRc hRs X Z hnm E ls hl => ?_)
  have hx := X.1
  have hb := X.2.1
  have hown := X.2.2.2.1
  have hts := X.2.2.2.2.1
  have hl : lv_has ls 3 [(0, .ref (pd 0)), (1, .ref (bd 8)), (2, .int (0 : Int32))] := hl
  refine lv_aload_n hx hb dX3_bestValue_0 rfl (lv_at hl 0 rfl) ?_
  refine lv_aload_n hx hb dX3_bestValue_1 rfl (lv_at hl 1 rfl) ?_
  refine lv_iload_n hx hb dX3_bestValue_2 rfl (lv_at hl 2 rfl) ?_
  refine z_callV (mc := 0) (ms := 0) (As := [.ref (bd 8), .int (0 : Int32)]) (rest := []) (st2 := []) (cs2 := [wPln g pd, wBel g bd bH bW bT bM, wLng g (pd 2) (zf_X3_begin_0 bW f0)]) X Z [0, 1, 2] [] [0, 1, 2] 0 2 (zc_X3_begin_0 l g B pd bd bH bW bT bM f0) wM_X3_16 wS_X3_begin wV_X3_begin wK_X3_begin wZ_X3 2 3 3 rfl (by decide +kernel) rfl (by decide) rfl rfl rfl (by decide) rfl rfl (rfl : zCl[2]? = some (RX3, TX3, 1)) hl.1 rfl rfl (by rw [hRf, hRl]; exact ⟨Nat.le_of_ble_eq_true rfl, Nat.le_of_ble_eq_true rfl⟩) (Nat.le_of_ble_eq_true rfl) ⟨Nat.zero_le _, Nat.zero_le _⟩ dX3_bestValue_3 (fun H locs Z => ?_)
  refine lv_aload_n hx hb dX3_bestValue_6 rfl (lv_at hl 1 rfl) ?_
  refine lv_aload_n hx hb dX3_bestValue_7 rfl (lv_at hl 0 rfl) ?_
  refine z_get X Z 0 rfl (rfl : zCl[2]? = some (RX3, TX3, 1)) zU_X3 0 (by decide) wF_X3_11 rfl rfl dX3_bestValue_8 ?_
  refine lv_iload_n hx hb dX3_bestValue_11 rfl (lv_at hl 2 rfl) ?_
  refine z_callS (mc := 0) (ms := 0) (As := [.ref (bd 8), .ref (pd 1), .int (0 : Int32)]) (rest := []) (st2 := [.long (zf_X3_greatestValue_0 bH (zf_X3_begin_0 bW f0))]) (cs2 := [wPln g pd, wBel g bd bH bW bT bM, wLng g (pd 2) (zf_X3_begin_0 bW f0)]) X Z [0, 1, 2] [] [0, 1, 2] (zc_X3_greatestValue_0 l g B pd bd bH bW bT bM (zf_X3_begin_0 bW f0) (by first | assumption | omega | decide) (by first | assumption | omega | decide)) wM_X3_20 wS_X3_greatestValue wK_X3_greatestValue wZ_X3 3 3 3 rfl (by decide +kernel) rfl (by decide) rfl rfl rfl (by decide) rfl hl.1 rfl rfl (by rw [hRf, hRl]; exact ⟨Nat.le_of_ble_eq_true rfl, Nat.le_of_ble_eq_true rfl⟩) (Nat.le_of_ble_eq_true rfl) ⟨Nat.zero_le _, Nat.zero_le _⟩ dX3_bestValue_12 (fun H locs Z => ?_)
  exact z_rl (v := (zf_X3_greatestValue_0 bH (zf_X3_begin_0 bW f0))) E Z (by rw [zf_X3_bestValue_0_e]; dsimp only; exact ⟨rfl, rfl⟩) dX3_bestValue_15 (Nat.zero_le _) (Nat.zero_le _)
def zf_X3_bestValue_1 (bH : Nat) (bW : Nat → Int64) (bT : Nat) (bM : Nat → Nat → Int32) (f0 : Nat → Int64) (f1 : Nat → Int64) : Int64 × (Nat → Int64) × (Nat → Int64) := (((zf_X3_greatestValue_1 bH bT bM f0 (zf_X3_begin_1 bW f1)).1), ((zf_X3_greatestValue_1 bH bT bM f0 (zf_X3_begin_1 bW f1)).2), (zf_X3_begin_1 bW f1))
theorem zf_X3_bestValue_1_e (bH : Nat) (bW : Nat → Int64) (bT : Nat) (bM : Nat → Nat → Int32) (f0 : Nat → Int64) (f1 : Nat → Int64) : zf_X3_bestValue_1 bH bW bT bM f0 f1 = (((zf_X3_greatestValue_1 bH bT bM f0 (zf_X3_begin_1 bW f1)).1), ((zf_X3_greatestValue_1 bH bT bM f0 (zf_X3_begin_1 bW f1)).2), (zf_X3_begin_1 bW f1)) := rfl
set_option maxHeartbeats 4000000 in
set_option maxRecDepth 100000 in
theorem zc_X3_bestValue_1 (l : Launch) (g : zG) (B : Nat) (pd : Nat → Nat) (bd : Nat → Nat) (bH : Nat) (bW : Nat → Int64) (bT : Nat) (bM : Nat → Nat → Int32) (f0 : Nat → Int64) (f1 : Nat → Int64) (hh : bH ≤ 8) (ht : bT ≤ 10) : zMet l g B yX3_bestValue cX3_bestValue 3 (some .long) 6 190 0 0 [.ref (pd 0), .ref (bd 8), .int (1 : Int32)] [wPln g pd, wBel g bd bH bW bT bM, wLng g (pd 2) f0, wLng g (pd 3) f1] (zDet (some (.long ((zf_X3_bestValue_1 bH bW bT bM f0 f1).1))) [wPln g pd, wBel g bd bH bW bT bM, wLng g (pd 2) ((zf_X3_bestValue_1 bH bW bT bM f0 f1).2.1), wLng g (pd 3) ((zf_X3_bestValue_1 bH bW bT bM f0 f1).2.2)]) := by
  refine z_in (plainFor_of_name (by decide)) (Nat.le_of_ble_eq_true rfl) (fun p e R s m args below meth c A Q hRf hRl hRc hRs X Z hnm E ls hl => ?_)
  have hx := X.1
  have hb := X.2.1
  have hown := X.2.2.2.1
  have hts := X.2.2.2.2.1
  have hl : lv_has ls 3 [(0, .ref (pd 0)), (1, .ref (bd 8)), (2, .int (1 : Int32))] := hl
  refine lv_aload_n hx hb dX3_bestValue_0 rfl (lv_at hl 0 rfl) ?_
  refine lv_aload_n hx hb dX3_bestValue_1 rfl (lv_at hl 1 rfl) ?_
  refine lv_iload_n hx hb dX3_bestValue_2 rfl (lv_at hl 2 rfl) ?_
  refine z_callV (mc := 0) (ms := 0) (As := [.ref (bd 8), .int (1 : Int32)]) (rest := []) (st2 := []) (cs2 := [wPln g pd, wBel g bd bH bW bT bM, wLng g (pd 2) f0, wLng g (pd 3) (zf_X3_begin_1 bW f1)]) X Z [0, 1, 3] [2] [0, 1, 3, 2] 0 2 (zc_X3_begin_1 l g B pd bd bH bW bT bM f1) wM_X3_16 wS_X3_begin wV_X3_begin wK_X3_begin wZ_X3 2 4 4 rfl (by decide +kernel) rfl (by decide) rfl rfl rfl (by decide) rfl rfl (rfl : zCl[2]? = some (RX3, TX3, 1)) hl.1 rfl rfl (by rw [hRf, hRl]; exact ⟨Nat.le_of_ble_eq_true rfl, Nat.le_of_ble_eq_true rfl⟩) (Nat.le_of_ble_eq_true rfl) ⟨Nat.zero_le _, Nat.zero_le _⟩ dX3_bestValue_3 (fun H locs Z => ?_)
  refine lv_aload_n hx hb dX3_bestValue_6 rfl (lv_at hl 1 rfl) ?_
  refine lv_aload_n hx hb dX3_bestValue_7 rfl (lv_at hl 0 rfl) ?_
  refine z_get X Z 0 rfl (rfl : zCl[2]? = some (RX3, TX3, 1)) zU_X3 0 (by decide) wF_X3_11 rfl rfl dX3_bestValue_8 ?_
  refine lv_iload_n hx hb dX3_bestValue_11 rfl (lv_at hl 2 rfl) ?_
  refine z_callS (mc := 0) (ms := 0) (As := [.ref (bd 8), .ref (pd 1), .int (1 : Int32)]) (rest := []) (st2 := [.long ((zf_X3_greatestValue_1 bH bT bM f0 (zf_X3_begin_1 bW f1)).1)]) (cs2 := [wPln g pd, wBel g bd bH bW bT bM, wLng g (pd 2) ((zf_X3_greatestValue_1 bH bT bM f0 (zf_X3_begin_1 bW f1)).2), wLng g (pd 3) (zf_X3_begin_1 bW f1)]) X Z [0, 1, 2, 3] [] [0, 1, 2, 3] (zc_X3_greatestValue_1 l g B pd bd bH bW bT bM f0 (zf_X3_begin_1 bW f1) (by first | assumption | omega | decide) (by first | assumption | omega | decide)) wM_X3_20 wS_X3_greatestValue wK_X3_greatestValue wZ_X3 3 4 4 rfl (by decide +kernel) rfl (by decide) rfl rfl rfl (by decide) rfl hl.1 rfl rfl (by rw [hRf, hRl]; exact ⟨Nat.le_of_ble_eq_true rfl, Nat.le_of_ble_eq_true rfl⟩) (Nat.le_of_ble_eq_true rfl) ⟨Nat.zero_le _, Nat.zero_le _⟩ dX3_bestValue_12 (fun H locs Z => ?_)
  exact z_rl (v := ((zf_X3_greatestValue_1 bH bT bM f0 (zf_X3_begin_1 bW f1)).1)) E Z (by rw [zf_X3_bestValue_1_e]; dsimp only; exact ⟨rfl, rfl⟩) dX3_bestValue_15 (Nat.zero_le _) (Nat.zero_le _)
def zl_X3_bestFirstTest_1_16 (bH : Nat) (bW : Nat → Int64) (bM : Nat → Nat → Int32) (f1 : Nat → Int64) : Nat → Nat → Int64 → Int32 → (Nat → Int64) → Int64 × Int32 × (Nat → Int64)
  | 0, _, x3, x5, g0 => (x3, x5, g0)
  | n16 + 1, j16, x3, x5, g0 => (if ((zf_X3_valueOfTest_1 bH bM g0 (zf_X3_begin_1 bW f1) j16).1) ≤ x3 then zl_X3_bestFirstTest_1_16 bH bW bM f1 n16 (j16 + 1) x3 x5 ((zf_X3_valueOfTest_1 bH bM g0 (zf_X3_begin_1 bW f1) j16).2) else zl_X3_bestFirstTest_1_16 bH bW bM f1 n16 (j16 + 1) ((zf_X3_valueOfTest_1 bH bM g0 (zf_X3_begin_1 bW f1) j16).1) (nI j16) ((zf_X3_valueOfTest_1 bH bM g0 (zf_X3_begin_1 bW f1) j16).2))
theorem zl_X3_bestFirstTest_1_16_s (bH : Nat) (bW : Nat → Int64) (bM : Nat → Nat → Int32) (f1 : Nat → Int64) (n16 : Nat) (j16 : Nat) (x3 : Int64) (x5 : Int32) (g0 : Nat → Int64) : zl_X3_bestFirstTest_1_16 bH bW bM f1 (n16 + 1) j16 x3 x5 g0 = (if ((zf_X3_valueOfTest_1 bH bM g0 (zf_X3_begin_1 bW f1) j16).1) ≤ x3 then zl_X3_bestFirstTest_1_16 bH bW bM f1 n16 (j16 + 1) x3 x5 ((zf_X3_valueOfTest_1 bH bM g0 (zf_X3_begin_1 bW f1) j16).2) else zl_X3_bestFirstTest_1_16 bH bW bM f1 n16 (j16 + 1) ((zf_X3_valueOfTest_1 bH bM g0 (zf_X3_begin_1 bW f1) j16).1) (nI j16) ((zf_X3_valueOfTest_1 bH bM g0 (zf_X3_begin_1 bW f1) j16).2)) := rfl
def zf_X3_bestFirstTest_1 (bH : Nat) (bW : Nat → Int64) (bT : Nat) (bM : Nat → Nat → Int32) (f0 : Nat → Int64) (f1 : Nat → Int64) : Int32 × (Nat → Int64) × (Nat → Int64) := (((zl_X3_bestFirstTest_1_16 bH bW bM f1 bT 0 (-1 : Int64) (-1 : Int32) f0).2.1), ((zl_X3_bestFirstTest_1_16 bH bW bM f1 bT 0 (-1 : Int64) (-1 : Int32) f0).2.2), (zf_X3_begin_1 bW f1))
theorem zf_X3_bestFirstTest_1_e (bH : Nat) (bW : Nat → Int64) (bT : Nat) (bM : Nat → Nat → Int32) (f0 : Nat → Int64) (f1 : Nat → Int64) : zf_X3_bestFirstTest_1 bH bW bT bM f0 f1 = (((zl_X3_bestFirstTest_1_16 bH bW bM f1 bT 0 (-1 : Int64) (-1 : Int32) f0).2.1), ((zl_X3_bestFirstTest_1_16 bH bW bM f1 bT 0 (-1 : Int64) (-1 : Int32) f0).2.2), (zf_X3_begin_1 bW f1)) := rfl
set_option maxHeartbeats 4000000 in
set_option maxRecDepth 100000 in
theorem zc_X3_bestFirstTest_1 (l : Launch) (g : zG) (B : Nat) (pd : Nat → Nat) (bd : Nat → Nat) (bH : Nat) (bW : Nat → Int64) (bT : Nat) (bM : Nat → Nat → Int32) (f0 : Nat → Int64) (f1 : Nat → Int64) (hh : bH ≤ 8) (ht : bT ≤ 10) : zMet l g B yX3_bestFirstTest cX3_bestFirstTest 9 (some .int) 6 190 0 0 [.ref (pd 0), .ref (bd 8), .int (1 : Int32)] [wPln g pd, wBel g bd bH bW bT bM, wLng g (pd 2) f0, wLng g (pd 3) f1] (zDet (some (.int ((zf_X3_bestFirstTest_1 bH bW bT bM f0 f1).1))) [wPln g pd, wBel g bd bH bW bT bM, wLng g (pd 2) ((zf_X3_bestFirstTest_1 bH bW bT bM f0 f1).2.1), wLng g (pd 3) ((zf_X3_bestFirstTest_1 bH bW bT bM f0 f1).2.2)]) := by
  refine z_in (plainFor_of_name (by decide)) (Nat.le_of_ble_eq_true rfl) (fun p e R s m args below meth c A Q hRf hRl hRc hRs X Z hnm E ls hl => ?_)
  have hx := X.1
  have hb := X.2.1
  have hown := X.2.2.2.1
  have hts := X.2.2.2.2.1
  have hl : lv_has ls 9 [(0, .ref (pd 0)), (1, .ref (bd 8)), (2, .int (1 : Int32))] := hl
  refine lv_aload_n hx hb dX3_bestFirstTest_0 rfl (lv_at hl 0 rfl) ?_
  refine lv_aload_n hx hb dX3_bestFirstTest_1 rfl (lv_at hl 1 rfl) ?_
  refine lv_iload_n hx hb dX3_bestFirstTest_2 rfl (lv_at hl 2 rfl) ?_
  refine z_callV (mc := 0) (ms := 0) (As := [.ref (bd 8), .int (1 : Int32)]) (rest := []) (st2 := []) (cs2 := [wPln g pd, wBel g bd bH bW bT bM, wLng g (pd 2) f0, wLng g (pd 3) (zf_X3_begin_1 bW f1)]) X Z [0, 1, 3] [2] [0, 1, 3, 2] 0 2 (zc_X3_begin_1 l g B pd bd bH bW bT bM f1) wM_X3_16 wS_X3_begin wV_X3_begin wK_X3_begin wZ_X3 2 4 4 rfl (by decide +kernel) rfl (by decide) rfl rfl rfl (by decide) rfl rfl (rfl : zCl[2]? = some (RX3, TX3, 1)) hl.1 rfl rfl (by rw [hRf, hRl]; exact ⟨Nat.le_of_ble_eq_true rfl, Nat.le_of_ble_eq_true rfl⟩) (Nat.le_of_ble_eq_true rfl) ⟨Nat.zero_le _, Nat.zero_le _⟩ dX3_bestFirstTest_3 (fun H locs Z => ?_)
  refine lv_ldc2 (v := (-1 : Int64)) hx hb hown (hts _ wL_X3_24) dX3_bestFirstTest_6 ?_
  refine lv_lstore_n (lv' := [(3, .long (-1 : Int64)), (0, .ref (pd 0)), (1, .ref (bd 8)), (2, .int (1 : Int32))]) hx hb dX3_bestFirstTest_9 rfl hl (by decide) rfl (fun ls hl => ?_)
  refine lv_iconst (v := (-1 : Int32)) hx hb dX3_bestFirstTest_10 (by decide) ?_
  refine lv_istore (lv' := [(5, .int (-1 : Int32)), (3, .long (-1 : Int64)), (0, .ref (pd 0)), (1, .ref (bd 8)), (2, .int (1 : Int32))]) hx hb dX3_bestFirstTest_11 hl (by decide) rfl (fun ls hl => ?_)
  refine lv_iconst (v := (0 : Int32)) hx hb dX3_bestFirstTest_13 (by decide) ?_
  refine lv_istore (lv' := [(6, .int (0 : Int32)), (5, .int (-1 : Int32)), (3, .long (-1 : Int64)), (0, .ref (pd 0)), (1, .ref (bd 8)), (2, .int (1 : Int32))]) hx hb dX3_bestFirstTest_14 hl (by decide) rfl (fun ls hl => ?_)
  have loop_16 : ∀ (n16 j16 : Nat) (x3 : Int64) (x5 : Int32) (g0 : Nat → Int64), j16 + n16 = bT → zl_X3_bestFirstTest_1_16 bH bW bM f1 n16 j16 x3 x5 g0 = (zl_X3_bestFirstTest_1_16 bH bW bM f1 bT 0 (-1 : Int64) (-1 : Int32) f0) → ∀ (H : Heap) (locs : List Loc), zM g B A s [wPln g pd, wBel g bd bH bW bT bM, wLng g (pd 2) g0, wLng g (pd 3) (zf_X3_begin_1 bW f1)] H locs → ∀ ls : Array Slot, lv_has ls 9 [(6, .int (nI j16)), (5, .int x5), (3, .long x3), (0, .ref (pd 0)), (1, .ref (bd 8)), (2, .int (1 : Int32))] → W p l e R s m args below meth c H locs 0 0 Q (F0 m 16 ls []) := by
    intro n16
    induction n16 with
    | zero =>
      intro j16 x3 x5 g0 hin16 hR16 H locs Z ls hl
      have e_x3 : (zl_X3_bestFirstTest_1_16 bH bW bM f1 bT 0 (-1 : Int64) (-1 : Int32) f0).1 = x3 := (by rw [← hR16]; rfl)
      have e_x5 : (zl_X3_bestFirstTest_1_16 bH bW bM f1 bT 0 (-1 : Int64) (-1 : Int32) f0).2.1 = x5 := (by rw [← hR16]; rfl)
      have e_g0 : (zl_X3_bestFirstTest_1_16 bH bW bM f1 bT 0 (-1 : Int64) (-1 : Int32) f0).2.2 = g0 := (by rw [← hR16]; rfl)
      subst e_x3
      subst e_x5
      subst e_g0
      refine lv_iload hx hb dX3_bestFirstTest_16 (lv_at hl 0 rfl) ?_
      refine lv_aload_n hx hb dX3_bestFirstTest_18 rfl (lv_at hl 4 rfl) ?_
      refine z_get X Z 2 rfl (rfl : zCl[1]? = some (RX1, TX1, 4)) zU_X1 2 (by decide) wF_X3_26 rfl rfl dX3_bestFirstTest_19 ?_
      refine z_icmp_ge (a := j16) (b := bT) (tgt := 58) X rfl rfl (by omega) (by omega) dX3_bestFirstTest_22 (by decide) (fun c_1 => ?_) (fun c_1 => ?_)
      · refine lv_iload hx hb dX3_bestFirstTest_58 (lv_at hl 1 rfl) ?_
        exact z_ri (v := ((zl_X3_bestFirstTest_1_16 bH bW bM f1 bT 0 (-1 : Int64) (-1 : Int32) f0).2.1)) E Z rfl (by rw [zf_X3_bestFirstTest_1_e]; dsimp only; exact ⟨rfl, rfl⟩) dX3_bestFirstTest_60 (Nat.zero_le _) (Nat.zero_le _)
      · (exfalso; omega)
    | succ n16 ih16 =>
      intro j16 x3 x5 g0 hin16 hR16 H locs Z ls hl
      refine lv_iload hx hb dX3_bestFirstTest_16 (lv_at hl 0 rfl) ?_
      refine lv_aload_n hx hb dX3_bestFirstTest_18 rfl (lv_at hl 4 rfl) ?_
      refine z_get X Z 2 rfl (rfl : zCl[1]? = some (RX1, TX1, 4)) zU_X1 2 (by decide) wF_X3_26 rfl rfl dX3_bestFirstTest_19 ?_
      refine z_icmp_ge (a := j16) (b := bT) (tgt := 58) X rfl rfl (by omega) (by omega) dX3_bestFirstTest_22 (by decide) (fun c_2 => ?_) (fun c_2 => ?_)
      · (exfalso; omega)
      · refine lv_aload_n hx hb dX3_bestFirstTest_25 rfl (lv_at hl 4 rfl) ?_
        refine lv_aload_n hx hb dX3_bestFirstTest_26 rfl (lv_at hl 3 rfl) ?_
        refine z_get X Z 0 rfl (rfl : zCl[2]? = some (RX3, TX3, 1)) zU_X3 0 (by decide) wF_X3_11 rfl rfl dX3_bestFirstTest_27 ?_
        refine lv_iload_n hx hb dX3_bestFirstTest_30 rfl (lv_at hl 5 rfl) ?_
        refine lv_iload hx hb dX3_bestFirstTest_31 (lv_at hl 0 rfl) ?_
        refine z_callS (mc := 0) (ms := 0) (As := [.ref (bd 8), .ref (pd 1), .int (1 : Int32), .int (nI j16)]) (rest := []) (st2 := [.long ((zf_X3_valueOfTest_1 bH bM g0 (zf_X3_begin_1 bW f1) j16).1)]) (cs2 := [wPln g pd, wBel g bd bH bW bT bM, wLng g (pd 2) ((zf_X3_valueOfTest_1 bH bM g0 (zf_X3_begin_1 bW f1) j16).2), wLng g (pd 3) (zf_X3_begin_1 bW f1)]) X Z [0, 1, 2, 3] [] [0, 1, 2, 3] (zc_X3_valueOfTest_1 l g B pd bd bH bW bT bM g0 (zf_X3_begin_1 bW f1) j16 (by first | assumption | omega | decide) (by first | assumption | omega | decide) (by first | assumption | omega | decide)) wM_X3_32 wS_X3_valueOfTest wK_X3_valueOfTest wZ_X3 4 4 4 rfl (by decide +kernel) rfl (by decide) rfl rfl rfl (by decide) rfl hl.1 rfl rfl (by rw [hRf, hRl]; exact ⟨Nat.le_of_ble_eq_true rfl, Nat.le_of_ble_eq_true rfl⟩) (Nat.le_of_ble_eq_true rfl) ⟨Nat.zero_le _, Nat.zero_le _⟩ dX3_bestFirstTest_33 (fun H locs Z => ?_)
        refine lv_lstore (lv' := [(7, .long ((zf_X3_valueOfTest_1 bH bM g0 (zf_X3_begin_1 bW f1) j16).1)), (6, .int (nI j16)), (5, .int x5), (3, .long x3), (0, .ref (pd 0)), (1, .ref (bd 8)), (2, .int (1 : Int32))]) hx hb dX3_bestFirstTest_36 hl (by decide) rfl (fun ls hl => ?_)
        refine lv_lload hx hb dX3_bestFirstTest_38 (lv_at hl 0 rfl) ?_
        refine lv_lload_n hx hb dX3_bestFirstTest_40 rfl (lv_at hl 3 rfl) ?_
        refine z_lc_le (tgt := 52) X dX3_bestFirstTest_41 dX3_bestFirstTest_42 (by decide) (fun c_3 => ?_) (fun c_3 => ?_)
        · refine z_iinc (b := (j16 + 1)) (st := 1) (lv' := [(6, .int (nI (j16 + 1))), (7, .long ((zf_X3_valueOfTest_1 bH bM g0 (zf_X3_begin_1 bW f1) j16).1)), (5, .int x5), (3, .long x3), (0, .ref (pd 0)), (1, .ref (bd 8)), (2, .int (1 : Int32))]) X dX3_bestFirstTest_52 hl (k := 1) rfl rfl (by decide) (by omega) (by decide) rfl (fun ls hl => ?_)
          refine lv_goto (tgt := 16) hx hb dX3_bestFirstTest_55 (by decide) ?_
          exact ih16 (j16 + 1) x3 x5 ((zf_X3_valueOfTest_1 bH bM g0 (zf_X3_begin_1 bW f1) j16).2) (by omega) (by have h9 := hR16; rw [zl_X3_bestFirstTest_1_16_s, if_pos c_3] at h9; exact h9) _ _ Z ls (lv_sub hl [0, 2, 3, 4, 5, 6] rfl)
        · refine lv_lload hx hb dX3_bestFirstTest_45 (lv_at hl 0 rfl) ?_
          refine lv_lstore_n (lv' := [(3, .long ((zf_X3_valueOfTest_1 bH bM g0 (zf_X3_begin_1 bW f1) j16).1)), (7, .long ((zf_X3_valueOfTest_1 bH bM g0 (zf_X3_begin_1 bW f1) j16).1)), (6, .int (nI j16)), (5, .int x5), (0, .ref (pd 0)), (1, .ref (bd 8)), (2, .int (1 : Int32))]) hx hb dX3_bestFirstTest_47 rfl hl (by decide) rfl (fun ls hl => ?_)
          refine lv_iload hx hb dX3_bestFirstTest_48 (lv_at hl 2 rfl) ?_
          refine lv_istore (lv' := [(5, .int (nI j16)), (3, .long ((zf_X3_valueOfTest_1 bH bM g0 (zf_X3_begin_1 bW f1) j16).1)), (7, .long ((zf_X3_valueOfTest_1 bH bM g0 (zf_X3_begin_1 bW f1) j16).1)), (6, .int (nI j16)), (0, .ref (pd 0)), (1, .ref (bd 8)), (2, .int (1 : Int32))]) hx hb dX3_bestFirstTest_50 hl (by decide) rfl (fun ls hl => ?_)
          refine z_iinc (b := (j16 + 1)) (st := 1) (lv' := [(6, .int (nI (j16 + 1))), (5, .int (nI j16)), (3, .long ((zf_X3_valueOfTest_1 bH bM g0 (zf_X3_begin_1 bW f1) j16).1)), (7, .long ((zf_X3_valueOfTest_1 bH bM g0 (zf_X3_begin_1 bW f1) j16).1)), (0, .ref (pd 0)), (1, .ref (bd 8)), (2, .int (1 : Int32))]) X dX3_bestFirstTest_52 hl (k := 3) rfl rfl (by decide) (by omega) (by decide) rfl (fun ls hl => ?_)
          refine lv_goto (tgt := 16) hx hb dX3_bestFirstTest_55 (by decide) ?_
          exact ih16 (j16 + 1) ((zf_X3_valueOfTest_1 bH bM g0 (zf_X3_begin_1 bW f1) j16).1) (nI j16) ((zf_X3_valueOfTest_1 bH bM g0 (zf_X3_begin_1 bW f1) j16).2) (by omega) (by have h9 := hR16; rw [zl_X3_bestFirstTest_1_16_s, if_neg c_3] at h9; exact h9) _ _ Z ls (lv_sub hl [0, 1, 2, 4, 5, 6] rfl)
  exact loop_16 bT 0 (-1 : Int64) (-1 : Int32) f0 (by omega) rfl _ _ Z ls (lv_sub hl [0, 1, 2, 3, 4, 5] rfl)
def zf_X3_bestValue_2 (bH : Nat) (bW : Nat → Int64) (bT : Nat) (bM : Nat → Nat → Int32) (f0 : Nat → Int64) (f1 : Nat → Int64) (f2 : Nat → Int64) : Int64 × (Nat → Int64) × (Nat → Int64) × (Nat → Int64) := (((zf_X3_greatestValue_2 bH bT bM f0 f1 (zf_X3_begin_2 bW f2)).1), ((zf_X3_greatestValue_2 bH bT bM f0 f1 (zf_X3_begin_2 bW f2)).2.1), ((zf_X3_greatestValue_2 bH bT bM f0 f1 (zf_X3_begin_2 bW f2)).2.2), (zf_X3_begin_2 bW f2))
theorem zf_X3_bestValue_2_e (bH : Nat) (bW : Nat → Int64) (bT : Nat) (bM : Nat → Nat → Int32) (f0 : Nat → Int64) (f1 : Nat → Int64) (f2 : Nat → Int64) : zf_X3_bestValue_2 bH bW bT bM f0 f1 f2 = (((zf_X3_greatestValue_2 bH bT bM f0 f1 (zf_X3_begin_2 bW f2)).1), ((zf_X3_greatestValue_2 bH bT bM f0 f1 (zf_X3_begin_2 bW f2)).2.1), ((zf_X3_greatestValue_2 bH bT bM f0 f1 (zf_X3_begin_2 bW f2)).2.2), (zf_X3_begin_2 bW f2)) := rfl
set_option maxHeartbeats 4000000 in
set_option maxRecDepth 100000 in
theorem zc_X3_bestValue_2 (l : Launch) (g : zG) (B : Nat) (pd : Nat → Nat) (bd : Nat → Nat) (bH : Nat) (bW : Nat → Int64) (bT : Nat) (bM : Nat → Nat → Int32) (f0 : Nat → Int64) (f1 : Nat → Int64) (f2 : Nat → Int64) (hh : bH ≤ 8) (ht : bT ≤ 10) : zMet l g B yX3_bestValue cX3_bestValue 3 (some .long) 8 250 0 0 [.ref (pd 0), .ref (bd 8), .int (2 : Int32)] [wPln g pd, wBel g bd bH bW bT bM, wLng g (pd 2) f0, wLng g (pd 3) f1, wLng g (pd 4) f2] (zDet (some (.long ((zf_X3_bestValue_2 bH bW bT bM f0 f1 f2).1))) [wPln g pd, wBel g bd bH bW bT bM, wLng g (pd 2) ((zf_X3_bestValue_2 bH bW bT bM f0 f1 f2).2.1), wLng g (pd 3) ((zf_X3_bestValue_2 bH bW bT bM f0 f1 f2).2.2.1), wLng g (pd 4) ((zf_X3_bestValue_2 bH bW bT bM f0 f1 f2).2.2.2)]) := by
  refine z_in (plainFor_of_name (by decide)) (Nat.le_of_ble_eq_true rfl) (fun p e R s m args below meth c A Q hRf hRl hRc hRs X Z hnm E ls hl => ?_)
  have hx := X.1
  have hb := X.2.1
  have hown := X.2.2.2.1
  have hts := X.2.2.2.2.1
  have hl : lv_has ls 3 [(0, .ref (pd 0)), (1, .ref (bd 8)), (2, .int (2 : Int32))] := hl
  refine lv_aload_n hx hb dX3_bestValue_0 rfl (lv_at hl 0 rfl) ?_
  refine lv_aload_n hx hb dX3_bestValue_1 rfl (lv_at hl 1 rfl) ?_
  refine lv_iload_n hx hb dX3_bestValue_2 rfl (lv_at hl 2 rfl) ?_
  refine z_callV (mc := 0) (ms := 0) (As := [.ref (bd 8), .int (2 : Int32)]) (rest := []) (st2 := []) (cs2 := [wPln g pd, wBel g bd bH bW bT bM, wLng g (pd 2) f0, wLng g (pd 3) f1, wLng g (pd 4) (zf_X3_begin_2 bW f2)]) X Z [0, 1, 4] [2, 3] [0, 1, 3, 4, 2] 0 2 (zc_X3_begin_2 l g B pd bd bH bW bT bM f2) wM_X3_16 wS_X3_begin wV_X3_begin wK_X3_begin wZ_X3 2 5 5 rfl (by decide +kernel) rfl (by decide) rfl rfl rfl (by decide) rfl rfl (rfl : zCl[2]? = some (RX3, TX3, 1)) hl.1 rfl rfl (by rw [hRf, hRl]; exact ⟨Nat.le_of_ble_eq_true rfl, Nat.le_of_ble_eq_true rfl⟩) (Nat.le_of_ble_eq_true rfl) ⟨Nat.zero_le _, Nat.zero_le _⟩ dX3_bestValue_3 (fun H locs Z => ?_)
  refine lv_aload_n hx hb dX3_bestValue_6 rfl (lv_at hl 1 rfl) ?_
  refine lv_aload_n hx hb dX3_bestValue_7 rfl (lv_at hl 0 rfl) ?_
  refine z_get X Z 0 rfl (rfl : zCl[2]? = some (RX3, TX3, 1)) zU_X3 0 (by decide) wF_X3_11 rfl rfl dX3_bestValue_8 ?_
  refine lv_iload_n hx hb dX3_bestValue_11 rfl (lv_at hl 2 rfl) ?_
  refine z_callS (mc := 0) (ms := 0) (As := [.ref (bd 8), .ref (pd 1), .int (2 : Int32)]) (rest := []) (st2 := [.long ((zf_X3_greatestValue_2 bH bT bM f0 f1 (zf_X3_begin_2 bW f2)).1)]) (cs2 := [wPln g pd, wBel g bd bH bW bT bM, wLng g (pd 2) ((zf_X3_greatestValue_2 bH bT bM f0 f1 (zf_X3_begin_2 bW f2)).2.1), wLng g (pd 3) ((zf_X3_greatestValue_2 bH bT bM f0 f1 (zf_X3_begin_2 bW f2)).2.2), wLng g (pd 4) (zf_X3_begin_2 bW f2)]) X Z [0, 1, 2, 3, 4] [] [0, 1, 2, 3, 4] (zc_X3_greatestValue_2 l g B pd bd bH bW bT bM f0 f1 (zf_X3_begin_2 bW f2) (by first | assumption | omega | decide) (by first | assumption | omega | decide)) wM_X3_20 wS_X3_greatestValue wK_X3_greatestValue wZ_X3 3 5 5 rfl (by decide +kernel) rfl (by decide) rfl rfl rfl (by decide) rfl hl.1 rfl rfl (by rw [hRf, hRl]; exact ⟨Nat.le_of_ble_eq_true rfl, Nat.le_of_ble_eq_true rfl⟩) (Nat.le_of_ble_eq_true rfl) ⟨Nat.zero_le _, Nat.zero_le _⟩ dX3_bestValue_12 (fun H locs Z => ?_)
  exact z_rl (v := ((zf_X3_greatestValue_2 bH bT bM f0 f1 (zf_X3_begin_2 bW f2)).1)) E Z (by rw [zf_X3_bestValue_2_e]; dsimp only; exact ⟨rfl, rfl⟩) dX3_bestValue_15 (Nat.zero_le _) (Nat.zero_le _)
def zl_X3_bestFirstTest_2_16 (bH : Nat) (bW : Nat → Int64) (bT : Nat) (bM : Nat → Nat → Int32) (f2 : Nat → Int64) : Nat → Nat → Int64 → Int32 → (Nat → Int64) → (Nat → Int64) → Int64 × Int32 × (Nat → Int64) × (Nat → Int64)
  | 0, _, x3, x5, g0, g1 => (x3, x5, g0, g1)
  | n16 + 1, j16, x3, x5, g0, g1 => (if ((zf_X3_valueOfTest_2 bH bT bM g0 g1 (zf_X3_begin_2 bW f2) j16).1) ≤ x3 then zl_X3_bestFirstTest_2_16 bH bW bT bM f2 n16 (j16 + 1) x3 x5 ((zf_X3_valueOfTest_2 bH bT bM g0 g1 (zf_X3_begin_2 bW f2) j16).2.1) ((zf_X3_valueOfTest_2 bH bT bM g0 g1 (zf_X3_begin_2 bW f2) j16).2.2) else zl_X3_bestFirstTest_2_16 bH bW bT bM f2 n16 (j16 + 1) ((zf_X3_valueOfTest_2 bH bT bM g0 g1 (zf_X3_begin_2 bW f2) j16).1) (nI j16) ((zf_X3_valueOfTest_2 bH bT bM g0 g1 (zf_X3_begin_2 bW f2) j16).2.1) ((zf_X3_valueOfTest_2 bH bT bM g0 g1 (zf_X3_begin_2 bW f2) j16).2.2))
theorem zl_X3_bestFirstTest_2_16_s (bH : Nat) (bW : Nat → Int64) (bT : Nat) (bM : Nat → Nat → Int32) (f2 : Nat → Int64) (n16 : Nat) (j16 : Nat) (x3 : Int64) (x5 : Int32) (g0 : Nat → Int64) (g1 : Nat → Int64) : zl_X3_bestFirstTest_2_16 bH bW bT bM f2 (n16 + 1) j16 x3 x5 g0 g1 = (if ((zf_X3_valueOfTest_2 bH bT bM g0 g1 (zf_X3_begin_2 bW f2) j16).1) ≤ x3 then zl_X3_bestFirstTest_2_16 bH bW bT bM f2 n16 (j16 + 1) x3 x5 ((zf_X3_valueOfTest_2 bH bT bM g0 g1 (zf_X3_begin_2 bW f2) j16).2.1) ((zf_X3_valueOfTest_2 bH bT bM g0 g1 (zf_X3_begin_2 bW f2) j16).2.2) else zl_X3_bestFirstTest_2_16 bH bW bT bM f2 n16 (j16 + 1) ((zf_X3_valueOfTest_2 bH bT bM g0 g1 (zf_X3_begin_2 bW f2) j16).1) (nI j16) ((zf_X3_valueOfTest_2 bH bT bM g0 g1 (zf_X3_begin_2 bW f2) j16).2.1) ((zf_X3_valueOfTest_2 bH bT bM g0 g1 (zf_X3_begin_2 bW f2) j16).2.2)) := rfl
def zf_X3_bestFirstTest_2 (bH : Nat) (bW : Nat → Int64) (bT : Nat) (bM : Nat → Nat → Int32) (f0 : Nat → Int64) (f1 : Nat → Int64) (f2 : Nat → Int64) : Int32 × (Nat → Int64) × (Nat → Int64) × (Nat → Int64) := (((zl_X3_bestFirstTest_2_16 bH bW bT bM f2 bT 0 (-1 : Int64) (-1 : Int32) f0 f1).2.1), ((zl_X3_bestFirstTest_2_16 bH bW bT bM f2 bT 0 (-1 : Int64) (-1 : Int32) f0 f1).2.2.1), ((zl_X3_bestFirstTest_2_16 bH bW bT bM f2 bT 0 (-1 : Int64) (-1 : Int32) f0 f1).2.2.2), (zf_X3_begin_2 bW f2))
theorem zf_X3_bestFirstTest_2_e (bH : Nat) (bW : Nat → Int64) (bT : Nat) (bM : Nat → Nat → Int32) (f0 : Nat → Int64) (f1 : Nat → Int64) (f2 : Nat → Int64) : zf_X3_bestFirstTest_2 bH bW bT bM f0 f1 f2 = (((zl_X3_bestFirstTest_2_16 bH bW bT bM f2 bT 0 (-1 : Int64) (-1 : Int32) f0 f1).2.1), ((zl_X3_bestFirstTest_2_16 bH bW bT bM f2 bT 0 (-1 : Int64) (-1 : Int32) f0 f1).2.2.1), ((zl_X3_bestFirstTest_2_16 bH bW bT bM f2 bT 0 (-1 : Int64) (-1 : Int32) f0 f1).2.2.2), (zf_X3_begin_2 bW f2)) := rfl
set_option maxHeartbeats 4000000 in
set_option maxRecDepth 100000 in
theorem zc_X3_bestFirstTest_2 (l : Launch) (g : zG) (B : Nat) (pd : Nat → Nat) (bd : Nat → Nat) (bH : Nat) (bW : Nat → Int64) (bT : Nat) (bM : Nat → Nat → Int32) (f0 : Nat → Int64) (f1 : Nat → Int64) (f2 : Nat → Int64) (hh : bH ≤ 8) (ht : bT ≤ 10) : zMet l g B yX3_bestFirstTest cX3_bestFirstTest 9 (some .int) 8 250 0 0 [.ref (pd 0), .ref (bd 8), .int (2 : Int32)] [wPln g pd, wBel g bd bH bW bT bM, wLng g (pd 2) f0, wLng g (pd 3) f1, wLng g (pd 4) f2] (zDet (some (.int ((zf_X3_bestFirstTest_2 bH bW bT bM f0 f1 f2).1))) [wPln g pd, wBel g bd bH bW bT bM, wLng g (pd 2) ((zf_X3_bestFirstTest_2 bH bW bT bM f0 f1 f2).2.1), wLng g (pd 3) ((zf_X3_bestFirstTest_2 bH bW bT bM f0 f1 f2).2.2.1), wLng g (pd 4) ((zf_X3_bestFirstTest_2 bH bW bT bM f0 f1 f2).2.2.2)]) := by
  refine z_in (plainFor_of_name (by decide)) (Nat.le_of_ble_eq_true rfl) (fun p e R s m args below meth c A Q hRf hRl hRc hRs X Z hnm E ls hl => ?_)
  have hx := X.1
  have hb := X.2.1
  have hown := X.2.2.2.1
  have hts := X.2.2.2.2.1
  have hl : lv_has ls 9 [(0, .ref (pd 0)), (1, .ref (bd 8)), (2, .int (2 : Int32))] := hl
  refine lv_aload_n hx hb dX3_bestFirstTest_0 rfl (lv_at hl 0 rfl) ?_
  refine lv_aload_n hx hb dX3_bestFirstTest_1 rfl (lv_at hl 1 rfl) ?_
  refine lv_iload_n hx hb dX3_bestFirstTest_2 rfl (lv_at hl 2 rfl) ?_
  refine z_callV (mc := 0) (ms := 0) (As := [.ref (bd 8), .int (2 : Int32)]) (rest := []) (st2 := []) (cs2 := [wPln g pd, wBel g bd bH bW bT bM, wLng g (pd 2) f0, wLng g (pd 3) f1, wLng g (pd 4) (zf_X3_begin_2 bW f2)]) X Z [0, 1, 4] [2, 3] [0, 1, 3, 4, 2] 0 2 (zc_X3_begin_2 l g B pd bd bH bW bT bM f2) wM_X3_16 wS_X3_begin wV_X3_begin wK_X3_begin wZ_X3 2 5 5 rfl (by decide +kernel) rfl (by decide) rfl rfl rfl (by decide) rfl rfl (rfl : zCl[2]? = some (RX3, TX3, 1)) hl.1 rfl rfl (by rw [hRf, hRl]; exact ⟨Nat.le_of_ble_eq_true rfl, Nat.le_of_ble_eq_true rfl⟩) (Nat.le_of_ble_eq_true rfl) ⟨Nat.zero_le _, Nat.zero_le _⟩ dX3_bestFirstTest_3 (fun H locs Z => ?_)
  refine lv_ldc2 (v := (-1 : Int64)) hx hb hown (hts _ wL_X3_24) dX3_bestFirstTest_6 ?_
  refine lv_lstore_n (lv' := [(3, .long (-1 : Int64)), (0, .ref (pd 0)), (1, .ref (bd 8)), (2, .int (2 : Int32))]) hx hb dX3_bestFirstTest_9 rfl hl (by decide) rfl (fun ls hl => ?_)
  refine lv_iconst (v := (-1 : Int32)) hx hb dX3_bestFirstTest_10 (by decide) ?_
  refine lv_istore (lv' := [(5, .int (-1 : Int32)), (3, .long (-1 : Int64)), (0, .ref (pd 0)), (1, .ref (bd 8)), (2, .int (2 : Int32))]) hx hb dX3_bestFirstTest_11 hl (by decide) rfl (fun ls hl => ?_)
  refine lv_iconst (v := (0 : Int32)) hx hb dX3_bestFirstTest_13 (by decide) ?_
  refine lv_istore (lv' := [(6, .int (0 : Int32)), (5, .int (-1 : Int32)), (3, .long (-1 : Int64)), (0, .ref (pd 0)), (1, .ref (bd 8)), (2, .int (2 : Int32))]) hx hb dX3_bestFirstTest_14 hl (by decide) rfl (fun ls hl => ?_)
  have loop_16 : ∀ (n16 j16 : Nat) (x3 : Int64) (x5 : Int32) (g0 : Nat → Int64) (g1 : Nat → Int64), j16 + n16 = bT → zl_X3_bestFirstTest_2_16 bH bW bT bM f2 n16 j16 x3 x5 g0 g1 = (zl_X3_bestFirstTest_2_16 bH bW bT bM f2 bT 0 (-1 : Int64) (-1 : Int32) f0 f1) → ∀ (H : Heap) (locs : List Loc), zM g B A s [wPln g pd, wBel g bd bH bW bT bM, wLng g (pd 2) g0, wLng g (pd 3) g1, wLng g (pd 4) (zf_X3_begin_2 bW f2)] H locs → ∀ ls : Array Slot, lv_has ls 9 [(6, .int (nI j16)), (5, .int x5), (3, .long x3), (0, .ref (pd 0)), (1, .ref (bd 8)), (2, .int (2 : Int32))] → W p l e R s m args below meth c H locs 0 0 Q (F0 m 16 ls []) := by
    intro n16
    induction n16 with
    | zero =>
      intro j16 x3 x5 g0 g1 hin16 hR16 H locs Z ls hl
      have e_x3 : (zl_X3_bestFirstTest_2_16 bH bW bT bM f2 bT 0 (-1 : Int64) (-1 : Int32) f0 f1).1 = x3 := (by rw [← hR16]; rfl)
      have e_x5 : (zl_X3_bestFirstTest_2_16 bH bW bT bM f2 bT 0 (-1 : Int64) (-1 : Int32) f0 f1).2.1 = x5 := (by rw [← hR16]; rfl)
      have e_g0 : (zl_X3_bestFirstTest_2_16 bH bW bT bM f2 bT 0 (-1 : Int64) (-1 : Int32) f0 f1).2.2.1 = g0 := (by rw [← hR16]; rfl)
      have e_g1 : (zl_X3_bestFirstTest_2_16 bH bW bT bM f2 bT 0 (-1 : Int64) (-1 : Int32) f0 f1).2.2.2 = g1 := (by rw [← hR16]; rfl)
      subst e_x3
      subst e_x5
      subst e_g0
      subst e_g1
      refine lv_iload hx hb dX3_bestFirstTest_16 (lv_at hl 0 rfl) ?_
      refine lv_aload_n hx hb dX3_bestFirstTest_18 rfl (lv_at hl 4 rfl) ?_
      refine z_get X Z 2 rfl (rfl : zCl[1]? = some (RX1, TX1, 4)) zU_X1 2 (by decide) wF_X3_26 rfl rfl dX3_bestFirstTest_19 ?_
      refine z_icmp_ge (a := j16) (b := bT) (tgt := 58) X rfl rfl (by omega) (by omega) dX3_bestFirstTest_22 (by decide) (fun c_1 => ?_) (fun c_1 => ?_)
      · refine lv_iload hx hb dX3_bestFirstTest_58 (lv_at hl 1 rfl) ?_
        exact z_ri (v := ((zl_X3_bestFirstTest_2_16 bH bW bT bM f2 bT 0 (-1 : Int64) (-1 : Int32) f0 f1).2.1)) E Z rfl (by rw [zf_X3_bestFirstTest_2_e]; dsimp only; exact ⟨rfl, rfl⟩) dX3_bestFirstTest_60 (Nat.zero_le _) (Nat.zero_le _)
      · (exfalso; omega)
    | succ n16 ih16 =>
      intro j16 x3 x5 g0 g1 hin16 hR16 H locs Z ls hl
      refine lv_iload hx hb dX3_bestFirstTest_16 (lv_at hl 0 rfl) ?_
      refine lv_aload_n hx hb dX3_bestFirstTest_18 rfl (lv_at hl 4 rfl) ?_
      refine z_get X Z 2 rfl (rfl : zCl[1]? = some (RX1, TX1, 4)) zU_X1 2 (by decide) wF_X3_26 rfl rfl dX3_bestFirstTest_19 ?_
      refine z_icmp_ge (a := j16) (b := bT) (tgt := 58) X rfl rfl (by omega) (by omega) dX3_bestFirstTest_22 (by decide) (fun c_2 => ?_) (fun c_2 => ?_)
      · (exfalso; omega)
      · refine lv_aload_n hx hb dX3_bestFirstTest_25 rfl (lv_at hl 4 rfl) ?_
        refine lv_aload_n hx hb dX3_bestFirstTest_26 rfl (lv_at hl 3 rfl) ?_
        refine z_get X Z 0 rfl (rfl : zCl[2]? = some (RX3, TX3, 1)) zU_X3 0 (by decide) wF_X3_11 rfl rfl dX3_bestFirstTest_27 ?_
        refine lv_iload_n hx hb dX3_bestFirstTest_30 rfl (lv_at hl 5 rfl) ?_
        refine lv_iload hx hb dX3_bestFirstTest_31 (lv_at hl 0 rfl) ?_
        refine z_callS (mc := 0) (ms := 0) (As := [.ref (bd 8), .ref (pd 1), .int (2 : Int32), .int (nI j16)]) (rest := []) (st2 := [.long ((zf_X3_valueOfTest_2 bH bT bM g0 g1 (zf_X3_begin_2 bW f2) j16).1)]) (cs2 := [wPln g pd, wBel g bd bH bW bT bM, wLng g (pd 2) ((zf_X3_valueOfTest_2 bH bT bM g0 g1 (zf_X3_begin_2 bW f2) j16).2.1), wLng g (pd 3) ((zf_X3_valueOfTest_2 bH bT bM g0 g1 (zf_X3_begin_2 bW f2) j16).2.2), wLng g (pd 4) (zf_X3_begin_2 bW f2)]) X Z [0, 1, 2, 3, 4] [] [0, 1, 2, 3, 4] (zc_X3_valueOfTest_2 l g B pd bd bH bW bT bM g0 g1 (zf_X3_begin_2 bW f2) j16 (by first | assumption | omega | decide) (by first | assumption | omega | decide) (by first | assumption | omega | decide)) wM_X3_32 wS_X3_valueOfTest wK_X3_valueOfTest wZ_X3 4 5 5 rfl (by decide +kernel) rfl (by decide) rfl rfl rfl (by decide) rfl hl.1 rfl rfl (by rw [hRf, hRl]; exact ⟨Nat.le_of_ble_eq_true rfl, Nat.le_of_ble_eq_true rfl⟩) (Nat.le_of_ble_eq_true rfl) ⟨Nat.zero_le _, Nat.zero_le _⟩ dX3_bestFirstTest_33 (fun H locs Z => ?_)
        refine lv_lstore (lv' := [(7, .long ((zf_X3_valueOfTest_2 bH bT bM g0 g1 (zf_X3_begin_2 bW f2) j16).1)), (6, .int (nI j16)), (5, .int x5), (3, .long x3), (0, .ref (pd 0)), (1, .ref (bd 8)), (2, .int (2 : Int32))]) hx hb dX3_bestFirstTest_36 hl (by decide) rfl (fun ls hl => ?_)
        refine lv_lload hx hb dX3_bestFirstTest_38 (lv_at hl 0 rfl) ?_
        refine lv_lload_n hx hb dX3_bestFirstTest_40 rfl (lv_at hl 3 rfl) ?_
        refine z_lc_le (tgt := 52) X dX3_bestFirstTest_41 dX3_bestFirstTest_42 (by decide) (fun c_3 => ?_) (fun c_3 => ?_)
        · refine z_iinc (b := (j16 + 1)) (st := 1) (lv' := [(6, .int (nI (j16 + 1))), (7, .long ((zf_X3_valueOfTest_2 bH bT bM g0 g1 (zf_X3_begin_2 bW f2) j16).1)), (5, .int x5), (3, .long x3), (0, .ref (pd 0)), (1, .ref (bd 8)), (2, .int (2 : Int32))]) X dX3_bestFirstTest_52 hl (k := 1) rfl rfl (by decide) (by omega) (by decide) rfl (fun ls hl => ?_)
          refine lv_goto (tgt := 16) hx hb dX3_bestFirstTest_55 (by decide) ?_
          exact ih16 (j16 + 1) x3 x5 ((zf_X3_valueOfTest_2 bH bT bM g0 g1 (zf_X3_begin_2 bW f2) j16).2.1) ((zf_X3_valueOfTest_2 bH bT bM g0 g1 (zf_X3_begin_2 bW f2) j16).2.2) (by omega) (by have h9 := hR16; rw [zl_X3_bestFirstTest_2_16_s, if_pos c_3] at h9; exact h9) _ _ Z ls (lv_sub hl [0, 2, 3, 4, 5, 6] rfl)
        · refine lv_lload hx hb dX3_bestFirstTest_45 (lv_at hl 0 rfl) ?_
          refine lv_lstore_n (lv' := [(3, .long ((zf_X3_valueOfTest_2 bH bT bM g0 g1 (zf_X3_begin_2 bW f2) j16).1)), (7, .long ((zf_X3_valueOfTest_2 bH bT bM g0 g1 (zf_X3_begin_2 bW f2) j16).1)), (6, .int (nI j16)), (5, .int x5), (0, .ref (pd 0)), (1, .ref (bd 8)), (2, .int (2 : Int32))]) hx hb dX3_bestFirstTest_47 rfl hl (by decide) rfl (fun ls hl => ?_)
          refine lv_iload hx hb dX3_bestFirstTest_48 (lv_at hl 2 rfl) ?_
          refine lv_istore (lv' := [(5, .int (nI j16)), (3, .long ((zf_X3_valueOfTest_2 bH bT bM g0 g1 (zf_X3_begin_2 bW f2) j16).1)), (7, .long ((zf_X3_valueOfTest_2 bH bT bM g0 g1 (zf_X3_begin_2 bW f2) j16).1)), (6, .int (nI j16)), (0, .ref (pd 0)), (1, .ref (bd 8)), (2, .int (2 : Int32))]) hx hb dX3_bestFirstTest_50 hl (by decide) rfl (fun ls hl => ?_)
          refine z_iinc (b := (j16 + 1)) (st := 1) (lv' := [(6, .int (nI (j16 + 1))), (5, .int (nI j16)), (3, .long ((zf_X3_valueOfTest_2 bH bT bM g0 g1 (zf_X3_begin_2 bW f2) j16).1)), (7, .long ((zf_X3_valueOfTest_2 bH bT bM g0 g1 (zf_X3_begin_2 bW f2) j16).1)), (0, .ref (pd 0)), (1, .ref (bd 8)), (2, .int (2 : Int32))]) X dX3_bestFirstTest_52 hl (k := 3) rfl rfl (by decide) (by omega) (by decide) rfl (fun ls hl => ?_)
          refine lv_goto (tgt := 16) hx hb dX3_bestFirstTest_55 (by decide) ?_
          exact ih16 (j16 + 1) ((zf_X3_valueOfTest_2 bH bT bM g0 g1 (zf_X3_begin_2 bW f2) j16).1) (nI j16) ((zf_X3_valueOfTest_2 bH bT bM g0 g1 (zf_X3_begin_2 bW f2) j16).2.1) ((zf_X3_valueOfTest_2 bH bT bM g0 g1 (zf_X3_begin_2 bW f2) j16).2.2) (by omega) (by have h9 := hR16; rw [zl_X3_bestFirstTest_2_16_s, if_neg c_3] at h9; exact h9) _ _ Z ls (lv_sub hl [0, 1, 2, 4, 5, 6] rfl)
  exact loop_16 bT 0 (-1 : Int64) (-1 : Int32) f0 f1 (by omega) rfl _ _ Z ls (lv_sub hl [0, 1, 2, 3, 4, 5] rfl)
def zf_X3_bestValue_3 (bH : Nat) (bW : Nat → Int64) (bT : Nat) (bM : Nat → Nat → Int32) (f0 : Nat → Int64) (f1 : Nat → Int64) (f2 : Nat → Int64) (f3 : Nat → Int64) : Int64 × (Nat → Int64) × (Nat → Int64) × (Nat → Int64) × (Nat → Int64) := (((zf_X3_greatestValue_3 bH bT bM f0 f1 f2 (zf_X3_begin_3 bW f3)).1), ((zf_X3_greatestValue_3 bH bT bM f0 f1 f2 (zf_X3_begin_3 bW f3)).2.1), ((zf_X3_greatestValue_3 bH bT bM f0 f1 f2 (zf_X3_begin_3 bW f3)).2.2.1), ((zf_X3_greatestValue_3 bH bT bM f0 f1 f2 (zf_X3_begin_3 bW f3)).2.2.2), (zf_X3_begin_3 bW f3))
theorem zf_X3_bestValue_3_e (bH : Nat) (bW : Nat → Int64) (bT : Nat) (bM : Nat → Nat → Int32) (f0 : Nat → Int64) (f1 : Nat → Int64) (f2 : Nat → Int64) (f3 : Nat → Int64) : zf_X3_bestValue_3 bH bW bT bM f0 f1 f2 f3 = (((zf_X3_greatestValue_3 bH bT bM f0 f1 f2 (zf_X3_begin_3 bW f3)).1), ((zf_X3_greatestValue_3 bH bT bM f0 f1 f2 (zf_X3_begin_3 bW f3)).2.1), ((zf_X3_greatestValue_3 bH bT bM f0 f1 f2 (zf_X3_begin_3 bW f3)).2.2.1), ((zf_X3_greatestValue_3 bH bT bM f0 f1 f2 (zf_X3_begin_3 bW f3)).2.2.2), (zf_X3_begin_3 bW f3)) := rfl
set_option maxHeartbeats 4000000 in
set_option maxRecDepth 100000 in
theorem zc_X3_bestValue_3 (l : Launch) (g : zG) (B : Nat) (pd : Nat → Nat) (bd : Nat → Nat) (bH : Nat) (bW : Nat → Int64) (bT : Nat) (bM : Nat → Nat → Int32) (f0 : Nat → Int64) (f1 : Nat → Int64) (f2 : Nat → Int64) (f3 : Nat → Int64) (hh : bH ≤ 8) (ht : bT ≤ 10) : zMet l g B yX3_bestValue cX3_bestValue 3 (some .long) 10 310 0 0 [.ref (pd 0), .ref (bd 8), .int (3 : Int32)] [wPln g pd, wBel g bd bH bW bT bM, wLng g (pd 2) f0, wLng g (pd 3) f1, wLng g (pd 4) f2, wLng g (pd 5) f3] (zDet (some (.long ((zf_X3_bestValue_3 bH bW bT bM f0 f1 f2 f3).1))) [wPln g pd, wBel g bd bH bW bT bM, wLng g (pd 2) ((zf_X3_bestValue_3 bH bW bT bM f0 f1 f2 f3).2.1), wLng g (pd 3) ((zf_X3_bestValue_3 bH bW bT bM f0 f1 f2 f3).2.2.1), wLng g (pd 4) ((zf_X3_bestValue_3 bH bW bT bM f0 f1 f2 f3).2.2.2.1), wLng g (pd 5) ((zf_X3_bestValue_3 bH bW bT bM f0 f1 f2 f3).2.2.2.2)]) := by
  refine z_in (plainFor_of_name (by decide)) (Nat.le_of_ble_eq_true rfl) (fun p e R s m args below meth c A Q hRf hRl hRc hRs X Z hnm E ls hl => ?_)
  have hx := X.1
  have hb := X.2.1
  have hown := X.2.2.2.1
  have hts := X.2.2.2.2.1
  have hl : lv_has ls 3 [(0, .ref (pd 0)), (1, .ref (bd 8)), (2, .int (3 : Int32))] := hl
  refine lv_aload_n hx hb dX3_bestValue_0 rfl (lv_at hl 0 rfl) ?_
  refine lv_aload_n hx hb dX3_bestValue_1 rfl (lv_at hl 1 rfl) ?_
  refine lv_iload_n hx hb dX3_bestValue_2 rfl (lv_at hl 2 rfl) ?_
  refine z_callV (mc := 0) (ms := 0) (As := [.ref (bd 8), .int (3 : Int32)]) (rest := []) (st2 := []) (cs2 := [wPln g pd, wBel g bd bH bW bT bM, wLng g (pd 2) f0, wLng g (pd 3) f1, wLng g (pd 4) f2, wLng g (pd 5) (zf_X3_begin_3 bW f3)]) X Z [0, 1, 5] [2, 3, 4] [0, 1, 3, 4, 5, 2] 0 2 (zc_X3_begin_3 l g B pd bd bH bW bT bM f3) wM_X3_16 wS_X3_begin wV_X3_begin wK_X3_begin wZ_X3 2 6 6 rfl (by decide +kernel) rfl (by decide) rfl rfl rfl (by decide) rfl rfl (rfl : zCl[2]? = some (RX3, TX3, 1)) hl.1 rfl rfl (by rw [hRf, hRl]; exact ⟨Nat.le_of_ble_eq_true rfl, Nat.le_of_ble_eq_true rfl⟩) (Nat.le_of_ble_eq_true rfl) ⟨Nat.zero_le _, Nat.zero_le _⟩ dX3_bestValue_3 (fun H locs Z => ?_)
  refine lv_aload_n hx hb dX3_bestValue_6 rfl (lv_at hl 1 rfl) ?_
  refine lv_aload_n hx hb dX3_bestValue_7 rfl (lv_at hl 0 rfl) ?_
  refine z_get X Z 0 rfl (rfl : zCl[2]? = some (RX3, TX3, 1)) zU_X3 0 (by decide) wF_X3_11 rfl rfl dX3_bestValue_8 ?_
  refine lv_iload_n hx hb dX3_bestValue_11 rfl (lv_at hl 2 rfl) ?_
  refine z_callS (mc := 0) (ms := 0) (As := [.ref (bd 8), .ref (pd 1), .int (3 : Int32)]) (rest := []) (st2 := [.long ((zf_X3_greatestValue_3 bH bT bM f0 f1 f2 (zf_X3_begin_3 bW f3)).1)]) (cs2 := [wPln g pd, wBel g bd bH bW bT bM, wLng g (pd 2) ((zf_X3_greatestValue_3 bH bT bM f0 f1 f2 (zf_X3_begin_3 bW f3)).2.1), wLng g (pd 3) ((zf_X3_greatestValue_3 bH bT bM f0 f1 f2 (zf_X3_begin_3 bW f3)).2.2.1), wLng g (pd 4) ((zf_X3_greatestValue_3 bH bT bM f0 f1 f2 (zf_X3_begin_3 bW f3)).2.2.2), wLng g (pd 5) (zf_X3_begin_3 bW f3)]) X Z [0, 1, 2, 3, 4, 5] [] [0, 1, 2, 3, 4, 5] (zc_X3_greatestValue_3 l g B pd bd bH bW bT bM f0 f1 f2 (zf_X3_begin_3 bW f3) (by first | assumption | omega | decide) (by first | assumption | omega | decide)) wM_X3_20 wS_X3_greatestValue wK_X3_greatestValue wZ_X3 3 6 6 rfl (by decide +kernel) rfl (by decide) rfl rfl rfl (by decide) rfl hl.1 rfl rfl (by rw [hRf, hRl]; exact ⟨Nat.le_of_ble_eq_true rfl, Nat.le_of_ble_eq_true rfl⟩) (Nat.le_of_ble_eq_true rfl) ⟨Nat.zero_le _, Nat.zero_le _⟩ dX3_bestValue_12 (fun H locs Z => ?_)
  exact z_rl (v := ((zf_X3_greatestValue_3 bH bT bM f0 f1 f2 (zf_X3_begin_3 bW f3)).1)) E Z (by rw [zf_X3_bestValue_3_e]; dsimp only; exact ⟨rfl, rfl⟩) dX3_bestValue_15 (Nat.zero_le _) (Nat.zero_le _)
def zl_X3_bestFirstTest_3_16 (bH : Nat) (bW : Nat → Int64) (bT : Nat) (bM : Nat → Nat → Int32) (f3 : Nat → Int64) : Nat → Nat → Int64 → Int32 → (Nat → Int64) → (Nat → Int64) → (Nat → Int64) → Int64 × Int32 × (Nat → Int64) × (Nat → Int64) × (Nat → Int64)
  | 0, _, x3, x5, g0, g1, g2 => (x3, x5, g0, g1, g2)
  | n16 + 1, j16, x3, x5, g0, g1, g2 => (if ((zf_X3_valueOfTest_3 bH bT bM g0 g1 g2 (zf_X3_begin_3 bW f3) j16).1) ≤ x3 then zl_X3_bestFirstTest_3_16 bH bW bT bM f3 n16 (j16 + 1) x3 x5 ((zf_X3_valueOfTest_3 bH bT bM g0 g1 g2 (zf_X3_begin_3 bW f3) j16).2.1) ((zf_X3_valueOfTest_3 bH bT bM g0 g1 g2 (zf_X3_begin_3 bW f3) j16).2.2.1) ((zf_X3_valueOfTest_3 bH bT bM g0 g1 g2 (zf_X3_begin_3 bW f3) j16).2.2.2) else zl_X3_bestFirstTest_3_16 bH bW bT bM f3 n16 (j16 + 1) ((zf_X3_valueOfTest_3 bH bT bM g0 g1 g2 (zf_X3_begin_3 bW f3) j16).1) (nI j16) ((zf_X3_valueOfTest_3 bH bT bM g0 g1 g2 (zf_X3_begin_3 bW f3) j16).2.1) ((zf_X3_valueOfTest_3 bH bT bM g0 g1 g2 (zf_X3_begin_3 bW f3) j16).2.2.1) ((zf_X3_valueOfTest_3 bH bT bM g0 g1 g2 (zf_X3_begin_3 bW f3) j16).2.2.2))
theorem zl_X3_bestFirstTest_3_16_s (bH : Nat) (bW : Nat → Int64) (bT : Nat) (bM : Nat → Nat → Int32) (f3 : Nat → Int64) (n16 : Nat) (j16 : Nat) (x3 : Int64) (x5 : Int32) (g0 : Nat → Int64) (g1 : Nat → Int64) (g2 : Nat → Int64) : zl_X3_bestFirstTest_3_16 bH bW bT bM f3 (n16 + 1) j16 x3 x5 g0 g1 g2 = (if ((zf_X3_valueOfTest_3 bH bT bM g0 g1 g2 (zf_X3_begin_3 bW f3) j16).1) ≤ x3 then zl_X3_bestFirstTest_3_16 bH bW bT bM f3 n16 (j16 + 1) x3 x5 ((zf_X3_valueOfTest_3 bH bT bM g0 g1 g2 (zf_X3_begin_3 bW f3) j16).2.1) ((zf_X3_valueOfTest_3 bH bT bM g0 g1 g2 (zf_X3_begin_3 bW f3) j16).2.2.1) ((zf_X3_valueOfTest_3 bH bT bM g0 g1 g2 (zf_X3_begin_3 bW f3) j16).2.2.2) else zl_X3_bestFirstTest_3_16 bH bW bT bM f3 n16 (j16 + 1) ((zf_X3_valueOfTest_3 bH bT bM g0 g1 g2 (zf_X3_begin_3 bW f3) j16).1) (nI j16) ((zf_X3_valueOfTest_3 bH bT bM g0 g1 g2 (zf_X3_begin_3 bW f3) j16).2.1) ((zf_X3_valueOfTest_3 bH bT bM g0 g1 g2 (zf_X3_begin_3 bW f3) j16).2.2.1) ((zf_X3_valueOfTest_3 bH bT bM g0 g1 g2 (zf_X3_begin_3 bW f3) j16).2.2.2)) := rfl
def zf_X3_bestFirstTest_3 (bH : Nat) (bW : Nat → Int64) (bT : Nat) (bM : Nat → Nat → Int32) (f0 : Nat → Int64) (f1 : Nat → Int64) (f2 : Nat → Int64) (f3 : Nat → Int64) : Int32 × (Nat → Int64) × (Nat → Int64) × (Nat → Int64) × (Nat → Int64) := (((zl_X3_bestFirstTest_3_16 bH bW bT bM f3 bT 0 (-1 : Int64) (-1 : Int32) f0 f1 f2).2.1), ((zl_X3_bestFirstTest_3_16 bH bW bT bM f3 bT 0 (-1 : Int64) (-1 : Int32) f0 f1 f2).2.2.1), ((zl_X3_bestFirstTest_3_16 bH bW bT bM f3 bT 0 (-1 : Int64) (-1 : Int32) f0 f1 f2).2.2.2.1), ((zl_X3_bestFirstTest_3_16 bH bW bT bM f3 bT 0 (-1 : Int64) (-1 : Int32) f0 f1 f2).2.2.2.2), (zf_X3_begin_3 bW f3))
theorem zf_X3_bestFirstTest_3_e (bH : Nat) (bW : Nat → Int64) (bT : Nat) (bM : Nat → Nat → Int32) (f0 : Nat → Int64) (f1 : Nat → Int64) (f2 : Nat → Int64) (f3 : Nat → Int64) : zf_X3_bestFirstTest_3 bH bW bT bM f0 f1 f2 f3 = (((zl_X3_bestFirstTest_3_16 bH bW bT bM f3 bT 0 (-1 : Int64) (-1 : Int32) f0 f1 f2).2.1), ((zl_X3_bestFirstTest_3_16 bH bW bT bM f3 bT 0 (-1 : Int64) (-1 : Int32) f0 f1 f2).2.2.1), ((zl_X3_bestFirstTest_3_16 bH bW bT bM f3 bT 0 (-1 : Int64) (-1 : Int32) f0 f1 f2).2.2.2.1), ((zl_X3_bestFirstTest_3_16 bH bW bT bM f3 bT 0 (-1 : Int64) (-1 : Int32) f0 f1 f2).2.2.2.2), (zf_X3_begin_3 bW f3)) := rfl
set_option maxHeartbeats 4000000 in
set_option maxRecDepth 100000 in
theorem zc_X3_bestFirstTest_3 (l : Launch) (g : zG) (B : Nat) (pd : Nat → Nat) (bd : Nat → Nat) (bH : Nat) (bW : Nat → Int64) (bT : Nat) (bM : Nat → Nat → Int32) (f0 : Nat → Int64) (f1 : Nat → Int64) (f2 : Nat → Int64) (f3 : Nat → Int64) (hh : bH ≤ 8) (ht : bT ≤ 10) : zMet l g B yX3_bestFirstTest cX3_bestFirstTest 9 (some .int) 10 310 0 0 [.ref (pd 0), .ref (bd 8), .int (3 : Int32)] [wPln g pd, wBel g bd bH bW bT bM, wLng g (pd 2) f0, wLng g (pd 3) f1, wLng g (pd 4) f2, wLng g (pd 5) f3] (zDet (some (.int ((zf_X3_bestFirstTest_3 bH bW bT bM f0 f1 f2 f3).1))) [wPln g pd, wBel g bd bH bW bT bM, wLng g (pd 2) ((zf_X3_bestFirstTest_3 bH bW bT bM f0 f1 f2 f3).2.1), wLng g (pd 3) ((zf_X3_bestFirstTest_3 bH bW bT bM f0 f1 f2 f3).2.2.1), wLng g (pd 4) ((zf_X3_bestFirstTest_3 bH bW bT bM f0 f1 f2 f3).2.2.2.1), wLng g (pd 5) ((zf_X3_bestFirstTest_3 bH bW bT bM f0 f1 f2 f3).2.2.2.2)]) := by
  refine z_in (plainFor_of_name (by decide)) (Nat.le_of_ble_eq_true rfl) (fun p e R s m args below meth c A Q hRf hRl hRc hRs X Z hnm E ls hl => ?_)
  have hx := X.1
  have hb := X.2.1
  have hown := X.2.2.2.1
  have hts := X.2.2.2.2.1
  have hl : lv_has ls 9 [(0, .ref (pd 0)), (1, .ref (bd 8)), (2, .int (3 : Int32))] := hl
  refine lv_aload_n hx hb dX3_bestFirstTest_0 rfl (lv_at hl 0 rfl) ?_
  refine lv_aload_n hx hb dX3_bestFirstTest_1 rfl (lv_at hl 1 rfl) ?_
  refine lv_iload_n hx hb dX3_bestFirstTest_2 rfl (lv_at hl 2 rfl) ?_
  refine z_callV (mc := 0) (ms := 0) (As := [.ref (bd 8), .int (3 : Int32)]) (rest := []) (st2 := []) (cs2 := [wPln g pd, wBel g bd bH bW bT bM, wLng g (pd 2) f0, wLng g (pd 3) f1, wLng g (pd 4) f2, wLng g (pd 5) (zf_X3_begin_3 bW f3)]) X Z [0, 1, 5] [2, 3, 4] [0, 1, 3, 4, 5, 2] 0 2 (zc_X3_begin_3 l g B pd bd bH bW bT bM f3) wM_X3_16 wS_X3_begin wV_X3_begin wK_X3_begin wZ_X3 2 6 6 rfl (by decide +kernel) rfl (by decide) rfl rfl rfl (by decide) rfl rfl (rfl : zCl[2]? = some (RX3, TX3, 1)) hl.1 rfl rfl (by rw [hRf, hRl]; exact ⟨Nat.le_of_ble_eq_true rfl, Nat.le_of_ble_eq_true rfl⟩) (Nat.le_of_ble_eq_true rfl) ⟨Nat.zero_le _, Nat.zero_le _⟩ dX3_bestFirstTest_3 (fun H locs Z => ?_)
  refine lv_ldc2 (v := (-1 : Int64)) hx hb hown (hts _ wL_X3_24) dX3_bestFirstTest_6 ?_
  refine lv_lstore_n (lv' := [(3, .long (-1 : Int64)), (0, .ref (pd 0)), (1, .ref (bd 8)), (2, .int (3 : Int32))]) hx hb dX3_bestFirstTest_9 rfl hl (by decide) rfl (fun ls hl => ?_)
  refine lv_iconst (v := (-1 : Int32)) hx hb dX3_bestFirstTest_10 (by decide) ?_
  refine lv_istore (lv' := [(5, .int (-1 : Int32)), (3, .long (-1 : Int64)), (0, .ref (pd 0)), (1, .ref (bd 8)), (2, .int (3 : Int32))]) hx hb dX3_bestFirstTest_11 hl (by decide) rfl (fun ls hl => ?_)
  refine lv_iconst (v := (0 : Int32)) hx hb dX3_bestFirstTest_13 (by decide) ?_
  refine lv_istore (lv' := [(6, .int (0 : Int32)), (5, .int (-1 : Int32)), (3, .long (-1 : Int64)), (0, .ref (pd 0)), (1, .ref (bd 8)), (2, .int (3 : Int32))]) hx hb dX3_bestFirstTest_14 hl (by decide) rfl (fun ls hl => ?_)
  have loop_16 : ∀ (n16 j16 : Nat) (x3 : Int64) (x5 : Int32) (g0 : Nat → Int64) (g1 : Nat → Int64) (g2 : Nat → Int64), j16 + n16 = bT → zl_X3_bestFirstTest_3_16 bH bW bT bM f3 n16 j16 x3 x5 g0 g1 g2 = (zl_X3_bestFirstTest_3_16 bH bW bT bM f3 bT 0 (-1 : Int64) (-1 : Int32) f0 f1 f2) → ∀ (H : Heap) (locs : List Loc), zM g B A s [wPln g pd, wBel g bd bH bW bT bM, wLng g (pd 2) g0, wLng g (pd 3) g1, wLng g (pd 4) g2, wLng g (pd 5) (zf_X3_begin_3 bW f3)] H locs → ∀ ls : Array Slot, lv_has ls 9 [(6, .int (nI j16)), (5, .int x5), (3, .long x3), (0, .ref (pd 0)), (1, .ref (bd 8)), (2, .int (3 : Int32))] → W p l e R s m args below meth c H locs 0 0 Q (F0 m 16 ls []) := by
    intro n16
    induction n16 with
    | zero =>
      intro j16 x3 x5 g0 g1 g2 hin16 hR16 H locs Z ls hl
      have e_x3 : (zl_X3_bestFirstTest_3_16 bH bW bT bM f3 bT 0 (-1 : Int64) (-1 : Int32) f0 f1 f2).1 = x3 := (by rw [← hR16]; rfl)
      have e_x5 : (zl_X3_bestFirstTest_3_16 bH bW bT bM f3 bT 0 (-1 : Int64) (-1 : Int32) f0 f1 f2).2.1 = x5 := (by rw [← hR16]; rfl)
      have e_g0 : (zl_X3_bestFirstTest_3_16 bH bW bT bM f3 bT 0 (-1 : Int64) (-1 : Int32) f0 f1 f2).2.2.1 = g0 := (by rw [← hR16]; rfl)
      have e_g1 : (zl_X3_bestFirstTest_3_16 bH bW bT bM f3 bT 0 (-1 : Int64) (-1 : Int32) f0 f1 f2).2.2.2.1 = g1 := (by rw [← hR16]; rfl)
      have e_g2 : (zl_X3_bestFirstTest_3_16 bH bW bT bM f3 bT 0 (-1 : Int64) (-1 : Int32) f0 f1 f2).2.2.2.2 = g2 := (by rw [← hR16]; rfl)
      subst e_x3
      subst e_x5
      subst e_g0
      subst e_g1
      subst e_g2
      refine lv_iload hx hb dX3_bestFirstTest_16 (lv_at hl 0 rfl) ?_
      refine lv_aload_n hx hb dX3_bestFirstTest_18 rfl (lv_at hl 4 rfl) ?_
      refine z_get X Z 2 rfl (rfl : zCl[1]? = some (RX1, TX1, 4)) zU_X1 2 (by decide) wF_X3_26 rfl rfl dX3_bestFirstTest_19 ?_
      refine z_icmp_ge (a := j16) (b := bT) (tgt := 58) X rfl rfl (by omega) (by omega) dX3_bestFirstTest_22 (by decide) (fun c_1 => ?_) (fun c_1 => ?_)
      · refine lv_iload hx hb dX3_bestFirstTest_58 (lv_at hl 1 rfl) ?_
        exact z_ri (v := ((zl_X3_bestFirstTest_3_16 bH bW bT bM f3 bT 0 (-1 : Int64) (-1 : Int32) f0 f1 f2).2.1)) E Z rfl (by rw [zf_X3_bestFirstTest_3_e]; dsimp only; exact ⟨rfl, rfl⟩) dX3_bestFirstTest_60 (Nat.zero_le _) (Nat.zero_le _)
      · (exfalso; omega)
    | succ n16 ih16 =>
      intro j16 x3 x5 g0 g1 g2 hin16 hR16 H locs Z ls hl
      refine lv_iload hx hb dX3_bestFirstTest_16 (lv_at hl 0 rfl) ?_
      refine lv_aload_n hx hb dX3_bestFirstTest_18 rfl (lv_at hl 4 rfl) ?_
      refine z_get X Z 2 rfl (rfl : zCl[1]? = some (RX1, TX1, 4)) zU_X1 2 (by decide) wF_X3_26 rfl rfl dX3_bestFirstTest_19 ?_
      refine z_icmp_ge (a := j16) (b := bT) (tgt := 58) X rfl rfl (by omega) (by omega) dX3_bestFirstTest_22 (by decide) (fun c_2 => ?_) (fun c_2 => ?_)
      · (exfalso; omega)
      · refine lv_aload_n hx hb dX3_bestFirstTest_25 rfl (lv_at hl 4 rfl) ?_
        refine lv_aload_n hx hb dX3_bestFirstTest_26 rfl (lv_at hl 3 rfl) ?_
        refine z_get X Z 0 rfl (rfl : zCl[2]? = some (RX3, TX3, 1)) zU_X3 0 (by decide) wF_X3_11 rfl rfl dX3_bestFirstTest_27 ?_
        refine lv_iload_n hx hb dX3_bestFirstTest_30 rfl (lv_at hl 5 rfl) ?_
        refine lv_iload hx hb dX3_bestFirstTest_31 (lv_at hl 0 rfl) ?_
        refine z_callS (mc := 0) (ms := 0) (As := [.ref (bd 8), .ref (pd 1), .int (3 : Int32), .int (nI j16)]) (rest := []) (st2 := [.long ((zf_X3_valueOfTest_3 bH bT bM g0 g1 g2 (zf_X3_begin_3 bW f3) j16).1)]) (cs2 := [wPln g pd, wBel g bd bH bW bT bM, wLng g (pd 2) ((zf_X3_valueOfTest_3 bH bT bM g0 g1 g2 (zf_X3_begin_3 bW f3) j16).2.1), wLng g (pd 3) ((zf_X3_valueOfTest_3 bH bT bM g0 g1 g2 (zf_X3_begin_3 bW f3) j16).2.2.1), wLng g (pd 4) ((zf_X3_valueOfTest_3 bH bT bM g0 g1 g2 (zf_X3_begin_3 bW f3) j16).2.2.2), wLng g (pd 5) (zf_X3_begin_3 bW f3)]) X Z [0, 1, 2, 3, 4, 5] [] [0, 1, 2, 3, 4, 5] (zc_X3_valueOfTest_3 l g B pd bd bH bW bT bM g0 g1 g2 (zf_X3_begin_3 bW f3) j16 (by first | assumption | omega | decide) (by first | assumption | omega | decide) (by first | assumption | omega | decide)) wM_X3_32 wS_X3_valueOfTest wK_X3_valueOfTest wZ_X3 4 6 6 rfl (by decide +kernel) rfl (by decide) rfl rfl rfl (by decide) rfl hl.1 rfl rfl (by rw [hRf, hRl]; exact ⟨Nat.le_of_ble_eq_true rfl, Nat.le_of_ble_eq_true rfl⟩) (Nat.le_of_ble_eq_true rfl) ⟨Nat.zero_le _, Nat.zero_le _⟩ dX3_bestFirstTest_33 (fun H locs Z => ?_)
        refine lv_lstore (lv' := [(7, .long ((zf_X3_valueOfTest_3 bH bT bM g0 g1 g2 (zf_X3_begin_3 bW f3) j16).1)), (6, .int (nI j16)), (5, .int x5), (3, .long x3), (0, .ref (pd 0)), (1, .ref (bd 8)), (2, .int (3 : Int32))]) hx hb dX3_bestFirstTest_36 hl (by decide) rfl (fun ls hl => ?_)
        refine lv_lload hx hb dX3_bestFirstTest_38 (lv_at hl 0 rfl) ?_
        refine lv_lload_n hx hb dX3_bestFirstTest_40 rfl (lv_at hl 3 rfl) ?_
        refine z_lc_le (tgt := 52) X dX3_bestFirstTest_41 dX3_bestFirstTest_42 (by decide) (fun c_3 => ?_) (fun c_3 => ?_)
        · refine z_iinc (b := (j16 + 1)) (st := 1) (lv' := [(6, .int (nI (j16 + 1))), (7, .long ((zf_X3_valueOfTest_3 bH bT bM g0 g1 g2 (zf_X3_begin_3 bW f3) j16).1)), (5, .int x5), (3, .long x3), (0, .ref (pd 0)), (1, .ref (bd 8)), (2, .int (3 : Int32))]) X dX3_bestFirstTest_52 hl (k := 1) rfl rfl (by decide) (by omega) (by decide) rfl (fun ls hl => ?_)
          refine lv_goto (tgt := 16) hx hb dX3_bestFirstTest_55 (by decide) ?_
          exact ih16 (j16 + 1) x3 x5 ((zf_X3_valueOfTest_3 bH bT bM g0 g1 g2 (zf_X3_begin_3 bW f3) j16).2.1) ((zf_X3_valueOfTest_3 bH bT bM g0 g1 g2 (zf_X3_begin_3 bW f3) j16).2.2.1) ((zf_X3_valueOfTest_3 bH bT bM g0 g1 g2 (zf_X3_begin_3 bW f3) j16).2.2.2) (by omega) (by have h9 := hR16; rw [zl_X3_bestFirstTest_3_16_s, if_pos c_3] at h9; exact h9) _ _ Z ls (lv_sub hl [0, 2, 3, 4, 5, 6] rfl)
        · refine lv_lload hx hb dX3_bestFirstTest_45 (lv_at hl 0 rfl) ?_
          refine lv_lstore_n (lv' := [(3, .long ((zf_X3_valueOfTest_3 bH bT bM g0 g1 g2 (zf_X3_begin_3 bW f3) j16).1)), (7, .long ((zf_X3_valueOfTest_3 bH bT bM g0 g1 g2 (zf_X3_begin_3 bW f3) j16).1)), (6, .int (nI j16)), (5, .int x5), (0, .ref (pd 0)), (1, .ref (bd 8)), (2, .int (3 : Int32))]) hx hb dX3_bestFirstTest_47 rfl hl (by decide) rfl (fun ls hl => ?_)
          refine lv_iload hx hb dX3_bestFirstTest_48 (lv_at hl 2 rfl) ?_
          refine lv_istore (lv' := [(5, .int (nI j16)), (3, .long ((zf_X3_valueOfTest_3 bH bT bM g0 g1 g2 (zf_X3_begin_3 bW f3) j16).1)), (7, .long ((zf_X3_valueOfTest_3 bH bT bM g0 g1 g2 (zf_X3_begin_3 bW f3) j16).1)), (6, .int (nI j16)), (0, .ref (pd 0)), (1, .ref (bd 8)), (2, .int (3 : Int32))]) hx hb dX3_bestFirstTest_50 hl (by decide) rfl (fun ls hl => ?_)
          refine z_iinc (b := (j16 + 1)) (st := 1) (lv' := [(6, .int (nI (j16 + 1))), (5, .int (nI j16)), (3, .long ((zf_X3_valueOfTest_3 bH bT bM g0 g1 g2 (zf_X3_begin_3 bW f3) j16).1)), (7, .long ((zf_X3_valueOfTest_3 bH bT bM g0 g1 g2 (zf_X3_begin_3 bW f3) j16).1)), (0, .ref (pd 0)), (1, .ref (bd 8)), (2, .int (3 : Int32))]) X dX3_bestFirstTest_52 hl (k := 3) rfl rfl (by decide) (by omega) (by decide) rfl (fun ls hl => ?_)
          refine lv_goto (tgt := 16) hx hb dX3_bestFirstTest_55 (by decide) ?_
          exact ih16 (j16 + 1) ((zf_X3_valueOfTest_3 bH bT bM g0 g1 g2 (zf_X3_begin_3 bW f3) j16).1) (nI j16) ((zf_X3_valueOfTest_3 bH bT bM g0 g1 g2 (zf_X3_begin_3 bW f3) j16).2.1) ((zf_X3_valueOfTest_3 bH bT bM g0 g1 g2 (zf_X3_begin_3 bW f3) j16).2.2.1) ((zf_X3_valueOfTest_3 bH bT bM g0 g1 g2 (zf_X3_begin_3 bW f3) j16).2.2.2) (by omega) (by have h9 := hR16; rw [zl_X3_bestFirstTest_3_16_s, if_neg c_3] at h9; exact h9) _ _ Z ls (lv_sub hl [0, 1, 2, 4, 5, 6] rfl)
  exact loop_16 bT 0 (-1 : Int64) (-1 : Int32) f0 f1 f2 (by omega) rfl _ _ Z ls (lv_sub hl [0, 1, 2, 3, 4, 5] rfl)
