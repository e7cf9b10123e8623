theorem zne1 {x : Int64} (h : ¬ x ≤ 0) : ¬ x = 0 := fun q => h (by rw [q]; decide)
theorem zne2 {x : Int64} (h : ¬ 0 ≤ x) : ¬ -x = 0 := fun q => h (by
  have e : x = -(-x) := by rw [Int64.neg_neg]
  rw [e, q]; decide)
def zf_X8_mix (h : Int64) (v : Int64) : Int64 := (((31 : Int64) * h) + v)
theorem zf_X8_mix_e (h : Int64) (v : Int64) : zf_X8_mix h v = (((31 : Int64) * h) + v) := rfl
set_option maxHeartbeats 4000000 in
set_option maxRecDepth 100000 in
theorem zc_X8_mix (l : Launch) (g : zG) (B : Nat) (h : Int64) (v : Int64) : zMet l g B yX8_mix cX8_mix 4 (some .long) 1 20 0 0 [.long h, .long v] [] (zDet (some (.long (zf_X8_mix h v))) []) := by
  refine z_in (plainFor_of_name (by decide)) (Nat.le_of_ble_eq_true rfl) (fun p e R s m args below meth c A Q hRf hRl hRc hRs X Z hnm E ls hl => ?_)
  have hx := X.1
  have hb := X.2.1
  have hown := X.2.2.2.1
  have hts := X.2.2.2.2.1
  have hl : lv_has ls 4 [(0, .long h), (2, .long v)] := hl
  refine lv_ldc2 (v := (31 : Int64)) hx hb hown (hts _ wL_X8_261) dX8_mix_0 ?_
  refine lv_lload_n hx hb dX8_mix_3 rfl (lv_at hl 0 rfl) ?_
  refine lv_lmul hx hb dX8_mix_4 ?_
  refine lv_lload_n hx hb dX8_mix_5 rfl (lv_at hl 1 rfl) ?_
  refine lv_ladd hx hb dX8_mix_6 ?_
  exact z_rl (v := (((31 : Int64) * h) + v)) E Z (by rw [zf_X8_mix_e]; exact ⟨rfl, rfl⟩) dX8_mix_7 (Nat.zero_le _) (Nat.zero_le _)
def zl_X2_gcd_15 : Nat → Nat → Int64 → Int64 → Int64
  | 0, j15, x4, x6 => x4
  | n15 + 1, j15, x4, x6 => (if x6 = (0 : Int64) then x4 else zl_X2_gcd_15 n15 (j15 + 1) x6 (zremL x4 x6))
theorem zl_X2_gcd_15_s (n15 : Nat) (j15 : Nat) (x4 : Int64) (x6 : Int64) : zl_X2_gcd_15 (n15 + 1) j15 x4 x6 = (if x6 = (0 : Int64) then x4 else zl_X2_gcd_15 n15 (j15 + 1) x6 (zremL x4 x6)) := rfl
theorem zl_X2_gcd_15_z (j15 : Nat) (x4 : Int64) (x6 : Int64) : zl_X2_gcd_15 0 j15 x4 x6 = x4 := rfl
def zf_X2_gcd (x : Int64) (y : Int64) : Int64 := (zl_X2_gcd_15 200 0 (zabsL x) (zabsL y))
theorem zf_X2_gcd_e (x : Int64) (y : Int64) : zf_X2_gcd x y = (zl_X2_gcd_15 200 0 (zabsL x) (zabsL y)) := rfl
set_option maxHeartbeats 4000000 in
set_option maxRecDepth 100000 in
theorem zc_X2_gcd (l : Launch) (g : zG) (B : Nat) (x : Int64) (y : Int64) : zMet l g B yX2_gcd cX2_gcd 11 (some .long) 1 40 0 0 [.long x, .long y] [] (zDet (some (.long (zf_X2_gcd x y))) []) := by
  refine z_in (plainFor_of_name (by decide)) (Nat.le_of_ble_eq_true rfl) (fun p e R s m args below meth c A Q hRf hRl hRc hRs X Z hnm E ls hl => ?_)
  have hx := X.1
  have hb := X.2.1
  have hown := X.2.2.2.1
  have hts := X.2.2.2.2.1
  have hl : lv_has ls 11 [(0, .long x), (2, .long y)] := hl
  refine lv_lload_n hx hb dX2_gcd_0 rfl (lv_at hl 0 rfl) ?_
  refine z_Mabslong X hl.1 wM_X2_7 (by rw [hRf]; decide) (by rw [hRl]; exact Nat.le_of_ble_eq_true rfl) (Nat.zero_le _) (Nat.zero_le _) dX2_gcd_1 ?_
  refine lv_lstore (lv' := [(4, .long (zabsL x)), (0, .long x), (2, .long y)]) hx hb dX2_gcd_4 hl (by decide) rfl (fun ls hl => ?_)
  refine lv_lload_n hx hb dX2_gcd_6 rfl (lv_at hl 2 rfl) ?_
  refine z_Mabslong X hl.1 wM_X2_7 (by rw [hRf]; decide) (by rw [hRl]; exact Nat.le_of_ble_eq_true rfl) (Nat.zero_le _) (Nat.zero_le _) dX2_gcd_7 ?_
  refine lv_lstore (lv' := [(6, .long (zabsL y)), (4, .long (zabsL x)), (0, .long x), (2, .long y)]) hx hb dX2_gcd_10 hl (by decide) rfl (fun ls hl => ?_)
  refine lv_iconst (v := (0 : Int32)) hx hb dX2_gcd_12 (by decide) ?_
  refine lv_istore (lv' := [(8, .int (0 : Int32)), (6, .long (zabsL y)), (4, .long (zabsL x)), (0, .long x), (2, .long y)]) hx hb dX2_gcd_13 hl (by decide) rfl (fun ls hl => ?_)
  have loop_15 : ∀ (n15 j15 : Nat) (x4 : Int64) (x6 : Int64), j15 + n15 = 200 → zl_X2_gcd_15 n15 j15 x4 x6 = (zf_X2_gcd x y) → ∀ (H : Heap) (locs : List Loc), zM g B A s [] H locs → ∀ ls : Array Slot, lv_has ls 11 [(8, .int (nI j15)), (6, .long x6), (4, .long x4), (0, .long x), (2, .long y)] → W p l e R s m args below meth c H locs 0 0 Q (F0 m 15 ls []) := by
    intro n15
    induction n15 with
    | zero =>
      intro j15 x4 x6 hin15 hR15 H locs Z ls hl
      refine lv_iload hx hb dX2_gcd_15 (lv_at hl 0 rfl) ?_
      refine lv_sipush (v := (200 : Int32)) hx hb dX2_gcd_17 (by decide) ?_
      refine z_icmp_ge (a := j15) (b := 200) (tgt := 51) X rfl rfl (by omega) (by omega) dX2_gcd_20 (by decide) (fun c_1 => ?_) (fun c_1 => ?_)
      · refine lv_lload hx hb dX2_gcd_51 (lv_at hl 2 rfl) ?_
        exact z_rl (v := x4) E Z (by rw [← hR15, zl_X2_gcd_15_z]; exact ⟨rfl, rfl⟩) dX2_gcd_53 (Nat.zero_le _) (Nat.zero_le _)
      · (exfalso; omega)
    | succ n15 ih15 =>
      intro j15 x4 x6 hin15 hR15 H locs Z ls hl
      refine lv_iload hx hb dX2_gcd_15 (lv_at hl 0 rfl) ?_
      refine lv_sipush (v := (200 : Int32)) hx hb dX2_gcd_17 (by decide) ?_
      refine z_icmp_ge (a := j15) (b := 200) (tgt := 51) X rfl rfl (by omega) (by omega) dX2_gcd_20 (by decide) (fun c_2 => ?_) (fun c_2 => ?_)
      · (exfalso; omega)
      · refine lv_lload hx hb dX2_gcd_23 (lv_at hl 1 rfl) ?_
        refine lv_lconst (v := (0 : Int64)) hx hb dX2_gcd_25 (by decide) ?_
        refine z_lc_eq (tgt := 51) X dX2_gcd_26 dX2_gcd_27 (by decide) (fun c_3 => ?_) (fun c_3 => ?_)
        · refine lv_lload hx hb dX2_gcd_51 (lv_at hl 2 rfl) ?_
          exact z_rl (v := x4) E Z (by rw [← hR15, zl_X2_gcd_15_s, if_pos c_3]; exact ⟨rfl, rfl⟩) dX2_gcd_53 (Nat.zero_le _) (Nat.zero_le _)
        · refine lv_lload hx hb dX2_gcd_30 (lv_at hl 2 rfl) ?_
          refine lv_lload hx hb dX2_gcd_32 (lv_at hl 1 rfl) ?_
          refine z_lremR X (by assumption) dX2_gcd_34 ?_
          refine lv_lstore (lv' := [(9, .long (zremL x4 x6)), (8, .int (nI j15)), (6, .long x6), (4, .long x4), (0, .long x), (2, .long y)]) hx hb dX2_gcd_35 hl (by decide) rfl (fun ls hl => ?_)
          refine lv_lload hx hb dX2_gcd_37 (lv_at hl 2 rfl) ?_
          refine lv_lstore (lv' := [(4, .long x6), (9, .long (zremL x4 x6)), (8, .int (nI j15)), (6, .long x6), (0, .long x), (2, .long y)]) hx hb dX2_gcd_39 hl (by decide) rfl (fun ls hl => ?_)
          refine lv_lload hx hb dX2_gcd_41 (lv_at hl 1 rfl) ?_
          refine lv_lstore (lv' := [(6, .long (zremL x4 x6)), (4, .long x6), (9, .long (zremL x4 x6)), (8, .int (nI j15)), (0, .long x), (2, .long y)]) hx hb dX2_gcd_43 hl (by decide) rfl (fun ls hl => ?_)
          refine z_iinc (b := (j15 + 1)) (st := 1) (lv' := [(8, .int (nI (j15 + 1))), (6, .long (zremL x4 x6)), (4, .long x6), (9, .long (zremL x4 x6)), (0, .long x), (2, .long y)]) X dX2_gcd_45 hl (k := 3) rfl rfl (by decide) (by omega) (by decide) rfl (fun ls hl => ?_)
          refine lv_goto (tgt := 15) hx hb dX2_gcd_48 (by decide) ?_
          exact ih15 (j15 + 1) x6 (zremL x4 x6) (by omega) (by have h9 := hR15; rw [zl_X2_gcd_15_s, if_neg c_3] at h9; exact h9) _ _ Z ls (lv_sub hl [0, 1, 2, 4, 5] rfl)
  exact loop_15 200 0 (zabsL x) (zabsL y) (by omega) (by rw [zf_X2_gcd_e]) _ _ Z ls (lv_sub hl [0, 1, 2, 3, 4] rfl)
def zf_X2_partOf (x : Int64) (y : Int64) (t : Int32) : Int64 := (if t = 0 then (if (zf_X2_gcd x y) = (0 : Int64) then (0 : Int64) else (x / (zf_X2_gcd x y))) else (if (zf_X2_gcd x y) = (0 : Int64) then (0 : Int64) else (y / (zf_X2_gcd x y))))
theorem zf_X2_partOf_e (x : Int64) (y : Int64) (t : Int32) : zf_X2_partOf x y t = (if t = 0 then (if (zf_X2_gcd x y) = (0 : Int64) then (0 : Int64) else (x / (zf_X2_gcd x y))) else (if (zf_X2_gcd x y) = (0 : Int64) then (0 : Int64) else (y / (zf_X2_gcd x y)))) := rfl
set_option maxHeartbeats 4000000 in
set_option maxRecDepth 100000 in
theorem zc_X2_partOf (l : Launch) (g : zG) (B : Nat) (x : Int64) (y : Int64) (t : Int32) : zMet l g B yX2_partOf cX2_partOf 9 (some .long) 2 90 0 0 [.long x, .long y, .int t] [] (zDet (some (.long (zf_X2_partOf x y t))) []) := by
  refine z_in (plainFor_of_name (by decide)) (Nat.le_of_ble_eq_true rfl) (fun p e R s m args below meth c A Q hRf hRl hRc hRs X Z hnm E ls hl => ?_)
  have hx := X.1
  have hb := X.2.1
  have hown := X.2.2.2.1
  have hts := X.2.2.2.2.1
  have hl : lv_has ls 9 [(0, .long x), (2, .long y), (4, .int t)] := hl
  refine lv_lload_n hx hb dX2_partOf_0 rfl (lv_at hl 0 rfl) ?_
  refine lv_lload_n hx hb dX2_partOf_1 rfl (lv_at hl 1 rfl) ?_
  refine z_callS (mc := 0) (ms := 0) (As := [.long x, .long y]) (rest := []) (st2 := [.long (zf_X2_gcd x y)]) (cs2 := []) X Z [] [] [] (zc_X2_gcd l g B x y) wM_X2_15 wS_X2_gcd wK_X2_gcd wZ_X2 2 0 0 rfl (by decide +kernel) rfl (by decide) rfl rfl rfl (by decide) rfl hl.1 rfl rfl (by rw [hRf, hRl]; exact ⟨Nat.le_of_ble_eq_true rfl, Nat.le_of_ble_eq_true rfl⟩) (Nat.le_of_ble_eq_true rfl) ⟨Nat.zero_le _, Nat.zero_le _⟩ dX2_partOf_2 (fun H locs Z => ?_)
  refine lv_lstore (lv' := [(5, .long (zf_X2_gcd x y)), (0, .long x), (2, .long y), (4, .int t)]) hx hb dX2_partOf_5 hl (by decide) rfl (fun ls hl => ?_)
  refine lv_iload hx hb dX2_partOf_7 (lv_at hl 3 rfl) ?_
  refine lv_if_ne (tgt := 16) hx hb dX2_partOf_9 (by decide) (fun c_1 => ?_) (fun c_1 => ?_)
  · refine lv_lload_n hx hb dX2_partOf_16 rfl (lv_at hl 2 rfl) ?_
    refine lv_lstore (lv' := [(7, .long y), (5, .long (zf_X2_gcd x y)), (0, .long x), (2, .long y), (4, .int t)]) hx hb dX2_partOf_17 hl (by decide) rfl (fun ls hl => ?_)
    refine lv_lload hx hb dX2_partOf_19 (lv_at hl 1 rfl) ?_
    refine lv_lconst (v := (0 : Int64)) hx hb dX2_partOf_21 (by decide) ?_
    refine z_lc_ne (tgt := 30) X dX2_partOf_22 dX2_partOf_23 (by decide) (fun c_2 => ?_) (fun c_2 => ?_)
    · refine lv_lload hx hb dX2_partOf_30 (lv_at hl 0 rfl) ?_
      refine lv_lload hx hb dX2_partOf_32 (lv_at hl 1 rfl) ?_
      refine lv_ldiv hx hb dX2_partOf_34 (by assumption) ?_
      exact z_rl (v := (y / (zf_X2_gcd x y))) E Z (by rw [zf_X2_partOf_e, if_neg c_1, if_neg c_2]; exact ⟨rfl, rfl⟩) dX2_partOf_35 (Nat.zero_le _) (Nat.zero_le _)
    · refine lv_lconst (v := (0 : Int64)) hx hb dX2_partOf_26 (by decide) ?_
      refine lv_goto (tgt := 35) hx hb dX2_partOf_27 (by decide) ?_
      exact z_rl (v := (0 : Int64)) E Z (by rw [zf_X2_partOf_e, if_neg c_1, if_pos c_2]; exact ⟨rfl, rfl⟩) dX2_partOf_35 (Nat.zero_le _) (Nat.zero_le _)
  · refine lv_lload_n hx hb dX2_partOf_12 rfl (lv_at hl 1 rfl) ?_
    refine lv_goto (tgt := 17) hx hb dX2_partOf_13 (by decide) ?_
    refine lv_lstore (lv' := [(7, .long x), (5, .long (zf_X2_gcd x y)), (0, .long x), (2, .long y), (4, .int t)]) hx hb dX2_partOf_17 hl (by decide) rfl (fun ls hl => ?_)
    refine lv_lload hx hb dX2_partOf_19 (lv_at hl 1 rfl) ?_
    refine lv_lconst (v := (0 : Int64)) hx hb dX2_partOf_21 (by decide) ?_
    refine z_lc_ne (tgt := 30) X dX2_partOf_22 dX2_partOf_23 (by decide) (fun c_3 => ?_) (fun c_3 => ?_)
    · refine lv_lload hx hb dX2_partOf_30 (lv_at hl 0 rfl) ?_
      refine lv_lload hx hb dX2_partOf_32 (lv_at hl 1 rfl) ?_
      refine lv_ldiv hx hb dX2_partOf_34 (by assumption) ?_
      exact z_rl (v := (x / (zf_X2_gcd x y))) E Z (by rw [zf_X2_partOf_e, if_pos c_1, if_neg c_3]; exact ⟨rfl, rfl⟩) dX2_partOf_35 (Nat.zero_le _) (Nat.zero_le _)
    · refine lv_lconst (v := (0 : Int64)) hx hb dX2_partOf_26 (by decide) ?_
      refine lv_goto (tgt := 35) hx hb dX2_partOf_27 (by decide) ?_
      exact z_rl (v := (0 : Int64)) E Z (by rw [zf_X2_partOf_e, if_pos c_1, if_pos c_3]; exact ⟨rfl, rfl⟩) dX2_partOf_35 (Nat.zero_le _) (Nat.zero_le _)
def zf_J9_floorDiv_f86c9 (x : Int64) (y : Int64) : Int64 := (if (0 : Int64) ≤ (x ^^^ y) then (x / y) else (if ((x / y) * y) = x then (x / y) else ((x / y) - (1 : Int64))))
theorem zf_J9_floorDiv_f86c9_e (x : Int64) (y : Int64) : zf_J9_floorDiv_f86c9 x y = (if (0 : Int64) ≤ (x ^^^ y) then (x / y) else (if ((x / y) * y) = x then (x / y) else ((x / y) - (1 : Int64)))) := rfl
set_option maxHeartbeats 4000000 in
set_option maxRecDepth 100000 in
theorem zc_J9_floorDiv_f86c9 (l : Launch) (g : zG) (B : Nat) (x : Int64) (y : Int64) (hy : ¬ y = 0) : zMet l g B yJ9_floorDiv_f86c9 cJ9_floorDiv_f86c9 6 (some .long) 1 20 0 0 [.long x, .long y] [] (zDet (some (.long (zf_J9_floorDiv_f86c9 x y))) []) := by
  refine z_in (by decide +kernel) (Nat.le_of_ble_eq_true rfl) (fun p e R s m args below meth c A Q hRf hRl hRc hRs X Z hnm E ls hl => ?_)
  have hx := X.1
  have hb := X.2.1
  have hown := X.2.2.2.1
  have hts := X.2.2.2.2.1
  have hl : lv_has ls 6 [(0, .long x), (2, .long y)] := hl
  refine lv_lload_n hx hb dJ9_floorDiv_f86c9_0 rfl (lv_at hl 0 rfl) ?_
  refine lv_lload_n hx hb dJ9_floorDiv_f86c9_1 rfl (lv_at hl 1 rfl) ?_
  refine lv_ldiv hx hb dJ9_floorDiv_f86c9_2 hy ?_
  refine lv_lstore (lv' := [(4, .long (x / y)), (0, .long x), (2, .long y)]) hx hb dJ9_floorDiv_f86c9_3 hl (by decide) rfl (fun ls hl => ?_)
  refine lv_lload_n hx hb dJ9_floorDiv_f86c9_5 rfl (lv_at hl 1 rfl) ?_
  refine lv_lload_n hx hb dJ9_floorDiv_f86c9_6 rfl (lv_at hl 2 rfl) ?_
  refine lv_lxor hx hb dJ9_floorDiv_f86c9_7 ?_
  refine lv_lconst (v := (0 : Int64)) hx hb dJ9_floorDiv_f86c9_8 (by decide) ?_
  refine z_lc_ge (tgt := 27) X dJ9_floorDiv_f86c9_9 dJ9_floorDiv_f86c9_10 (by decide) (fun c_1 => ?_) (fun c_1 => ?_)
  · refine lv_lload hx hb dJ9_floorDiv_f86c9_27 (lv_at hl 0 rfl) ?_
    exact z_rl (v := (x / y)) E Z (by rw [zf_J9_floorDiv_f86c9_e, if_pos c_1]; exact ⟨rfl, rfl⟩) dJ9_floorDiv_f86c9_29 (Nat.zero_le _) (Nat.zero_le _)
  · refine lv_lload hx hb dJ9_floorDiv_f86c9_13 (lv_at hl 0 rfl) ?_
    refine lv_lload_n hx hb dJ9_floorDiv_f86c9_15 rfl (lv_at hl 2 rfl) ?_
    refine lv_lmul hx hb dJ9_floorDiv_f86c9_16 ?_
    refine lv_lload_n hx hb dJ9_floorDiv_f86c9_17 rfl (lv_at hl 1 rfl) ?_
    refine z_lc_eq (tgt := 27) X dJ9_floorDiv_f86c9_18 dJ9_floorDiv_f86c9_19 (by decide) (fun c_2 => ?_) (fun c_2 => ?_)
    · refine lv_lload hx hb dJ9_floorDiv_f86c9_27 (lv_at hl 0 rfl) ?_
      exact z_rl (v := (x / y)) E Z (by rw [zf_J9_floorDiv_f86c9_e, if_neg c_1, if_pos c_2]; exact ⟨rfl, rfl⟩) dJ9_floorDiv_f86c9_29 (Nat.zero_le _) (Nat.zero_le _)
    · refine lv_lload hx hb dJ9_floorDiv_f86c9_22 (lv_at hl 0 rfl) ?_
      refine lv_lconst (v := (1 : Int64)) hx hb dJ9_floorDiv_f86c9_24 (by decide) ?_
      refine lv_lsub hx hb dJ9_floorDiv_f86c9_25 ?_
      exact z_rl (v := ((x / y) - (1 : Int64))) E Z (by rw [zf_J9_floorDiv_f86c9_e, if_neg c_1, if_neg c_2]; exact ⟨rfl, rfl⟩) dJ9_floorDiv_f86c9_26 (Nat.zero_le _) (Nat.zero_le _)
def zf_X4_signedArea (PX : Nat → Int32) (PY : Nat → Int32) (k : Nat) (x : Int32) (y : Int32) : Int64 := (((((PX ((k + 1) % 3)) - x).toInt64) * (((PY ((k + 2) % 3)) - y).toInt64)) - ((((PX ((k + 2) % 3)) - x).toInt64) * (((PY ((k + 1) % 3)) - y).toInt64)))
theorem zf_X4_signedArea_e (PX : Nat → Int32) (PY : Nat → Int32) (k : Nat) (x : Int32) (y : Int32) : zf_X4_signedArea PX PY k x y = (((((PX ((k + 1) % 3)) - x).toInt64) * (((PY ((k + 2) % 3)) - y).toInt64)) - ((((PX ((k + 2) % 3)) - x).toInt64) * (((PY ((k + 1) % 3)) - y).toInt64))) := rfl
set_option maxHeartbeats 4000000 in
set_option maxRecDepth 100000 in
theorem zc_X4_signedArea (l : Launch) (g : zG) (B : Nat) (ad : Nat → Nat) (PX : Nat → Int32) (PY : Nat → Int32) (PC : Nat → Int32) (PN : Nat) (POX : Nat → Int32) (POY : Nat → Int32) (POW : Nat → Int32) (k : Nat) (x : Int32) (y : Int32) (hc : k < 3) : zMet l g B yX4_signedArea cX4_signedArea 6 (some .long) 1 20 0 0 [.ref (ad 1), .int (nI k), .int x, .int y] [wPlat g ad PX PY PC PN POX POY POW] (zDet (some (.long (zf_X4_signedArea PX PY k x y))) [wPlat g ad PX PY PC PN POX POY POW]) := by
  refine z_in (plainFor_of_name (by decide)) (Nat.le_of_ble_eq_true rfl) (fun p e R s m args below meth c A Q hRf hRl hRc hRs X Z hnm E ls hl => ?_)
  have hx := X.1
  have hb := X.2.1
  have hown := X.2.2.2.1
  have hts := X.2.2.2.2.1
  have hl : lv_has ls 6 [(0, .ref (ad 1)), (1, .int (nI k)), (2, .int x), (3, .int y)] := hl
  refine lv_iload_n hx hb dX4_signedArea_0 rfl (lv_at hl 1 rfl) ?_
  refine lv_iconst (v := (1 : Int32)) hx hb dX4_signedArea_1 (by decide) ?_
  refine z_iadd (a := k) (b := 1) X rfl rfl dX4_signedArea_2 ?_
  refine lv_iconst (v := (3 : Int32)) hx hb dX4_signedArea_3 (by decide) ?_
  refine z_irem (a := (k + 1)) (b := 3) X rfl rfl (by omega) (by omega) (by omega) dX4_signedArea_4 ?_
  refine lv_istore (lv' := [(4, .int (nI ((k + 1) % 3))), (0, .ref (ad 1)), (1, .int (nI k)), (2, .int x), (3, .int y)]) hx hb dX4_signedArea_5 hl (by decide) rfl (fun ls hl => ?_)
  refine lv_iload_n hx hb dX4_signedArea_7 rfl (lv_at hl 2 rfl) ?_
  refine lv_iconst (v := (2 : Int32)) hx hb dX4_signedArea_8 (by decide) ?_
  refine z_iadd (a := k) (b := 2) X rfl rfl dX4_signedArea_9 ?_
  refine lv_iconst (v := (3 : Int32)) hx hb dX4_signedArea_10 (by decide) ?_
  refine z_irem (a := (k + 2)) (b := 3) X rfl rfl (by omega) (by omega) (by omega) dX4_signedArea_11 ?_
  refine lv_istore (lv' := [(5, .int (nI ((k + 2) % 3))), (4, .int (nI ((k + 1) % 3))), (0, .ref (ad 1)), (1, .int (nI k)), (2, .int x), (3, .int y)]) hx hb dX4_signedArea_12 hl (by decide) rfl (fun ls hl => ?_)
  refine lv_aload_n hx hb dX4_signedArea_14 rfl (lv_at hl 2 rfl) ?_
  refine z_get X Z 0 rfl (rfl : zCl[3]? = some (RX4, TX4, 7)) zU_X4 0 (by decide) wF_X4_9 rfl rfl dX4_signedArea_15 ?_
  refine lv_iload hx hb dX4_signedArea_18 (lv_at hl 1 rfl) ?_
  refine z_iald (j := ((k + 1) % 3)) X Z 1 rfl rfl (by omega) (by decide) dX4_signedArea_20 ?_
  refine lv_iload_n hx hb dX4_signedArea_21 rfl (lv_at hl 4 rfl) ?_
  refine lv_isub hx hb dX4_signedArea_22 ?_
  refine lv_i2l hx hb dX4_signedArea_23 rfl ?_
  refine lv_aload_n hx hb dX4_signedArea_24 rfl (lv_at hl 2 rfl) ?_
  refine z_get X Z 0 rfl (rfl : zCl[3]? = some (RX4, TX4, 7)) zU_X4 1 (by decide) wF_X4_15 rfl rfl dX4_signedArea_25 ?_
  refine lv_iload hx hb dX4_signedArea_28 (lv_at hl 0 rfl) ?_
  refine z_iald (j := ((k + 2) % 3)) X Z 2 rfl rfl (by omega) (by decide) dX4_signedArea_30 ?_
  refine lv_iload_n hx hb dX4_signedArea_31 rfl (lv_at hl 5 rfl) ?_
  refine lv_isub hx hb dX4_signedArea_32 ?_
  refine lv_i2l hx hb dX4_signedArea_33 rfl ?_
  refine lv_lmul hx hb dX4_signedArea_34 ?_
  refine lv_aload_n hx hb dX4_signedArea_35 rfl (lv_at hl 2 rfl) ?_
  refine z_get X Z 0 rfl (rfl : zCl[3]? = some (RX4, TX4, 7)) zU_X4 0 (by decide) wF_X4_9 rfl rfl dX4_signedArea_36 ?_
  refine lv_iload hx hb dX4_signedArea_39 (lv_at hl 0 rfl) ?_
  refine z_iald (j := ((k + 2) % 3)) X Z 1 rfl rfl (by omega) (by decide) dX4_signedArea_41 ?_
  refine lv_iload_n hx hb dX4_signedArea_42 rfl (lv_at hl 4 rfl) ?_
  refine lv_isub hx hb dX4_signedArea_43 ?_
  refine lv_i2l hx hb dX4_signedArea_44 rfl ?_
  refine lv_aload_n hx hb dX4_signedArea_45 rfl (lv_at hl 2 rfl) ?_
  refine z_get X Z 0 rfl (rfl : zCl[3]? = some (RX4, TX4, 7)) zU_X4 1 (by decide) wF_X4_15 rfl rfl dX4_signedArea_46 ?_
  refine lv_iload hx hb dX4_signedArea_49 (lv_at hl 1 rfl) ?_
  refine z_iald (j := ((k + 1) % 3)) X Z 2 rfl rfl (by omega) (by decide) dX4_signedArea_51 ?_
  refine lv_iload_n hx hb dX4_signedArea_52 rfl (lv_at hl 5 rfl) ?_
  refine lv_isub hx hb dX4_signedArea_53 ?_
  refine lv_i2l hx hb dX4_signedArea_54 rfl ?_
  refine lv_lmul hx hb dX4_signedArea_55 ?_
  refine lv_lsub hx hb dX4_signedArea_56 ?_
  exact z_rl (v := (((((PX ((k + 1) % 3)) - x).toInt64) * (((PY ((k + 2) % 3)) - y).toInt64)) - ((((PX ((k + 2) % 3)) - x).toInt64) * (((PY ((k + 1) % 3)) - y).toInt64)))) E Z (by rw [zf_X4_signedArea_e]; exact ⟨rfl, rfl⟩) dX4_signedArea_57 (Nat.zero_le _) (Nat.zero_le _)
def zf_X4_share (PX : Nat → Int32) (PY : Nat → Int32) (k : Nat) (x : Int32) (y : Int32) : Int64 := (if (0 : Int64) ≤ (zf_X4_signedArea PX PY 0 (PX 0) (PY 0)) then (zf_X4_signedArea PX PY k x y) else (-(zf_X4_signedArea PX PY k x y)))
theorem zf_X4_share_e (PX : Nat → Int32) (PY : Nat → Int32) (k : Nat) (x : Int32) (y : Int32) : zf_X4_share PX PY k x y = (if (0 : Int64) ≤ (zf_X4_signedArea PX PY 0 (PX 0) (PY 0)) then (zf_X4_signedArea PX PY k x y) else (-(zf_X4_signedArea PX PY k x y))) := rfl
set_option maxHeartbeats 4000000 in
set_option maxRecDepth 100000 in
theorem zc_X4_share (l : Launch) (g : zG) (B : Nat) (ad : Nat → Nat) (PX : Nat → Int32) (PY : Nat → Int32) (PC : Nat → Int32) (PN : Nat) (POX : Nat → Int32) (POY : Nat → Int32) (POW : Nat → Int32) (k : Nat) (x : Int32) (y : Int32) (hc : k < 3) : zMet l g B yX4_share cX4_share 6 (some .long) 2 60 0 0 [.ref (ad 1), .int (nI k), .int x, .int y] [wPlat g ad PX PY PC PN POX POY POW] (zDet (some (.long (zf_X4_share PX PY k x y))) [wPlat g ad PX PY PC PN POX POY POW]) := by
  refine z_in (plainFor_of_name (by decide)) (Nat.le_of_ble_eq_true rfl) (fun p e R s m args below meth c A Q hRf hRl hRc hRs X Z hnm E ls hl => ?_)
  have hx := X.1
  have hb := X.2.1
  have hown := X.2.2.2.1
  have hts := X.2.2.2.2.1
  have hl : lv_has ls 6 [(0, .ref (ad 1)), (1, .int (nI k)), (2, .int x), (3, .int y)] := hl
  refine lv_aload_n hx hb dX4_share_0 rfl (lv_at hl 0 rfl) ?_
  refine lv_iload_n hx hb dX4_share_1 rfl (lv_at hl 1 rfl) ?_
  refine lv_iload_n hx hb dX4_share_2 rfl (lv_at hl 2 rfl) ?_
  refine lv_iload_n hx hb dX4_share_3 rfl (lv_at hl 3 rfl) ?_
  refine z_callV (mc := 0) (ms := 0) (As := [.int (nI k), .int x, .int y]) (rest := []) (st2 := [.long (zf_X4_signedArea PX PY k x y)]) (cs2 := [wPlat g ad PX PY PC PN POX POY POW]) X Z [0] [] [0] 0 3 (zc_X4_signedArea l g B ad PX PY PC PN POX POY POW k x y (by first | assumption | omega | decide)) wM_X4_40 wS_X4_signedArea wV_X4_signedArea wK_X4_signedArea wZ_X4 3 1 1 rfl (by decide +kernel) rfl (by decide) rfl rfl rfl (by decide) rfl rfl (rfl : zCl[3]? = some (RX4, TX4, 7)) hl.1 rfl rfl (by rw [hRf, hRl]; exact ⟨Nat.le_of_ble_eq_true rfl, Nat.le_of_ble_eq_true rfl⟩) (Nat.le_of_ble_eq_true rfl) ⟨Nat.zero_le _, Nat.zero_le _⟩ dX4_share_4 (fun H locs Z => ?_)
  refine lv_lstore (lv' := [(4, .long (zf_X4_signedArea PX PY k x y)), (0, .ref (ad 1)), (1, .int (nI k)), (2, .int x), (3, .int y)]) hx hb dX4_share_7 hl (by decide) rfl (fun ls hl => ?_)
  refine lv_aload_n hx hb dX4_share_9 rfl (lv_at hl 1 rfl) ?_
  refine lv_iconst (v := (0 : Int32)) hx hb dX4_share_10 (by decide) ?_
  refine lv_aload_n hx hb dX4_share_11 rfl (lv_at hl 1 rfl) ?_
  refine z_get X Z 0 rfl (rfl : zCl[3]? = some (RX4, TX4, 7)) zU_X4 0 (by decide) wF_X4_9 rfl rfl dX4_share_12 ?_
  refine lv_iconst (v := (0 : Int32)) hx hb dX4_share_15 (by decide) ?_
  refine z_iald (j := 0) X Z 1 rfl rfl (by omega) (by decide) dX4_share_16 ?_
  refine lv_aload_n hx hb dX4_share_17 rfl (lv_at hl 1 rfl) ?_
  refine z_get X Z 0 rfl (rfl : zCl[3]? = some (RX4, TX4, 7)) zU_X4 1 (by decide) wF_X4_15 rfl rfl dX4_share_18 ?_
  refine lv_iconst (v := (0 : Int32)) hx hb dX4_share_21 (by decide) ?_
  refine z_iald (j := 0) X Z 2 rfl rfl (by omega) (by decide) dX4_share_22 ?_
  refine z_callV (mc := 0) (ms := 0) (As := [.int (0 : Int32), .int (PX 0), .int (PY 0)]) (rest := []) (st2 := [.long (zf_X4_signedArea PX PY 0 (PX 0) (PY 0))]) (cs2 := [wPlat g ad PX PY PC PN POX POY POW]) X Z [0] [] [0] 0 3 (zc_X4_signedArea l g B ad PX PY PC PN POX POY POW 0 (PX 0) (PY 0) (by first | assumption | omega | decide)) wM_X4_40 wS_X4_signedArea wV_X4_signedArea wK_X4_signedArea wZ_X4 3 1 1 rfl (by decide +kernel) rfl (by decide) rfl rfl rfl (by decide) rfl rfl (rfl : zCl[3]? = some (RX4, TX4, 7)) hl.1 rfl rfl (by rw [hRf, hRl]; exact ⟨Nat.le_of_ble_eq_true rfl, Nat.le_of_ble_eq_true rfl⟩) (Nat.le_of_ble_eq_true rfl) ⟨Nat.zero_le _, Nat.zero_le _⟩ dX4_share_23 (fun H locs Z => ?_)
  refine lv_lconst (v := (0 : Int64)) hx hb dX4_share_26 (by decide) ?_
  refine z_lc_ge (tgt := 37) X dX4_share_27 dX4_share_28 (by decide) (fun c_1 => ?_) (fun c_1 => ?_)
  · refine lv_lload hx hb dX4_share_37 (lv_at hl 0 rfl) ?_
    exact z_rl (v := (zf_X4_signedArea PX PY k x y)) E Z (by rw [zf_X4_share_e, if_pos c_1]; exact ⟨rfl, rfl⟩) dX4_share_39 (Nat.zero_le _) (Nat.zero_le _)
  · refine lv_lload hx hb dX4_share_31 (lv_at hl 0 rfl) ?_
    refine lv_lneg hx hb dX4_share_33 ?_
    refine lv_goto (tgt := 39) hx hb dX4_share_34 (by decide) ?_
    exact z_rl (v := (-(zf_X4_signedArea PX PY k x y))) E Z (by rw [zf_X4_share_e, if_neg c_1]; exact ⟨rfl, rfl⟩) dX4_share_39 (Nat.zero_le _) (Nat.zero_le _)
def zf_X4_denominator (PX : Nat → Int32) (PY : Nat → Int32) : Int64 := (zf_X4_share PX PY 0 (PX 0) (PY 0))
theorem zf_X4_denominator_e (PX : Nat → Int32) (PY : Nat → Int32) : zf_X4_denominator PX PY = (zf_X4_share PX PY 0 (PX 0) (PY 0)) := rfl
set_option maxHeartbeats 4000000 in
set_option maxRecDepth 100000 in
theorem zc_X4_denominator (l : Launch) (g : zG) (B : Nat) (ad : Nat → Nat) (PX : Nat → Int32) (PY : Nat → Int32) (PC : Nat → Int32) (PN : Nat) (POX : Nat → Int32) (POY : Nat → Int32) (POW : Nat → Int32) : zMet l g B yX4_denominator cX4_denominator 1 (some .long) 3 90 0 0 [.ref (ad 1)] [wPlat g ad PX PY PC PN POX POY POW] (zDet (some (.long (zf_X4_denominator PX PY))) [wPlat g ad PX PY PC PN POX POY POW]) := by
  refine z_in (plainFor_of_name (by decide)) (Nat.le_of_ble_eq_true rfl) (fun p e R s m args below meth c A Q hRf hRl hRc hRs X Z hnm E ls hl => ?_)
  have hx := X.1
  have hb := X.2.1
  have hown := X.2.2.2.1
  have hts := X.2.2.2.2.1
  have hl : lv_has ls 1 [(0, .ref (ad 1))] := hl
  refine lv_aload_n hx hb dX4_denominator_0 rfl (lv_at hl 0 rfl) ?_
  refine lv_iconst (v := (0 : Int32)) hx hb dX4_denominator_1 (by decide) ?_
  refine lv_aload_n hx hb dX4_denominator_2 rfl (lv_at hl 0 rfl) ?_
  refine z_get X Z 0 rfl (rfl : zCl[3]? = some (RX4, TX4, 7)) zU_X4 0 (by decide) wF_X4_9 rfl rfl dX4_denominator_3 ?_
  refine lv_iconst (v := (0 : Int32)) hx hb dX4_denominator_6 (by decide) ?_
  refine z_iald (j := 0) X Z 1 rfl rfl (by omega) (by decide) dX4_denominator_7 ?_
  refine lv_aload_n hx hb dX4_denominator_8 rfl (lv_at hl 0 rfl) ?_
  refine z_get X Z 0 rfl (rfl : zCl[3]? = some (RX4, TX4, 7)) zU_X4 1 (by decide) wF_X4_15 rfl rfl dX4_denominator_9 ?_
  refine lv_iconst (v := (0 : Int32)) hx hb dX4_denominator_12 (by decide) ?_
  refine z_iald (j := 0) X Z 2 rfl rfl (by omega) (by decide) dX4_denominator_13 ?_
  refine z_callV (mc := 0) (ms := 0) (As := [.int (0 : Int32), .int (PX 0), .int (PY 0)]) (rest := []) (st2 := [.long (zf_X4_share PX PY 0 (PX 0) (PY 0))]) (cs2 := [wPlat g ad PX PY PC PN POX POY POW]) X Z [0] [] [0] 0 3 (zc_X4_share l g B ad PX PY PC PN POX POY POW 0 (PX 0) (PY 0) (by first | assumption | omega | decide)) wM_X4_44 wS_X4_share wV_X4_share wK_X4_share wZ_X4 3 1 1 rfl (by decide +kernel) rfl (by decide) rfl rfl rfl (by decide) rfl rfl (rfl : zCl[3]? = some (RX4, TX4, 7)) hl.1 rfl rfl (by rw [hRf, hRl]; exact ⟨Nat.le_of_ble_eq_true rfl, Nat.le_of_ble_eq_true rfl⟩) (Nat.le_of_ble_eq_true rfl) ⟨Nat.zero_le _, Nat.zero_le _⟩ dX4_denominator_14 (fun H locs Z => ?_)
  exact z_rl (v := (zf_X4_share PX PY 0 (PX 0) (PY 0))) E Z (by rw [zf_X4_denominator_e]; exact ⟨rfl, rfl⟩) dX4_denominator_17 (Nat.zero_le _) (Nat.zero_le _)
def zl_X4_numerator_5 (PX : Nat → Int32) (PY : Nat → Int32) (POX : Nat → Int32) (POY : Nat → Int32) (POW : Nat → Int32) (k : Nat) : Nat → Nat → Int64 → Int64
  | 0, _, x2 => x2
  | n5 + 1, j5, x2 => zl_X4_numerator_5 PX PY POX POY POW k n5 (j5 + 1) (x2 + (((POW j5).toInt64) * (zf_X4_share PX PY k (POX j5) (POY j5))))
theorem zl_X4_numerator_5_s (PX : Nat → Int32) (PY : Nat → Int32) (POX : Nat → Int32) (POY : Nat → Int32) (POW : Nat → Int32) (k : Nat) (n5 : Nat) (j5 : Nat) (x2 : Int64) : zl_X4_numerator_5 PX PY POX POY POW k (n5 + 1) j5 x2 = zl_X4_numerator_5 PX PY POX POY POW k n5 (j5 + 1) (x2 + (((POW j5).toInt64) * (zf_X4_share PX PY k (POX j5) (POY j5)))) := rfl
def zf_X4_numerator (PX : Nat → Int32) (PY : Nat → Int32) (PN : Nat) (POX : Nat → Int32) (POY : Nat → Int32) (POW : Nat → Int32) (k : Nat) : Int64 := (zl_X4_numerator_5 PX PY POX POY POW k PN 0 (0 : Int64))
theorem zf_X4_numerator_e (PX : Nat → Int32) (PY : Nat → Int32) (PN : Nat) (POX : Nat → Int32) (POY : Nat → Int32) (POW : Nat → Int32) (k : Nat) : zf_X4_numerator PX PY PN POX POY POW k = (zl_X4_numerator_5 PX PY POX POY POW k PN 0 (0 : Int64)) := rfl
set_option maxHeartbeats 4000000 in
set_option maxRecDepth 100000 in
theorem zc_X4_numerator (l : Launch) (g : zG) (B : Nat) (ad : Nat → Nat) (PX : Nat → Int32) (PY : Nat → Int32) (PC : Nat → Int32) (PN : Nat) (POX : Nat → Int32) (POY : Nat → Int32) (POW : Nat → Int32) (k : Nat) (hc : k < 3) (hn : PN ≤ 8) : zMet l g B yX4_numerator cX4_numerator 5 (some .long) 5 150 0 0 [.ref (ad 1), .int (nI k)] [wPlat g ad PX PY PC PN POX POY POW] (zDet (some (.long (zf_X4_numerator PX PY PN POX POY POW k))) [wPlat g ad PX PY PC PN POX POY POW]) := by
  refine z_in (plainFor_of_name (by decide)) (Nat.le_of_ble_eq_true rfl) (fun p e R s m args below meth c A Q hRf hRl hRc hRs X Z hnm E ls hl => ?_)
  have hx := X.1
  have hb := X.2.1
  have hown := X.2.2.2.1
  have hts := X.2.2.2.2.1
  have hl : lv_has ls 5 [(0, .ref (ad 1)), (1, .int (nI k))] := hl
  refine lv_lconst (v := (0 : Int64)) hx hb dX4_numerator_0 (by decide) ?_
  refine lv_lstore_n (lv' := [(2, .long (0 : Int64)), (0, .ref (ad 1)), (1, .int (nI k))]) hx hb dX4_numerator_1 rfl hl (by decide) rfl (fun ls hl => ?_)
  refine lv_iconst (v := (0 : Int32)) hx hb dX4_numerator_2 (by decide) ?_
  refine lv_istore (lv' := [(4, .int (0 : Int32)), (2, .long (0 : Int64)), (0, .ref (ad 1)), (1, .int (nI k))]) hx hb dX4_numerator_3 hl (by decide) rfl (fun ls hl => ?_)
  have loop_5 : ∀ (n5 j5 : Nat) (x2 : Int64), j5 + n5 = PN → zl_X4_numerator_5 PX PY POX POY POW k n5 j5 x2 = (zl_X4_numerator_5 PX PY POX POY POW k PN 0 (0 : Int64)) → ∀ (H : Heap) (locs : List Loc), zM g B A s [wPlat g ad PX PY PC PN POX POY POW] H locs → ∀ ls : Array Slot, lv_has ls 5 [(4, .int (nI j5)), (2, .long x2), (0, .ref (ad 1)), (1, .int (nI k))] → W p l e R s m args below meth c H locs 0 0 Q (F0 m 5 ls []) := by
    intro n5
    induction n5 with
    | zero =>
      intro j5 x2 hin5 hR5 H locs Z ls hl
      have e_x2 : (zl_X4_numerator_5 PX PY POX POY POW k PN 0 (0 : Int64)) = x2 := hR5.symm
      subst e_x2
      refine lv_iload hx hb dX4_numerator_5 (lv_at hl 0 rfl) ?_
      refine lv_aload_n hx hb dX4_numerator_7 rfl (lv_at hl 2 rfl) ?_
      refine z_get X Z 0 rfl (rfl : zCl[3]? = some (RX4, TX4, 7)) zU_X4 3 (by decide) wF_X4_36 rfl rfl dX4_numerator_8 ?_
      refine z_icmp_ge (a := j5) (b := PN) (tgt := 51) X rfl rfl (by omega) (by omega) dX4_numerator_11 (by decide) (fun c_1 => ?_) (fun c_1 => ?_)
      · refine lv_lload_n hx hb dX4_numerator_51 rfl (lv_at hl 1 rfl) ?_
        exact z_rl (v := (zl_X4_numerator_5 PX PY POX POY POW k PN 0 (0 : Int64))) E Z (by rw [zf_X4_numerator_e]; exact ⟨rfl, rfl⟩) dX4_numerator_52 (Nat.zero_le _) (Nat.zero_le _)
      · (exfalso; omega)
    | succ n5 ih5 =>
      intro j5 x2 hin5 hR5 H locs Z ls hl
      refine lv_iload hx hb dX4_numerator_5 (lv_at hl 0 rfl) ?_
      refine lv_aload_n hx hb dX4_numerator_7 rfl (lv_at hl 2 rfl) ?_
      refine z_get X Z 0 rfl (rfl : zCl[3]? = some (RX4, TX4, 7)) zU_X4 3 (by decide) wF_X4_36 rfl rfl dX4_numerator_8 ?_
      refine z_icmp_ge (a := j5) (b := PN) (tgt := 51) X rfl rfl (by omega) (by omega) dX4_numerator_11 (by decide) (fun c_2 => ?_) (fun c_2 => ?_)
      · (exfalso; omega)
      · refine lv_lload_n hx hb dX4_numerator_14 rfl (lv_at hl 1 rfl) ?_
        refine lv_aload_n hx hb dX4_numerator_15 rfl (lv_at hl 2 rfl) ?_
        refine z_get X Z 0 rfl (rfl : zCl[3]? = some (RX4, TX4, 7)) zU_X4 6 (by decide) wF_X4_27 rfl rfl dX4_numerator_16 ?_
        refine lv_iload hx hb dX4_numerator_19 (lv_at hl 0 rfl) ?_
        refine z_iald (j := j5) X Z 6 rfl rfl (by omega) (by decide) dX4_numerator_21 ?_
        refine lv_i2l hx hb dX4_numerator_22 rfl ?_
        refine lv_aload_n hx hb dX4_numerator_23 rfl (lv_at hl 2 rfl) ?_
        refine lv_iload_n hx hb dX4_numerator_24 rfl (lv_at hl 3 rfl) ?_
        refine lv_aload_n hx hb dX4_numerator_25 rfl (lv_at hl 2 rfl) ?_
        refine z_get X Z 0 rfl (rfl : zCl[3]? = some (RX4, TX4, 7)) zU_X4 4 (by decide) wF_X4_21 rfl rfl dX4_numerator_26 ?_
        refine lv_iload hx hb dX4_numerator_29 (lv_at hl 0 rfl) ?_
        refine z_iald (j := j5) X Z 4 rfl rfl (by omega) (by decide) dX4_numerator_31 ?_
        refine lv_aload_n hx hb dX4_numerator_32 rfl (lv_at hl 2 rfl) ?_
        refine z_get X Z 0 rfl (rfl : zCl[3]? = some (RX4, TX4, 7)) zU_X4 5 (by decide) wF_X4_24 rfl rfl dX4_numerator_33 ?_
        refine lv_iload hx hb dX4_numerator_36 (lv_at hl 0 rfl) ?_
        refine z_iald (j := j5) X Z 5 rfl rfl (by omega) (by decide) dX4_numerator_38 ?_
        refine z_callV (mc := 0) (ms := 0) (As := [.int (nI k), .int (POX j5), .int (POY j5)]) (rest := [.long ((POW j5).toInt64), .long x2]) (st2 := [.long (zf_X4_share PX PY k (POX j5) (POY j5)), .long ((POW j5).toInt64), .long x2]) (cs2 := [wPlat g ad PX PY PC PN POX POY POW]) X Z [0] [] [0] 0 3 (zc_X4_share l g B ad PX PY PC PN POX POY POW k (POX j5) (POY j5) (by first | assumption | omega | decide)) wM_X4_44 wS_X4_share wV_X4_share wK_X4_share wZ_X4 3 1 1 rfl (by decide +kernel) rfl (by decide) rfl rfl rfl (by decide) rfl rfl (rfl : zCl[3]? = some (RX4, TX4, 7)) hl.1 rfl rfl (by rw [hRf, hRl]; exact ⟨Nat.le_of_ble_eq_true rfl, Nat.le_of_ble_eq_true rfl⟩) (Nat.le_of_ble_eq_true rfl) ⟨Nat.zero_le _, Nat.zero_le _⟩ dX4_numerator_39 (fun H locs Z => ?_)
        refine lv_lmul hx hb dX4_numerator_42 ?_
        refine lv_ladd hx hb dX4_numerator_43 ?_
        refine lv_lstore_n (lv' := [(2, .long (x2 + (((POW j5).toInt64) * (zf_X4_share PX PY k (POX j5) (POY j5))))), (4, .int (nI j5)), (0, .ref (ad 1)), (1, .int (nI k))]) hx hb dX4_numerator_44 rfl hl (by decide) rfl (fun ls hl => ?_)
        refine z_iinc (b := (j5 + 1)) (st := 1) (lv' := [(4, .int (nI (j5 + 1))), (2, .long (x2 + (((POW j5).toInt64) * (zf_X4_share PX PY k (POX j5) (POY j5))))), (0, .ref (ad 1)), (1, .int (nI k))]) X dX4_numerator_45 hl (k := 1) rfl rfl (by decide) (by omega) (by decide) rfl (fun ls hl => ?_)
        refine lv_goto (tgt := 5) hx hb dX4_numerator_48 (by decide) ?_
        exact ih5 (j5 + 1) (x2 + (((POW j5).toInt64) * (zf_X4_share PX PY k (POX j5) (POY j5)))) (by omega) (by have h9 := hR5; rw [zl_X4_numerator_5_s] at h9; exact h9) _ _ Z ls (lv_sub hl [0, 1, 2, 3] rfl)
  exact loop_5 PN 0 (0 : Int64) (by omega) rfl _ _ Z ls (lv_sub hl [0, 1, 2, 3] rfl)
def zf_X4_wouldLieOnOneLine (PX : Nat → Int32) (PY : Nat → Int32) (k : Nat) (x : Int32) (y : Int32) : Bool := (if (zf_X4_signedArea PX PY k x y) = (0 : Int64) then true else false)
theorem zf_X4_wouldLieOnOneLine_e (PX : Nat → Int32) (PY : Nat → Int32) (k : Nat) (x : Int32) (y : Int32) : zf_X4_wouldLieOnOneLine PX PY k x y = (if (zf_X4_signedArea PX PY k x y) = (0 : Int64) then true else false) := rfl
set_option maxHeartbeats 4000000 in
set_option maxRecDepth 100000 in
theorem zc_X4_wouldLieOnOneLine (l : Launch) (g : zG) (B : Nat) (ad : Nat → Nat) (PX : Nat → Int32) (PY : Nat → Int32) (PC : Nat → Int32) (PN : Nat) (POX : Nat → Int32) (POY : Nat → Int32) (POW : Nat → Int32) (k : Nat) (x : Int32) (y : Int32) (hc : k < 3) : zMet l g B yX4_wouldLieOnOneLine cX4_wouldLieOnOneLine 4 (some .boolean) 5 150 0 0 [.ref (ad 1), .int (nI k), .int x, .int y] [wPlat g ad PX PY PC PN POX POY POW] (zDet (some (.int (zB (zf_X4_wouldLieOnOneLine PX PY k x y)))) [wPlat g ad PX PY PC PN POX POY POW]) := by
  refine z_in (plainFor_of_name (by decide)) (Nat.le_of_ble_eq_true rfl) (fun p e R s m args below meth c A Q hRf hRl hRc hRs X Z hnm E ls hl => ?_)
  have hx := X.1
  have hb := X.2.1
  have hown := X.2.2.2.1
  have hts := X.2.2.2.2.1
  have hl : lv_has ls 4 [(0, .ref (ad 1)), (1, .int (nI k)), (2, .int x), (3, .int y)] := hl
  refine lv_aload_n hx hb dX4_wouldLieOnOneLine_0 rfl (lv_at hl 0 rfl) ?_
  refine lv_iload_n hx hb dX4_wouldLieOnOneLine_1 rfl (lv_at hl 1 rfl) ?_
  refine lv_iload_n hx hb dX4_wouldLieOnOneLine_2 rfl (lv_at hl 2 rfl) ?_
  refine lv_iload_n hx hb dX4_wouldLieOnOneLine_3 rfl (lv_at hl 3 rfl) ?_
  refine z_callV (mc := 0) (ms := 0) (As := [.int (nI k), .int x, .int y]) (rest := []) (st2 := [.long (zf_X4_signedArea PX PY k x y)]) (cs2 := [wPlat g ad PX PY PC PN POX POY POW]) X Z [0] [] [0] 0 3 (zc_X4_signedArea l g B ad PX PY PC PN POX POY POW k x y (by first | assumption | omega | decide)) wM_X4_40 wS_X4_signedArea wV_X4_signedArea wK_X4_signedArea wZ_X4 3 1 1 rfl (by decide +kernel) rfl (by decide) rfl rfl rfl (by decide) rfl rfl (rfl : zCl[3]? = some (RX4, TX4, 7)) hl.1 rfl rfl (by rw [hRf, hRl]; exact ⟨Nat.le_of_ble_eq_true rfl, Nat.le_of_ble_eq_true rfl⟩) (Nat.le_of_ble_eq_true rfl) ⟨Nat.zero_le _, Nat.zero_le _⟩ dX4_wouldLieOnOneLine_4 (fun H locs Z => ?_)
  refine lv_lconst (v := (0 : Int64)) hx hb dX4_wouldLieOnOneLine_7 (by decide) ?_
  refine z_lc_ne (tgt := 16) X dX4_wouldLieOnOneLine_8 dX4_wouldLieOnOneLine_9 (by decide) (fun c_1 => ?_) (fun c_1 => ?_)
  · refine lv_iconst (v := (0 : Int32)) hx hb dX4_wouldLieOnOneLine_16 (by decide) ?_
    exact z_ri (v := zB false) E Z (zB_narrow _) (by rw [zf_X4_wouldLieOnOneLine_e, if_neg c_1]; exact ⟨rfl, rfl⟩) dX4_wouldLieOnOneLine_17 (Nat.zero_le _) (Nat.zero_le _)
  · refine lv_iconst (v := (1 : Int32)) hx hb dX4_wouldLieOnOneLine_12 (by decide) ?_
    refine lv_goto (tgt := 17) hx hb dX4_wouldLieOnOneLine_13 (by decide) ?_
    exact z_ri (v := zB true) E Z (zB_narrow _) (by rw [zf_X4_wouldLieOnOneLine_e, if_pos c_1]; exact ⟨rfl, rfl⟩) dX4_wouldLieOnOneLine_17 (Nat.zero_le _) (Nat.zero_le _)
def zf_X4_changeCell (PX : Nat → Int32) (PY : Nat → Int32) (PC : Nat → Int32) (k : Nat) (x : Int32) (y : Int32) (q : Int32) : Int32 × (Nat → Int32) × (Nat → Int32) × (Nat → Int32) := ((PC k), (upd PX k x), (upd PY k y), (upd PC k q))
theorem zf_X4_changeCell_e (PX : Nat → Int32) (PY : Nat → Int32) (PC : Nat → Int32) (k : Nat) (x : Int32) (y : Int32) (q : Int32) : zf_X4_changeCell PX PY PC k x y q = ((PC k), (upd PX k x), (upd PY k y), (upd PC k q)) := rfl
set_option maxHeartbeats 4000000 in
set_option maxRecDepth 100000 in
theorem zc_X4_changeCell (l : Launch) (g : zG) (B : Nat) (ad : Nat → Nat) (PX : Nat → Int32) (PY : Nat → Int32) (PC : Nat → Int32) (PN : Nat) (POX : Nat → Int32) (POY : Nat → Int32) (POW : Nat → Int32) (k : Nat) (x : Int32) (y : Int32) (q : Int32) (hc : k < 3) : zMet l g B yX4_changeCell cX4_changeCell 6 (some .int) 1 30 0 0 [.ref (ad 1), .int (nI k), .int x, .int y, .int q] [wPlat g ad PX PY PC PN POX POY POW] (zDet (some (.int ((zf_X4_changeCell PX PY PC k x y q).1))) [wPlat g ad ((zf_X4_changeCell PX PY PC k x y q).2.1) ((zf_X4_changeCell PX PY PC k x y q).2.2.1) ((zf_X4_changeCell PX PY PC k x y q).2.2.2) PN POX POY POW]) := by
  refine z_in (plainFor_of_name (by decide)) (Nat.le_of_ble_eq_true rfl) (fun p e R s m args below meth c A Q hRf hRl hRc hRs X Z hnm E ls hl => ?_)
  have hx := X.1
  have hb := X.2.1
  have hown := X.2.2.2.1
  have hts := X.2.2.2.2.1
  have hl : lv_has ls 6 [(0, .ref (ad 1)), (1, .int (nI k)), (2, .int x), (3, .int y), (4, .int q)] := hl
  refine lv_aload_n hx hb dX4_changeCell_0 rfl (lv_at hl 0 rfl) ?_
  refine z_get X Z 0 rfl (rfl : zCl[3]? = some (RX4, TX4, 7)) zU_X4 2 (by decide) wF_X4_18 rfl rfl dX4_changeCell_1 ?_
  refine lv_iload_n hx hb dX4_changeCell_4 rfl (lv_at hl 1 rfl) ?_
  refine z_iald (j := k) X Z 3 rfl rfl (by omega) (by decide) dX4_changeCell_5 ?_
  refine lv_istore (lv' := [(5, .int (PC k)), (0, .ref (ad 1)), (1, .int (nI k)), (2, .int x), (3, .int y), (4, .int q)]) hx hb dX4_changeCell_6 hl (by decide) rfl (fun ls hl => ?_)
  refine lv_aload_n hx hb dX4_changeCell_8 rfl (lv_at hl 1 rfl) ?_
  refine z_get X Z 0 rfl (rfl : zCl[3]? = some (RX4, TX4, 7)) zU_X4 0 (by decide) wF_X4_9 rfl rfl dX4_changeCell_9 ?_
  refine lv_iload_n hx hb dX4_changeCell_12 rfl (lv_at hl 2 rfl) ?_
  refine lv_iload_n hx hb dX4_changeCell_13 rfl (lv_at hl 3 rfl) ?_
  refine z_iast (cs2 := [wPlat g ad (upd PX k x) PY PC PN POX POY POW]) (j := k) (x := x) X Z 1 rfl rfl (by omega) (by decide) rfl dX4_changeCell_14 (fun H locs Z => ?_)
  refine lv_aload_n hx hb dX4_changeCell_15 rfl (lv_at hl 1 rfl) ?_
  refine z_get X Z 0 rfl (rfl : zCl[3]? = some (RX4, TX4, 7)) zU_X4 1 (by decide) wF_X4_15 rfl rfl dX4_changeCell_16 ?_
  refine lv_iload_n hx hb dX4_changeCell_19 rfl (lv_at hl 2 rfl) ?_
  refine lv_iload_n hx hb dX4_changeCell_20 rfl (lv_at hl 4 rfl) ?_
  refine z_iast (cs2 := [wPlat g ad (upd PX k x) (upd PY k y) PC PN POX POY POW]) (j := k) (x := y) X Z 2 rfl rfl (by omega) (by decide) rfl dX4_changeCell_21 (fun H locs Z => ?_)
  refine lv_aload_n hx hb dX4_changeCell_22 rfl (lv_at hl 1 rfl) ?_
  refine z_get X Z 0 rfl (rfl : zCl[3]? = some (RX4, TX4, 7)) zU_X4 2 (by decide) wF_X4_18 rfl rfl dX4_changeCell_23 ?_
  refine lv_iload_n hx hb dX4_changeCell_26 rfl (lv_at hl 2 rfl) ?_
  refine lv_iload hx hb dX4_changeCell_27 (lv_at hl 5 rfl) ?_
  refine z_iast (cs2 := [wPlat g ad (upd PX k x) (upd PY k y) (upd PC k q) PN POX POY POW]) (j := k) (x := q) X Z 3 rfl rfl (by omega) (by decide) rfl dX4_changeCell_29 (fun H locs Z => ?_)
  refine lv_iload hx hb dX4_changeCell_30 (lv_at hl 0 rfl) ?_
  exact z_ri (v := (PC k)) E Z rfl (by rw [zf_X4_changeCell_e]; dsimp only; exact ⟨rfl, rfl⟩) dX4_changeCell_32 (Nat.zero_le _) (Nat.zero_le _)
def zf_X4_addObject (PN : Nat) (POX : Nat → Int32) (POY : Nat → Int32) (POW : Nat → Int32) (x : Int32) (y : Int32) (w : Int32) : Nat × Nat × (Nat → Int32) × (Nat → Int32) × (Nat → Int32) := (PN, (PN + 1), (upd POX PN x), (upd POY PN y), (upd POW PN w))
theorem zf_X4_addObject_e (PN : Nat) (POX : Nat → Int32) (POY : Nat → Int32) (POW : Nat → Int32) (x : Int32) (y : Int32) (w : Int32) : zf_X4_addObject PN POX POY POW x y w = (PN, (PN + 1), (upd POX PN x), (upd POY PN y), (upd POW PN w)) := rfl
set_option maxHeartbeats 4000000 in
set_option maxRecDepth 100000 in
theorem zc_X4_addObject (l : Launch) (g : zG) (B : Nat) (ad : Nat → Nat) (PX : Nat → Int32) (PY : Nat → Int32) (PC : Nat → Int32) (PN : Nat) (POX : Nat → Int32) (POY : Nat → Int32) (POW : Nat → Int32) (x : Int32) (y : Int32) (w : Int32) (hn : PN < 8) : zMet l g B yX4_addObject cX4_addObject 5 (some .int) 1 30 0 0 [.ref (ad 1), .int x, .int y, .int w] [wPlat g ad PX PY PC PN POX POY POW] (zDet (some (.int (nI ((zf_X4_addObject PN POX POY POW x y w).1)))) [wPlat g ad PX PY PC ((zf_X4_addObject PN POX POY POW x y w).2.1) ((zf_X4_addObject PN POX POY POW x y w).2.2.1) ((zf_X4_addObject PN POX POY POW x y w).2.2.2.1) ((zf_X4_addObject PN POX POY POW x y w).2.2.2.2)]) := by
  refine z_in (plainFor_of_name (by decide)) (Nat.le_of_ble_eq_true rfl) (fun p e R s m args below meth c A Q hRf hRl hRc hRs X Z hnm E ls hl => ?_)
  have hx := X.1
  have hb := X.2.1
  have hown := X.2.2.2.1
  have hts := X.2.2.2.2.1
  have hl : lv_has ls 5 [(0, .ref (ad 1)), (1, .int x), (2, .int y), (3, .int w)] := hl
  refine lv_aload_n hx hb dX4_addObject_0 rfl (lv_at hl 0 rfl) ?_
  refine z_get X Z 0 rfl (rfl : zCl[3]? = some (RX4, TX4, 7)) zU_X4 3 (by decide) wF_X4_36 rfl rfl dX4_addObject_1 ?_
  refine lv_istore (lv' := [(4, .int (nI PN)), (0, .ref (ad 1)), (1, .int x), (2, .int y), (3, .int w)]) hx hb dX4_addObject_4 hl (by decide) rfl (fun ls hl => ?_)
  refine lv_aload_n hx hb dX4_addObject_6 rfl (lv_at hl 1 rfl) ?_
  refine z_get X Z 0 rfl (rfl : zCl[3]? = some (RX4, TX4, 7)) zU_X4 4 (by decide) wF_X4_21 rfl rfl dX4_addObject_7 ?_
  refine lv_iload hx hb dX4_addObject_10 (lv_at hl 0 rfl) ?_
  refine lv_iload_n hx hb dX4_addObject_12 rfl (lv_at hl 2 rfl) ?_
  refine z_iast (cs2 := [wPlat g ad PX PY PC PN (upd POX PN x) POY POW]) (j := PN) (x := x) X Z 4 rfl rfl (by omega) (by decide) rfl dX4_addObject_13 (fun H locs Z => ?_)
  refine lv_aload_n hx hb dX4_addObject_14 rfl (lv_at hl 1 rfl) ?_
  refine z_get X Z 0 rfl (rfl : zCl[3]? = some (RX4, TX4, 7)) zU_X4 5 (by decide) wF_X4_24 rfl rfl dX4_addObject_15 ?_
  refine lv_iload hx hb dX4_addObject_18 (lv_at hl 0 rfl) ?_
  refine lv_iload_n hx hb dX4_addObject_20 rfl (lv_at hl 3 rfl) ?_
  refine z_iast (cs2 := [wPlat g ad PX PY PC PN (upd POX PN x) (upd POY PN y) POW]) (j := PN) (x := y) X Z 5 rfl rfl (by omega) (by decide) rfl dX4_addObject_21 (fun H locs Z => ?_)
  refine lv_aload_n hx hb dX4_addObject_22 rfl (lv_at hl 1 rfl) ?_
  refine z_get X Z 0 rfl (rfl : zCl[3]? = some (RX4, TX4, 7)) zU_X4 6 (by decide) wF_X4_27 rfl rfl dX4_addObject_23 ?_
  refine lv_iload hx hb dX4_addObject_26 (lv_at hl 0 rfl) ?_
  refine lv_iload_n hx hb dX4_addObject_28 rfl (lv_at hl 4 rfl) ?_
  refine z_iast (cs2 := [wPlat g ad PX PY PC PN (upd POX PN x) (upd POY PN y) (upd POW PN w)]) (j := PN) (x := w) X Z 6 rfl rfl (by omega) (by decide) rfl dX4_addObject_29 (fun H locs Z => ?_)
  refine lv_aload_n hx hb dX4_addObject_30 rfl (lv_at hl 1 rfl) ?_
  refine lv_dup hx hb dX4_addObject_31 rfl ?_
  refine z_get X Z 0 rfl (rfl : zCl[3]? = some (RX4, TX4, 7)) zU_X4 3 (by decide) wF_X4_36 rfl rfl dX4_addObject_32 ?_
  refine lv_iconst (v := (1 : Int32)) hx hb dX4_addObject_35 (by decide) ?_
  refine z_iadd (a := PN) (b := 1) X rfl rfl dX4_addObject_36 ?_
  refine z_put (cs2 := [wPlat g ad PX PY PC (PN + 1) (upd POX PN x) (upd POY PN y) (upd POW PN w)]) (v := .int (nI (PN + 1))) X Z 0 rfl (rfl : zCl[3]? = some (RX4, TX4, 7)) zU_X4 tyX4 tyX4_ok nmX4 3 (by decide) wF_X4_36 rfl rfl rfl rfl (Nat.le_of_ble_eq_true rfl) rfl dX4_addObject_37 (fun H locs Z => ?_)
  refine lv_iload hx hb dX4_addObject_40 (lv_at hl 0 rfl) ?_
  exact z_ri (v := nI PN) E Z rfl (by rw [zf_X4_addObject_e]; dsimp only; exact ⟨rfl, rfl⟩) dX4_addObject_42 (Nat.zero_le _) (Nat.zero_le _)
def zl_X4_removeObject_11 (k : Nat) : Nat → Nat → (Nat → Int32) → (Nat → Int32) → (Nat → Int32) → (Nat → Int32) × (Nat → Int32) × (Nat → Int32)
  | 0, _, o1, o2, o3 => (o1, o2, o3)
  | n11 + 1, j11, o1, o2, o3 => zl_X4_removeObject_11 k n11 (j11 + 1) (upd o1 (((k + 1) + j11) - 1) (o1 ((k + 1) + j11))) (upd o2 (((k + 1) + j11) - 1) (o2 ((k + 1) + j11))) (upd o3 (((k + 1) + j11) - 1) (o3 ((k + 1) + j11)))
theorem zl_X4_removeObject_11_s (k : Nat) (n11 : Nat) (j11 : Nat) (o1 : Nat → Int32) (o2 : Nat → Int32) (o3 : Nat → Int32) : zl_X4_removeObject_11 k (n11 + 1) j11 o1 o2 o3 = zl_X4_removeObject_11 k n11 (j11 + 1) (upd o1 (((k + 1) + j11) - 1) (o1 ((k + 1) + j11))) (upd o2 (((k + 1) + j11) - 1) (o2 ((k + 1) + j11))) (upd o3 (((k + 1) + j11) - 1) (o3 ((k + 1) + j11))) := rfl
def zf_X4_removeObject (PN : Nat) (POX : Nat → Int32) (POY : Nat → Int32) (POW : Nat → Int32) (k : Nat) : Int32 × Nat × (Nat → Int32) × (Nat → Int32) × (Nat → Int32) := ((POW k), (PN - 1), ((zl_X4_removeObject_11 k (PN - (k + 1)) 0 POX POY POW).1), ((zl_X4_removeObject_11 k (PN - (k + 1)) 0 POX POY POW).2.1), ((zl_X4_removeObject_11 k (PN - (k + 1)) 0 POX POY POW).2.2))
theorem zf_X4_removeObject_e (PN : Nat) (POX : Nat → Int32) (POY : Nat → Int32) (POW : Nat → Int32) (k : Nat) : zf_X4_removeObject PN POX POY POW k = ((POW k), (PN - 1), ((zl_X4_removeObject_11 k (PN - (k + 1)) 0 POX POY POW).1), ((zl_X4_removeObject_11 k (PN - (k + 1)) 0 POX POY POW).2.1), ((zl_X4_removeObject_11 k (PN - (k + 1)) 0 POX POY POW).2.2)) := rfl
set_option maxHeartbeats 4000000 in
set_option maxRecDepth 100000 in
theorem zc_X4_removeObject (l : Launch) (g : zG) (B : Nat) (ad : Nat → Nat) (PX : Nat → Int32) (PY : Nat → Int32) (PC : Nat → Int32) (PN : Nat) (POX : Nat → Int32) (POY : Nat → Int32) (POW : Nat → Int32) (k : Nat) (hn : PN ≤ 8) (hk : k < PN) : zMet l g B yX4_removeObject cX4_removeObject 4 (some .int) 1 30 0 0 [.ref (ad 1), .int (nI k)] [wPlat g ad PX PY PC PN POX POY POW] (zDet (some (.int ((zf_X4_removeObject PN POX POY POW k).1))) [wPlat g ad PX PY PC ((zf_X4_removeObject PN POX POY POW k).2.1) ((zf_X4_removeObject PN POX POY POW k).2.2.1) ((zf_X4_removeObject PN POX POY POW k).2.2.2.1) ((zf_X4_removeObject PN POX POY POW k).2.2.2.2)]) := by
  refine z_in (plainFor_of_name (by decide)) (Nat.le_of_ble_eq_true rfl) (fun p e R s m args below meth c A Q hRf hRl hRc hRs X Z hnm E ls hl => ?_)
  have hx := X.1
  have hb := X.2.1
  have hown := X.2.2.2.1
  have hts := X.2.2.2.2.1
  have hl : lv_has ls 4 [(0, .ref (ad 1)), (1, .int (nI k))] := hl
  refine lv_aload_n hx hb dX4_removeObject_0 rfl (lv_at hl 0 rfl) ?_
  refine z_get X Z 0 rfl (rfl : zCl[3]? = some (RX4, TX4, 7)) zU_X4 6 (by decide) wF_X4_27 rfl rfl dX4_removeObject_1 ?_
  refine lv_iload_n hx hb dX4_removeObject_4 rfl (lv_at hl 1 rfl) ?_
  refine z_iald (j := k) X Z 6 rfl rfl (by omega) (by decide) dX4_removeObject_5 ?_
  refine lv_istore_n (lv' := [(2, .int (POW k)), (0, .ref (ad 1)), (1, .int (nI k))]) hx hb dX4_removeObject_6 rfl hl (by decide) rfl (fun ls hl => ?_)
  refine lv_iload_n hx hb dX4_removeObject_7 rfl (lv_at hl 2 rfl) ?_
  refine lv_iconst (v := (1 : Int32)) hx hb dX4_removeObject_8 (by decide) ?_
  refine z_iadd (a := k) (b := 1) X rfl rfl dX4_removeObject_9 ?_
  refine lv_istore_n (lv' := [(3, .int (nI (k + 1))), (2, .int (POW k)), (0, .ref (ad 1)), (1, .int (nI k))]) hx hb dX4_removeObject_10 rfl hl (by decide) rfl (fun ls hl => ?_)
  have loop_11 : ∀ (n11 j11 : Nat) (o1 : Nat → Int32) (o2 : Nat → Int32) (o3 : Nat → Int32), j11 + n11 = (PN - (k + 1)) → zl_X4_removeObject_11 k n11 j11 o1 o2 o3 = (zl_X4_removeObject_11 k (PN - (k + 1)) 0 POX POY POW) → ∀ (H : Heap) (locs : List Loc), zM g B A s [wPlat g ad PX PY PC PN o1 o2 o3] H locs → ∀ ls : Array Slot, lv_has ls 4 [(3, .int (nI ((k + 1) + j11))), (2, .int (POW k)), (0, .ref (ad 1)), (1, .int (nI k))] → W p l e R s m args below meth c H locs 0 0 Q (F0 m 11 ls []) := by
    intro n11
    induction n11 with
    | zero =>
      intro j11 o1 o2 o3 hin11 hR11 H locs Z ls hl
      have e_o1 : (zl_X4_removeObject_11 k (PN - (k + 1)) 0 POX POY POW).1 = o1 := (by rw [← hR11]; rfl)
      have e_o2 : (zl_X4_removeObject_11 k (PN - (k + 1)) 0 POX POY POW).2.1 = o2 := (by rw [← hR11]; rfl)
      have e_o3 : (zl_X4_removeObject_11 k (PN - (k + 1)) 0 POX POY POW).2.2 = o3 := (by rw [← hR11]; rfl)
      subst e_o1
      subst e_o2
      subst e_o3
      refine lv_iload_n hx hb dX4_removeObject_11 rfl (lv_at hl 0 rfl) ?_
      refine lv_aload_n hx hb dX4_removeObject_12 rfl (lv_at hl 2 rfl) ?_
      refine z_get X Z 0 rfl (rfl : zCl[3]? = some (RX4, TX4, 7)) zU_X4 3 (by decide) wF_X4_36 rfl rfl dX4_removeObject_13 ?_
      refine z_icmp_ge (a := ((k + 1) + j11)) (b := PN) (tgt := 67) X rfl rfl (by omega) (by omega) dX4_removeObject_16 (by decide) (fun c_1 => ?_) (fun c_1 => ?_)
      · refine lv_aload_n hx hb dX4_removeObject_67 rfl (lv_at hl 2 rfl) ?_
        refine lv_dup hx hb dX4_removeObject_68 rfl ?_
        refine z_get X Z 0 rfl (rfl : zCl[3]? = some (RX4, TX4, 7)) zU_X4 3 (by decide) wF_X4_36 rfl rfl dX4_removeObject_69 ?_
        refine lv_iconst (v := (1 : Int32)) hx hb dX4_removeObject_72 (by decide) ?_
        refine z_isub (a := PN) (b := 1) X rfl rfl (by omega) dX4_removeObject_73 ?_
        refine z_put (cs2 := [wPlat g ad PX PY PC (PN - 1) ((zl_X4_removeObject_11 k (PN - (k + 1)) 0 POX POY POW).1) ((zl_X4_removeObject_11 k (PN - (k + 1)) 0 POX POY POW).2.1) ((zl_X4_removeObject_11 k (PN - (k + 1)) 0 POX POY POW).2.2)]) (v := .int (nI (PN - 1))) X Z 0 rfl (rfl : zCl[3]? = some (RX4, TX4, 7)) zU_X4 tyX4 tyX4_ok nmX4 3 (by decide) wF_X4_36 rfl rfl rfl rfl (Nat.le_of_ble_eq_true rfl) rfl dX4_removeObject_74 (fun H locs Z => ?_)
        refine lv_iload_n hx hb dX4_removeObject_77 rfl (lv_at hl 1 rfl) ?_
        exact z_ri (v := (POW k)) E Z rfl (by rw [zf_X4_removeObject_e]; dsimp only; exact ⟨rfl, rfl⟩) dX4_removeObject_78 (Nat.zero_le _) (Nat.zero_le _)
      · (exfalso; omega)
    | succ n11 ih11 =>
      intro j11 o1 o2 o3 hin11 hR11 H locs Z ls hl
      refine lv_iload_n hx hb dX4_removeObject_11 rfl (lv_at hl 0 rfl) ?_
      refine lv_aload_n hx hb dX4_removeObject_12 rfl (lv_at hl 2 rfl) ?_
      refine z_get X Z 0 rfl (rfl : zCl[3]? = some (RX4, TX4, 7)) zU_X4 3 (by decide) wF_X4_36 rfl rfl dX4_removeObject_13 ?_
      refine z_icmp_ge (a := ((k + 1) + j11)) (b := PN) (tgt := 67) X rfl rfl (by omega) (by omega) dX4_removeObject_16 (by decide) (fun c_2 => ?_) (fun c_2 => ?_)
      · (exfalso; omega)
      · refine lv_aload_n hx hb dX4_removeObject_19 rfl (lv_at hl 2 rfl) ?_
        refine z_get X Z 0 rfl (rfl : zCl[3]? = some (RX4, TX4, 7)) zU_X4 4 (by decide) wF_X4_21 rfl rfl dX4_removeObject_20 ?_
        refine lv_iload_n hx hb dX4_removeObject_23 rfl (lv_at hl 0 rfl) ?_
        refine lv_iconst (v := (1 : Int32)) hx hb dX4_removeObject_24 (by decide) ?_
        refine z_isub (a := ((k + 1) + j11)) (b := 1) X rfl rfl (by omega) dX4_removeObject_25 ?_
        refine lv_aload_n hx hb dX4_removeObject_26 rfl (lv_at hl 2 rfl) ?_
        refine z_get X Z 0 rfl (rfl : zCl[3]? = some (RX4, TX4, 7)) zU_X4 4 (by decide) wF_X4_21 rfl rfl dX4_removeObject_27 ?_
        refine lv_iload_n hx hb dX4_removeObject_30 rfl (lv_at hl 0 rfl) ?_
        refine z_iald (j := ((k + 1) + j11)) X Z 4 rfl rfl (by omega) (by decide) dX4_removeObject_31 ?_
        refine z_iast (cs2 := [wPlat g ad PX PY PC PN (upd o1 (((k + 1) + j11) - 1) (o1 ((k + 1) + j11))) o2 o3]) (j := (((k + 1) + j11) - 1)) (x := (o1 ((k + 1) + j11))) X Z 4 rfl rfl (by omega) (by decide) rfl dX4_removeObject_32 (fun H locs Z => ?_)
        refine lv_aload_n hx hb dX4_removeObject_33 rfl (lv_at hl 2 rfl) ?_
        refine z_get X Z 0 rfl (rfl : zCl[3]? = some (RX4, TX4, 7)) zU_X4 5 (by decide) wF_X4_24 rfl rfl dX4_removeObject_34 ?_
        refine lv_iload_n hx hb dX4_removeObject_37 rfl (lv_at hl 0 rfl) ?_
        refine lv_iconst (v := (1 : Int32)) hx hb dX4_removeObject_38 (by decide) ?_
        refine z_isub (a := ((k + 1) + j11)) (b := 1) X rfl rfl (by omega) dX4_removeObject_39 ?_
        refine lv_aload_n hx hb dX4_removeObject_40 rfl (lv_at hl 2 rfl) ?_
        refine z_get X Z 0 rfl (rfl : zCl[3]? = some (RX4, TX4, 7)) zU_X4 5 (by decide) wF_X4_24 rfl rfl dX4_removeObject_41 ?_
        refine lv_iload_n hx hb dX4_removeObject_44 rfl (lv_at hl 0 rfl) ?_
        refine z_iald (j := ((k + 1) + j11)) X Z 5 rfl rfl (by omega) (by decide) dX4_removeObject_45 ?_
        refine z_iast (cs2 := [wPlat g ad PX PY PC PN (upd o1 (((k + 1) + j11) - 1) (o1 ((k + 1) + j11))) (upd o2 (((k + 1) + j11) - 1) (o2 ((k + 1) + j11))) o3]) (j := (((k + 1) + j11) - 1)) (x := (o2 ((k + 1) + j11))) X Z 5 rfl rfl (by omega) (by decide) rfl dX4_removeObject_46 (fun H locs Z => ?_)
        refine lv_aload_n hx hb dX4_removeObject_47 rfl (lv_at hl 2 rfl) ?_
        refine z_get X Z 0 rfl (rfl : zCl[3]? = some (RX4, TX4, 7)) zU_X4 6 (by decide) wF_X4_27 rfl rfl dX4_removeObject_48 ?_
        refine lv_iload_n hx hb dX4_removeObject_51 rfl (lv_at hl 0 rfl) ?_
        refine lv_iconst (v := (1 : Int32)) hx hb dX4_removeObject_52 (by decide) ?_
        refine z_isub (a := ((k + 1) + j11)) (b := 1) X rfl rfl (by omega) dX4_removeObject_53 ?_
        refine lv_aload_n hx hb dX4_removeObject_54 rfl (lv_at hl 2 rfl) ?_
        refine z_get X Z 0 rfl (rfl : zCl[3]? = some (RX4, TX4, 7)) zU_X4 6 (by decide) wF_X4_27 rfl rfl dX4_removeObject_55 ?_
        refine lv_iload_n hx hb dX4_removeObject_58 rfl (lv_at hl 0 rfl) ?_
        refine z_iald (j := ((k + 1) + j11)) X Z 6 rfl rfl (by omega) (by decide) dX4_removeObject_59 ?_
        refine z_iast (cs2 := [wPlat g ad PX PY PC PN (upd o1 (((k + 1) + j11) - 1) (o1 ((k + 1) + j11))) (upd o2 (((k + 1) + j11) - 1) (o2 ((k + 1) + j11))) (upd o3 (((k + 1) + j11) - 1) (o3 ((k + 1) + j11)))]) (j := (((k + 1) + j11) - 1)) (x := (o3 ((k + 1) + j11))) X Z 6 rfl rfl (by omega) (by decide) rfl dX4_removeObject_60 (fun H locs Z => ?_)
        refine z_iinc (b := ((k + 1) + (j11 + 1))) (st := 1) (lv' := [(3, .int (nI ((k + 1) + (j11 + 1)))), (2, .int (POW k)), (0, .ref (ad 1)), (1, .int (nI k))]) X dX4_removeObject_61 hl (k := 0) rfl rfl (by decide) (by omega) (by decide) rfl (fun ls hl => ?_)
        refine lv_goto (tgt := 11) hx hb dX4_removeObject_64 (by decide) ?_
        exact ih11 (j11 + 1) (upd o1 (((k + 1) + j11) - 1) (o1 ((k + 1) + j11))) (upd o2 (((k + 1) + j11) - 1) (o2 ((k + 1) + j11))) (upd o3 (((k + 1) + j11) - 1) (o3 ((k + 1) + j11))) (by omega) (by have h9 := hR11; rw [zl_X4_removeObject_11_s] at h9; exact h9) _ _ Z ls (lv_sub hl [0, 1, 2, 3] rfl)
  exact loop_11 (PN - (k + 1)) 0 POX POY POW (by omega) rfl _ _ Z ls (lv_sub hl [0, 1, 2, 3] rfl)
def zf_X4_spare (PX : Nat → Int32) (PY : Nat → Int32) (PC : Nat → Int32) (PN : Nat) (POX : Nat → Int32) (POY : Nat → Int32) (POW : Nat → Int32) (k : Nat) : Int64 := ((((PC k).toInt64) * (zf_X4_denominator PX PY)) - (zf_X4_numerator PX PY PN POX POY POW k))
theorem zf_X4_spare_e (PX : Nat → Int32) (PY : Nat → Int32) (PC : Nat → Int32) (PN : Nat) (POX : Nat → Int32) (POY : Nat → Int32) (POW : Nat → Int32) (k : Nat) : zf_X4_spare PX PY PC PN POX POY POW k = ((((PC k).toInt64) * (zf_X4_denominator PX PY)) - (zf_X4_numerator PX PY PN POX POY POW k)) := rfl
set_option maxHeartbeats 4000000 in
set_option maxRecDepth 100000 in
theorem zc_X4_spare (l : Launch) (g : zG) (B : Nat) (ad : Nat → Nat) (PX : Nat → Int32) (PY : Nat → Int32) (PC : Nat → Int32) (PN : Nat) (POX : Nat → Int32) (POY : Nat → Int32) (POW : Nat → Int32) (k : Nat) (hc : k < 3) (hn : PN ≤ 8) : zMet l g B yX4_spare cX4_spare 2 (some .long) 6 180 0 0 [.ref (ad 1), .int (nI k)] [wPlat g ad PX PY PC PN POX POY POW] (zDet (some (.long (zf_X4_spare PX PY PC PN POX POY POW k))) [wPlat g ad PX PY PC PN POX POY POW]) := by
  refine z_in (plainFor_of_name (by decide)) (Nat.le_of_ble_eq_true rfl) (fun p e R s m args below meth c A Q hRf hRl hRc hRs X Z hnm E ls hl => ?_)
  have hx := X.1
  have hb := X.2.1
  have hown := X.2.2.2.1
  have hts := X.2.2.2.2.1
  have hl : lv_has ls 2 [(0, .ref (ad 1)), (1, .int (nI k))] := hl
  refine lv_aload_n hx hb dX4_spare_0 rfl (lv_at hl 0 rfl) ?_
  refine z_get X Z 0 rfl (rfl : zCl[3]? = some (RX4, TX4, 7)) zU_X4 2 (by decide) wF_X4_18 rfl rfl dX4_spare_1 ?_
  refine lv_iload_n hx hb dX4_spare_4 rfl (lv_at hl 1 rfl) ?_
  refine z_iald (j := k) X Z 3 rfl rfl (by omega) (by decide) dX4_spare_5 ?_
  refine lv_i2l hx hb dX4_spare_6 rfl ?_
  refine lv_aload_n hx hb dX4_spare_7 rfl (lv_at hl 0 rfl) ?_
  refine z_callV (mc := 0) (ms := 0) (As := []) (rest := [.long ((PC k).toInt64)]) (st2 := [.long (zf_X4_denominator PX PY), .long ((PC k).toInt64)]) (cs2 := [wPlat g ad PX PY PC PN POX POY POW]) X Z [0] [] [0] 0 3 (zc_X4_denominator l g B ad PX PY PC PN POX POY POW) wM_X4_51 wS_X4_denominator wV_X4_denominator wK_X4_denominator wZ_X4 0 1 1 rfl (by decide +kernel) rfl (by decide) rfl rfl rfl (by decide) rfl rfl (rfl : zCl[3]? = some (RX4, TX4, 7)) hl.1 rfl rfl (by rw [hRf, hRl]; exact ⟨Nat.le_of_ble_eq_true rfl, Nat.le_of_ble_eq_true rfl⟩) (Nat.le_of_ble_eq_true rfl) ⟨Nat.zero_le _, Nat.zero_le _⟩ dX4_spare_8 (fun H locs Z => ?_)
  refine lv_lmul hx hb dX4_spare_11 ?_
  refine lv_aload_n hx hb dX4_spare_12 rfl (lv_at hl 0 rfl) ?_
  refine lv_iload_n hx hb dX4_spare_13 rfl (lv_at hl 1 rfl) ?_
  refine z_callV (mc := 0) (ms := 0) (As := [.int (nI k)]) (rest := [.long (((PC k).toInt64) * (zf_X4_denominator PX PY))]) (st2 := [.long (zf_X4_numerator PX PY PN POX POY POW k), .long (((PC k).toInt64) * (zf_X4_denominator PX PY))]) (cs2 := [wPlat g ad PX PY PC PN POX POY POW]) X Z [0] [] [0] 0 3 (zc_X4_numerator l g B ad PX PY PC PN POX POY POW k (by first | assumption | omega | decide) (by first | assumption | omega | decide)) wM_X4_47 wS_X4_numerator wV_X4_numerator wK_X4_numerator wZ_X4 1 1 1 rfl (by decide +kernel) rfl (by decide) rfl rfl rfl (by decide) rfl rfl (rfl : zCl[3]? = some (RX4, TX4, 7)) hl.1 rfl rfl (by rw [hRf, hRl]; exact ⟨Nat.le_of_ble_eq_true rfl, Nat.le_of_ble_eq_true rfl⟩) (Nat.le_of_ble_eq_true rfl) ⟨Nat.zero_le _, Nat.zero_le _⟩ dX4_spare_14 (fun H locs Z => ?_)
  refine lv_lsub hx hb dX4_spare_17 ?_
  exact z_rl (v := ((((PC k).toInt64) * (zf_X4_denominator PX PY)) - (zf_X4_numerator PX PY PN POX POY POW k))) E Z (by rw [zf_X4_spare_e]; exact ⟨rfl, rfl⟩) dX4_spare_18 (Nat.zero_le _) (Nat.zero_le _)
def zf_X4_loadPart (PX : Nat → Int32) (PY : Nat → Int32) (PN : Nat) (POX : Nat → Int32) (POY : Nat → Int32) (POW : Nat → Int32) (k : Nat) (t : Int32) : Int64 := (zf_X2_partOf (zf_X4_numerator PX PY PN POX POY POW k) (zf_X4_denominator PX PY) t)
theorem zf_X4_loadPart_e (PX : Nat → Int32) (PY : Nat → Int32) (PN : Nat) (POX : Nat → Int32) (POY : Nat → Int32) (POW : Nat → Int32) (k : Nat) (t : Int32) : zf_X4_loadPart PX PY PN POX POY POW k t = (zf_X2_partOf (zf_X4_numerator PX PY PN POX POY POW k) (zf_X4_denominator PX PY) t) := rfl
set_option maxHeartbeats 4000000 in
set_option maxRecDepth 100000 in
theorem zc_X4_loadPart (l : Launch) (g : zG) (B : Nat) (ad : Nat → Nat) (PX : Nat → Int32) (PY : Nat → Int32) (PC : Nat → Int32) (PN : Nat) (POX : Nat → Int32) (POY : Nat → Int32) (POW : Nat → Int32) (k : Nat) (t : Int32) (hc : k < 3) (hn : PN ≤ 8) : zMet l g B yX4_loadPart cX4_loadPart 3 (some .long) 6 200 0 0 [.ref (ad 1), .int (nI k), .int t] [wPlat g ad PX PY PC PN POX POY POW] (zDet (some (.long (zf_X4_loadPart PX PY PN POX POY POW k t))) [wPlat g ad PX PY PC PN POX POY POW]) := by
  refine z_in (plainFor_of_name (by decide)) (Nat.le_of_ble_eq_true rfl) (fun p e R s m args below meth c A Q hRf hRl hRc hRs X Z hnm E ls hl => ?_)
  have hx := X.1
  have hb := X.2.1
  have hown := X.2.2.2.1
  have hts := X.2.2.2.2.1
  have hl : lv_has ls 3 [(0, .ref (ad 1)), (1, .int (nI k)), (2, .int t)] := hl
  refine lv_aload_n hx hb dX4_loadPart_0 rfl (lv_at hl 0 rfl) ?_
  refine lv_iload_n hx hb dX4_loadPart_1 rfl (lv_at hl 1 rfl) ?_
  refine z_callV (mc := 0) (ms := 0) (As := [.int (nI k)]) (rest := []) (st2 := [.long (zf_X4_numerator PX PY PN POX POY POW k)]) (cs2 := [wPlat g ad PX PY PC PN POX POY POW]) X Z [0] [] [0] 0 3 (zc_X4_numerator l g B ad PX PY PC PN POX POY POW k (by first | assumption | omega | decide) (by first | assumption | omega | decide)) wM_X4_47 wS_X4_numerator wV_X4_numerator wK_X4_numerator wZ_X4 1 1 1 rfl (by decide +kernel) rfl (by decide) rfl rfl rfl (by decide) rfl rfl (rfl : zCl[3]? = some (RX4, TX4, 7)) hl.1 rfl rfl (by rw [hRf, hRl]; exact ⟨Nat.le_of_ble_eq_true rfl, Nat.le_of_ble_eq_true rfl⟩) (Nat.le_of_ble_eq_true rfl) ⟨Nat.zero_le _, Nat.zero_le _⟩ dX4_loadPart_2 (fun H locs Z => ?_)
  refine lv_aload_n hx hb dX4_loadPart_5 rfl (lv_at hl 0 rfl) ?_
  refine z_callV (mc := 0) (ms := 0) (As := []) (rest := [.long (zf_X4_numerator PX PY PN POX POY POW k)]) (st2 := [.long (zf_X4_denominator PX PY), .long (zf_X4_numerator PX PY PN POX POY POW k)]) (cs2 := [wPlat g ad PX PY PC PN POX POY POW]) X Z [0] [] [0] 0 3 (zc_X4_denominator l g B ad PX PY PC PN POX POY POW) wM_X4_51 wS_X4_denominator wV_X4_denominator wK_X4_denominator wZ_X4 0 1 1 rfl (by decide +kernel) rfl (by decide) rfl rfl rfl (by decide) rfl rfl (rfl : zCl[3]? = some (RX4, TX4, 7)) hl.1 rfl rfl (by rw [hRf, hRl]; exact ⟨Nat.le_of_ble_eq_true rfl, Nat.le_of_ble_eq_true rfl⟩) (Nat.le_of_ble_eq_true rfl) ⟨Nat.zero_le _, Nat.zero_le _⟩ dX4_loadPart_6 (fun H locs Z => ?_)
  refine lv_iload_n hx hb dX4_loadPart_9 rfl (lv_at hl 2 rfl) ?_
  refine z_callS (mc := 0) (ms := 0) (As := [.long (zf_X4_numerator PX PY PN POX POY POW k), .long (zf_X4_denominator PX PY), .int t]) (rest := []) (st2 := [.long (zf_X2_partOf (zf_X4_numerator PX PY PN POX POY POW k) (zf_X4_denominator PX PY) t)]) (cs2 := [wPlat g ad PX PY PC PN POX POY POW]) X Z [] [0] [0] (zc_X2_partOf l g B (zf_X4_numerator PX PY PN POX POY POW k) (zf_X4_denominator PX PY) t) wM_X4_55 wS_X2_partOf wK_X2_partOf wZ_X2 3 1 1 rfl (by decide +kernel) rfl (by decide) rfl rfl rfl (by decide) rfl hl.1 rfl rfl (by rw [hRf, hRl]; exact ⟨Nat.le_of_ble_eq_true rfl, Nat.le_of_ble_eq_true rfl⟩) (Nat.le_of_ble_eq_true rfl) ⟨Nat.zero_le _, Nat.zero_le _⟩ dX4_loadPart_10 (fun H locs Z => ?_)
  exact z_rl (v := (zf_X2_partOf (zf_X4_numerator PX PY PN POX POY POW k) (zf_X4_denominator PX PY) t)) E Z (by rw [zf_X4_loadPart_e]; exact ⟨rfl, rfl⟩) dX4_loadPart_13 (Nat.zero_le _) (Nat.zero_le _)
def zl_X4_hasNoNegativeLoad_2 (PX : Nat → Int32) (PY : Nat → Int32) (PN : Nat) (POX : Nat → Int32) (POY : Nat → Int32) (POW : Nat → Int32) : Nat → Nat → Bool
  | 0, j2 => true
  | n2 + 1, j2 => (if (0 : Int64) ≤ (zf_X4_numerator PX PY PN POX POY POW j2) then zl_X4_hasNoNegativeLoad_2 PX PY PN POX POY POW n2 (j2 + 1) else false)
theorem zl_X4_hasNoNegativeLoad_2_s (PX : Nat → Int32) (PY : Nat → Int32) (PN : Nat) (POX : Nat → Int32) (POY : Nat → Int32) (POW : Nat → Int32) (n2 : Nat) (j2 : Nat) : zl_X4_hasNoNegativeLoad_2 PX PY PN POX POY POW (n2 + 1) j2 = (if (0 : Int64) ≤ (zf_X4_numerator PX PY PN POX POY POW j2) then zl_X4_hasNoNegativeLoad_2 PX PY PN POX POY POW n2 (j2 + 1) else false) := rfl
theorem zl_X4_hasNoNegativeLoad_2_z (PX : Nat → Int32) (PY : Nat → Int32) (PN : Nat) (POX : Nat → Int32) (POY : Nat → Int32) (POW : Nat → Int32) (j2 : Nat) : zl_X4_hasNoNegativeLoad_2 PX PY PN POX POY POW 0 j2 = true := rfl
def zf_X4_hasNoNegativeLoad (PX : Nat → Int32) (PY : Nat → Int32) (PN : Nat) (POX : Nat → Int32) (POY : Nat → Int32) (POW : Nat → Int32) : Bool := (zl_X4_hasNoNegativeLoad_2 PX PY PN POX POY POW 3 0)
theorem zf_X4_hasNoNegativeLoad_e (PX : Nat → Int32) (PY : Nat → Int32) (PN : Nat) (POX : Nat → Int32) (POY : Nat → Int32) (POW : Nat → Int32) : zf_X4_hasNoNegativeLoad PX PY PN POX POY POW = (zl_X4_hasNoNegativeLoad_2 PX PY PN POX POY POW 3 0) := rfl
set_option maxHeartbeats 4000000 in
set_option maxRecDepth 100000 in
theorem zc_X4_hasNoNegativeLoad (l : Launch) (g : zG) (B : Nat) (ad : Nat → Nat) (PX : Nat → Int32) (PY : Nat → Int32) (PC : Nat → Int32) (PN : Nat) (POX : Nat → Int32) (POY : Nat → Int32) (POW : Nat → Int32) (hn : PN ≤ 8) : zMet l g B yX4_hasNoNegativeLoad cX4_hasNoNegativeLoad 2 (some .boolean) 6 180 0 0 [.ref (ad 1)] [wPlat g ad PX PY PC PN POX POY POW] (zDet (some (.int (zB (zf_X4_hasNoNegativeLoad PX PY PN POX POY POW)))) [wPlat g ad PX PY PC PN POX POY POW]) := by
  refine z_in (plainFor_of_name (by decide)) (Nat.le_of_ble_eq_true rfl) (fun p e R s m args below meth c A Q hRf hRl hRc hRs X Z hnm E ls hl => ?_)
  have hx := X.1
  have hb := X.2.1
  have hown := X.2.2.2.1
  have hts := X.2.2.2.2.1
  have hl : lv_has ls 2 [(0, .ref (ad 1))] := hl
  refine lv_iconst (v := (0 : Int32)) hx hb dX4_hasNoNegativeLoad_0 (by decide) ?_
  refine lv_istore_n (lv' := [(1, .int (0 : Int32)), (0, .ref (ad 1))]) hx hb dX4_hasNoNegativeLoad_1 rfl hl (by decide) rfl (fun ls hl => ?_)
  have loop_2 : ∀ (n2 j2 : Nat), j2 + n2 = 3 → zl_X4_hasNoNegativeLoad_2 PX PY PN POX POY POW n2 j2 = (zf_X4_hasNoNegativeLoad PX PY PN POX POY POW) → ∀ (H : Heap) (locs : List Loc), zM g B A s [wPlat g ad PX PY PC PN POX POY POW] H locs → ∀ ls : Array Slot, lv_has ls 2 [(1, .int (nI j2)), (0, .ref (ad 1))] → W p l e R s m args below meth c H locs 0 0 Q (F0 m 2 ls []) := by
    intro n2
    induction n2 with
    | zero =>
      intro j2  hin2 hR2 H locs Z ls hl
      refine lv_iload_n hx hb dX4_hasNoNegativeLoad_2 rfl (lv_at hl 0 rfl) ?_
      refine lv_iconst (v := (3 : Int32)) hx hb dX4_hasNoNegativeLoad_3 (by decide) ?_
      refine z_icmp_ge (a := j2) (b := 3) (tgt := 25) X rfl rfl (by omega) (by omega) dX4_hasNoNegativeLoad_4 (by decide) (fun c_1 => ?_) (fun c_1 => ?_)
      · refine lv_iconst (v := (1 : Int32)) hx hb dX4_hasNoNegativeLoad_25 (by decide) ?_
        exact z_ri (v := zB true) E Z (zB_narrow _) (by rw [← hR2, zl_X4_hasNoNegativeLoad_2_z]; exact ⟨rfl, rfl⟩) dX4_hasNoNegativeLoad_26 (Nat.zero_le _) (Nat.zero_le _)
      · (exfalso; omega)
    | succ n2 ih2 =>
      intro j2  hin2 hR2 H locs Z ls hl
      refine lv_iload_n hx hb dX4_hasNoNegativeLoad_2 rfl (lv_at hl 0 rfl) ?_
      refine lv_iconst (v := (3 : Int32)) hx hb dX4_hasNoNegativeLoad_3 (by decide) ?_
      refine z_icmp_ge (a := j2) (b := 3) (tgt := 25) X rfl rfl (by omega) (by omega) dX4_hasNoNegativeLoad_4 (by decide) (fun c_2 => ?_) (fun c_2 => ?_)
      · (exfalso; omega)
      · refine lv_aload_n hx hb dX4_hasNoNegativeLoad_7 rfl (lv_at hl 1 rfl) ?_
        refine lv_iload_n hx hb dX4_hasNoNegativeLoad_8 rfl (lv_at hl 0 rfl) ?_
        refine z_callV (mc := 0) (ms := 0) (As := [.int (nI j2)]) (rest := []) (st2 := [.long (zf_X4_numerator PX PY PN POX POY POW j2)]) (cs2 := [wPlat g ad PX PY PC PN POX POY POW]) X Z [0] [] [0] 0 3 (zc_X4_numerator l g B ad PX PY PC PN POX POY POW j2 (by first | assumption | omega | decide) (by first | assumption | omega | decide)) wM_X4_47 wS_X4_numerator wV_X4_numerator wK_X4_numerator wZ_X4 1 1 1 rfl (by decide +kernel) rfl (by decide) rfl rfl rfl (by decide) rfl rfl (rfl : zCl[3]? = some (RX4, TX4, 7)) hl.1 rfl rfl (by rw [hRf, hRl]; exact ⟨Nat.le_of_ble_eq_true rfl, Nat.le_of_ble_eq_true rfl⟩) (Nat.le_of_ble_eq_true rfl) ⟨Nat.zero_le _, Nat.zero_le _⟩ dX4_hasNoNegativeLoad_9 (fun H locs Z => ?_)
        refine lv_lconst (v := (0 : Int64)) hx hb dX4_hasNoNegativeLoad_12 (by decide) ?_
        refine z_lc_ge (tgt := 19) X dX4_hasNoNegativeLoad_13 dX4_hasNoNegativeLoad_14 (by decide) (fun c_3 => ?_) (fun c_3 => ?_)
        · refine z_iinc (b := (j2 + 1)) (st := 1) (lv' := [(1, .int (nI (j2 + 1))), (0, .ref (ad 1))]) X dX4_hasNoNegativeLoad_19 hl (k := 0) rfl rfl (by decide) (by omega) (by decide) rfl (fun ls hl => ?_)
          refine lv_goto (tgt := 2) hx hb dX4_hasNoNegativeLoad_22 (by decide) ?_
          exact ih2 (j2 + 1)  (by omega) (by have h9 := hR2; rw [zl_X4_hasNoNegativeLoad_2_s, if_pos c_3] at h9; exact h9) _ _ Z ls (lv_sub hl [0, 1] rfl)
        · refine lv_iconst (v := (0 : Int32)) hx hb dX4_hasNoNegativeLoad_17 (by decide) ?_
          exact z_ri (v := zB false) E Z (zB_narrow _) (by rw [← hR2, zl_X4_hasNoNegativeLoad_2_s, if_neg c_3]; exact ⟨rfl, rfl⟩) dX4_hasNoNegativeLoad_18 (Nat.zero_le _) (Nat.zero_le _)
  exact loop_2 3 0 (by omega) (by rw [zf_X4_hasNoNegativeLoad_e]) _ _ Z ls (lv_sub hl [0, 1] rfl)
def zl_X4_overloadedCells_4 (PX : Nat → Int32) (PY : Nat → Int32) (PC : Nat → Int32) (PN : Nat) (POX : Nat → Int32) (POY : Nat → Int32) (POW : Nat → Int32) : Nat → Nat → Int32 → Int32
  | 0, _, x1 => x1
  | n4 + 1, j4, x1 => (if (0 : Int64) ≤ (zf_X4_spare PX PY PC PN POX POY POW j4) then zl_X4_overloadedCells_4 PX PY PC PN POX POY POW n4 (j4 + 1) x1 else zl_X4_overloadedCells_4 PX PY PC PN POX POY POW n4 (j4 + 1) (x1 ||| ((1 : Int32) <<< ((nI j4) &&& 31))))
theorem zl_X4_overloadedCells_4_s (PX : Nat → Int32) (PY : Nat → Int32) (PC : Nat → Int32) (PN : Nat) (POX : Nat → Int32) (POY : Nat → Int32) (POW : Nat → Int32) (n4 : Nat) (j4 : Nat) (x1 : Int32) : zl_X4_overloadedCells_4 PX PY PC PN POX POY POW (n4 + 1) j4 x1 = (if (0 : Int64) ≤ (zf_X4_spare PX PY PC PN POX POY POW j4) then zl_X4_overloadedCells_4 PX PY PC PN POX POY POW n4 (j4 + 1) x1 else zl_X4_overloadedCells_4 PX PY PC PN POX POY POW n4 (j4 + 1) (x1 ||| ((1 : Int32) <<< ((nI j4) &&& 31)))) := rfl
def zf_X4_overloadedCells (PX : Nat → Int32) (PY : Nat → Int32) (PC : Nat → Int32) (PN : Nat) (POX : Nat → Int32) (POY : Nat → Int32) (POW : Nat → Int32) : Int32 := (zl_X4_overloadedCells_4 PX PY PC PN POX POY POW 3 0 (0 : Int32))
theorem zf_X4_overloadedCells_e (PX : Nat → Int32) (PY : Nat → Int32) (PC : Nat → Int32) (PN : Nat) (POX : Nat → Int32) (POY : Nat → Int32) (POW : Nat → Int32) : zf_X4_overloadedCells PX PY PC PN POX POY POW = (zl_X4_overloadedCells_4 PX PY PC PN POX POY POW 3 0 (0 : Int32)) := rfl
set_option maxHeartbeats 4000000 in
set_option maxRecDepth 100000 in
theorem zc_X4_overloadedCells (l : Launch) (g : zG) (B : Nat) (ad : Nat → Nat) (PX : Nat → Int32) (PY : Nat → Int32) (PC : Nat → Int32) (PN : Nat) (POX : Nat → Int32) (POY : Nat → Int32) (POW : Nat → Int32) (hn : PN ≤ 8) : zMet l g B yX4_overloadedCells cX4_overloadedCells 3 (some .int) 7 220 0 0 [.ref (ad 1)] [wPlat g ad PX PY PC PN POX POY POW] (zDet (some (.int (zf_X4_overloadedCells PX PY PC PN POX POY POW))) [wPlat g ad PX PY PC PN POX POY POW]) := by
  refine z_in (plainFor_of_name (by decide)) (Nat.le_of_ble_eq_true rfl) (fun p e R s m args below meth c A Q hRf hRl hRc hRs X Z hnm E ls hl => ?_)
  have hx := X.1
  have hb := X.2.1
  have hown := X.2.2.2.1
  have hts := X.2.2.2.2.1
  have hl : lv_has ls 3 [(0, .ref (ad 1))] := hl
  refine lv_iconst (v := (0 : Int32)) hx hb dX4_overloadedCells_0 (by decide) ?_
  refine lv_istore_n (lv' := [(1, .int (0 : Int32)), (0, .ref (ad 1))]) hx hb dX4_overloadedCells_1 rfl hl (by decide) rfl (fun ls hl => ?_)
  refine lv_iconst (v := (0 : Int32)) hx hb dX4_overloadedCells_2 (by decide) ?_
  refine lv_istore_n (lv' := [(2, .int (0 : Int32)), (1, .int (0 : Int32)), (0, .ref (ad 1))]) hx hb dX4_overloadedCells_3 rfl hl (by decide) rfl (fun ls hl => ?_)
  have loop_4 : ∀ (n4 j4 : Nat) (x1 : Int32), j4 + n4 = 3 → zl_X4_overloadedCells_4 PX PY PC PN POX POY POW n4 j4 x1 = (zl_X4_overloadedCells_4 PX PY PC PN POX POY POW 3 0 (0 : Int32)) → ∀ (H : Heap) (locs : List Loc), zM g B A s [wPlat g ad PX PY PC PN POX POY POW] H locs → ∀ ls : Array Slot, lv_has ls 3 [(2, .int (nI j4)), (1, .int x1), (0, .ref (ad 1))] → W p l e R s m args below meth c H locs 0 0 Q (F0 m 4 ls []) := by
    intro n4
    induction n4 with
    | zero =>
      intro j4 x1 hin4 hR4 H locs Z ls hl
      have e_x1 : (zl_X4_overloadedCells_4 PX PY PC PN POX POY POW 3 0 (0 : Int32)) = x1 := hR4.symm
      subst e_x1
      refine lv_iload_n hx hb dX4_overloadedCells_4 rfl (lv_at hl 0 rfl) ?_
      refine lv_iconst (v := (3 : Int32)) hx hb dX4_overloadedCells_5 (by decide) ?_
      refine z_icmp_ge (a := j4) (b := 3) (tgt := 31) X rfl rfl (by omega) (by omega) dX4_overloadedCells_6 (by decide) (fun c_1 => ?_) (fun c_1 => ?_)
      · refine lv_iload_n hx hb dX4_overloadedCells_31 rfl (lv_at hl 1 rfl) ?_
        exact z_ri (v := (zl_X4_overloadedCells_4 PX PY PC PN POX POY POW 3 0 (0 : Int32))) E Z rfl (by rw [zf_X4_overloadedCells_e]; exact ⟨rfl, rfl⟩) dX4_overloadedCells_32 (Nat.zero_le _) (Nat.zero_le _)
      · (exfalso; omega)
    | succ n4 ih4 =>
      intro j4 x1 hin4 hR4 H locs Z ls hl
      refine lv_iload_n hx hb dX4_overloadedCells_4 rfl (lv_at hl 0 rfl) ?_
      refine lv_iconst (v := (3 : Int32)) hx hb dX4_overloadedCells_5 (by decide) ?_
      refine z_icmp_ge (a := j4) (b := 3) (tgt := 31) X rfl rfl (by omega) (by omega) dX4_overloadedCells_6 (by decide) (fun c_2 => ?_) (fun c_2 => ?_)
      · (exfalso; omega)
      · refine lv_aload_n hx hb dX4_overloadedCells_9 rfl (lv_at hl 2 rfl) ?_
        refine lv_iload_n hx hb dX4_overloadedCells_10 rfl (lv_at hl 0 rfl) ?_
        refine z_callV (mc := 0) (ms := 0) (As := [.int (nI j4)]) (rest := []) (st2 := [.long (zf_X4_spare PX PY PC PN POX POY POW j4)]) (cs2 := [wPlat g ad PX PY PC PN POX POY POW]) X Z [0] [] [0] 0 3 (zc_X4_spare l g B ad PX PY PC PN POX POY POW j4 (by first | assumption | omega | decide) (by first | assumption | omega | decide)) wM_X4_67 wS_X4_spare wV_X4_spare wK_X4_spare wZ_X4 1 1 1 rfl (by decide +kernel) rfl (by decide) rfl rfl rfl (by decide) rfl rfl (rfl : zCl[3]? = some (RX4, TX4, 7)) hl.1 rfl rfl (by rw [hRf, hRl]; exact ⟨Nat.le_of_ble_eq_true rfl, Nat.le_of_ble_eq_true rfl⟩) (Nat.le_of_ble_eq_true rfl) ⟨Nat.zero_le _, Nat.zero_le _⟩ dX4_overloadedCells_11 (fun H locs Z => ?_)
        refine lv_lconst (v := (0 : Int64)) hx hb dX4_overloadedCells_14 (by decide) ?_
        refine z_lc_ge (tgt := 25) X dX4_overloadedCells_15 dX4_overloadedCells_16 (by decide) (fun c_3 => ?_) (fun c_3 => ?_)
        · refine z_iinc (b := (j4 + 1)) (st := 1) (lv' := [(2, .int (nI (j4 + 1))), (1, .int x1), (0, .ref (ad 1))]) X dX4_overloadedCells_25 hl (k := 0) rfl rfl (by decide) (by omega) (by decide) rfl (fun ls hl => ?_)
          refine lv_goto (tgt := 4) hx hb dX4_overloadedCells_28 (by decide) ?_
          exact ih4 (j4 + 1) x1 (by omega) (by have h9 := hR4; rw [zl_X4_overloadedCells_4_s, if_pos c_3] at h9; exact h9) _ _ Z ls (lv_sub hl [0, 1, 2] rfl)
        · refine lv_iload_n hx hb dX4_overloadedCells_19 rfl (lv_at hl 1 rfl) ?_
          refine lv_iconst (v := (1 : Int32)) hx hb dX4_overloadedCells_20 (by decide) ?_
          refine lv_iload_n hx hb dX4_overloadedCells_21 rfl (lv_at hl 0 rfl) ?_
          refine lv_ishl hx hb dX4_overloadedCells_22 ?_
          refine lv_ior hx hb dX4_overloadedCells_23 ?_
          refine lv_istore_n (lv' := [(1, .int (x1 ||| ((1 : Int32) <<< ((nI j4) &&& 31)))), (2, .int (nI j4)), (0, .ref (ad 1))]) hx hb dX4_overloadedCells_24 rfl hl (by decide) rfl (fun ls hl => ?_)
          refine z_iinc (b := (j4 + 1)) (st := 1) (lv' := [(2, .int (nI (j4 + 1))), (1, .int (x1 ||| ((1 : Int32) <<< ((nI j4) &&& 31)))), (0, .ref (ad 1))]) X dX4_overloadedCells_25 hl (k := 1) rfl rfl (by decide) (by omega) (by decide) rfl (fun ls hl => ?_)
          refine lv_goto (tgt := 4) hx hb dX4_overloadedCells_28 (by decide) ?_
          exact ih4 (j4 + 1) (x1 ||| ((1 : Int32) <<< ((nI j4) &&& 31))) (by omega) (by have h9 := hR4; rw [zl_X4_overloadedCells_4_s, if_neg c_3] at h9; exact h9) _ _ Z ls (lv_sub hl [0, 1, 2] rfl)
  exact loop_4 3 0 (0 : Int32) (by omega) rfl _ _ Z ls (lv_sub hl [0, 1, 2] rfl)
def zf_X4_shownLoad (PX : Nat → Int32) (PY : Nat → Int32) (PN : Nat) (POX : Nat → Int32) (POY : Nat → Int32) (POW : Nat → Int32) (k : Nat) (r : Int32) : Int32 := (if ((zf_X4_denominator PX PY) * r.toInt64) = (0 : Int64) then (0 : Int32) else (((zf_J9_floorDiv_f86c9 (zf_X4_numerator PX PY PN POX POY POW k) ((zf_X4_denominator PX PY) * r.toInt64)) * r.toInt64).toInt32))
theorem zf_X4_shownLoad_e (PX : Nat → Int32) (PY : Nat → Int32) (PN : Nat) (POX : Nat → Int32) (POY : Nat → Int32) (POW : Nat → Int32) (k : Nat) (r : Int32) : zf_X4_shownLoad PX PY PN POX POY POW k r = (if ((zf_X4_denominator PX PY) * r.toInt64) = (0 : Int64) then (0 : Int32) else (((zf_J9_floorDiv_f86c9 (zf_X4_numerator PX PY PN POX POY POW k) ((zf_X4_denominator PX PY) * r.toInt64)) * r.toInt64).toInt32)) := rfl
set_option maxHeartbeats 4000000 in
set_option maxRecDepth 100000 in
theorem zc_X4_shownLoad (l : Launch) (g : zG) (B : Nat) (ad : Nat → Nat) (PX : Nat → Int32) (PY : Nat → Int32) (PC : Nat → Int32) (PN : Nat) (POX : Nat → Int32) (POY : Nat → Int32) (POW : Nat → Int32) (k : Nat) (r : Int32) (hc : k < 3) (hn : PN ≤ 8) : zMet l g B yX4_shownLoad cX4_shownLoad 5 (some .int) 6 200 0 0 [.ref (ad 1), .int (nI k), .int r] [wPlat g ad PX PY PC PN POX POY POW] (zDet (some (.int (zf_X4_shownLoad PX PY PN POX POY POW k r))) [wPlat g ad PX PY PC PN POX POY POW]) := by
  refine z_in (plainFor_of_name (by decide)) (Nat.le_of_ble_eq_true rfl) (fun p e R s m args below meth c A Q hRf hRl hRc hRs X Z hnm E ls hl => ?_)
  have hx := X.1
  have hb := X.2.1
  have hown := X.2.2.2.1
  have hts := X.2.2.2.2.1
  have hl : lv_has ls 5 [(0, .ref (ad 1)), (1, .int (nI k)), (2, .int r)] := hl
  refine lv_aload_n hx hb dX4_shownLoad_0 rfl (lv_at hl 0 rfl) ?_
  refine z_callV (mc := 0) (ms := 0) (As := []) (rest := []) (st2 := [.long (zf_X4_denominator PX PY)]) (cs2 := [wPlat g ad PX PY PC PN POX POY POW]) X Z [0] [] [0] 0 3 (zc_X4_denominator l g B ad PX PY PC PN POX POY POW) wM_X4_51 wS_X4_denominator wV_X4_denominator wK_X4_denominator wZ_X4 0 1 1 rfl (by decide +kernel) rfl (by decide) rfl rfl rfl (by decide) rfl rfl (rfl : zCl[3]? = some (RX4, TX4, 7)) hl.1 rfl rfl (by rw [hRf, hRl]; exact ⟨Nat.le_of_ble_eq_true rfl, Nat.le_of_ble_eq_true rfl⟩) (Nat.le_of_ble_eq_true rfl) ⟨Nat.zero_le _, Nat.zero_le _⟩ dX4_shownLoad_1 (fun H locs Z => ?_)
  refine lv_iload_n hx hb dX4_shownLoad_4 rfl (lv_at hl 2 rfl) ?_
  refine lv_i2l hx hb dX4_shownLoad_5 rfl ?_
  refine lv_lmul hx hb dX4_shownLoad_6 ?_
  refine lv_lstore_n (lv' := [(3, .long ((zf_X4_denominator PX PY) * r.toInt64)), (0, .ref (ad 1)), (1, .int (nI k)), (2, .int r)]) hx hb dX4_shownLoad_7 rfl hl (by decide) rfl (fun ls hl => ?_)
  refine lv_lload_n hx hb dX4_shownLoad_8 rfl (lv_at hl 0 rfl) ?_
  refine lv_lconst (v := (0 : Int64)) hx hb dX4_shownLoad_9 (by decide) ?_
  refine z_lc_ne (tgt := 18) X dX4_shownLoad_10 dX4_shownLoad_11 (by decide) (fun c_1 => ?_) (fun c_1 => ?_)
  · refine lv_aload_n hx hb dX4_shownLoad_18 rfl (lv_at hl 1 rfl) ?_
    refine lv_iload_n hx hb dX4_shownLoad_19 rfl (lv_at hl 2 rfl) ?_
    refine z_callV (mc := 0) (ms := 0) (As := [.int (nI k)]) (rest := []) (st2 := [.long (zf_X4_numerator PX PY PN POX POY POW k)]) (cs2 := [wPlat g ad PX PY PC PN POX POY POW]) X Z [0] [] [0] 0 3 (zc_X4_numerator l g B ad PX PY PC PN POX POY POW k (by first | assumption | omega | decide) (by first | assumption | omega | decide)) wM_X4_47 wS_X4_numerator wV_X4_numerator wK_X4_numerator wZ_X4 1 1 1 rfl (by decide +kernel) rfl (by decide) rfl rfl rfl (by decide) rfl rfl (rfl : zCl[3]? = some (RX4, TX4, 7)) hl.1 rfl rfl (by rw [hRf, hRl]; exact ⟨Nat.le_of_ble_eq_true rfl, Nat.le_of_ble_eq_true rfl⟩) (Nat.le_of_ble_eq_true rfl) ⟨Nat.zero_le _, Nat.zero_le _⟩ dX4_shownLoad_20 (fun H locs Z => ?_)
    refine lv_lload_n hx hb dX4_shownLoad_23 rfl (lv_at hl 0 rfl) ?_
    refine z_callS (mc := 0) (ms := 0) (As := [.long (zf_X4_numerator PX PY PN POX POY POW k), .long ((zf_X4_denominator PX PY) * r.toInt64)]) (rest := []) (st2 := [.long (zf_J9_floorDiv_f86c9 (zf_X4_numerator PX PY PN POX POY POW k) ((zf_X4_denominator PX PY) * r.toInt64))]) (cs2 := [wPlat g ad PX PY PC PN POX POY POW]) X Z [] [0] [0] (zc_J9_floorDiv_f86c9 l g B (zf_X4_numerator PX PY PN POX POY POW k) ((zf_X4_denominator PX PY) * r.toInt64) (by assumption)) wM_X4_61 wS_J9_floorDiv_f86c9 wK_J9_floorDiv_f86c9 wZ_J9 2 1 1 rfl (by decide +kernel) rfl (by decide) rfl rfl rfl (by decide) rfl hl.1 rfl rfl (by rw [hRf, hRl]; exact ⟨Nat.le_of_ble_eq_true rfl, Nat.le_of_ble_eq_true rfl⟩) (Nat.le_of_ble_eq_true rfl) ⟨Nat.zero_le _, Nat.zero_le _⟩ dX4_shownLoad_24 (fun H locs Z => ?_)
    refine lv_iload_n hx hb dX4_shownLoad_27 rfl (lv_at hl 3 rfl) ?_
    refine lv_i2l hx hb dX4_shownLoad_28 rfl ?_
    refine lv_lmul hx hb dX4_shownLoad_29 ?_
    refine lv_l2i hx hb dX4_shownLoad_30 rfl ?_
    exact z_ri (v := (((zf_J9_floorDiv_f86c9 (zf_X4_numerator PX PY PN POX POY POW k) ((zf_X4_denominator PX PY) * r.toInt64)) * r.toInt64).toInt32)) E Z rfl (by rw [zf_X4_shownLoad_e, if_neg c_1]; exact ⟨rfl, rfl⟩) dX4_shownLoad_31 (Nat.zero_le _) (Nat.zero_le _)
  · refine lv_iconst (v := (0 : Int32)) hx hb dX4_shownLoad_14 (by decide) ?_
    refine lv_goto (tgt := 31) hx hb dX4_shownLoad_15 (by decide) ?_
    exact z_ri (v := (0 : Int32)) E Z rfl (by rw [zf_X4_shownLoad_e, if_pos c_1]; exact ⟨rfl, rfl⟩) dX4_shownLoad_31 (Nat.zero_le _) (Nat.zero_le _)
def zl_X4_greatestAddition_23 (PX : Nat → Int32) (PY : Nat → Int32) (PC : Nat → Int32) (PN : Nat) (POX : Nat → Int32) (POY : Nat → Int32) (POW : Nat → Int32) (x : Int32) (y : Int32) : Nat → Nat → Int64 → Int64
  | 0, _, x3 => x3
  | n23 + 1, j23, x3 => (if (zf_X4_share PX PY j23 x y) ≤ (0 : Int64) then (if (0 : Int64) ≤ (zf_X4_share PX PY j23 x y) then zl_X4_greatestAddition_23 PX PY PC PN POX POY POW x y n23 (j23 + 1) x3 else zl_X4_greatestAddition_23 PX PY PC PN POX POY POW x y n23 (j23 + 1) (zminL x3 ((zf_X4_numerator PX PY PN POX POY POW j23) / (-(zf_X4_share PX PY j23 x y))))) else zl_X4_greatestAddition_23 PX PY PC PN POX POY POW x y n23 (j23 + 1) (zminL x3 ((zf_X4_spare PX PY PC PN POX POY POW j23) / (zf_X4_share PX PY j23 x y))))
theorem zl_X4_greatestAddition_23_s (PX : Nat → Int32) (PY : Nat → Int32) (PC : Nat → Int32) (PN : Nat) (POX : Nat → Int32) (POY : Nat → Int32) (POW : Nat → Int32) (x : Int32) (y : Int32) (n23 : Nat) (j23 : Nat) (x3 : Int64) : zl_X4_greatestAddition_23 PX PY PC PN POX POY POW x y (n23 + 1) j23 x3 = (if (zf_X4_share PX PY j23 x y) ≤ (0 : Int64) then (if (0 : Int64) ≤ (zf_X4_share PX PY j23 x y) then zl_X4_greatestAddition_23 PX PY PC PN POX POY POW x y n23 (j23 + 1) x3 else zl_X4_greatestAddition_23 PX PY PC PN POX POY POW x y n23 (j23 + 1) (zminL x3 ((zf_X4_numerator PX PY PN POX POY POW j23) / (-(zf_X4_share PX PY j23 x y))))) else zl_X4_greatestAddition_23 PX PY PC PN POX POY POW x y n23 (j23 + 1) (zminL x3 ((zf_X4_spare PX PY PC PN POX POY POW j23) / (zf_X4_share PX PY j23 x y)))) := rfl
def zf_X4_greatestAddition (PX : Nat → Int32) (PY : Nat → Int32) (PC : Nat → Int32) (PN : Nat) (POX : Nat → Int32) (POY : Nat → Int32) (POW : Nat → Int32) (x : Int32) (y : Int32) : Int32 := (if (zf_X4_hasNoNegativeLoad PX PY PN POX POY POW) = true then (if (zf_X4_overloadedCells PX PY PC PN POX POY POW) = 0 then ((zl_X4_greatestAddition_23 PX PY PC PN POX POY POW x y 3 0 (300000 : Int64)).toInt32) else (-1 : Int32)) else (-1 : Int32))
theorem zf_X4_greatestAddition_e (PX : Nat → Int32) (PY : Nat → Int32) (PC : Nat → Int32) (PN : Nat) (POX : Nat → Int32) (POY : Nat → Int32) (POW : Nat → Int32) (x : Int32) (y : Int32) : zf_X4_greatestAddition PX PY PC PN POX POY POW x y = (if (zf_X4_hasNoNegativeLoad PX PY PN POX POY POW) = true then (if (zf_X4_overloadedCells PX PY PC PN POX POY POW) = 0 then ((zl_X4_greatestAddition_23 PX PY PC PN POX POY POW x y 3 0 (300000 : Int64)).toInt32) else (-1 : Int32)) else (-1 : Int32)) := rfl
set_option maxHeartbeats 4000000 in
set_option maxRecDepth 100000 in
theorem zc_X4_greatestAddition (l : Launch) (g : zG) (B : Nat) (ad : Nat → Nat) (PX : Nat → Int32) (PY : Nat → Int32) (PC : Nat → Int32) (PN : Nat) (POX : Nat → Int32) (POY : Nat → Int32) (POW : Nat → Int32) (x : Int32) (y : Int32) (hn : PN ≤ 8) : zMet l g B yX4_greatestAddition cX4_greatestAddition 8 (some .int) 8 260 0 0 [.ref (ad 1), .int x, .int y] [wPlat g ad PX PY PC PN POX POY POW] (zDet (some (.int (zf_X4_greatestAddition PX PY PC PN POX POY POW x y))) [wPlat g ad PX PY PC PN POX POY POW]) := by
  refine z_in (plainFor_of_name (by decide)) (Nat.le_of_ble_eq_true rfl) (fun p e R s m args below meth c A Q hRf hRl hRc hRs X Z hnm E ls hl => ?_)
  have hx := X.1
  have hb := X.2.1
  have hown := X.2.2.2.1
  have hts := X.2.2.2.2.1
  have hl : lv_has ls 8 [(0, .ref (ad 1)), (1, .int x), (2, .int y)] := hl
  refine lv_aload_n hx hb dX4_greatestAddition_0 rfl (lv_at hl 0 rfl) ?_
  refine z_callV (mc := 0) (ms := 0) (As := []) (rest := []) (st2 := [.int (zB (zf_X4_hasNoNegativeLoad PX PY PN POX POY POW))]) (cs2 := [wPlat g ad PX PY PC PN POX POY POW]) X Z [0] [] [0] 0 3 (zc_X4_hasNoNegativeLoad l g B ad PX PY PC PN POX POY POW (by first | assumption | omega | decide)) wM_X4_70 wS_X4_hasNoNegativeLoad wV_X4_hasNoNegativeLoad wK_X4_hasNoNegativeLoad wZ_X4 0 1 1 rfl (by decide +kernel) rfl (by decide) rfl rfl rfl (by decide) rfl rfl (rfl : zCl[3]? = some (RX4, TX4, 7)) hl.1 rfl rfl (by rw [hRf, hRl]; exact ⟨Nat.le_of_ble_eq_true rfl, Nat.le_of_ble_eq_true rfl⟩) (Nat.le_of_ble_eq_true rfl) ⟨Nat.zero_le _, Nat.zero_le _⟩ dX4_greatestAddition_1 (fun H locs Z => ?_)
  refine z_ifeqB (b := (zf_X4_hasNoNegativeLoad PX PY PN POX POY POW)) (tgt := 14) X dX4_greatestAddition_4 (by decide) (fun c_1 => ?_) (fun c_1 => ?_)
  · refine lv_iconst (v := (-1 : Int32)) hx hb dX4_greatestAddition_14 (by decide) ?_
    exact z_ri (v := (-1 : Int32)) E Z rfl (by rw [zf_X4_greatestAddition_e, if_neg (zBf c_1)]; exact ⟨rfl, rfl⟩) dX4_greatestAddition_15 (Nat.zero_le _) (Nat.zero_le _)
  · refine lv_aload_n hx hb dX4_greatestAddition_7 rfl (lv_at hl 0 rfl) ?_
    refine z_callV (mc := 0) (ms := 0) (As := []) (rest := []) (st2 := [.int (zf_X4_overloadedCells PX PY PC PN POX POY POW)]) (cs2 := [wPlat g ad PX PY PC PN POX POY POW]) X Z [0] [] [0] 0 3 (zc_X4_overloadedCells l g B ad PX PY PC PN POX POY POW (by first | assumption | omega | decide)) wM_X4_74 wS_X4_overloadedCells wV_X4_overloadedCells wK_X4_overloadedCells wZ_X4 0 1 1 rfl (by decide +kernel) rfl (by decide) rfl rfl rfl (by decide) rfl rfl (rfl : zCl[3]? = some (RX4, TX4, 7)) hl.1 rfl rfl (by rw [hRf, hRl]; exact ⟨Nat.le_of_ble_eq_true rfl, Nat.le_of_ble_eq_true rfl⟩) (Nat.le_of_ble_eq_true rfl) ⟨Nat.zero_le _, Nat.zero_le _⟩ dX4_greatestAddition_8 (fun H locs Z => ?_)
    refine lv_if_eq (tgt := 16) hx hb dX4_greatestAddition_11 (by decide) (fun c_2 => ?_) (fun c_2 => ?_)
    · refine lv_ldc2 (v := (300000 : Int64)) hx hb hown (hts _ wL_X4_78) dX4_greatestAddition_16 ?_
      refine lv_lstore_n (lv' := [(3, .long (300000 : Int64)), (0, .ref (ad 1)), (1, .int x), (2, .int y)]) hx hb dX4_greatestAddition_19 rfl hl (by decide) rfl (fun ls hl => ?_)
      refine lv_iconst (v := (0 : Int32)) hx hb dX4_greatestAddition_20 (by decide) ?_
      refine lv_istore (lv' := [(5, .int (0 : Int32)), (3, .long (300000 : Int64)), (0, .ref (ad 1)), (1, .int x), (2, .int y)]) hx hb dX4_greatestAddition_21 hl (by decide) rfl (fun ls hl => ?_)
      have loop_23 : ∀ (n23 j23 : Nat) (x3 : Int64), j23 + n23 = 3 → zl_X4_greatestAddition_23 PX PY PC PN POX POY POW x y n23 j23 x3 = (zl_X4_greatestAddition_23 PX PY PC PN POX POY POW x y 3 0 (300000 : Int64)) → ∀ (H : Heap) (locs : List Loc), zM g B A s [wPlat g ad PX PY PC PN POX POY POW] H locs → ∀ ls : Array Slot, lv_has ls 8 [(5, .int (nI j23)), (3, .long x3), (0, .ref (ad 1)), (1, .int x), (2, .int y)] → W p l e R s m args below meth c H locs 0 0 Q (F0 m 23 ls []) := by
        intro n23
        induction n23 with
        | zero =>
          intro j23 x3 hin23 hR23 H locs Z ls hl
          have e_x3 : (zl_X4_greatestAddition_23 PX PY PC PN POX POY POW x y 3 0 (300000 : Int64)) = x3 := hR23.symm
          subst e_x3
          refine lv_iload hx hb dX4_greatestAddition_23 (lv_at hl 0 rfl) ?_
          refine lv_iconst (v := (3 : Int32)) hx hb dX4_greatestAddition_25 (by decide) ?_
          refine z_icmp_ge (a := j23) (b := 3) (tgt := 91) X rfl rfl (by omega) (by omega) dX4_greatestAddition_26 (by decide) (fun c_3 => ?_) (fun c_3 => ?_)
          · refine lv_lload_n hx hb dX4_greatestAddition_91 rfl (lv_at hl 1 rfl) ?_
            refine lv_l2i hx hb dX4_greatestAddition_92 rfl ?_
            exact z_ri (v := ((zl_X4_greatestAddition_23 PX PY PC PN POX POY POW x y 3 0 (300000 : Int64)).toInt32)) E Z rfl (by rw [zf_X4_greatestAddition_e, if_pos c_1, if_pos c_2]; exact ⟨rfl, rfl⟩) dX4_greatestAddition_93 (Nat.zero_le _) (Nat.zero_le _)
          · (exfalso; omega)
        | succ n23 ih23 =>
          intro j23 x3 hin23 hR23 H locs Z ls hl
          refine lv_iload hx hb dX4_greatestAddition_23 (lv_at hl 0 rfl) ?_
          refine lv_iconst (v := (3 : Int32)) hx hb dX4_greatestAddition_25 (by decide) ?_
          refine z_icmp_ge (a := j23) (b := 3) (tgt := 91) X rfl rfl (by omega) (by omega) dX4_greatestAddition_26 (by decide) (fun c_4 => ?_) (fun c_4 => ?_)
          · (exfalso; omega)
          · refine lv_aload_n hx hb dX4_greatestAddition_29 rfl (lv_at hl 2 rfl) ?_
            refine lv_iload hx hb dX4_greatestAddition_30 (lv_at hl 0 rfl) ?_
            refine lv_iload_n hx hb dX4_greatestAddition_32 rfl (lv_at hl 3 rfl) ?_
            refine lv_iload_n hx hb dX4_greatestAddition_33 rfl (lv_at hl 4 rfl) ?_
            refine z_callV (mc := 0) (ms := 0) (As := [.int (nI j23), .int x, .int y]) (rest := []) (st2 := [.long (zf_X4_share PX PY j23 x y)]) (cs2 := [wPlat g ad PX PY PC PN POX POY POW]) X Z [0] [] [0] 0 3 (zc_X4_share l g B ad PX PY PC PN POX POY POW j23 x y (by first | assumption | omega | decide)) wM_X4_44 wS_X4_share wV_X4_share wK_X4_share wZ_X4 3 1 1 rfl (by decide +kernel) rfl (by decide) rfl rfl rfl (by decide) rfl rfl (rfl : zCl[3]? = some (RX4, TX4, 7)) hl.1 rfl rfl (by rw [hRf, hRl]; exact ⟨Nat.le_of_ble_eq_true rfl, Nat.le_of_ble_eq_true rfl⟩) (Nat.le_of_ble_eq_true rfl) ⟨Nat.zero_le _, Nat.zero_le _⟩ dX4_greatestAddition_34 (fun H locs Z => ?_)
            refine lv_lstore (lv' := [(6, .long (zf_X4_share PX PY j23 x y)), (5, .int (nI j23)), (3, .long x3), (0, .ref (ad 1)), (1, .int x), (2, .int y)]) hx hb dX4_greatestAddition_37 hl (by decide) rfl (fun ls hl => ?_)
            refine lv_lload hx hb dX4_greatestAddition_39 (lv_at hl 0 rfl) ?_
            refine lv_lconst (v := (0 : Int64)) hx hb dX4_greatestAddition_41 (by decide) ?_
            refine z_lc_le (tgt := 63) X dX4_greatestAddition_42 dX4_greatestAddition_43 (by decide) (fun c_5 => ?_) (fun c_5 => ?_)
            · refine lv_lload hx hb dX4_greatestAddition_63 (lv_at hl 0 rfl) ?_
              refine lv_lconst (v := (0 : Int64)) hx hb dX4_greatestAddition_65 (by decide) ?_
              refine z_lc_ge (tgt := 85) X dX4_greatestAddition_66 dX4_greatestAddition_67 (by decide) (fun c_6 => ?_) (fun c_6 => ?_)
              · refine z_iinc (b := (j23 + 1)) (st := 1) (lv' := [(5, .int (nI (j23 + 1))), (6, .long (zf_X4_share PX PY j23 x y)), (3, .long x3), (0, .ref (ad 1)), (1, .int x), (2, .int y)]) X dX4_greatestAddition_85 hl (k := 1) rfl rfl (by decide) (by omega) (by decide) rfl (fun ls hl => ?_)
                refine lv_goto (tgt := 23) hx hb dX4_greatestAddition_88 (by decide) ?_
                exact ih23 (j23 + 1) x3 (by omega) (by have h9 := hR23; rw [zl_X4_greatestAddition_23_s, if_pos c_5, if_pos c_6] at h9; exact h9) _ _ Z ls (lv_sub hl [0, 2, 3, 4, 5] rfl)
              · refine lv_lload_n hx hb dX4_greatestAddition_70 rfl (lv_at hl 2 rfl) ?_
                refine lv_aload_n hx hb dX4_greatestAddition_71 rfl (lv_at hl 3 rfl) ?_
                refine lv_iload hx hb dX4_greatestAddition_72 (lv_at hl 1 rfl) ?_
                refine z_callV (mc := 0) (ms := 0) (As := [.int (nI j23)]) (rest := [.long x3]) (st2 := [.long (zf_X4_numerator PX PY PN POX POY POW j23), .long x3]) (cs2 := [wPlat g ad PX PY PC PN POX POY POW]) X Z [0] [] [0] 0 3 (zc_X4_numerator l g B ad PX PY PC PN POX POY POW j23 (by first | assumption | omega | decide) (by first | assumption | omega | decide)) wM_X4_47 wS_X4_numerator wV_X4_numerator wK_X4_numerator wZ_X4 1 1 1 rfl (by decide +kernel) rfl (by decide) rfl rfl rfl (by decide) rfl rfl (rfl : zCl[3]? = some (RX4, TX4, 7)) hl.1 rfl rfl (by rw [hRf, hRl]; exact ⟨Nat.le_of_ble_eq_true rfl, Nat.le_of_ble_eq_true rfl⟩) (Nat.le_of_ble_eq_true rfl) ⟨Nat.zero_le _, Nat.zero_le _⟩ dX4_greatestAddition_74 (fun H locs Z => ?_)
                refine lv_lload hx hb dX4_greatestAddition_77 (lv_at hl 0 rfl) ?_
                refine lv_lneg hx hb dX4_greatestAddition_79 ?_
                refine lv_ldiv hx hb dX4_greatestAddition_80 (zne2 (by assumption)) ?_
                refine z_Mminlong X hl.1 wM_X4_80 (by rw [hRf]; decide) (by rw [hRl]; exact Nat.le_of_ble_eq_true rfl) (Nat.zero_le _) (Nat.zero_le _) dX4_greatestAddition_81 ?_
                refine lv_lstore_n (lv' := [(3, .long (zminL x3 ((zf_X4_numerator PX PY PN POX POY POW j23) / (-(zf_X4_share PX PY j23 x y))))), (6, .long (zf_X4_share PX PY j23 x y)), (5, .int (nI j23)), (0, .ref (ad 1)), (1, .int x), (2, .int y)]) hx hb dX4_greatestAddition_84 rfl hl (by decide) rfl (fun ls hl => ?_)
                refine z_iinc (b := (j23 + 1)) (st := 1) (lv' := [(5, .int (nI (j23 + 1))), (3, .long (zminL x3 ((zf_X4_numerator PX PY PN POX POY POW j23) / (-(zf_X4_share PX PY j23 x y))))), (6, .long (zf_X4_share PX PY j23 x y)), (0, .ref (ad 1)), (1, .int x), (2, .int y)]) X dX4_greatestAddition_85 hl (k := 2) rfl rfl (by decide) (by omega) (by decide) rfl (fun ls hl => ?_)
                refine lv_goto (tgt := 23) hx hb dX4_greatestAddition_88 (by decide) ?_
                exact ih23 (j23 + 1) (zminL x3 ((zf_X4_numerator PX PY PN POX POY POW j23) / (-(zf_X4_share PX PY j23 x y)))) (by omega) (by have h9 := hR23; rw [zl_X4_greatestAddition_23_s, if_pos c_5, if_neg c_6] at h9; exact h9) _ _ Z ls (lv_sub hl [0, 1, 3, 4, 5] rfl)
            · refine lv_lload_n hx hb dX4_greatestAddition_46 rfl (lv_at hl 2 rfl) ?_
              refine lv_aload_n hx hb dX4_greatestAddition_47 rfl (lv_at hl 3 rfl) ?_
              refine lv_iload hx hb dX4_greatestAddition_48 (lv_at hl 1 rfl) ?_
              refine z_callV (mc := 0) (ms := 0) (As := [.int (nI j23)]) (rest := [.long x3]) (st2 := [.long (zf_X4_spare PX PY PC PN POX POY POW j23), .long x3]) (cs2 := [wPlat g ad PX PY PC PN POX POY POW]) X Z [0] [] [0] 0 3 (zc_X4_spare l g B ad PX PY PC PN POX POY POW j23 (by first | assumption | omega | decide) (by first | assumption | omega | decide)) wM_X4_67 wS_X4_spare wV_X4_spare wK_X4_spare wZ_X4 1 1 1 rfl (by decide +kernel) rfl (by decide) rfl rfl rfl (by decide) rfl rfl (rfl : zCl[3]? = some (RX4, TX4, 7)) hl.1 rfl rfl (by rw [hRf, hRl]; exact ⟨Nat.le_of_ble_eq_true rfl, Nat.le_of_ble_eq_true rfl⟩) (Nat.le_of_ble_eq_true rfl) ⟨Nat.zero_le _, Nat.zero_le _⟩ dX4_greatestAddition_50 (fun H locs Z => ?_)
              refine lv_lload hx hb dX4_greatestAddition_53 (lv_at hl 0 rfl) ?_
              refine lv_ldiv hx hb dX4_greatestAddition_55 (zne1 (by assumption)) ?_
              refine z_Mminlong X hl.1 wM_X4_80 (by rw [hRf]; decide) (by rw [hRl]; exact Nat.le_of_ble_eq_true rfl) (Nat.zero_le _) (Nat.zero_le _) dX4_greatestAddition_56 ?_
              refine lv_lstore_n (lv' := [(3, .long (zminL x3 ((zf_X4_spare PX PY PC PN POX POY POW j23) / (zf_X4_share PX PY j23 x y)))), (6, .long (zf_X4_share PX PY j23 x y)), (5, .int (nI j23)), (0, .ref (ad 1)), (1, .int x), (2, .int y)]) hx hb dX4_greatestAddition_59 rfl hl (by decide) rfl (fun ls hl => ?_)
              refine lv_goto (tgt := 85) hx hb dX4_greatestAddition_60 (by decide) ?_
              refine z_iinc (b := (j23 + 1)) (st := 1) (lv' := [(5, .int (nI (j23 + 1))), (3, .long (zminL x3 ((zf_X4_spare PX PY PC PN POX POY POW j23) / (zf_X4_share PX PY j23 x y)))), (6, .long (zf_X4_share PX PY j23 x y)), (0, .ref (ad 1)), (1, .int x), (2, .int y)]) X dX4_greatestAddition_85 hl (k := 2) rfl rfl (by decide) (by omega) (by decide) rfl (fun ls hl => ?_)
              refine lv_goto (tgt := 23) hx hb dX4_greatestAddition_88 (by decide) ?_
              exact ih23 (j23 + 1) (zminL x3 ((zf_X4_spare PX PY PC PN POX POY POW j23) / (zf_X4_share PX PY j23 x y))) (by omega) (by have h9 := hR23; rw [zl_X4_greatestAddition_23_s, if_neg c_5] at h9; exact h9) _ _ Z ls (lv_sub hl [0, 1, 3, 4, 5] rfl)
      exact loop_23 3 0 (300000 : Int64) (by omega) rfl _ _ Z ls (lv_sub hl [0, 1, 2, 3, 4] rfl)
    · refine lv_iconst (v := (-1 : Int32)) hx hb dX4_greatestAddition_14 (by decide) ?_
      exact z_ri (v := (-1 : Int32)) E Z rfl (by rw [zf_X4_greatestAddition_e, if_pos c_1, if_neg c_2]; exact ⟨rfl, rfl⟩) dX4_greatestAddition_15 (Nat.zero_le _) (Nat.zero_le _)
def zl_X4_mixedInto_120 (POX : Nat → Int32) (POY : Nat → Int32) (POW : Nat → Int32) : Nat → Nat → Int64 → Int64
  | 0, _, x3 => x3
  | n120 + 1, j120, x3 => zl_X4_mixedInto_120 POX POY POW n120 (j120 + 1) (zf_X8_mix (zf_X8_mix (zf_X8_mix x3 ((POX j120).toInt64)) ((POY j120).toInt64)) ((POW j120).toInt64))
theorem zl_X4_mixedInto_120_s (POX : Nat → Int32) (POY : Nat → Int32) (POW : Nat → Int32) (n120 : Nat) (j120 : Nat) (x3 : Int64) : zl_X4_mixedInto_120 POX POY POW (n120 + 1) j120 x3 = zl_X4_mixedInto_120 POX POY POW n120 (j120 + 1) (zf_X8_mix (zf_X8_mix (zf_X8_mix x3 ((POX j120).toInt64)) ((POY j120).toInt64)) ((POW j120).toInt64)) := rfl
def zl_X4_mixedInto_5 (PX : Nat → Int32) (PY : Nat → Int32) (PC : Nat → Int32) (PN : Nat) (POX : Nat → Int32) (POY : Nat → Int32) (POW : Nat → Int32) : Nat → Nat → Int64 → Int64
  | 0, _, x3 => x3
  | n5 + 1, j5, x3 => zl_X4_mixedInto_5 PX PY PC PN POX POY POW n5 (j5 + 1) (zf_X8_mix (zf_X8_mix (zf_X8_mix (zf_X8_mix (zf_X8_mix x3 ((PX j5).toInt64)) ((PY j5).toInt64)) ((PC j5).toInt64)) (zf_X4_loadPart PX PY PN POX POY POW j5 (0 : Int32))) (zf_X4_loadPart PX PY PN POX POY POW j5 (1 : Int32)))
theorem zl_X4_mixedInto_5_s (PX : Nat → Int32) (PY : Nat → Int32) (PC : Nat → Int32) (PN : Nat) (POX : Nat → Int32) (POY : Nat → Int32) (POW : Nat → Int32) (n5 : Nat) (j5 : Nat) (x3 : Int64) : zl_X4_mixedInto_5 PX PY PC PN POX POY POW (n5 + 1) j5 x3 = zl_X4_mixedInto_5 PX PY PC PN POX POY POW n5 (j5 + 1) (zf_X8_mix (zf_X8_mix (zf_X8_mix (zf_X8_mix (zf_X8_mix x3 ((PX j5).toInt64)) ((PY j5).toInt64)) ((PC j5).toInt64)) (zf_X4_loadPart PX PY PN POX POY POW j5 (0 : Int32))) (zf_X4_loadPart PX PY PN POX POY POW j5 (1 : Int32))) := rfl
def zf_X4_mixedInto (PX : Nat → Int32) (PY : Nat → Int32) (PC : Nat → Int32) (PN : Nat) (POX : Nat → Int32) (POY : Nat → Int32) (POW : Nat → Int32) (h : Int64) : Int64 := (if (zf_X4_hasNoNegativeLoad PX PY PN POX POY POW) = true then (zl_X4_mixedInto_120 POX POY POW PN 0 (zf_X8_mix (zf_X8_mix (zf_X8_mix (zl_X4_mixedInto_5 PX PY PC PN POX POY POW 3 0 h) (1 : Int64)) ((zf_X4_overloadedCells PX PY PC PN POX POY POW).toInt64)) (lN PN))) else (zl_X4_mixedInto_120 POX POY POW PN 0 (zf_X8_mix (zf_X8_mix (zf_X8_mix (zl_X4_mixedInto_5 PX PY PC PN POX POY POW 3 0 h) (0 : Int64)) ((zf_X4_overloadedCells PX PY PC PN POX POY POW).toInt64)) (lN PN))))
theorem zf_X4_mixedInto_e (PX : Nat → Int32) (PY : Nat → Int32) (PC : Nat → Int32) (PN : Nat) (POX : Nat → Int32) (POY : Nat → Int32) (POW : Nat → Int32) (h : Int64) : zf_X4_mixedInto PX PY PC PN POX POY POW h = (if (zf_X4_hasNoNegativeLoad PX PY PN POX POY POW) = true then (zl_X4_mixedInto_120 POX POY POW PN 0 (zf_X8_mix (zf_X8_mix (zf_X8_mix (zl_X4_mixedInto_5 PX PY PC PN POX POY POW 3 0 h) (1 : Int64)) ((zf_X4_overloadedCells PX PY PC PN POX POY POW).toInt64)) (lN PN))) else (zl_X4_mixedInto_120 POX POY POW PN 0 (zf_X8_mix (zf_X8_mix (zf_X8_mix (zl_X4_mixedInto_5 PX PY PC PN POX POY POW 3 0 h) (0 : Int64)) ((zf_X4_overloadedCells PX PY PC PN POX POY POW).toInt64)) (lN PN)))) := rfl
set_option maxHeartbeats 4000000 in
set_option maxRecDepth 100000 in
theorem zc_X4_mixedInto (l : Launch) (g : zG) (B : Nat) (ad : Nat → Nat) (PX : Nat → Int32) (PY : Nat → Int32) (PC : Nat → Int32) (PN : Nat) (POX : Nat → Int32) (POY : Nat → Int32) (POW : Nat → Int32) (h : Int64) (hn : PN ≤ 8) : zMet l g B yX4_mixedInto cX4_mixedInto 6 (some .long) 8 260 0 0 [.ref (ad 1), .long h] [wPlat g ad PX PY PC PN POX POY POW] (zDet (some (.long (zf_X4_mixedInto PX PY PC PN POX POY POW h))) [wPlat g ad PX PY PC PN POX POY POW]) := by
  refine z_in (plainFor_of_name (by decide)) (Nat.le_of_ble_eq_true rfl) (fun p e R s m args below meth c A Q hRf hRl hRc hRs X Z hnm E ls hl => ?_)
  have hx := X.1
  have hb := X.2.1
  have hown := X.2.2.2.1
  have hts := X.2.2.2.2.1
  have hl : lv_has ls 6 [(0, .ref (ad 1)), (1, .long h)] := hl
  refine lv_lload_n hx hb dX4_mixedInto_0 rfl (lv_at hl 1 rfl) ?_
  refine lv_lstore_n (lv' := [(3, .long h), (0, .ref (ad 1)), (1, .long h)]) hx hb dX4_mixedInto_1 rfl hl (by decide) rfl (fun ls hl => ?_)
  refine lv_iconst (v := (0 : Int32)) hx hb dX4_mixedInto_2 (by decide) ?_
  refine lv_istore (lv' := [(5, .int (0 : Int32)), (3, .long h), (0, .ref (ad 1)), (1, .long h)]) hx hb dX4_mixedInto_3 hl (by decide) rfl (fun ls hl => ?_)
  have loop_5 : ∀ (n5 j5 : Nat) (x3 : Int64), j5 + n5 = 3 → zl_X4_mixedInto_5 PX PY PC PN POX POY POW n5 j5 x3 = (zl_X4_mixedInto_5 PX PY PC PN POX POY POW 3 0 h) → ∀ (H : Heap) (locs : List Loc), zM g B A s [wPlat g ad PX PY PC PN POX POY POW] H locs → ∀ ls : Array Slot, lv_has ls 6 [(5, .int (nI j5)), (3, .long x3), (0, .ref (ad 1)), (1, .long h)] → W p l e R s m args below meth c H locs 0 0 Q (F0 m 5 ls []) := by
    intro n5
    induction n5 with
    | zero =>
      intro j5 x3 hin5 hR5 H locs Z ls hl
      have e_x3 : (zl_X4_mixedInto_5 PX PY PC PN POX POY POW 3 0 h) = x3 := hR5.symm
      subst e_x3
      refine lv_iload hx hb dX4_mixedInto_5 (lv_at hl 0 rfl) ?_
      refine lv_iconst (v := (3 : Int32)) hx hb dX4_mixedInto_7 (by decide) ?_
      refine z_icmp_ge (a := j5) (b := 3) (tgt := 80) X rfl rfl (by omega) (by omega) dX4_mixedInto_8 (by decide) (fun c_1 => ?_) (fun c_1 => ?_)
      · refine lv_lload_n hx hb dX4_mixedInto_80 rfl (lv_at hl 1 rfl) ?_
        refine lv_aload_n hx hb dX4_mixedInto_81 rfl (lv_at hl 2 rfl) ?_
        refine z_callV (mc := 0) (ms := 0) (As := []) (rest := [.long (zl_X4_mixedInto_5 PX PY PC PN POX POY POW 3 0 h)]) (st2 := [.int (zB (zf_X4_hasNoNegativeLoad PX PY PN POX POY POW)), .long (zl_X4_mixedInto_5 PX PY PC PN POX POY POW 3 0 h)]) (cs2 := [wPlat g ad PX PY PC PN POX POY POW]) X Z [0] [] [0] 0 3 (zc_X4_hasNoNegativeLoad l g B ad PX PY PC PN POX POY POW (by first | assumption | omega | decide)) wM_X4_70 wS_X4_hasNoNegativeLoad wV_X4_hasNoNegativeLoad wK_X4_hasNoNegativeLoad wZ_X4 0 1 1 rfl (by decide +kernel) rfl (by decide) rfl rfl rfl (by decide) rfl rfl (rfl : zCl[3]? = some (RX4, TX4, 7)) hl.1 rfl rfl (by rw [hRf, hRl]; exact ⟨Nat.le_of_ble_eq_true rfl, Nat.le_of_ble_eq_true rfl⟩) (Nat.le_of_ble_eq_true rfl) ⟨Nat.zero_le _, Nat.zero_le _⟩ dX4_mixedInto_82 (fun H locs Z => ?_)
        refine z_ifeqB (b := (zf_X4_hasNoNegativeLoad PX PY PN POX POY POW)) (tgt := 92) X dX4_mixedInto_85 (by decide) (fun c_2 => ?_) (fun c_2 => ?_)
        · refine lv_lconst (v := (0 : Int64)) hx hb dX4_mixedInto_92 (by decide) ?_
          refine z_callSN (mc := 0) (ms := 0) (As := [.long (zl_X4_mixedInto_5 PX PY PC PN POX POY POW 3 0 h), .long (0 : Int64)]) (rest := []) (st2 := [.long (zf_X8_mix (zl_X4_mixedInto_5 PX PY PC PN POX POY POW 3 0 h) (0 : Int64))]) (cs2 := [wPlat g ad PX PY PC PN POX POY POW]) X Z [] [0] [0] (zc_X8_mix l g B (zl_X4_mixedInto_5 PX PY PC PN POX POY POW 3 0 h) (0 : Int64)) (by decide +kernel : Cond.methodLinkNest RX4 83 yX8_mix "TripodScale" ∈ zNw) wS_X8_mix wK_X8_mix wZ_X8 2 1 1 rfl (by decide +kernel) rfl (by decide) rfl rfl rfl (by decide) rfl hl.1 rfl rfl (by rw [hRf, hRl]; exact ⟨Nat.le_of_ble_eq_true rfl, Nat.le_of_ble_eq_true rfl⟩) (Nat.le_of_ble_eq_true rfl) ⟨Nat.zero_le _, Nat.zero_le _⟩ dX4_mixedInto_93 (fun H locs Z => ?_)
          refine lv_lstore_n (lv' := [(3, .long (zf_X8_mix (zl_X4_mixedInto_5 PX PY PC PN POX POY POW 3 0 h) (0 : Int64))), (5, .int (nI j5)), (0, .ref (ad 1)), (1, .long h)]) hx hb dX4_mixedInto_96 rfl hl (by decide) rfl (fun ls hl => ?_)
          refine lv_lload_n hx hb dX4_mixedInto_97 rfl (lv_at hl 0 rfl) ?_
          refine lv_aload_n hx hb dX4_mixedInto_98 rfl (lv_at hl 2 rfl) ?_
          refine z_callV (mc := 0) (ms := 0) (As := []) (rest := [.long (zf_X8_mix (zl_X4_mixedInto_5 PX PY PC PN POX POY POW 3 0 h) (0 : Int64))]) (st2 := [.int (zf_X4_overloadedCells PX PY PC PN POX POY POW), .long (zf_X8_mix (zl_X4_mixedInto_5 PX PY PC PN POX POY POW 3 0 h) (0 : Int64))]) (cs2 := [wPlat g ad PX PY PC PN POX POY POW]) X Z [0] [] [0] 0 3 (zc_X4_overloadedCells l g B ad PX PY PC PN POX POY POW (by first | assumption | omega | decide)) wM_X4_74 wS_X4_overloadedCells wV_X4_overloadedCells wK_X4_overloadedCells wZ_X4 0 1 1 rfl (by decide +kernel) rfl (by decide) rfl rfl rfl (by decide) rfl rfl (rfl : zCl[3]? = some (RX4, TX4, 7)) hl.1 rfl rfl (by rw [hRf, hRl]; exact ⟨Nat.le_of_ble_eq_true rfl, Nat.le_of_ble_eq_true rfl⟩) (Nat.le_of_ble_eq_true rfl) ⟨Nat.zero_le _, Nat.zero_le _⟩ dX4_mixedInto_99 (fun H locs Z => ?_)
          refine lv_i2l hx hb dX4_mixedInto_102 rfl ?_
          refine z_callSN (mc := 0) (ms := 0) (As := [.long (zf_X8_mix (zl_X4_mixedInto_5 PX PY PC PN POX POY POW 3 0 h) (0 : Int64)), .long ((zf_X4_overloadedCells PX PY PC PN POX POY POW).toInt64)]) (rest := []) (st2 := [.long (zf_X8_mix (zf_X8_mix (zl_X4_mixedInto_5 PX PY PC PN POX POY POW 3 0 h) (0 : Int64)) ((zf_X4_overloadedCells PX PY PC PN POX POY POW).toInt64))]) (cs2 := [wPlat g ad PX PY PC PN POX POY POW]) X Z [] [0] [0] (zc_X8_mix l g B (zf_X8_mix (zl_X4_mixedInto_5 PX PY PC PN POX POY POW 3 0 h) (0 : Int64)) ((zf_X4_overloadedCells PX PY PC PN POX POY POW).toInt64)) (by decide +kernel : Cond.methodLinkNest RX4 83 yX8_mix "TripodScale" ∈ zNw) wS_X8_mix wK_X8_mix wZ_X8 2 1 1 rfl (by decide +kernel) rfl (by decide) rfl rfl rfl (by decide) rfl hl.1 rfl rfl (by rw [hRf, hRl]; exact ⟨Nat.le_of_ble_eq_true rfl, Nat.le_of_ble_eq_true rfl⟩) (Nat.le_of_ble_eq_true rfl) ⟨Nat.zero_le _, Nat.zero_le _⟩ dX4_mixedInto_103 (fun H locs Z => ?_)
          refine lv_lstore_n (lv' := [(3, .long (zf_X8_mix (zf_X8_mix (zl_X4_mixedInto_5 PX PY PC PN POX POY POW 3 0 h) (0 : Int64)) ((zf_X4_overloadedCells PX PY PC PN POX POY POW).toInt64))), (5, .int (nI j5)), (0, .ref (ad 1)), (1, .long h)]) hx hb dX4_mixedInto_106 rfl hl (by decide) rfl (fun ls hl => ?_)
          refine lv_lload_n hx hb dX4_mixedInto_107 rfl (lv_at hl 0 rfl) ?_
          refine lv_aload_n hx hb dX4_mixedInto_108 rfl (lv_at hl 2 rfl) ?_
          refine z_get X Z 0 rfl (rfl : zCl[3]? = some (RX4, TX4, 7)) zU_X4 3 (by decide) wF_X4_36 rfl rfl dX4_mixedInto_109 ?_
          refine z_i2l (a := PN) X rfl (by omega) dX4_mixedInto_112 ?_
          refine z_callSN (mc := 0) (ms := 0) (As := [.long (zf_X8_mix (zf_X8_mix (zl_X4_mixedInto_5 PX PY PC PN POX POY POW 3 0 h) (0 : Int64)) ((zf_X4_overloadedCells PX PY PC PN POX POY POW).toInt64)), .long (lN PN)]) (rest := []) (st2 := [.long (zf_X8_mix (zf_X8_mix (zf_X8_mix (zl_X4_mixedInto_5 PX PY PC PN POX POY POW 3 0 h) (0 : Int64)) ((zf_X4_overloadedCells PX PY PC PN POX POY POW).toInt64)) (lN PN))]) (cs2 := [wPlat g ad PX PY PC PN POX POY POW]) X Z [] [0] [0] (zc_X8_mix l g B (zf_X8_mix (zf_X8_mix (zl_X4_mixedInto_5 PX PY PC PN POX POY POW 3 0 h) (0 : Int64)) ((zf_X4_overloadedCells PX PY PC PN POX POY POW).toInt64)) (lN PN)) (by decide +kernel : Cond.methodLinkNest RX4 83 yX8_mix "TripodScale" ∈ zNw) wS_X8_mix wK_X8_mix wZ_X8 2 1 1 rfl (by decide +kernel) rfl (by decide) rfl rfl rfl (by decide) rfl hl.1 rfl rfl (by rw [hRf, hRl]; exact ⟨Nat.le_of_ble_eq_true rfl, Nat.le_of_ble_eq_true rfl⟩) (Nat.le_of_ble_eq_true rfl) ⟨Nat.zero_le _, Nat.zero_le _⟩ dX4_mixedInto_113 (fun H locs Z => ?_)
          refine lv_lstore_n (lv' := [(3, .long (zf_X8_mix (zf_X8_mix (zf_X8_mix (zl_X4_mixedInto_5 PX PY PC PN POX POY POW 3 0 h) (0 : Int64)) ((zf_X4_overloadedCells PX PY PC PN POX POY POW).toInt64)) (lN PN))), (5, .int (nI j5)), (0, .ref (ad 1)), (1, .long h)]) hx hb dX4_mixedInto_116 rfl hl (by decide) rfl (fun ls hl => ?_)
          refine lv_iconst (v := (0 : Int32)) hx hb dX4_mixedInto_117 (by decide) ?_
          refine lv_istore (lv' := [(5, .int (0 : Int32)), (3, .long (zf_X8_mix (zf_X8_mix (zf_X8_mix (zl_X4_mixedInto_5 PX PY PC PN POX POY POW 3 0 h) (0 : Int64)) ((zf_X4_overloadedCells PX PY PC PN POX POY POW).toInt64)) (lN PN))), (0, .ref (ad 1)), (1, .long h)]) hx hb dX4_mixedInto_118 hl (by decide) rfl (fun ls hl => ?_)
          have loop_120 : ∀ (n120 j120 : Nat) (x3 : Int64), j120 + n120 = PN → zl_X4_mixedInto_120 POX POY POW n120 j120 x3 = (zl_X4_mixedInto_120 POX POY POW PN 0 (zf_X8_mix (zf_X8_mix (zf_X8_mix (zl_X4_mixedInto_5 PX PY PC PN POX POY POW 3 0 h) (0 : Int64)) ((zf_X4_overloadedCells PX PY PC PN POX POY POW).toInt64)) (lN PN))) → ∀ (H : Heap) (locs : List Loc), zM g B A s [wPlat g ad PX PY PC PN POX POY POW] H locs → ∀ ls : Array Slot, lv_has ls 6 [(5, .int (nI j120)), (3, .long x3), (0, .ref (ad 1)), (1, .long h)] → W p l e R s m args below meth c H locs 0 0 Q (F0 m 120 ls []) := by
            intro n120
            induction n120 with
            | zero =>
              intro j120 x3 hin120 hR120 H locs Z ls hl
              have e_x3 : (zl_X4_mixedInto_120 POX POY POW PN 0 (zf_X8_mix (zf_X8_mix (zf_X8_mix (zl_X4_mixedInto_5 PX PY PC PN POX POY POW 3 0 h) (0 : Int64)) ((zf_X4_overloadedCells PX PY PC PN POX POY POW).toInt64)) (lN PN))) = x3 := hR120.symm
              subst e_x3
              refine lv_iload hx hb dX4_mixedInto_120 (lv_at hl 0 rfl) ?_
              refine lv_aload_n hx hb dX4_mixedInto_122 rfl (lv_at hl 2 rfl) ?_
              refine z_get X Z 0 rfl (rfl : zCl[3]? = some (RX4, TX4, 7)) zU_X4 3 (by decide) wF_X4_36 rfl rfl dX4_mixedInto_123 ?_
              refine z_icmp_ge (a := j120) (b := PN) (tgt := 174) X rfl rfl (by omega) (by omega) dX4_mixedInto_126 (by decide) (fun c_3 => ?_) (fun c_3 => ?_)
              · refine lv_lload_n hx hb dX4_mixedInto_174 rfl (lv_at hl 1 rfl) ?_
                exact z_rl (v := (zl_X4_mixedInto_120 POX POY POW PN 0 (zf_X8_mix (zf_X8_mix (zf_X8_mix (zl_X4_mixedInto_5 PX PY PC PN POX POY POW 3 0 h) (0 : Int64)) ((zf_X4_overloadedCells PX PY PC PN POX POY POW).toInt64)) (lN PN)))) E Z (by rw [zf_X4_mixedInto_e, if_neg (zBf c_2)]; exact ⟨rfl, rfl⟩) dX4_mixedInto_175 (Nat.zero_le _) (Nat.zero_le _)
              · (exfalso; omega)
            | succ n120 ih120 =>
              intro j120 x3 hin120 hR120 H locs Z ls hl
              refine lv_iload hx hb dX4_mixedInto_120 (lv_at hl 0 rfl) ?_
              refine lv_aload_n hx hb dX4_mixedInto_122 rfl (lv_at hl 2 rfl) ?_
              refine z_get X Z 0 rfl (rfl : zCl[3]? = some (RX4, TX4, 7)) zU_X4 3 (by decide) wF_X4_36 rfl rfl dX4_mixedInto_123 ?_
              refine z_icmp_ge (a := j120) (b := PN) (tgt := 174) X rfl rfl (by omega) (by omega) dX4_mixedInto_126 (by decide) (fun c_4 => ?_) (fun c_4 => ?_)
              · (exfalso; omega)
              · refine lv_lload_n hx hb dX4_mixedInto_129 rfl (lv_at hl 1 rfl) ?_
                refine lv_aload_n hx hb dX4_mixedInto_130 rfl (lv_at hl 2 rfl) ?_
                refine z_get X Z 0 rfl (rfl : zCl[3]? = some (RX4, TX4, 7)) zU_X4 4 (by decide) wF_X4_21 rfl rfl dX4_mixedInto_131 ?_
                refine lv_iload hx hb dX4_mixedInto_134 (lv_at hl 0 rfl) ?_
                refine z_iald (j := j120) X Z 4 rfl rfl (by omega) (by decide) dX4_mixedInto_136 ?_
                refine lv_i2l hx hb dX4_mixedInto_137 rfl ?_
                refine z_callSN (mc := 0) (ms := 0) (As := [.long x3, .long ((POX j120).toInt64)]) (rest := []) (st2 := [.long (zf_X8_mix x3 ((POX j120).toInt64))]) (cs2 := [wPlat g ad PX PY PC PN POX POY POW]) X Z [] [0] [0] (zc_X8_mix l g B x3 ((POX j120).toInt64)) (by decide +kernel : Cond.methodLinkNest RX4 83 yX8_mix "TripodScale" ∈ zNw) wS_X8_mix wK_X8_mix wZ_X8 2 1 1 rfl (by decide +kernel) rfl (by decide) rfl rfl rfl (by decide) rfl hl.1 rfl rfl (by rw [hRf, hRl]; exact ⟨Nat.le_of_ble_eq_true rfl, Nat.le_of_ble_eq_true rfl⟩) (Nat.le_of_ble_eq_true rfl) ⟨Nat.zero_le _, Nat.zero_le _⟩ dX4_mixedInto_138 (fun H locs Z => ?_)
                refine lv_lstore_n (lv' := [(3, .long (zf_X8_mix x3 ((POX j120).toInt64))), (5, .int (nI j120)), (0, .ref (ad 1)), (1, .long h)]) hx hb dX4_mixedInto_141 rfl hl (by decide) rfl (fun ls hl => ?_)
                refine lv_lload_n hx hb dX4_mixedInto_142 rfl (lv_at hl 0 rfl) ?_
                refine lv_aload_n hx hb dX4_mixedInto_143 rfl (lv_at hl 2 rfl) ?_
                refine z_get X Z 0 rfl (rfl : zCl[3]? = some (RX4, TX4, 7)) zU_X4 5 (by decide) wF_X4_24 rfl rfl dX4_mixedInto_144 ?_
                refine lv_iload hx hb dX4_mixedInto_147 (lv_at hl 1 rfl) ?_
                refine z_iald (j := j120) X Z 5 rfl rfl (by omega) (by decide) dX4_mixedInto_149 ?_
                refine lv_i2l hx hb dX4_mixedInto_150 rfl ?_
                refine z_callSN (mc := 0) (ms := 0) (As := [.long (zf_X8_mix x3 ((POX j120).toInt64)), .long ((POY j120).toInt64)]) (rest := []) (st2 := [.long (zf_X8_mix (zf_X8_mix x3 ((POX j120).toInt64)) ((POY j120).toInt64))]) (cs2 := [wPlat g ad PX PY PC PN POX POY POW]) X Z [] [0] [0] (zc_X8_mix l g B (zf_X8_mix x3 ((POX j120).toInt64)) ((POY j120).toInt64)) (by decide +kernel : Cond.methodLinkNest RX4 83 yX8_mix "TripodScale" ∈ zNw) wS_X8_mix wK_X8_mix wZ_X8 2 1 1 rfl (by decide +kernel) rfl (by decide) rfl rfl rfl (by decide) rfl hl.1 rfl rfl (by rw [hRf, hRl]; exact ⟨Nat.le_of_ble_eq_true rfl, Nat.le_of_ble_eq_true rfl⟩) (Nat.le_of_ble_eq_true rfl) ⟨Nat.zero_le _, Nat.zero_le _⟩ dX4_mixedInto_151 (fun H locs Z => ?_)
                refine lv_lstore_n (lv' := [(3, .long (zf_X8_mix (zf_X8_mix x3 ((POX j120).toInt64)) ((POY j120).toInt64))), (5, .int (nI j120)), (0, .ref (ad 1)), (1, .long h)]) hx hb dX4_mixedInto_154 rfl hl (by decide) rfl (fun ls hl => ?_)
                refine lv_lload_n hx hb dX4_mixedInto_155 rfl (lv_at hl 0 rfl) ?_
                refine lv_aload_n hx hb dX4_mixedInto_156 rfl (lv_at hl 2 rfl) ?_
                refine z_get X Z 0 rfl (rfl : zCl[3]? = some (RX4, TX4, 7)) zU_X4 6 (by decide) wF_X4_27 rfl rfl dX4_mixedInto_157 ?_
                refine lv_iload hx hb dX4_mixedInto_160 (lv_at hl 1 rfl) ?_
                refine z_iald (j := j120) X Z 6 rfl rfl (by omega) (by decide) dX4_mixedInto_162 ?_
                refine lv_i2l hx hb dX4_mixedInto_163 rfl ?_
                refine z_callSN (mc := 0) (ms := 0) (As := [.long (zf_X8_mix (zf_X8_mix x3 ((POX j120).toInt64)) ((POY j120).toInt64)), .long ((POW j120).toInt64)]) (rest := []) (st2 := [.long (zf_X8_mix (zf_X8_mix (zf_X8_mix x3 ((POX j120).toInt64)) ((POY j120).toInt64)) ((POW j120).toInt64))]) (cs2 := [wPlat g ad PX PY PC PN POX POY POW]) X Z [] [0] [0] (zc_X8_mix l g B (zf_X8_mix (zf_X8_mix x3 ((POX j120).toInt64)) ((POY j120).toInt64)) ((POW j120).toInt64)) (by decide +kernel : Cond.methodLinkNest RX4 83 yX8_mix "TripodScale" ∈ zNw) wS_X8_mix wK_X8_mix wZ_X8 2 1 1 rfl (by decide +kernel) rfl (by decide) rfl rfl rfl (by decide) rfl hl.1 rfl rfl (by rw [hRf, hRl]; exact ⟨Nat.le_of_ble_eq_true rfl, Nat.le_of_ble_eq_true rfl⟩) (Nat.le_of_ble_eq_true rfl) ⟨Nat.zero_le _, Nat.zero_le _⟩ dX4_mixedInto_164 (fun H locs Z => ?_)
                refine lv_lstore_n (lv' := [(3, .long (zf_X8_mix (zf_X8_mix (zf_X8_mix x3 ((POX j120).toInt64)) ((POY j120).toInt64)) ((POW j120).toInt64))), (5, .int (nI j120)), (0, .ref (ad 1)), (1, .long h)]) hx hb dX4_mixedInto_167 rfl hl (by decide) rfl (fun ls hl => ?_)
                refine z_iinc (b := (j120 + 1)) (st := 1) (lv' := [(5, .int (nI (j120 + 1))), (3, .long (zf_X8_mix (zf_X8_mix (zf_X8_mix x3 ((POX j120).toInt64)) ((POY j120).toInt64)) ((POW j120).toInt64))), (0, .ref (ad 1)), (1, .long h)]) X dX4_mixedInto_168 hl (k := 1) rfl rfl (by decide) (by omega) (by decide) rfl (fun ls hl => ?_)
                refine lv_goto (tgt := 120) hx hb dX4_mixedInto_171 (by decide) ?_
                exact ih120 (j120 + 1) (zf_X8_mix (zf_X8_mix (zf_X8_mix x3 ((POX j120).toInt64)) ((POY j120).toInt64)) ((POW j120).toInt64)) (by omega) (by have h9 := hR120; rw [zl_X4_mixedInto_120_s] at h9; exact h9) _ _ Z ls (lv_sub hl [0, 1, 2, 3] rfl)
          exact loop_120 PN 0 (zf_X8_mix (zf_X8_mix (zf_X8_mix (zl_X4_mixedInto_5 PX PY PC PN POX POY POW 3 0 h) (0 : Int64)) ((zf_X4_overloadedCells PX PY PC PN POX POY POW).toInt64)) (lN PN)) (by omega) rfl _ _ Z ls (lv_sub hl [0, 1, 2, 3] rfl)
        · refine lv_lconst (v := (1 : Int64)) hx hb dX4_mixedInto_88 (by decide) ?_
          refine lv_goto (tgt := 93) hx hb dX4_mixedInto_89 (by decide) ?_
          refine z_callSN (mc := 0) (ms := 0) (As := [.long (zl_X4_mixedInto_5 PX PY PC PN POX POY POW 3 0 h), .long (1 : Int64)]) (rest := []) (st2 := [.long (zf_X8_mix (zl_X4_mixedInto_5 PX PY PC PN POX POY POW 3 0 h) (1 : Int64))]) (cs2 := [wPlat g ad PX PY PC PN POX POY POW]) X Z [] [0] [0] (zc_X8_mix l g B (zl_X4_mixedInto_5 PX PY PC PN POX POY POW 3 0 h) (1 : Int64)) (by decide +kernel : Cond.methodLinkNest RX4 83 yX8_mix "TripodScale" ∈ zNw) wS_X8_mix wK_X8_mix wZ_X8 2 1 1 rfl (by decide +kernel) rfl (by decide) rfl rfl rfl (by decide) rfl hl.1 rfl rfl (by rw [hRf, hRl]; exact ⟨Nat.le_of_ble_eq_true rfl, Nat.le_of_ble_eq_true rfl⟩) (Nat.le_of_ble_eq_true rfl) ⟨Nat.zero_le _, Nat.zero_le _⟩ dX4_mixedInto_93 (fun H locs Z => ?_)
          refine lv_lstore_n (lv' := [(3, .long (zf_X8_mix (zl_X4_mixedInto_5 PX PY PC PN POX POY POW 3 0 h) (1 : Int64))), (5, .int (nI j5)), (0, .ref (ad 1)), (1, .long h)]) hx hb dX4_mixedInto_96 rfl hl (by decide) rfl (fun ls hl => ?_)
          refine lv_lload_n hx hb dX4_mixedInto_97 rfl (lv_at hl 0 rfl) ?_
          refine lv_aload_n hx hb dX4_mixedInto_98 rfl (lv_at hl 2 rfl) ?_
          refine z_callV (mc := 0) (ms := 0) (As := []) (rest := [.long (zf_X8_mix (zl_X4_mixedInto_5 PX PY PC PN POX POY POW 3 0 h) (1 : Int64))]) (st2 := [.int (zf_X4_overloadedCells PX PY PC PN POX POY POW), .long (zf_X8_mix (zl_X4_mixedInto_5 PX PY PC PN POX POY POW 3 0 h) (1 : Int64))]) (cs2 := [wPlat g ad PX PY PC PN POX POY POW]) X Z [0] [] [0] 0 3 (zc_X4_overloadedCells l g B ad PX PY PC PN POX POY POW (by first | assumption | omega | decide)) wM_X4_74 wS_X4_overloadedCells wV_X4_overloadedCells wK_X4_overloadedCells wZ_X4 0 1 1 rfl (by decide +kernel) rfl (by decide) rfl rfl rfl (by decide) rfl rfl (rfl : zCl[3]? = some (RX4, TX4, 7)) hl.1 rfl rfl (by rw [hRf, hRl]; exact ⟨Nat.le_of_ble_eq_true rfl, Nat.le_of_ble_eq_true rfl⟩) (Nat.le_of_ble_eq_true rfl) ⟨Nat.zero_le _, Nat.zero_le _⟩ dX4_mixedInto_99 (fun H locs Z => ?_)
          refine lv_i2l hx hb dX4_mixedInto_102 rfl ?_
          refine z_callSN (mc := 0) (ms := 0) (As := [.long (zf_X8_mix (zl_X4_mixedInto_5 PX PY PC PN POX POY POW 3 0 h) (1 : Int64)), .long ((zf_X4_overloadedCells PX PY PC PN POX POY POW).toInt64)]) (rest := []) (st2 := [.long (zf_X8_mix (zf_X8_mix (zl_X4_mixedInto_5 PX PY PC PN POX POY POW 3 0 h) (1 : Int64)) ((zf_X4_overloadedCells PX PY PC PN POX POY POW).toInt64))]) (cs2 := [wPlat g ad PX PY PC PN POX POY POW]) X Z [] [0] [0] (zc_X8_mix l g B (zf_X8_mix (zl_X4_mixedInto_5 PX PY PC PN POX POY POW 3 0 h) (1 : Int64)) ((zf_X4_overloadedCells PX PY PC PN POX POY POW).toInt64)) (by decide +kernel : Cond.methodLinkNest RX4 83 yX8_mix "TripodScale" ∈ zNw) wS_X8_mix wK_X8_mix wZ_X8 2 1 1 rfl (by decide +kernel) rfl (by decide) rfl rfl rfl (by decide) rfl hl.1 rfl rfl (by rw [hRf, hRl]; exact ⟨Nat.le_of_ble_eq_true rfl, Nat.le_of_ble_eq_true rfl⟩) (Nat.le_of_ble_eq_true rfl) ⟨Nat.zero_le _, Nat.zero_le _⟩ dX4_mixedInto_103 (fun H locs Z => ?_)
          refine lv_lstore_n (lv' := [(3, .long (zf_X8_mix (zf_X8_mix (zl_X4_mixedInto_5 PX PY PC PN POX POY POW 3 0 h) (1 : Int64)) ((zf_X4_overloadedCells PX PY PC PN POX POY POW).toInt64))), (5, .int (nI j5)), (0, .ref (ad 1)), (1, .long h)]) hx hb dX4_mixedInto_106 rfl hl (by decide) rfl (fun ls hl => ?_)
          refine lv_lload_n hx hb dX4_mixedInto_107 rfl (lv_at hl 0 rfl) ?_
          refine lv_aload_n hx hb dX4_mixedInto_108 rfl (lv_at hl 2 rfl) ?_
          refine z_get X Z 0 rfl (rfl : zCl[3]? = some (RX4, TX4, 7)) zU_X4 3 (by decide) wF_X4_36 rfl rfl dX4_mixedInto_109 ?_
          refine z_i2l (a := PN) X rfl (by omega) dX4_mixedInto_112 ?_
          refine z_callSN (mc := 0) (ms := 0) (As := [.long (zf_X8_mix (zf_X8_mix (zl_X4_mixedInto_5 PX PY PC PN POX POY POW 3 0 h) (1 : Int64)) ((zf_X4_overloadedCells PX PY PC PN POX POY POW).toInt64)), .long (lN PN)]) (rest := []) (st2 := [.long (zf_X8_mix (zf_X8_mix (zf_X8_mix (zl_X4_mixedInto_5 PX PY PC PN POX POY POW 3 0 h) (1 : Int64)) ((zf_X4_overloadedCells PX PY PC PN POX POY POW).toInt64)) (lN PN))]) (cs2 := [wPlat g ad PX PY PC PN POX POY POW]) X Z [] [0] [0] (zc_X8_mix l g B (zf_X8_mix (zf_X8_mix (zl_X4_mixedInto_5 PX PY PC PN POX POY POW 3 0 h) (1 : Int64)) ((zf_X4_overloadedCells PX PY PC PN POX POY POW).toInt64)) (lN PN)) (by decide +kernel : Cond.methodLinkNest RX4 83 yX8_mix "TripodScale" ∈ zNw) wS_X8_mix wK_X8_mix wZ_X8 2 1 1 rfl (by decide +kernel) rfl (by decide) rfl rfl rfl (by decide) rfl hl.1 rfl rfl (by rw [hRf, hRl]; exact ⟨Nat.le_of_ble_eq_true rfl, Nat.le_of_ble_eq_true rfl⟩) (Nat.le_of_ble_eq_true rfl) ⟨Nat.zero_le _, Nat.zero_le _⟩ dX4_mixedInto_113 (fun H locs Z => ?_)
          refine lv_lstore_n (lv' := [(3, .long (zf_X8_mix (zf_X8_mix (zf_X8_mix (zl_X4_mixedInto_5 PX PY PC PN POX POY POW 3 0 h) (1 : Int64)) ((zf_X4_overloadedCells PX PY PC PN POX POY POW).toInt64)) (lN PN))), (5, .int (nI j5)), (0, .ref (ad 1)), (1, .long h)]) hx hb dX4_mixedInto_116 rfl hl (by decide) rfl (fun ls hl => ?_)
          refine lv_iconst (v := (0 : Int32)) hx hb dX4_mixedInto_117 (by decide) ?_
          refine lv_istore (lv' := [(5, .int (0 : Int32)), (3, .long (zf_X8_mix (zf_X8_mix (zf_X8_mix (zl_X4_mixedInto_5 PX PY PC PN POX POY POW 3 0 h) (1 : Int64)) ((zf_X4_overloadedCells PX PY PC PN POX POY POW).toInt64)) (lN PN))), (0, .ref (ad 1)), (1, .long h)]) hx hb dX4_mixedInto_118 hl (by decide) rfl (fun ls hl => ?_)
          have loop_120 : ∀ (n120 j120 : Nat) (x3 : Int64), j120 + n120 = PN → zl_X4_mixedInto_120 POX POY POW n120 j120 x3 = (zl_X4_mixedInto_120 POX POY POW PN 0 (zf_X8_mix (zf_X8_mix (zf_X8_mix (zl_X4_mixedInto_5 PX PY PC PN POX POY POW 3 0 h) (1 : Int64)) ((zf_X4_overloadedCells PX PY PC PN POX POY POW).toInt64)) (lN PN))) → ∀ (H : Heap) (locs : List Loc), zM g B A s [wPlat g ad PX PY PC PN POX POY POW] H locs → ∀ ls : Array Slot, lv_has ls 6 [(5, .int (nI j120)), (3, .long x3), (0, .ref (ad 1)), (1, .long h)] → W p l e R s m args below meth c H locs 0 0 Q (F0 m 120 ls []) := by
            intro n120
            induction n120 with
            | zero =>
              intro j120 x3 hin120 hR120 H locs Z ls hl
              have e_x3 : (zl_X4_mixedInto_120 POX POY POW PN 0 (zf_X8_mix (zf_X8_mix (zf_X8_mix (zl_X4_mixedInto_5 PX PY PC PN POX POY POW 3 0 h) (1 : Int64)) ((zf_X4_overloadedCells PX PY PC PN POX POY POW).toInt64)) (lN PN))) = x3 := hR120.symm
              subst e_x3
              refine lv_iload hx hb dX4_mixedInto_120 (lv_at hl 0 rfl) ?_
              refine lv_aload_n hx hb dX4_mixedInto_122 rfl (lv_at hl 2 rfl) ?_
              refine z_get X Z 0 rfl (rfl : zCl[3]? = some (RX4, TX4, 7)) zU_X4 3 (by decide) wF_X4_36 rfl rfl dX4_mixedInto_123 ?_
              refine z_icmp_ge (a := j120) (b := PN) (tgt := 174) X rfl rfl (by omega) (by omega) dX4_mixedInto_126 (by decide) (fun c_5 => ?_) (fun c_5 => ?_)
              · refine lv_lload_n hx hb dX4_mixedInto_174 rfl (lv_at hl 1 rfl) ?_
                exact z_rl (v := (zl_X4_mixedInto_120 POX POY POW PN 0 (zf_X8_mix (zf_X8_mix (zf_X8_mix (zl_X4_mixedInto_5 PX PY PC PN POX POY POW 3 0 h) (1 : Int64)) ((zf_X4_overloadedCells PX PY PC PN POX POY POW).toInt64)) (lN PN)))) E Z (by rw [zf_X4_mixedInto_e, if_pos c_2]; exact ⟨rfl, rfl⟩) dX4_mixedInto_175 (Nat.zero_le _) (Nat.zero_le _)
              · (exfalso; omega)
            | succ n120 ih120 =>
              intro j120 x3 hin120 hR120 H locs Z ls hl
              refine lv_iload hx hb dX4_mixedInto_120 (lv_at hl 0 rfl) ?_
              refine lv_aload_n hx hb dX4_mixedInto_122 rfl (lv_at hl 2 rfl) ?_
              refine z_get X Z 0 rfl (rfl : zCl[3]? = some (RX4, TX4, 7)) zU_X4 3 (by decide) wF_X4_36 rfl rfl dX4_mixedInto_123 ?_
              refine z_icmp_ge (a := j120) (b := PN) (tgt := 174) X rfl rfl (by omega) (by omega) dX4_mixedInto_126 (by decide) (fun c_6 => ?_) (fun c_6 => ?_)
              · (exfalso; omega)
              · refine lv_lload_n hx hb dX4_mixedInto_129 rfl (lv_at hl 1 rfl) ?_
                refine lv_aload_n hx hb dX4_mixedInto_130 rfl (lv_at hl 2 rfl) ?_
                refine z_get X Z 0 rfl (rfl : zCl[3]? = some (RX4, TX4, 7)) zU_X4 4 (by decide) wF_X4_21 rfl rfl dX4_mixedInto_131 ?_
                refine lv_iload hx hb dX4_mixedInto_134 (lv_at hl 0 rfl) ?_
                refine z_iald (j := j120) X Z 4 rfl rfl (by omega) (by decide) dX4_mixedInto_136 ?_
                refine lv_i2l hx hb dX4_mixedInto_137 rfl ?_
                refine z_callSN (mc := 0) (ms := 0) (As := [.long x3, .long ((POX j120).toInt64)]) (rest := []) (st2 := [.long (zf_X8_mix x3 ((POX j120).toInt64))]) (cs2 := [wPlat g ad PX PY PC PN POX POY POW]) X Z [] [0] [0] (zc_X8_mix l g B x3 ((POX j120).toInt64)) (by decide +kernel : Cond.methodLinkNest RX4 83 yX8_mix "TripodScale" ∈ zNw) wS_X8_mix wK_X8_mix wZ_X8 2 1 1 rfl (by decide +kernel) rfl (by decide) rfl rfl rfl (by decide) rfl hl.1 rfl rfl (by rw [hRf, hRl]; exact ⟨Nat.le_of_ble_eq_true rfl, Nat.le_of_ble_eq_true rfl⟩) (Nat.le_of_ble_eq_true rfl) ⟨Nat.zero_le _, Nat.zero_le _⟩ dX4_mixedInto_138 (fun H locs Z => ?_)
                refine lv_lstore_n (lv' := [(3, .long (zf_X8_mix x3 ((POX j120).toInt64))), (5, .int (nI j120)), (0, .ref (ad 1)), (1, .long h)]) hx hb dX4_mixedInto_141 rfl hl (by decide) rfl (fun ls hl => ?_)
                refine lv_lload_n hx hb dX4_mixedInto_142 rfl (lv_at hl 0 rfl) ?_
                refine lv_aload_n hx hb dX4_mixedInto_143 rfl (lv_at hl 2 rfl) ?_
                refine z_get X Z 0 rfl (rfl : zCl[3]? = some (RX4, TX4, 7)) zU_X4 5 (by decide) wF_X4_24 rfl rfl dX4_mixedInto_144 ?_
                refine lv_iload hx hb dX4_mixedInto_147 (lv_at hl 1 rfl) ?_
                refine z_iald (j := j120) X Z 5 rfl rfl (by omega) (by decide) dX4_mixedInto_149 ?_
                refine lv_i2l hx hb dX4_mixedInto_150 rfl ?_
                refine z_callSN (mc := 0) (ms := 0) (As := [.long (zf_X8_mix x3 ((POX j120).toInt64)), .long ((POY j120).toInt64)]) (rest := []) (st2 := [.long (zf_X8_mix (zf_X8_mix x3 ((POX j120).toInt64)) ((POY j120).toInt64))]) (cs2 := [wPlat g ad PX PY PC PN POX POY POW]) X Z [] [0] [0] (zc_X8_mix l g B (zf_X8_mix x3 ((POX j120).toInt64)) ((POY j120).toInt64)) (by decide +kernel : Cond.methodLinkNest RX4 83 yX8_mix "TripodScale" ∈ zNw) wS_X8_mix wK_X8_mix wZ_X8 2 1 1 rfl (by decide +kernel) rfl (by decide) rfl rfl rfl (by decide) rfl hl.1 rfl rfl (by rw [hRf, hRl]; exact ⟨Nat.le_of_ble_eq_true rfl, Nat.le_of_ble_eq_true rfl⟩) (Nat.le_of_ble_eq_true rfl) ⟨Nat.zero_le _, Nat.zero_le _⟩ dX4_mixedInto_151 (fun H locs Z => ?_)
                refine lv_lstore_n (lv' := [(3, .long (zf_X8_mix (zf_X8_mix x3 ((POX j120).toInt64)) ((POY j120).toInt64))), (5, .int (nI j120)), (0, .ref (ad 1)), (1, .long h)]) hx hb dX4_mixedInto_154 rfl hl (by decide) rfl (fun ls hl => ?_)
                refine lv_lload_n hx hb dX4_mixedInto_155 rfl (lv_at hl 0 rfl) ?_
                refine lv_aload_n hx hb dX4_mixedInto_156 rfl (lv_at hl 2 rfl) ?_
                refine z_get X Z 0 rfl (rfl : zCl[3]? = some (RX4, TX4, 7)) zU_X4 6 (by decide) wF_X4_27 rfl rfl dX4_mixedInto_157 ?_
                refine lv_iload hx hb dX4_mixedInto_160 (lv_at hl 1 rfl) ?_
                refine z_iald (j := j120) X Z 6 rfl rfl (by omega) (by decide) dX4_mixedInto_162 ?_
                refine lv_i2l hx hb dX4_mixedInto_163 rfl ?_
                refine z_callSN (mc := 0) (ms := 0) (As := [.long (zf_X8_mix (zf_X8_mix x3 ((POX j120).toInt64)) ((POY j120).toInt64)), .long ((POW j120).toInt64)]) (rest := []) (st2 := [.long (zf_X8_mix (zf_X8_mix (zf_X8_mix x3 ((POX j120).toInt64)) ((POY j120).toInt64)) ((POW j120).toInt64))]) (cs2 := [wPlat g ad PX PY PC PN POX POY POW]) X Z [] [0] [0] (zc_X8_mix l g B (zf_X8_mix (zf_X8_mix x3 ((POX j120).toInt64)) ((POY j120).toInt64)) ((POW j120).toInt64)) (by decide +kernel : Cond.methodLinkNest RX4 83 yX8_mix "TripodScale" ∈ zNw) wS_X8_mix wK_X8_mix wZ_X8 2 1 1 rfl (by decide +kernel) rfl (by decide) rfl rfl rfl (by decide) rfl hl.1 rfl rfl (by rw [hRf, hRl]; exact ⟨Nat.le_of_ble_eq_true rfl, Nat.le_of_ble_eq_true rfl⟩) (Nat.le_of_ble_eq_true rfl) ⟨Nat.zero_le _, Nat.zero_le _⟩ dX4_mixedInto_164 (fun H locs Z => ?_)
                refine lv_lstore_n (lv' := [(3, .long (zf_X8_mix (zf_X8_mix (zf_X8_mix x3 ((POX j120).toInt64)) ((POY j120).toInt64)) ((POW j120).toInt64))), (5, .int (nI j120)), (0, .ref (ad 1)), (1, .long h)]) hx hb dX4_mixedInto_167 rfl hl (by decide) rfl (fun ls hl => ?_)
                refine z_iinc (b := (j120 + 1)) (st := 1) (lv' := [(5, .int (nI (j120 + 1))), (3, .long (zf_X8_mix (zf_X8_mix (zf_X8_mix x3 ((POX j120).toInt64)) ((POY j120).toInt64)) ((POW j120).toInt64))), (0, .ref (ad 1)), (1, .long h)]) X dX4_mixedInto_168 hl (k := 1) rfl rfl (by decide) (by omega) (by decide) rfl (fun ls hl => ?_)
                refine lv_goto (tgt := 120) hx hb dX4_mixedInto_171 (by decide) ?_
                exact ih120 (j120 + 1) (zf_X8_mix (zf_X8_mix (zf_X8_mix x3 ((POX j120).toInt64)) ((POY j120).toInt64)) ((POW j120).toInt64)) (by omega) (by have h9 := hR120; rw [zl_X4_mixedInto_120_s] at h9; exact h9) _ _ Z ls (lv_sub hl [0, 1, 2, 3] rfl)
          exact loop_120 PN 0 (zf_X8_mix (zf_X8_mix (zf_X8_mix (zl_X4_mixedInto_5 PX PY PC PN POX POY POW 3 0 h) (1 : Int64)) ((zf_X4_overloadedCells PX PY PC PN POX POY POW).toInt64)) (lN PN)) (by omega) rfl _ _ Z ls (lv_sub hl [0, 1, 2, 3] rfl)
      · (exfalso; omega)
    | succ n5 ih5 =>
      intro j5 x3 hin5 hR5 H locs Z ls hl
      refine lv_iload hx hb dX4_mixedInto_5 (lv_at hl 0 rfl) ?_
      refine lv_iconst (v := (3 : Int32)) hx hb dX4_mixedInto_7 (by decide) ?_
      refine z_icmp_ge (a := j5) (b := 3) (tgt := 80) X rfl rfl (by omega) (by omega) dX4_mixedInto_8 (by decide) (fun c_7 => ?_) (fun c_7 => ?_)
      · (exfalso; omega)
      · refine lv_lload_n hx hb dX4_mixedInto_11 rfl (lv_at hl 1 rfl) ?_
        refine lv_aload_n hx hb dX4_mixedInto_12 rfl (lv_at hl 2 rfl) ?_
        refine z_get X Z 0 rfl (rfl : zCl[3]? = some (RX4, TX4, 7)) zU_X4 0 (by decide) wF_X4_9 rfl rfl dX4_mixedInto_13 ?_
        refine lv_iload hx hb dX4_mixedInto_16 (lv_at hl 0 rfl) ?_
        refine z_iald (j := j5) X Z 1 rfl rfl (by omega) (by decide) dX4_mixedInto_18 ?_
        refine lv_i2l hx hb dX4_mixedInto_19 rfl ?_
        refine z_callSN (mc := 0) (ms := 0) (As := [.long x3, .long ((PX j5).toInt64)]) (rest := []) (st2 := [.long (zf_X8_mix x3 ((PX j5).toInt64))]) (cs2 := [wPlat g ad PX PY PC PN POX POY POW]) X Z [] [0] [0] (zc_X8_mix l g B x3 ((PX j5).toInt64)) (by decide +kernel : Cond.methodLinkNest RX4 83 yX8_mix "TripodScale" ∈ zNw) wS_X8_mix wK_X8_mix wZ_X8 2 1 1 rfl (by decide +kernel) rfl (by decide) rfl rfl rfl (by decide) rfl hl.1 rfl rfl (by rw [hRf, hRl]; exact ⟨Nat.le_of_ble_eq_true rfl, Nat.le_of_ble_eq_true rfl⟩) (Nat.le_of_ble_eq_true rfl) ⟨Nat.zero_le _, Nat.zero_le _⟩ dX4_mixedInto_20 (fun H locs Z => ?_)
        refine lv_lstore_n (lv' := [(3, .long (zf_X8_mix x3 ((PX j5).toInt64))), (5, .int (nI j5)), (0, .ref (ad 1)), (1, .long h)]) hx hb dX4_mixedInto_23 rfl hl (by decide) rfl (fun ls hl => ?_)
        refine lv_lload_n hx hb dX4_mixedInto_24 rfl (lv_at hl 0 rfl) ?_
        refine lv_aload_n hx hb dX4_mixedInto_25 rfl (lv_at hl 2 rfl) ?_
        refine z_get X Z 0 rfl (rfl : zCl[3]? = some (RX4, TX4, 7)) zU_X4 1 (by decide) wF_X4_15 rfl rfl dX4_mixedInto_26 ?_
        refine lv_iload hx hb dX4_mixedInto_29 (lv_at hl 1 rfl) ?_
        refine z_iald (j := j5) X Z 2 rfl rfl (by omega) (by decide) dX4_mixedInto_31 ?_
        refine lv_i2l hx hb dX4_mixedInto_32 rfl ?_
        refine z_callSN (mc := 0) (ms := 0) (As := [.long (zf_X8_mix x3 ((PX j5).toInt64)), .long ((PY j5).toInt64)]) (rest := []) (st2 := [.long (zf_X8_mix (zf_X8_mix x3 ((PX j5).toInt64)) ((PY j5).toInt64))]) (cs2 := [wPlat g ad PX PY PC PN POX POY POW]) X Z [] [0] [0] (zc_X8_mix l g B (zf_X8_mix x3 ((PX j5).toInt64)) ((PY j5).toInt64)) (by decide +kernel : Cond.methodLinkNest RX4 83 yX8_mix "TripodScale" ∈ zNw) wS_X8_mix wK_X8_mix wZ_X8 2 1 1 rfl (by decide +kernel) rfl (by decide) rfl rfl rfl (by decide) rfl hl.1 rfl rfl (by rw [hRf, hRl]; exact ⟨Nat.le_of_ble_eq_true rfl, Nat.le_of_ble_eq_true rfl⟩) (Nat.le_of_ble_eq_true rfl) ⟨Nat.zero_le _, Nat.zero_le _⟩ dX4_mixedInto_33 (fun H locs Z => ?_)
        refine lv_lstore_n (lv' := [(3, .long (zf_X8_mix (zf_X8_mix x3 ((PX j5).toInt64)) ((PY j5).toInt64))), (5, .int (nI j5)), (0, .ref (ad 1)), (1, .long h)]) hx hb dX4_mixedInto_36 rfl hl (by decide) rfl (fun ls hl => ?_)
        refine lv_lload_n hx hb dX4_mixedInto_37 rfl (lv_at hl 0 rfl) ?_
        refine lv_aload_n hx hb dX4_mixedInto_38 rfl (lv_at hl 2 rfl) ?_
        refine z_get X Z 0 rfl (rfl : zCl[3]? = some (RX4, TX4, 7)) zU_X4 2 (by decide) wF_X4_18 rfl rfl dX4_mixedInto_39 ?_
        refine lv_iload hx hb dX4_mixedInto_42 (lv_at hl 1 rfl) ?_
        refine z_iald (j := j5) X Z 3 rfl rfl (by omega) (by decide) dX4_mixedInto_44 ?_
        refine lv_i2l hx hb dX4_mixedInto_45 rfl ?_
        refine z_callSN (mc := 0) (ms := 0) (As := [.long (zf_X8_mix (zf_X8_mix x3 ((PX j5).toInt64)) ((PY j5).toInt64)), .long ((PC j5).toInt64)]) (rest := []) (st2 := [.long (zf_X8_mix (zf_X8_mix (zf_X8_mix x3 ((PX j5).toInt64)) ((PY j5).toInt64)) ((PC j5).toInt64))]) (cs2 := [wPlat g ad PX PY PC PN POX POY POW]) X Z [] [0] [0] (zc_X8_mix l g B (zf_X8_mix (zf_X8_mix x3 ((PX j5).toInt64)) ((PY j5).toInt64)) ((PC j5).toInt64)) (by decide +kernel : Cond.methodLinkNest RX4 83 yX8_mix "TripodScale" ∈ zNw) wS_X8_mix wK_X8_mix wZ_X8 2 1 1 rfl (by decide +kernel) rfl (by decide) rfl rfl rfl (by decide) rfl hl.1 rfl rfl (by rw [hRf, hRl]; exact ⟨Nat.le_of_ble_eq_true rfl, Nat.le_of_ble_eq_true rfl⟩) (Nat.le_of_ble_eq_true rfl) ⟨Nat.zero_le _, Nat.zero_le _⟩ dX4_mixedInto_46 (fun H locs Z => ?_)
        refine lv_lstore_n (lv' := [(3, .long (zf_X8_mix (zf_X8_mix (zf_X8_mix x3 ((PX j5).toInt64)) ((PY j5).toInt64)) ((PC j5).toInt64))), (5, .int (nI j5)), (0, .ref (ad 1)), (1, .long h)]) hx hb dX4_mixedInto_49 rfl hl (by decide) rfl (fun ls hl => ?_)
        refine lv_lload_n hx hb dX4_mixedInto_50 rfl (lv_at hl 0 rfl) ?_
        refine lv_aload_n hx hb dX4_mixedInto_51 rfl (lv_at hl 2 rfl) ?_
        refine lv_iload hx hb dX4_mixedInto_52 (lv_at hl 1 rfl) ?_
        refine lv_iconst (v := (0 : Int32)) hx hb dX4_mixedInto_54 (by decide) ?_
        refine z_callV (mc := 0) (ms := 0) (As := [.int (nI j5), .int (0 : Int32)]) (rest := [.long (zf_X8_mix (zf_X8_mix (zf_X8_mix x3 ((PX j5).toInt64)) ((PY j5).toInt64)) ((PC j5).toInt64))]) (st2 := [.long (zf_X4_loadPart PX PY PN POX POY POW j5 (0 : Int32)), .long (zf_X8_mix (zf_X8_mix (zf_X8_mix x3 ((PX j5).toInt64)) ((PY j5).toInt64)) ((PC j5).toInt64))]) (cs2 := [wPlat g ad PX PY PC PN POX POY POW]) X Z [0] [] [0] 0 3 (zc_X4_loadPart l g B ad PX PY PC PN POX POY POW j5 (0 : Int32) (by first | assumption | omega | decide) (by first | assumption | omega | decide)) wM_X4_86 wS_X4_loadPart wV_X4_loadPart wK_X4_loadPart wZ_X4 2 1 1 rfl (by decide +kernel) rfl (by decide) rfl rfl rfl (by decide) rfl rfl (rfl : zCl[3]? = some (RX4, TX4, 7)) hl.1 rfl rfl (by rw [hRf, hRl]; exact ⟨Nat.le_of_ble_eq_true rfl, Nat.le_of_ble_eq_true rfl⟩) (Nat.le_of_ble_eq_true rfl) ⟨Nat.zero_le _, Nat.zero_le _⟩ dX4_mixedInto_55 (fun H locs Z => ?_)
        refine z_callSN (mc := 0) (ms := 0) (As := [.long (zf_X8_mix (zf_X8_mix (zf_X8_mix x3 ((PX j5).toInt64)) ((PY j5).toInt64)) ((PC j5).toInt64)), .long (zf_X4_loadPart PX PY PN POX POY POW j5 (0 : Int32))]) (rest := []) (st2 := [.long (zf_X8_mix (zf_X8_mix (zf_X8_mix (zf_X8_mix x3 ((PX j5).toInt64)) ((PY j5).toInt64)) ((PC j5).toInt64)) (zf_X4_loadPart PX PY PN POX POY POW j5 (0 : Int32)))]) (cs2 := [wPlat g ad PX PY PC PN POX POY POW]) X Z [] [0] [0] (zc_X8_mix l g B (zf_X8_mix (zf_X8_mix (zf_X8_mix x3 ((PX j5).toInt64)) ((PY j5).toInt64)) ((PC j5).toInt64)) (zf_X4_loadPart PX PY PN POX POY POW j5 (0 : Int32))) (by decide +kernel : Cond.methodLinkNest RX4 83 yX8_mix "TripodScale" ∈ zNw) wS_X8_mix wK_X8_mix wZ_X8 2 1 1 rfl (by decide +kernel) rfl (by decide) rfl rfl rfl (by decide) rfl hl.1 rfl rfl (by rw [hRf, hRl]; exact ⟨Nat.le_of_ble_eq_true rfl, Nat.le_of_ble_eq_true rfl⟩) (Nat.le_of_ble_eq_true rfl) ⟨Nat.zero_le _, Nat.zero_le _⟩ dX4_mixedInto_58 (fun H locs Z => ?_)
        refine lv_lstore_n (lv' := [(3, .long (zf_X8_mix (zf_X8_mix (zf_X8_mix (zf_X8_mix x3 ((PX j5).toInt64)) ((PY j5).toInt64)) ((PC j5).toInt64)) (zf_X4_loadPart PX PY PN POX POY POW j5 (0 : Int32)))), (5, .int (nI j5)), (0, .ref (ad 1)), (1, .long h)]) hx hb dX4_mixedInto_61 rfl hl (by decide) rfl (fun ls hl => ?_)
        refine lv_lload_n hx hb dX4_mixedInto_62 rfl (lv_at hl 0 rfl) ?_
        refine lv_aload_n hx hb dX4_mixedInto_63 rfl (lv_at hl 2 rfl) ?_
        refine lv_iload hx hb dX4_mixedInto_64 (lv_at hl 1 rfl) ?_
        refine lv_iconst (v := (1 : Int32)) hx hb dX4_mixedInto_66 (by decide) ?_
        refine z_callV (mc := 0) (ms := 0) (As := [.int (nI j5), .int (1 : Int32)]) (rest := [.long (zf_X8_mix (zf_X8_mix (zf_X8_mix (zf_X8_mix x3 ((PX j5).toInt64)) ((PY j5).toInt64)) ((PC j5).toInt64)) (zf_X4_loadPart PX PY PN POX POY POW j5 (0 : Int32)))]) (st2 := [.long (zf_X4_loadPart PX PY PN POX POY POW j5 (1 : Int32)), .long (zf_X8_mix (zf_X8_mix (zf_X8_mix (zf_X8_mix x3 ((PX j5).toInt64)) ((PY j5).toInt64)) ((PC j5).toInt64)) (zf_X4_loadPart PX PY PN POX POY POW j5 (0 : Int32)))]) (cs2 := [wPlat g ad PX PY PC PN POX POY POW]) X Z [0] [] [0] 0 3 (zc_X4_loadPart l g B ad PX PY PC PN POX POY POW j5 (1 : Int32) (by first | assumption | omega | decide) (by first | assumption | omega | decide)) wM_X4_86 wS_X4_loadPart wV_X4_loadPart wK_X4_loadPart wZ_X4 2 1 1 rfl (by decide +kernel) rfl (by decide) rfl rfl rfl (by decide) rfl rfl (rfl : zCl[3]? = some (RX4, TX4, 7)) hl.1 rfl rfl (by rw [hRf, hRl]; exact ⟨Nat.le_of_ble_eq_true rfl, Nat.le_of_ble_eq_true rfl⟩) (Nat.le_of_ble_eq_true rfl) ⟨Nat.zero_le _, Nat.zero_le _⟩ dX4_mixedInto_67 (fun H locs Z => ?_)
        refine z_callSN (mc := 0) (ms := 0) (As := [.long (zf_X8_mix (zf_X8_mix (zf_X8_mix (zf_X8_mix x3 ((PX j5).toInt64)) ((PY j5).toInt64)) ((PC j5).toInt64)) (zf_X4_loadPart PX PY PN POX POY POW j5 (0 : Int32))), .long (zf_X4_loadPart PX PY PN POX POY POW j5 (1 : Int32))]) (rest := []) (st2 := [.long (zf_X8_mix (zf_X8_mix (zf_X8_mix (zf_X8_mix (zf_X8_mix x3 ((PX j5).toInt64)) ((PY j5).toInt64)) ((PC j5).toInt64)) (zf_X4_loadPart PX PY PN POX POY POW j5 (0 : Int32))) (zf_X4_loadPart PX PY PN POX POY POW j5 (1 : Int32)))]) (cs2 := [wPlat g ad PX PY PC PN POX POY POW]) X Z [] [0] [0] (zc_X8_mix l g B (zf_X8_mix (zf_X8_mix (zf_X8_mix (zf_X8_mix x3 ((PX j5).toInt64)) ((PY j5).toInt64)) ((PC j5).toInt64)) (zf_X4_loadPart PX PY PN POX POY POW j5 (0 : Int32))) (zf_X4_loadPart PX PY PN POX POY POW j5 (1 : Int32))) (by decide +kernel : Cond.methodLinkNest RX4 83 yX8_mix "TripodScale" ∈ zNw) wS_X8_mix wK_X8_mix wZ_X8 2 1 1 rfl (by decide +kernel) rfl (by decide) rfl rfl rfl (by decide) rfl hl.1 rfl rfl (by rw [hRf, hRl]; exact ⟨Nat.le_of_ble_eq_true rfl, Nat.le_of_ble_eq_true rfl⟩) (Nat.le_of_ble_eq_true rfl) ⟨Nat.zero_le _, Nat.zero_le _⟩ dX4_mixedInto_70 (fun H locs Z => ?_)
        refine lv_lstore_n (lv' := [(3, .long (zf_X8_mix (zf_X8_mix (zf_X8_mix (zf_X8_mix (zf_X8_mix x3 ((PX j5).toInt64)) ((PY j5).toInt64)) ((PC j5).toInt64)) (zf_X4_loadPart PX PY PN POX POY POW j5 (0 : Int32))) (zf_X4_loadPart PX PY PN POX POY POW j5 (1 : Int32)))), (5, .int (nI j5)), (0, .ref (ad 1)), (1, .long h)]) hx hb dX4_mixedInto_73 rfl hl (by decide) rfl (fun ls hl => ?_)
        refine z_iinc (b := (j5 + 1)) (st := 1) (lv' := [(5, .int (nI (j5 + 1))), (3, .long (zf_X8_mix (zf_X8_mix (zf_X8_mix (zf_X8_mix (zf_X8_mix x3 ((PX j5).toInt64)) ((PY j5).toInt64)) ((PC j5).toInt64)) (zf_X4_loadPart PX PY PN POX POY POW j5 (0 : Int32))) (zf_X4_loadPart PX PY PN POX POY POW j5 (1 : Int32)))), (0, .ref (ad 1)), (1, .long h)]) X dX4_mixedInto_74 hl (k := 1) rfl rfl (by decide) (by omega) (by decide) rfl (fun ls hl => ?_)
        refine lv_goto (tgt := 5) hx hb dX4_mixedInto_77 (by decide) ?_
        exact ih5 (j5 + 1) (zf_X8_mix (zf_X8_mix (zf_X8_mix (zf_X8_mix (zf_X8_mix x3 ((PX j5).toInt64)) ((PY j5).toInt64)) ((PC j5).toInt64)) (zf_X4_loadPart PX PY PN POX POY POW j5 (0 : Int32))) (zf_X4_loadPart PX PY PN POX POY POW j5 (1 : Int32))) (by omega) (by have h9 := hR5; rw [zl_X4_mixedInto_5_s] at h9; exact h9) _ _ Z ls (lv_sub hl [0, 1, 2, 3] rfl)
  exact loop_5 3 0 h (by omega) rfl _ _ Z ls (lv_sub hl [0, 1, 2, 3] rfl)
def zf_X4_copyFrom (PX : Nat → Int32) (PY : Nat → Int32) (PC : Nat → Int32) (POX : Nat → Int32) (POY : Nat → Int32) (POW : Nat → Int32) (P2X : Nat → Int32) (P2Y : Nat → Int32) (P2C : Nat → Int32) (P2N : Nat) (P2OX : Nat → Int32) (P2OY : Nat → Int32) (P2OW : Nat → Int32) : (Nat → Int32) × (Nat → Int32) × (Nat → Int32) × Nat × (Nat → Int32) × (Nat → Int32) × (Nat → Int32) := ((va_cpy P2X PX 0 0 3), (va_cpy P2Y PY 0 0 3), (va_cpy P2C PC 0 0 3), P2N, (va_cpy P2OX POX 0 0 8), (va_cpy P2OY POY 0 0 8), (va_cpy P2OW POW 0 0 8))
theorem zf_X4_copyFrom_e (PX : Nat → Int32) (PY : Nat → Int32) (PC : Nat → Int32) (POX : Nat → Int32) (POY : Nat → Int32) (POW : Nat → Int32) (P2X : Nat → Int32) (P2Y : Nat → Int32) (P2C : Nat → Int32) (P2N : Nat) (P2OX : Nat → Int32) (P2OY : Nat → Int32) (P2OW : Nat → Int32) : zf_X4_copyFrom PX PY PC POX POY POW P2X P2Y P2C P2N P2OX P2OY P2OW = ((va_cpy P2X PX 0 0 3), (va_cpy P2Y PY 0 0 3), (va_cpy P2C PC 0 0 3), P2N, (va_cpy P2OX POX 0 0 8), (va_cpy P2OY POY 0 0 8), (va_cpy P2OW POW 0 0 8)) := rfl
set_option maxHeartbeats 4000000 in
set_option maxRecDepth 100000 in
theorem zc_X4_copyFrom (l : Launch) (g : zG) (B : Nat) (ad : Nat → Nat) (PX : Nat → Int32) (PY : Nat → Int32) (PC : Nat → Int32) (PN : Nat) (POX : Nat → Int32) (POY : Nat → Int32) (POW : Nat → Int32) (bd : Nat → Nat) (P2X : Nat → Int32) (P2Y : Nat → Int32) (P2C : Nat → Int32) (P2N : Nat) (P2OX : Nat → Int32) (P2OY : Nat → Int32) (P2OW : Nat → Int32) : zMet l g B yX4_copyFrom cX4_copyFrom 2 none 1 60 0 0 [.ref (ad 1), .ref (bd 1)] [wPlat g ad PX PY PC PN POX POY POW, wPlat g bd P2X P2Y P2C P2N P2OX P2OY P2OW] (zDet (none) [wPlat g ad ((zf_X4_copyFrom PX PY PC POX POY POW P2X P2Y P2C P2N P2OX P2OY P2OW).1) ((zf_X4_copyFrom PX PY PC POX POY POW P2X P2Y P2C P2N P2OX P2OY P2OW).2.1) ((zf_X4_copyFrom PX PY PC POX POY POW P2X P2Y P2C P2N P2OX P2OY P2OW).2.2.1) ((zf_X4_copyFrom PX PY PC POX POY POW P2X P2Y P2C P2N P2OX P2OY P2OW).2.2.2.1) ((zf_X4_copyFrom PX PY PC POX POY POW P2X P2Y P2C P2N P2OX P2OY P2OW).2.2.2.2.1) ((zf_X4_copyFrom PX PY PC POX POY POW P2X P2Y P2C P2N P2OX P2OY P2OW).2.2.2.2.2.1) ((zf_X4_copyFrom PX PY PC POX POY POW P2X P2Y P2C P2N P2OX P2OY P2OW).2.2.2.2.2.2), wPlat g bd P2X P2Y P2C P2N P2OX P2OY P2OW]) := by
  refine z_in (plainFor_of_name (by decide)) (Nat.le_of_ble_eq_true rfl) (fun p e R s m args below meth c A Q hRf hRl hRc hRs X Z hnm E ls hl => ?_)
  have hx := X.1
  have hb := X.2.1
  have hown := X.2.2.2.1
  have hts := X.2.2.2.2.1
  have hl : lv_has ls 2 [(0, .ref (ad 1)), (1, .ref (bd 1))] := hl
  refine lv_aload_n hx hb dX4_copyFrom_0 rfl (lv_at hl 1 rfl) ?_
  refine z_get X Z 7 rfl (rfl : zCl[3]? = some (RX4, TX4, 7)) zU_X4 0 (by decide) wF_X4_9 rfl rfl dX4_copyFrom_1 ?_
  refine lv_iconst (v := (0 : Int32)) hx hb dX4_copyFrom_4 (by decide) ?_
  refine lv_aload_n hx hb dX4_copyFrom_5 rfl (lv_at hl 0 rfl) ?_
  refine z_get X Z 0 rfl (rfl : zCl[3]? = some (RX4, TX4, 7)) zU_X4 0 (by decide) wF_X4_9 rfl rfl dX4_copyFrom_6 ?_
  refine lv_iconst (v := (0 : Int32)) hx hb dX4_copyFrom_9 (by decide) ?_
  refine lv_iconst (v := (3 : Int32)) hx hb dX4_copyFrom_10 (by decide) ?_
  refine z_copyi (cs2 := [wPlat g ad (va_cpy P2X PX 0 0 3) PY PC PN POX POY POW, wPlat g bd P2X P2Y P2C P2N P2OX P2OY P2OW]) (n := 3) (f := P2X) (g9 := PX) X Z 8 1 rfl rfl hl.1 wM_X4_30 rfl (by omega) (by omega) (by decide) (by decide) (by rw [hRf]; decide) (by rw [hRl]; decide) rfl dX4_copyFrom_11 (fun H locs Z => ?_)
  refine lv_aload_n hx hb dX4_copyFrom_14 rfl (lv_at hl 1 rfl) ?_
  refine z_get X Z 7 rfl (rfl : zCl[3]? = some (RX4, TX4, 7)) zU_X4 1 (by decide) wF_X4_15 rfl rfl dX4_copyFrom_15 ?_
  refine lv_iconst (v := (0 : Int32)) hx hb dX4_copyFrom_18 (by decide) ?_
  refine lv_aload_n hx hb dX4_copyFrom_19 rfl (lv_at hl 0 rfl) ?_
  refine z_get X Z 0 rfl (rfl : zCl[3]? = some (RX4, TX4, 7)) zU_X4 1 (by decide) wF_X4_15 rfl rfl dX4_copyFrom_20 ?_
  refine lv_iconst (v := (0 : Int32)) hx hb dX4_copyFrom_23 (by decide) ?_
  refine lv_iconst (v := (3 : Int32)) hx hb dX4_copyFrom_24 (by decide) ?_
  refine z_copyi (cs2 := [wPlat g ad (va_cpy P2X PX 0 0 3) (va_cpy P2Y PY 0 0 3) PC PN POX POY POW, wPlat g bd P2X P2Y P2C P2N P2OX P2OY P2OW]) (n := 3) (f := P2Y) (g9 := PY) X Z 9 2 rfl rfl hl.1 wM_X4_30 rfl (by omega) (by omega) (by decide) (by decide) (by rw [hRf]; decide) (by rw [hRl]; decide) rfl dX4_copyFrom_25 (fun H locs Z => ?_)
  refine lv_aload_n hx hb dX4_copyFrom_28 rfl (lv_at hl 1 rfl) ?_
  refine z_get X Z 7 rfl (rfl : zCl[3]? = some (RX4, TX4, 7)) zU_X4 2 (by decide) wF_X4_18 rfl rfl dX4_copyFrom_29 ?_
  refine lv_iconst (v := (0 : Int32)) hx hb dX4_copyFrom_32 (by decide) ?_
  refine lv_aload_n hx hb dX4_copyFrom_33 rfl (lv_at hl 0 rfl) ?_
  refine z_get X Z 0 rfl (rfl : zCl[3]? = some (RX4, TX4, 7)) zU_X4 2 (by decide) wF_X4_18 rfl rfl dX4_copyFrom_34 ?_
  refine lv_iconst (v := (0 : Int32)) hx hb dX4_copyFrom_37 (by decide) ?_
  refine lv_iconst (v := (3 : Int32)) hx hb dX4_copyFrom_38 (by decide) ?_
  refine z_copyi (cs2 := [wPlat g ad (va_cpy P2X PX 0 0 3) (va_cpy P2Y PY 0 0 3) (va_cpy P2C PC 0 0 3) PN POX POY POW, wPlat g bd P2X P2Y P2C P2N P2OX P2OY P2OW]) (n := 3) (f := P2C) (g9 := PC) X Z 10 3 rfl rfl hl.1 wM_X4_30 rfl (by omega) (by omega) (by decide) (by decide) (by rw [hRf]; decide) (by rw [hRl]; decide) rfl dX4_copyFrom_39 (fun H locs Z => ?_)
  refine lv_aload_n hx hb dX4_copyFrom_42 rfl (lv_at hl 0 rfl) ?_
  refine lv_aload_n hx hb dX4_copyFrom_43 rfl (lv_at hl 1 rfl) ?_
  refine z_get X Z 7 rfl (rfl : zCl[3]? = some (RX4, TX4, 7)) zU_X4 3 (by decide) wF_X4_36 rfl rfl dX4_copyFrom_44 ?_
  refine z_put (cs2 := [wPlat g ad (va_cpy P2X PX 0 0 3) (va_cpy P2Y PY 0 0 3) (va_cpy P2C PC 0 0 3) P2N POX POY POW, wPlat g bd P2X P2Y P2C P2N P2OX P2OY P2OW]) (v := .int (nI P2N)) X Z 0 rfl (rfl : zCl[3]? = some (RX4, TX4, 7)) zU_X4 tyX4 tyX4_ok nmX4 3 (by decide) wF_X4_36 rfl rfl rfl rfl (Nat.le_of_ble_eq_true rfl) rfl dX4_copyFrom_47 (fun H locs Z => ?_)
  refine lv_aload_n hx hb dX4_copyFrom_50 rfl (lv_at hl 1 rfl) ?_
  refine z_get X Z 7 rfl (rfl : zCl[3]? = some (RX4, TX4, 7)) zU_X4 4 (by decide) wF_X4_21 rfl rfl dX4_copyFrom_51 ?_
  refine lv_iconst (v := (0 : Int32)) hx hb dX4_copyFrom_54 (by decide) ?_
  refine lv_aload_n hx hb dX4_copyFrom_55 rfl (lv_at hl 0 rfl) ?_
  refine z_get X Z 0 rfl (rfl : zCl[3]? = some (RX4, TX4, 7)) zU_X4 4 (by decide) wF_X4_21 rfl rfl dX4_copyFrom_56 ?_
  refine lv_iconst (v := (0 : Int32)) hx hb dX4_copyFrom_59 (by decide) ?_
  refine lv_bipush (v := (8 : Int32)) hx hb dX4_copyFrom_60 (by decide) ?_
  refine z_copyi (cs2 := [wPlat g ad (va_cpy P2X PX 0 0 3) (va_cpy P2Y PY 0 0 3) (va_cpy P2C PC 0 0 3) P2N (va_cpy P2OX POX 0 0 8) POY POW, wPlat g bd P2X P2Y P2C P2N P2OX P2OY P2OW]) (n := 8) (f := P2OX) (g9 := POX) X Z 11 4 rfl rfl hl.1 wM_X4_30 rfl (by omega) (by omega) (by decide) (by decide) (by rw [hRf]; decide) (by rw [hRl]; decide) rfl dX4_copyFrom_62 (fun H locs Z => ?_)
  refine lv_aload_n hx hb dX4_copyFrom_65 rfl (lv_at hl 1 rfl) ?_
  refine z_get X Z 7 rfl (rfl : zCl[3]? = some (RX4, TX4, 7)) zU_X4 5 (by decide) wF_X4_24 rfl rfl dX4_copyFrom_66 ?_
  refine lv_iconst (v := (0 : Int32)) hx hb dX4_copyFrom_69 (by decide) ?_
  refine lv_aload_n hx hb dX4_copyFrom_70 rfl (lv_at hl 0 rfl) ?_
  refine z_get X Z 0 rfl (rfl : zCl[3]? = some (RX4, TX4, 7)) zU_X4 5 (by decide) wF_X4_24 rfl rfl dX4_copyFrom_71 ?_
  refine lv_iconst (v := (0 : Int32)) hx hb dX4_copyFrom_74 (by decide) ?_
  refine lv_bipush (v := (8 : Int32)) hx hb dX4_copyFrom_75 (by decide) ?_
  refine z_copyi (cs2 := [wPlat g ad (va_cpy P2X PX 0 0 3) (va_cpy P2Y PY 0 0 3) (va_cpy P2C PC 0 0 3) P2N (va_cpy P2OX POX 0 0 8) (va_cpy P2OY POY 0 0 8) POW, wPlat g bd P2X P2Y P2C P2N P2OX P2OY P2OW]) (n := 8) (f := P2OY) (g9 := POY) X Z 12 5 rfl rfl hl.1 wM_X4_30 rfl (by omega) (by omega) (by decide) (by decide) (by rw [hRf]; decide) (by rw [hRl]; decide) rfl dX4_copyFrom_77 (fun H locs Z => ?_)
  refine lv_aload_n hx hb dX4_copyFrom_80 rfl (lv_at hl 1 rfl) ?_
  refine z_get X Z 7 rfl (rfl : zCl[3]? = some (RX4, TX4, 7)) zU_X4 6 (by decide) wF_X4_27 rfl rfl dX4_copyFrom_81 ?_
  refine lv_iconst (v := (0 : Int32)) hx hb dX4_copyFrom_84 (by decide) ?_
  refine lv_aload_n hx hb dX4_copyFrom_85 rfl (lv_at hl 0 rfl) ?_
  refine z_get X Z 0 rfl (rfl : zCl[3]? = some (RX4, TX4, 7)) zU_X4 6 (by decide) wF_X4_27 rfl rfl dX4_copyFrom_86 ?_
  refine lv_iconst (v := (0 : Int32)) hx hb dX4_copyFrom_89 (by decide) ?_
  refine lv_bipush (v := (8 : Int32)) hx hb dX4_copyFrom_90 (by decide) ?_
  refine z_copyi (cs2 := [wPlat g ad (va_cpy P2X PX 0 0 3) (va_cpy P2Y PY 0 0 3) (va_cpy P2C PC 0 0 3) P2N (va_cpy P2OX POX 0 0 8) (va_cpy P2OY POY 0 0 8) (va_cpy P2OW POW 0 0 8), wPlat g bd P2X P2Y P2C P2N P2OX P2OY P2OW]) (n := 8) (f := P2OW) (g9 := POW) X Z 13 6 rfl rfl hl.1 wM_X4_30 rfl (by omega) (by omega) (by decide) (by decide) (by rw [hRf]; decide) (by rw [hRl]; decide) rfl dX4_copyFrom_92 (fun H locs Z => ?_)
  exact z_rv E Z (by rw [zf_X4_copyFrom_e]; dsimp only; exact ⟨rfl, rfl⟩) dX4_copyFrom_95 (Nat.zero_le _) (Nat.zero_le _)
