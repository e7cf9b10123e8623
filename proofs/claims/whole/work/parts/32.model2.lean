theorem zdiv_ne (x y : Int64) (hx : ¬ x = -9223372036854775808) (hy : ¬ y = -9223372036854775808) : ¬ zf_X9_divisor x y = -9223372036854775808 := by
  have key : ∀ (n : Nat) (a b : Int64), 0 ≤ a → 0 ≤ b → 0 ≤ (zl_X9_divisor_28 n a b).1 := by
    intro n
    induction n with
    | zero => intro a b ha hb; exact ha
    | succ n ih =>
      intro a b ha hb
      rw [zl_X9_divisor_28_s]
      split
      · exact ha
      · exact ih _ _ hb (zgl ha hb (by assumption)).1
  have fin : ∀ z : Int64, 0 ≤ z → ¬ z = -9223372036854775808 := fun z h q => by rw [q] at h; exact absurd h (by decide)
  apply fin
  rw [zf_X9_divisor_e]
  split <;> split
  · exact key _ _ _ (by assumption) (by assumption)
  · exact key _ _ _ (by assumption) (zneg_nn hy (by assumption))
  · exact key _ _ _ (zneg_nn hx (by assumption)) (by assumption)
  · exact key _ _ _ (zneg_nn hx (by assumption)) (zneg_nn hy (by assumption))
theorem zk13 {k : Int32} (h : zf_X9_within k.toInt64 (1 : Int64) (3 : Int64) = true) (h1 : ¬ k = 1) (h2 : ¬ k = 2) (h3 : ¬ k = 3) : False := by
  obtain ⟨e, a, b⟩ := zok_w2 (u := 1) (v := 3) rfl rfl h (by decide) (by decide)
  have : zi k = 1 ∨ zi k = 2 ∨ zi k = 3 := by omega
  rcases this with q | q | q <;> rw [q] at e
  · exact h1 e
  · exact h2 e
  · exact h3 e
theorem zk03 {k : Int32} (h : zf_X9_within k.toInt64 (0 : Int64) (3 : Int64) = true) (h0 : ¬ k = 0) (h1 : ¬ k = 1) (h2 : ¬ k = 2) (h3 : ¬ k = 3) : False := by
  obtain ⟨e, a, b⟩ := zok_w2 (u := 0) (v := 3) rfl rfl h (by decide) (by decide)
  have : zi k = 0 ∨ zi k = 1 ∨ zi k = 2 ∨ zi k = 3 := by omega
  rcases this with q | q | q | q <;> rw [q] at e
  · exact h0 e
  · exact h1 e
  · exact h2 e
  · exact h3 e
def zl_X9_laysHypotheses_34 (j2 : Nat) : Nat → Nat → (Nat → Int64) → (Nat → Int64)
  | 0, _, v2 => v2
  | n34 + 1, j34, v2 => zl_X9_laysHypotheses_34 j2 n34 (j34 + 1) (zf_X9_laysChances v2 j34 j2 (0 : Int32) (0 : Int32))
theorem zl_X9_laysHypotheses_34_s (j2 : Nat) (n34 : Nat) (j34 : Nat) (v2 : Nat → Int64) : zl_X9_laysHypotheses_34 j2 (n34 + 1) j34 v2 = zl_X9_laysHypotheses_34 j2 n34 (j34 + 1) (zf_X9_laysChances v2 j34 j2 (0 : Int32) (0 : Int32)) := rfl
def zl_X9_laysHypotheses_2 (n : Nat) : Nat → Nat → (Nat → Int64) → (Nat → Int64)
  | 0, _, v1 => v1
  | n2 + 1, j2, v1 => (if j2 ≥ n then zl_X9_laysHypotheses_2 n n2 (j2 + 1) (zl_X9_laysHypotheses_34 j2 10 0 (vp_updL v1 (35 + j2) (0 : Int64))) else zl_X9_laysHypotheses_2 n n2 (j2 + 1) (zl_X9_laysHypotheses_34 j2 10 0 (vp_updL v1 (35 + j2) (1 : Int64))))
theorem zl_X9_laysHypotheses_2_s (n : Nat) (n2 : Nat) (j2 : Nat) (v1 : Nat → Int64) : zl_X9_laysHypotheses_2 n (n2 + 1) j2 v1 = (if j2 ≥ n then zl_X9_laysHypotheses_2 n n2 (j2 + 1) (zl_X9_laysHypotheses_34 j2 10 0 (vp_updL v1 (35 + j2) (0 : Int64))) else zl_X9_laysHypotheses_2 n n2 (j2 + 1) (zl_X9_laysHypotheses_34 j2 10 0 (vp_updL v1 (35 + j2) (1 : Int64)))) := rfl
def zf_X9_laysHypotheses (MNow : Nat → Int64) (n : Nat) : (Nat → Int64) := (zl_X9_laysHypotheses_2 n 8 0 MNow)
theorem zf_X9_laysHypotheses_e (MNow : Nat → Int64) (n : Nat) : zf_X9_laysHypotheses MNow n = (zl_X9_laysHypotheses_2 n 8 0 MNow) := rfl
set_option maxHeartbeats 4000000 in
set_option maxRecDepth 100000 in
theorem zc_X9_laysHypotheses (l : Launch) (g : zG) (B : Nat) (md : Nat → Nat) (MNow : Nat → Int64) (MPast : Nat → Int64) (MSav : Nat) (MRef : Int32) (MThen : Nat → Int64) (MLev : Nat → Int64) (MFst : Int32) (MWay : Nat → Int64) (MMost : Nat → Int32) (MHash : Int64) (n : Nat) (h34 : MNow 34 = lN n) (hn8 : n ≤ 8) : zMet l g B yX9_laysHypotheses cX9_laysHypotheses 3 none 3 100 0 0 [.ref (md 0)] [wMod g md MNow MPast MSav MRef MThen MLev MFst MWay MMost MHash] (zDet (none) [wMod g md (zf_X9_laysHypotheses MNow n) MPast MSav MRef MThen MLev MFst MWay MMost MHash]) := by
  refine z_in (plainFor_of_name (by decide)) (Nat.le_of_ble_eq_true rfl) (fun p e R s m args below meth c A Q hRf hRl hRc hRs X Z hnm E ls hl => ?_)
  have hx := X.1
  have hb := X.2.1
  have hown := X.2.2.2.1
  have hts := X.2.2.2.2.1
  have hl : lv_has ls 3 [(0, .ref (md 0))] := hl
  refine lv_iconst (v := (0 : Int32)) hx hb dX9_laysHypotheses_0 (by decide) ?_
  refine lv_istore_n (lv' := [(1, .int (0 : Int32)), (0, .ref (md 0))]) hx hb dX9_laysHypotheses_1 rfl hl (by decide) rfl (fun ls hl => ?_)
  have loop_2 : ∀ (n2 j2 : Nat) (v1 : Nat → Int64), j2 + n2 = 8 → zl_X9_laysHypotheses_2 n n2 j2 v1 = (zl_X9_laysHypotheses_2 n 8 0 MNow) → (v1 34 = lN n) → ∀ (H : Heap) (locs : List Loc), zM g B A s [wMod g md v1 MPast MSav MRef MThen MLev MFst MWay MMost MHash] H locs → ∀ ls : Array Slot, lv_has ls 3 [(1, .int (nI j2)), (0, .ref (md 0))] → W p l e R s m args below meth c H locs 0 0 Q (F0 m 2 ls []) := by
    intro n2
    induction n2 with
    | zero =>
      intro j2 v1 hin2 hR2 i1 H locs Z ls hl
      have e_v1 : (zl_X9_laysHypotheses_2 n 8 0 MNow) = v1 := hR2.symm
      subst e_v1
      refine lv_iload_n hx hb dX9_laysHypotheses_2 rfl (lv_at hl 0 rfl) ?_
      refine lv_bipush (v := (8 : Int32)) hx hb dX9_laysHypotheses_3 (by decide) ?_
      refine z_icmp_ge (a := j2) (b := 8) (tgt := 60) X rfl rfl (by omega) (by omega) dX9_laysHypotheses_5 (by decide) (fun c_1 => ?_) (fun c_1 => ?_)
      · exact z_rv E Z (by rw [zf_X9_laysHypotheses_e]; exact ⟨rfl, rfl⟩) dX9_laysHypotheses_60 (Nat.zero_le _) (Nat.zero_le _)
      · (exfalso; omega)
    | succ n2 ih2 =>
      intro j2 v1 hin2 hR2 i1 H locs Z ls hl
      refine lv_iload_n hx hb dX9_laysHypotheses_2 rfl (lv_at hl 0 rfl) ?_
      refine lv_bipush (v := (8 : Int32)) hx hb dX9_laysHypotheses_3 (by decide) ?_
      refine z_icmp_ge (a := j2) (b := 8) (tgt := 60) X rfl rfl (by omega) (by omega) dX9_laysHypotheses_5 (by decide) (fun c_2 => ?_) (fun c_2 => ?_)
      · (exfalso; omega)
      · refine lv_aload_n hx hb dX9_laysHypotheses_8 rfl (lv_at hl 1 rfl) ?_
        refine z_get X Z 0 rfl (rfl : zCl[7]? = some (RX9, TX9, 10)) zU_X9 0 (by decide) wF_X9_7 rfl rfl dX9_laysHypotheses_9 ?_
        refine lv_bipush (v := (35 : Int32)) hx hb dX9_laysHypotheses_12 (by decide) ?_
        refine lv_iload_n hx hb dX9_laysHypotheses_14 rfl (lv_at hl 0 rfl) ?_
        refine z_iadd (a := 35) (b := j2) X rfl rfl dX9_laysHypotheses_15 ?_
        refine lv_iload_n hx hb dX9_laysHypotheses_16 rfl (lv_at hl 0 rfl) ?_
        refine lv_aload_n hx hb dX9_laysHypotheses_17 rfl (lv_at hl 1 rfl) ?_
        refine lv_bipush (v := (34 : Int32)) hx hb dX9_laysHypotheses_18 (by decide) ?_
        refine z_callV (mc := 0) (ms := 0) (As := [.int (34 : Int32)]) (rest := [.int (nI j2), .int (nI (35 + j2)), .ref (md 1)]) (st2 := [.int (nI n), .int (nI j2), .int (nI (35 + j2)), .ref (md 1)]) (cs2 := [wMod g md v1 MPast MSav MRef MThen MLev MFst MWay MMost MHash]) X Z [0] [] [0] 0 7 (zc_X9_many l g B md v1 MPast MSav MRef MThen MLev MFst MWay MMost MHash 34 n (by first | assumption | omega | decide) i1) wM_X9_66 wS_X9_many wV_X9_many wK_X9_many wZ_X9 1 1 1 rfl (by decide +kernel) rfl (by decide) rfl rfl rfl (by decide) rfl rfl (rfl : zCl[7]? = some (RX9, TX9, 10)) hl.1 rfl rfl (by rw [hRf, hRl]; exact ⟨Nat.le_of_ble_eq_true rfl, Nat.le_of_ble_eq_true rfl⟩) (Nat.le_of_ble_eq_true rfl) ⟨Nat.zero_le _, Nat.zero_le _⟩ dX9_laysHypotheses_20 (fun H locs Z => ?_)
        refine z_icmp_ge (a := j2) (b := n) (tgt := 30) X rfl rfl (by omega) (by omega) dX9_laysHypotheses_23 (by decide) (fun c_3 => ?_) (fun c_3 => ?_)
        · refine lv_lconst (v := (0 : Int64)) hx hb dX9_laysHypotheses_30 (by decide) ?_
          refine z_last (cs2 := [wMod g md (vp_updL v1 (35 + j2) (0 : Int64)) MPast MSav MRef MThen MLev MFst MWay MMost MHash]) (j := (35 + j2)) (x := (0 : Int64)) X Z 1 rfl rfl (by omega) (by decide) rfl dX9_laysHypotheses_31 (fun H locs Z => ?_)
          refine lv_iconst (v := (0 : Int32)) hx hb dX9_laysHypotheses_32 (by decide) ?_
          refine lv_istore_n (lv' := [(2, .int (0 : Int32)), (1, .int (nI j2)), (0, .ref (md 0))]) hx hb dX9_laysHypotheses_33 rfl hl (by decide) rfl (fun ls hl => ?_)
          have loop_34 : ∀ (n34 j34 : Nat) (v2 : Nat → Int64), j34 + n34 = 10 → zl_X9_laysHypotheses_34 j2 n34 j34 v2 = (zl_X9_laysHypotheses_34 j2 10 0 (vp_updL v1 (35 + j2) (0 : Int64))) → (v2 34 = lN n) → ∀ (H : Heap) (locs : List Loc), zM g B A s [wMod g md v2 MPast MSav MRef MThen MLev MFst MWay MMost MHash] H locs → ∀ ls : Array Slot, lv_has ls 3 [(2, .int (nI j34)), (1, .int (nI j2)), (0, .ref (md 0))] → W p l e R s m args below meth c H locs 0 0 Q (F0 m 34 ls []) := by
            intro n34
            induction n34 with
            | zero =>
              intro j34 v2 hin34 hR34 i2 H locs Z ls hl
              have e_v2 : (zl_X9_laysHypotheses_34 j2 10 0 (vp_updL v1 (35 + j2) (0 : Int64))) = v2 := hR34.symm
              subst e_v2
              refine lv_iload_n hx hb dX9_laysHypotheses_34 rfl (lv_at hl 0 rfl) ?_
              refine lv_bipush (v := (10 : Int32)) hx hb dX9_laysHypotheses_35 (by decide) ?_
              refine z_icmp_ge (a := j34) (b := 10) (tgt := 54) X rfl rfl (by omega) (by omega) dX9_laysHypotheses_37 (by decide) (fun c_4 => ?_) (fun c_4 => ?_)
              · refine z_iinc (b := (j2 + 1)) (st := 1) (lv' := [(1, .int (nI (j2 + 1))), (2, .int (nI j34)), (0, .ref (md 0))]) X dX9_laysHypotheses_54 hl (k := 1) rfl rfl (by decide) (by omega) (by decide) rfl (fun ls hl => ?_)
                refine lv_goto (tgt := 2) hx hb dX9_laysHypotheses_57 (by decide) ?_
                exact ih2 (j2 + 1) (zl_X9_laysHypotheses_34 j2 10 0 (vp_updL v1 (35 + j2) (0 : Int64))) (by omega) (by have h9 := hR2; rw [zl_X9_laysHypotheses_2_s, if_pos c_3] at h9; exact h9) i2 _ _ Z ls (lv_sub hl [0, 2] rfl)
              · (exfalso; omega)
            | succ n34 ih34 =>
              intro j34 v2 hin34 hR34 i2 H locs Z ls hl
              refine lv_iload_n hx hb dX9_laysHypotheses_34 rfl (lv_at hl 0 rfl) ?_
              refine lv_bipush (v := (10 : Int32)) hx hb dX9_laysHypotheses_35 (by decide) ?_
              refine z_icmp_ge (a := j34) (b := 10) (tgt := 54) X rfl rfl (by omega) (by omega) dX9_laysHypotheses_37 (by decide) (fun c_5 => ?_) (fun c_5 => ?_)
              · (exfalso; omega)
              · refine lv_aload_n hx hb dX9_laysHypotheses_40 rfl (lv_at hl 2 rfl) ?_
                refine lv_iload_n hx hb dX9_laysHypotheses_41 rfl (lv_at hl 0 rfl) ?_
                refine lv_iload_n hx hb dX9_laysHypotheses_42 rfl (lv_at hl 1 rfl) ?_
                refine lv_iconst (v := (0 : Int32)) hx hb dX9_laysHypotheses_43 (by decide) ?_
                refine lv_iconst (v := (0 : Int32)) hx hb dX9_laysHypotheses_44 (by decide) ?_
                refine z_callV (mc := 0) (ms := 0) (As := [.int (nI j34), .int (nI j2), .int (0 : Int32), .int (0 : Int32)]) (rest := []) (st2 := []) (cs2 := [wMod g md (zf_X9_laysChances v2 j34 j2 (0 : Int32) (0 : Int32)) MPast MSav MRef MThen MLev MFst MWay MMost MHash]) X Z [0] [] [0] 0 7 (zc_X9_laysChances l g B md v2 MPast MSav MRef MThen MLev MFst MWay MMost MHash j34 j2 (0 : Int32) (0 : Int32) (by first | assumption | omega | decide) (by first | assumption | omega | decide)) wM_X9_121 wS_X9_laysChances wV_X9_laysChances wK_X9_laysChances wZ_X9 4 1 1 rfl (by decide +kernel) rfl (by decide) rfl rfl rfl (by decide) rfl rfl (rfl : zCl[7]? = some (RX9, TX9, 10)) hl.1 rfl rfl (by rw [hRf, hRl]; exact ⟨Nat.le_of_ble_eq_true rfl, Nat.le_of_ble_eq_true rfl⟩) (Nat.le_of_ble_eq_true rfl) ⟨Nat.zero_le _, Nat.zero_le _⟩ dX9_laysHypotheses_45 (fun H locs Z => ?_)
                refine z_iinc (b := (j34 + 1)) (st := 1) (lv' := [(2, .int (nI (j34 + 1))), (1, .int (nI j2)), (0, .ref (md 0))]) X dX9_laysHypotheses_48 hl (k := 0) rfl rfl (by decide) (by omega) (by decide) rfl (fun ls hl => ?_)
                refine lv_goto (tgt := 34) hx hb dX9_laysHypotheses_51 (by decide) ?_
                exact ih34 (j34 + 1) (zf_X9_laysChances v2 j34 j2 (0 : Int32) (0 : Int32)) (by omega) (by have h9 := hR34; rw [zl_X9_laysHypotheses_34_s] at h9; exact h9) ((zlc_lo (by omega)).trans i2) _ _ Z ls (lv_sub hl [0, 1, 2] rfl)
          exact loop_34 10 0 (vp_updL v1 (35 + j2) (0 : Int64)) (by omega) rfl ((zuL_ne (by omega)).trans i1) _ _ Z ls (lv_sub hl [0, 1, 2] rfl)
        · refine lv_lconst (v := (1 : Int64)) hx hb dX9_laysHypotheses_26 (by decide) ?_
          refine lv_goto (tgt := 31) hx hb dX9_laysHypotheses_27 (by decide) ?_
          refine z_last (cs2 := [wMod g md (vp_updL v1 (35 + j2) (1 : Int64)) MPast MSav MRef MThen MLev MFst MWay MMost MHash]) (j := (35 + j2)) (x := (1 : Int64)) X Z 1 rfl rfl (by omega) (by decide) rfl dX9_laysHypotheses_31 (fun H locs Z => ?_)
          refine lv_iconst (v := (0 : Int32)) hx hb dX9_laysHypotheses_32 (by decide) ?_
          refine lv_istore_n (lv' := [(2, .int (0 : Int32)), (1, .int (nI j2)), (0, .ref (md 0))]) hx hb dX9_laysHypotheses_33 rfl hl (by decide) rfl (fun ls hl => ?_)
          have loop_34 : ∀ (n34 j34 : Nat) (v2 : Nat → Int64), j34 + n34 = 10 → zl_X9_laysHypotheses_34 j2 n34 j34 v2 = (zl_X9_laysHypotheses_34 j2 10 0 (vp_updL v1 (35 + j2) (1 : Int64))) → (v2 34 = lN n) → ∀ (H : Heap) (locs : List Loc), zM g B A s [wMod g md v2 MPast MSav MRef MThen MLev MFst MWay MMost MHash] H locs → ∀ ls : Array Slot, lv_has ls 3 [(2, .int (nI j34)), (1, .int (nI j2)), (0, .ref (md 0))] → W p l e R s m args below meth c H locs 0 0 Q (F0 m 34 ls []) := by
            intro n34
            induction n34 with
            | zero =>
              intro j34 v2 hin34 hR34 i2 H locs Z ls hl
              have e_v2 : (zl_X9_laysHypotheses_34 j2 10 0 (vp_updL v1 (35 + j2) (1 : Int64))) = v2 := hR34.symm
              subst e_v2
              refine lv_iload_n hx hb dX9_laysHypotheses_34 rfl (lv_at hl 0 rfl) ?_
              refine lv_bipush (v := (10 : Int32)) hx hb dX9_laysHypotheses_35 (by decide) ?_
              refine z_icmp_ge (a := j34) (b := 10) (tgt := 54) X rfl rfl (by omega) (by omega) dX9_laysHypotheses_37 (by decide) (fun c_6 => ?_) (fun c_6 => ?_)
              · refine z_iinc (b := (j2 + 1)) (st := 1) (lv' := [(1, .int (nI (j2 + 1))), (2, .int (nI j34)), (0, .ref (md 0))]) X dX9_laysHypotheses_54 hl (k := 1) rfl rfl (by decide) (by omega) (by decide) rfl (fun ls hl => ?_)
                refine lv_goto (tgt := 2) hx hb dX9_laysHypotheses_57 (by decide) ?_
                exact ih2 (j2 + 1) (zl_X9_laysHypotheses_34 j2 10 0 (vp_updL v1 (35 + j2) (1 : Int64))) (by omega) (by have h9 := hR2; rw [zl_X9_laysHypotheses_2_s, if_neg (by omega)] at h9; exact h9) i2 _ _ Z ls (lv_sub hl [0, 2] rfl)
              · (exfalso; omega)
            | succ n34 ih34 =>
              intro j34 v2 hin34 hR34 i2 H locs Z ls hl
              refine lv_iload_n hx hb dX9_laysHypotheses_34 rfl (lv_at hl 0 rfl) ?_
              refine lv_bipush (v := (10 : Int32)) hx hb dX9_laysHypotheses_35 (by decide) ?_
              refine z_icmp_ge (a := j34) (b := 10) (tgt := 54) X rfl rfl (by omega) (by omega) dX9_laysHypotheses_37 (by decide) (fun c_7 => ?_) (fun c_7 => ?_)
              · (exfalso; omega)
              · refine lv_aload_n hx hb dX9_laysHypotheses_40 rfl (lv_at hl 2 rfl) ?_
                refine lv_iload_n hx hb dX9_laysHypotheses_41 rfl (lv_at hl 0 rfl) ?_
                refine lv_iload_n hx hb dX9_laysHypotheses_42 rfl (lv_at hl 1 rfl) ?_
                refine lv_iconst (v := (0 : Int32)) hx hb dX9_laysHypotheses_43 (by decide) ?_
                refine lv_iconst (v := (0 : Int32)) hx hb dX9_laysHypotheses_44 (by decide) ?_
                refine z_callV (mc := 0) (ms := 0) (As := [.int (nI j34), .int (nI j2), .int (0 : Int32), .int (0 : Int32)]) (rest := []) (st2 := []) (cs2 := [wMod g md (zf_X9_laysChances v2 j34 j2 (0 : Int32) (0 : Int32)) MPast MSav MRef MThen MLev MFst MWay MMost MHash]) X Z [0] [] [0] 0 7 (zc_X9_laysChances l g B md v2 MPast MSav MRef MThen MLev MFst MWay MMost MHash j34 j2 (0 : Int32) (0 : Int32) (by first | assumption | omega | decide) (by first | assumption | omega | decide)) wM_X9_121 wS_X9_laysChances wV_X9_laysChances wK_X9_laysChances wZ_X9 4 1 1 rfl (by decide +kernel) rfl (by decide) rfl rfl rfl (by decide) rfl rfl (rfl : zCl[7]? = some (RX9, TX9, 10)) hl.1 rfl rfl (by rw [hRf, hRl]; exact ⟨Nat.le_of_ble_eq_true rfl, Nat.le_of_ble_eq_true rfl⟩) (Nat.le_of_ble_eq_true rfl) ⟨Nat.zero_le _, Nat.zero_le _⟩ dX9_laysHypotheses_45 (fun H locs Z => ?_)
                refine z_iinc (b := (j34 + 1)) (st := 1) (lv' := [(2, .int (nI (j34 + 1))), (1, .int (nI j2)), (0, .ref (md 0))]) X dX9_laysHypotheses_48 hl (k := 0) rfl rfl (by decide) (by omega) (by decide) rfl (fun ls hl => ?_)
                refine lv_goto (tgt := 34) hx hb dX9_laysHypotheses_51 (by decide) ?_
                exact ih34 (j34 + 1) (zf_X9_laysChances v2 j34 j2 (0 : Int32) (0 : Int32)) (by omega) (by have h9 := hR34; rw [zl_X9_laysHypotheses_34_s] at h9; exact h9) ((zlc_lo (by omega)).trans i2) _ _ Z ls (lv_sub hl [0, 1, 2] rfl)
          exact loop_34 10 0 (vp_updL v1 (35 + j2) (1 : Int64)) (by omega) rfl ((zuL_ne (by omega)).trans i1) _ _ Z ls (lv_sub hl [0, 1, 2] rfl)
  exact loop_2 8 0 MNow (by omega) rfl h34 _ _ Z ls (lv_sub hl [0, 1] rfl)
def zf_X9_setCell (MNow : Nat → Int64) (MPast : Nat → Int64) (MSav : Nat) (k : Int32) (x : Int32) (y : Int32) (z : Int32) : Int32 × Int32 × (Nat → Int64) × (Nat → Int64) × Nat := (if (zf_X9_isCell k) = true then (if (zf_X9_isPlace x y) = true then (if (zf_X9_within z.toInt64 (1 : Int64) (100000 : Int64)) = true then (if (zf_X9_area (vp_updL (vp_updL MNow (0 + (3 * (zi k))) x.toInt64) ((0 + (3 * (zi k))) + 1) y.toInt64)) = (0 : Int64) then ((0 : Int32), (zf_X9_refused_2), (vp_updL (vp_updL (vp_updL (vp_updL MNow (0 + (3 * (zi k))) x.toInt64) ((0 + (3 * (zi k))) + 1) y.toInt64) (0 + (3 * (zi k))) (MNow (0 + (3 * (zi k))))) ((0 + (3 * (zi k))) + 1) (MNow ((0 + (3 * (zi k))) + 1))), MPast, MSav) else ((((vp_updL (vp_updL (vp_updL (vp_updL MNow (0 + (3 * (zi k))) x.toInt64) ((0 + (3 * (zi k))) + 1) y.toInt64) (0 + (3 * (zi k))) (MNow (0 + (3 * (zi k))))) ((0 + (3 * (zi k))) + 1) (MNow ((0 + (3 * (zi k))) + 1))) ((0 + (3 * (zi k))) + 2)).toInt32), (zf_X9_refused_0), (vp_updL (vp_updL (vp_updL (vp_updL (vp_updL (vp_updL (vp_updL MNow (0 + (3 * (zi k))) x.toInt64) ((0 + (3 * (zi k))) + 1) y.toInt64) (0 + (3 * (zi k))) (MNow (0 + (3 * (zi k))))) ((0 + (3 * (zi k))) + 1) (MNow ((0 + (3 * (zi k))) + 1))) (0 + (3 * (zi k))) x.toInt64) ((0 + (3 * (zi k))) + 1) y.toInt64) ((0 + (3 * (zi k))) + 2) z.toInt64), ((zf_X9_saves (vp_updL (vp_updL (vp_updL (vp_updL MNow (0 + (3 * (zi k))) x.toInt64) ((0 + (3 * (zi k))) + 1) y.toInt64) (0 + (3 * (zi k))) (MNow (0 + (3 * (zi k))))) ((0 + (3 * (zi k))) + 1) (MNow ((0 + (3 * (zi k))) + 1))) MPast MSav).1), ((zf_X9_saves (vp_updL (vp_updL (vp_updL (vp_updL MNow (0 + (3 * (zi k))) x.toInt64) ((0 + (3 * (zi k))) + 1) y.toInt64) (0 + (3 * (zi k))) (MNow (0 + (3 * (zi k))))) ((0 + (3 * (zi k))) + 1) (MNow ((0 + (3 * (zi k))) + 1))) MPast MSav).2))) else ((0 : Int32), (zf_X9_refused_2), MNow, MPast, MSav)) else ((0 : Int32), (zf_X9_refused_2), MNow, MPast, MSav)) else ((0 : Int32), (zf_X9_refused_1), MNow, MPast, MSav))
theorem zf_X9_setCell_e (MNow : Nat → Int64) (MPast : Nat → Int64) (MSav : Nat) (k : Int32) (x : Int32) (y : Int32) (z : Int32) : zf_X9_setCell MNow MPast MSav k x y z = (if (zf_X9_isCell k) = true then (if (zf_X9_isPlace x y) = true then (if (zf_X9_within z.toInt64 (1 : Int64) (100000 : Int64)) = true then (if (zf_X9_area (vp_updL (vp_updL MNow (0 + (3 * (zi k))) x.toInt64) ((0 + (3 * (zi k))) + 1) y.toInt64)) = (0 : Int64) then ((0 : Int32), (zf_X9_refused_2), (vp_updL (vp_updL (vp_updL (vp_updL MNow (0 + (3 * (zi k))) x.toInt64) ((0 + (3 * (zi k))) + 1) y.toInt64) (0 + (3 * (zi k))) (MNow (0 + (3 * (zi k))))) ((0 + (3 * (zi k))) + 1) (MNow ((0 + (3 * (zi k))) + 1))), MPast, MSav) else ((((vp_updL (vp_updL (vp_updL (vp_updL MNow (0 + (3 * (zi k))) x.toInt64) ((0 + (3 * (zi k))) + 1) y.toInt64) (0 + (3 * (zi k))) (MNow (0 + (3 * (zi k))))) ((0 + (3 * (zi k))) + 1) (MNow ((0 + (3 * (zi k))) + 1))) ((0 + (3 * (zi k))) + 2)).toInt32), (zf_X9_refused_0), (vp_updL (vp_updL (vp_updL (vp_updL (vp_updL (vp_updL (vp_updL MNow (0 + (3 * (zi k))) x.toInt64) ((0 + (3 * (zi k))) + 1) y.toInt64) (0 + (3 * (zi k))) (MNow (0 + (3 * (zi k))))) ((0 + (3 * (zi k))) + 1) (MNow ((0 + (3 * (zi k))) + 1))) (0 + (3 * (zi k))) x.toInt64) ((0 + (3 * (zi k))) + 1) y.toInt64) ((0 + (3 * (zi k))) + 2) z.toInt64), ((zf_X9_saves (vp_updL (vp_updL (vp_updL (vp_updL MNow (0 + (3 * (zi k))) x.toInt64) ((0 + (3 * (zi k))) + 1) y.toInt64) (0 + (3 * (zi k))) (MNow (0 + (3 * (zi k))))) ((0 + (3 * (zi k))) + 1) (MNow ((0 + (3 * (zi k))) + 1))) MPast MSav).1), ((zf_X9_saves (vp_updL (vp_updL (vp_updL (vp_updL MNow (0 + (3 * (zi k))) x.toInt64) ((0 + (3 * (zi k))) + 1) y.toInt64) (0 + (3 * (zi k))) (MNow (0 + (3 * (zi k))))) ((0 + (3 * (zi k))) + 1) (MNow ((0 + (3 * (zi k))) + 1))) MPast MSav).2))) else ((0 : Int32), (zf_X9_refused_2), MNow, MPast, MSav)) else ((0 : Int32), (zf_X9_refused_2), MNow, MPast, MSav)) else ((0 : Int32), (zf_X9_refused_1), MNow, MPast, MSav)) := rfl
set_option maxHeartbeats 4000000 in
set_option maxRecDepth 100000 in
theorem zc_X9_setCell (l : Launch) (g : zG) (B : Nat) (md : Nat → Nat) (MNow : Nat → Int64) (MPast : Nat → Int64) (MSav : Nat) (MRef : Int32) (MThen : Nat → Int64) (MLev : Nat → Int64) (MFst : Int32) (MWay : Nat → Int64) (MMost : Nat → Int32) (MHash : Int64) (k : Int32) (x : Int32) (y : Int32) (z : Int32) (hs : MSav ≤ 4) : zMet l g B yX9_setCell cX9_setCell 13 (some .int) 3 140 0 0 [.ref (md 0), .int k, .int x, .int y, .int z] [wMod g md MNow MPast MSav MRef MThen MLev MFst MWay MMost MHash] (zDet (some (.int ((zf_X9_setCell MNow MPast MSav k x y z).1))) [wMod g md ((zf_X9_setCell MNow MPast MSav k x y z).2.2.1) ((zf_X9_setCell MNow MPast MSav k x y z).2.2.2.1) ((zf_X9_setCell MNow MPast MSav k x y z).2.2.2.2) ((zf_X9_setCell MNow MPast MSav k x y z).2.1) MThen MLev MFst MWay MMost MHash]) := by
  refine z_in (plainFor_of_name (by decide)) (Nat.le_of_ble_eq_true rfl) (fun p e R s m args below meth c A Q hRf hRl hRc hRs X Z hnm E ls hl => ?_)
  have hx := X.1
  have hb := X.2.1
  have hown := X.2.2.2.1
  have hts := X.2.2.2.2.1
  have hl : lv_has ls 13 [(0, .ref (md 0)), (1, .int k), (2, .int x), (3, .int y), (4, .int z)] := hl
  refine lv_aload_n hx hb dX9_setCell_0 rfl (lv_at hl 0 rfl) ?_
  refine lv_iload_n hx hb dX9_setCell_1 rfl (lv_at hl 1 rfl) ?_
  refine z_callS (mc := 0) (ms := 0) (As := [.int k]) (rest := [.ref (md 0)]) (st2 := [.int (zB (zf_X9_isCell k)), .ref (md 0)]) (cs2 := [wMod g md MNow MPast MSav MRef MThen MLev MFst MWay MMost MHash]) X Z [] [0] [0] (zc_X9_isCell l g B k) wM_X9_78 wS_X9_isCell wK_X9_isCell wZ_X9 1 1 1 rfl (by decide +kernel) rfl (by decide) rfl rfl rfl (by decide) rfl hl.1 rfl rfl (by rw [hRf, hRl]; exact ⟨Nat.le_of_ble_eq_true rfl, Nat.le_of_ble_eq_true rfl⟩) (Nat.le_of_ble_eq_true rfl) ⟨Nat.zero_le _, Nat.zero_le _⟩ dX9_setCell_2 (fun H locs Z => ?_)
  refine z_ifneB (b := (zf_X9_isCell k)) (tgt := 12) X dX9_setCell_5 (by decide) (fun c_1 => ?_) (fun c_1 => ?_)
  · refine lv_iload_n hx hb dX9_setCell_12 rfl (lv_at hl 2 rfl) ?_
    refine lv_iload_n hx hb dX9_setCell_13 rfl (lv_at hl 3 rfl) ?_
    refine z_callS (mc := 0) (ms := 0) (As := [.int x, .int y]) (rest := [.ref (md 0)]) (st2 := [.int (zB (zf_X9_isPlace x y)), .ref (md 0)]) (cs2 := [wMod g md MNow MPast MSav MRef MThen MLev MFst MWay MMost MHash]) X Z [] [0] [0] (zc_X9_isPlace l g B x y) wM_X9_81 wS_X9_isPlace wK_X9_isPlace wZ_X9 2 1 1 rfl (by decide +kernel) rfl (by decide) rfl rfl rfl (by decide) rfl hl.1 rfl rfl (by rw [hRf, hRl]; exact ⟨Nat.le_of_ble_eq_true rfl, Nat.le_of_ble_eq_true rfl⟩) (Nat.le_of_ble_eq_true rfl) ⟨Nat.zero_le _, Nat.zero_le _⟩ dX9_setCell_14 (fun H locs Z => ?_)
    refine z_ifeqB (b := (zf_X9_isPlace x y)) (tgt := 37) X dX9_setCell_17 (by decide) (fun c_2 => ?_) (fun c_2 => ?_)
    · refine lv_iconst (v := (2 : Int32)) hx hb dX9_setCell_37 (by decide) ?_
      refine z_callV (mc := 0) (ms := 0) (As := [.int (2 : Int32)]) (rest := []) (st2 := [.int (1 : Int32)]) (cs2 := [wMod g md MNow MPast MSav (zf_X9_refused_2) MThen MLev MFst MWay MMost MHash]) X Z [0] [] [0] 0 7 (zc_X9_refused_2 l g B md MNow MPast MSav MRef MThen MLev MFst MWay MMost MHash) wM_X9_55 wS_X9_refused wV_X9_refused wK_X9_refused wZ_X9 1 1 1 rfl (by decide +kernel) rfl (by decide) rfl rfl rfl (by decide) rfl rfl (rfl : zCl[7]? = some (RX9, TX9, 10)) hl.1 rfl rfl (by rw [hRf, hRl]; exact ⟨Nat.le_of_ble_eq_true rfl, Nat.le_of_ble_eq_true rfl⟩) (Nat.le_of_ble_eq_true rfl) ⟨Nat.zero_le _, Nat.zero_le _⟩ dX9_setCell_38 (fun H locs Z => ?_)
      refine lv_if_eq (tgt := 46) hx hb dX9_setCell_41 (by decide) (fun c_3 => ?_) (fun c_3 => ?_)
      · (exact absurd c_3 (by decide))
      · refine lv_iconst (v := (0 : Int32)) hx hb dX9_setCell_44 (by decide) ?_
        exact z_ri (v := (0 : Int32)) E Z rfl (by rw [zf_X9_setCell_e, if_pos c_1, if_neg (zBf c_2)]; dsimp only; exact ⟨rfl, rfl⟩) dX9_setCell_45 (Nat.zero_le _) (Nat.zero_le _)
    · refine lv_iload hx hb dX9_setCell_20 (lv_at hl 4 rfl) ?_
      refine lv_i2l hx hb dX9_setCell_22 rfl ?_
      refine lv_lconst (v := (1 : Int64)) hx hb dX9_setCell_23 (by decide) ?_
      refine lv_ldc2 (v := (100000 : Int64)) hx hb hown (hts _ wL_X9_85) dX9_setCell_24 ?_
      refine z_callS (mc := 0) (ms := 0) (As := [.long z.toInt64, .long (1 : Int64), .long (100000 : Int64)]) (rest := [.ref (md 0)]) (st2 := [.int (zB (zf_X9_within z.toInt64 (1 : Int64) (100000 : Int64))), .ref (md 0)]) (cs2 := [wMod g md MNow MPast MSav MRef MThen MLev MFst MWay MMost MHash]) X Z [] [0] [0] (zc_X9_within l g B z.toInt64 (1 : Int64) (100000 : Int64)) wM_X9_44 wS_X9_within wK_X9_within wZ_X9 3 1 1 rfl (by decide +kernel) rfl (by decide) rfl rfl rfl (by decide) rfl hl.1 rfl rfl (by rw [hRf, hRl]; exact ⟨Nat.le_of_ble_eq_true rfl, Nat.le_of_ble_eq_true rfl⟩) (Nat.le_of_ble_eq_true rfl) ⟨Nat.zero_le _, Nat.zero_le _⟩ dX9_setCell_27 (fun H locs Z => ?_)
      refine z_ifeqB (b := (zf_X9_within z.toInt64 (1 : Int64) (100000 : Int64))) (tgt := 37) X dX9_setCell_30 (by decide) (fun c_4 => ?_) (fun c_4 => ?_)
      · refine lv_iconst (v := (2 : Int32)) hx hb dX9_setCell_37 (by decide) ?_
        refine z_callV (mc := 0) (ms := 0) (As := [.int (2 : Int32)]) (rest := []) (st2 := [.int (1 : Int32)]) (cs2 := [wMod g md MNow MPast MSav (zf_X9_refused_2) MThen MLev MFst MWay MMost MHash]) X Z [0] [] [0] 0 7 (zc_X9_refused_2 l g B md MNow MPast MSav MRef MThen MLev MFst MWay MMost MHash) wM_X9_55 wS_X9_refused wV_X9_refused wK_X9_refused wZ_X9 1 1 1 rfl (by decide +kernel) rfl (by decide) rfl rfl rfl (by decide) rfl rfl (rfl : zCl[7]? = some (RX9, TX9, 10)) hl.1 rfl rfl (by rw [hRf, hRl]; exact ⟨Nat.le_of_ble_eq_true rfl, Nat.le_of_ble_eq_true rfl⟩) (Nat.le_of_ble_eq_true rfl) ⟨Nat.zero_le _, Nat.zero_le _⟩ dX9_setCell_38 (fun H locs Z => ?_)
        refine lv_if_eq (tgt := 46) hx hb dX9_setCell_41 (by decide) (fun c_5 => ?_) (fun c_5 => ?_)
        · (exact absurd c_5 (by decide))
        · refine lv_iconst (v := (0 : Int32)) hx hb dX9_setCell_44 (by decide) ?_
          exact z_ri (v := (0 : Int32)) E Z rfl (by rw [zf_X9_setCell_e, if_pos c_1, if_pos c_2, if_neg (zBf c_4)]; dsimp only; exact ⟨rfl, rfl⟩) dX9_setCell_45 (Nat.zero_le _) (Nat.zero_le _)
      · refine lv_iconst (v := (0 : Int32)) hx hb dX9_setCell_33 (by decide) ?_
        refine lv_goto (tgt := 38) hx hb dX9_setCell_34 (by decide) ?_
        refine z_callV (mc := 0) (ms := 0) (As := [.int (0 : Int32)]) (rest := []) (st2 := [.int (0 : Int32)]) (cs2 := [wMod g md MNow MPast MSav (zf_X9_refused_0) MThen MLev MFst MWay MMost MHash]) X Z [0] [] [0] 0 7 (zc_X9_refused_0 l g B md MNow MPast MSav MRef MThen MLev MFst MWay MMost MHash) wM_X9_55 wS_X9_refused wV_X9_refused wK_X9_refused wZ_X9 1 1 1 rfl (by decide +kernel) rfl (by decide) rfl rfl rfl (by decide) rfl rfl (rfl : zCl[7]? = some (RX9, TX9, 10)) hl.1 rfl rfl (by rw [hRf, hRl]; exact ⟨Nat.le_of_ble_eq_true rfl, Nat.le_of_ble_eq_true rfl⟩) (Nat.le_of_ble_eq_true rfl) ⟨Nat.zero_le _, Nat.zero_le _⟩ dX9_setCell_38 (fun H locs Z => ?_)
        refine lv_if_eq (tgt := 46) hx hb dX9_setCell_41 (by decide) (fun c_6 => ?_) (fun c_6 => ?_)
        · obtain ⟨ek1, hk1⟩ := (zok_cell (by assumption) : k = nI (zi k) ∧ _)
          have hl : lv_has ls 13 [(0, .ref (md 0)), (1, .int (nI (zi k))), (2, .int x), (3, .int y), (4, .int z)] := by rw [← ek1]; exact hl
          refine lv_iconst (v := (0 : Int32)) hx hb dX9_setCell_46 (by decide) ?_
          refine lv_iconst (v := (3 : Int32)) hx hb dX9_setCell_47 (by decide) ?_
          refine lv_iload_n hx hb dX9_setCell_48 rfl (lv_at hl 1 rfl) ?_
          refine z_imul (a := 3) (b := (zi k)) X rfl rfl dX9_setCell_49 ?_
          refine z_iadd (a := 0) (b := (3 * (zi k))) X rfl rfl dX9_setCell_50 ?_
          refine lv_istore (lv' := [(5, .int (nI (0 + (3 * (zi k))))), (0, .ref (md 0)), (1, .int (nI (zi k))), (2, .int x), (3, .int y), (4, .int z)]) hx hb dX9_setCell_51 hl (by decide) rfl (fun ls hl => ?_)
          refine lv_aload_n hx hb dX9_setCell_53 rfl (lv_at hl 1 rfl) ?_
          refine z_get X Z 0 rfl (rfl : zCl[7]? = some (RX9, TX9, 10)) zU_X9 0 (by decide) wF_X9_7 rfl rfl dX9_setCell_54 ?_
          refine lv_iload hx hb dX9_setCell_57 (lv_at hl 0 rfl) ?_
          refine z_lald (j := (0 + (3 * (zi k)))) X Z 1 rfl rfl (by omega) (by decide) dX9_setCell_59 ?_
          refine lv_lstore (lv' := [(6, .long (MNow (0 + (3 * (zi k))))), (5, .int (nI (0 + (3 * (zi k))))), (0, .ref (md 0)), (1, .int (nI (zi k))), (2, .int x), (3, .int y), (4, .int z)]) hx hb dX9_setCell_60 hl (by decide) rfl (fun ls hl => ?_)
          refine lv_aload_n hx hb dX9_setCell_62 rfl (lv_at hl 2 rfl) ?_
          refine z_get X Z 0 rfl (rfl : zCl[7]? = some (RX9, TX9, 10)) zU_X9 0 (by decide) wF_X9_7 rfl rfl dX9_setCell_63 ?_
          refine lv_iload hx hb dX9_setCell_66 (lv_at hl 1 rfl) ?_
          refine lv_iconst (v := (1 : Int32)) hx hb dX9_setCell_68 (by decide) ?_
          refine z_iadd (a := (0 + (3 * (zi k)))) (b := 1) X rfl rfl dX9_setCell_69 ?_
          refine z_lald (j := ((0 + (3 * (zi k))) + 1)) X Z 1 rfl rfl (by omega) (by decide) dX9_setCell_70 ?_
          refine lv_lstore (lv' := [(8, .long (MNow ((0 + (3 * (zi k))) + 1))), (6, .long (MNow (0 + (3 * (zi k))))), (5, .int (nI (0 + (3 * (zi k))))), (0, .ref (md 0)), (1, .int (nI (zi k))), (2, .int x), (3, .int y), (4, .int z)]) hx hb dX9_setCell_71 hl (by decide) rfl (fun ls hl => ?_)
          refine lv_aload_n hx hb dX9_setCell_73 rfl (lv_at hl 3 rfl) ?_
          refine z_get X Z 0 rfl (rfl : zCl[7]? = some (RX9, TX9, 10)) zU_X9 0 (by decide) wF_X9_7 rfl rfl dX9_setCell_74 ?_
          refine lv_iload hx hb dX9_setCell_77 (lv_at hl 2 rfl) ?_
          refine lv_iload_n hx hb dX9_setCell_79 rfl (lv_at hl 5 rfl) ?_
          refine lv_i2l hx hb dX9_setCell_80 rfl ?_
          refine z_last (cs2 := [wMod g md (vp_updL MNow (0 + (3 * (zi k))) x.toInt64) MPast MSav (zf_X9_refused_0) MThen MLev MFst MWay MMost MHash]) (j := (0 + (3 * (zi k)))) (x := x.toInt64) X Z 1 rfl rfl (by omega) (by decide) rfl dX9_setCell_81 (fun H locs Z => ?_)
          refine lv_aload_n hx hb dX9_setCell_82 rfl (lv_at hl 3 rfl) ?_
          refine z_get X Z 0 rfl (rfl : zCl[7]? = some (RX9, TX9, 10)) zU_X9 0 (by decide) wF_X9_7 rfl rfl dX9_setCell_83 ?_
          refine lv_iload hx hb dX9_setCell_86 (lv_at hl 2 rfl) ?_
          refine lv_iconst (v := (1 : Int32)) hx hb dX9_setCell_88 (by decide) ?_
          refine z_iadd (a := (0 + (3 * (zi k)))) (b := 1) X rfl rfl dX9_setCell_89 ?_
          refine lv_iload_n hx hb dX9_setCell_90 rfl (lv_at hl 6 rfl) ?_
          refine lv_i2l hx hb dX9_setCell_91 rfl ?_
          refine z_last (cs2 := [wMod g md (vp_updL (vp_updL MNow (0 + (3 * (zi k))) x.toInt64) ((0 + (3 * (zi k))) + 1) y.toInt64) MPast MSav (zf_X9_refused_0) MThen MLev MFst MWay MMost MHash]) (j := ((0 + (3 * (zi k))) + 1)) (x := y.toInt64) X Z 1 rfl rfl (by omega) (by decide) rfl dX9_setCell_92 (fun H locs Z => ?_)
          refine lv_aload_n hx hb dX9_setCell_93 rfl (lv_at hl 3 rfl) ?_
          refine z_callV (mc := 0) (ms := 0) (As := []) (rest := []) (st2 := [.long (zf_X9_area (vp_updL (vp_updL MNow (0 + (3 * (zi k))) x.toInt64) ((0 + (3 * (zi k))) + 1) y.toInt64))]) (cs2 := [wMod g md (vp_updL (vp_updL MNow (0 + (3 * (zi k))) x.toInt64) ((0 + (3 * (zi k))) + 1) y.toInt64) MPast MSav (zf_X9_refused_0) MThen MLev MFst MWay MMost MHash]) X Z [0] [] [0] 0 7 (zc_X9_area l g B md (vp_updL (vp_updL MNow (0 + (3 * (zi k))) x.toInt64) ((0 + (3 * (zi k))) + 1) y.toInt64) MPast MSav (zf_X9_refused_0) MThen MLev MFst MWay MMost MHash) wM_X9_74 wS_X9_area wV_X9_area wK_X9_area wZ_X9 0 1 1 rfl (by decide +kernel) rfl (by decide) rfl rfl rfl (by decide) rfl rfl (rfl : zCl[7]? = some (RX9, TX9, 10)) hl.1 rfl rfl (by rw [hRf, hRl]; exact ⟨Nat.le_of_ble_eq_true rfl, Nat.le_of_ble_eq_true rfl⟩) (Nat.le_of_ble_eq_true rfl) ⟨Nat.zero_le _, Nat.zero_le _⟩ dX9_setCell_94 (fun H locs Z => ?_)
          refine lv_lconst (v := (0 : Int64)) hx hb dX9_setCell_97 (by decide) ?_
          refine z_lc_ne (tgt := 106) X dX9_setCell_98 dX9_setCell_99 (by decide) (fun c_7 => ?_) (fun c_7 => ?_)
          · refine lv_iconst (v := (0 : Int32)) hx hb dX9_setCell_106 (by decide) ?_
            refine lv_istore (lv' := [(10, .int (0 : Int32)), (8, .long (MNow ((0 + (3 * (zi k))) + 1))), (6, .long (MNow (0 + (3 * (zi k))))), (5, .int (nI (0 + (3 * (zi k))))), (0, .ref (md 0)), (1, .int (nI (zi k))), (2, .int x), (3, .int y), (4, .int z)]) hx hb dX9_setCell_107 hl (by decide) rfl (fun ls hl => ?_)
            refine lv_aload_n hx hb dX9_setCell_109 rfl (lv_at hl 4 rfl) ?_
            refine z_get X Z 0 rfl (rfl : zCl[7]? = some (RX9, TX9, 10)) zU_X9 0 (by decide) wF_X9_7 rfl rfl dX9_setCell_110 ?_
            refine lv_iload hx hb dX9_setCell_113 (lv_at hl 3 rfl) ?_
            refine lv_lload hx hb dX9_setCell_115 (lv_at hl 2 rfl) ?_
            refine z_last (cs2 := [wMod g md (vp_updL (vp_updL (vp_updL MNow (0 + (3 * (zi k))) x.toInt64) ((0 + (3 * (zi k))) + 1) y.toInt64) (0 + (3 * (zi k))) (MNow (0 + (3 * (zi k))))) MPast MSav (zf_X9_refused_0) MThen MLev MFst MWay MMost MHash]) (j := (0 + (3 * (zi k)))) (x := (MNow (0 + (3 * (zi k))))) X Z 1 rfl rfl (by omega) (by decide) rfl dX9_setCell_117 (fun H locs Z => ?_)
            refine lv_aload_n hx hb dX9_setCell_118 rfl (lv_at hl 4 rfl) ?_
            refine z_get X Z 0 rfl (rfl : zCl[7]? = some (RX9, TX9, 10)) zU_X9 0 (by decide) wF_X9_7 rfl rfl dX9_setCell_119 ?_
            refine lv_iload hx hb dX9_setCell_122 (lv_at hl 3 rfl) ?_
            refine lv_iconst (v := (1 : Int32)) hx hb dX9_setCell_124 (by decide) ?_
            refine z_iadd (a := (0 + (3 * (zi k)))) (b := 1) X rfl rfl dX9_setCell_125 ?_
            refine lv_lload hx hb dX9_setCell_126 (lv_at hl 1 rfl) ?_
            refine z_last (cs2 := [wMod g md (vp_updL (vp_updL (vp_updL (vp_updL MNow (0 + (3 * (zi k))) x.toInt64) ((0 + (3 * (zi k))) + 1) y.toInt64) (0 + (3 * (zi k))) (MNow (0 + (3 * (zi k))))) ((0 + (3 * (zi k))) + 1) (MNow ((0 + (3 * (zi k))) + 1))) MPast MSav (zf_X9_refused_0) MThen MLev MFst MWay MMost MHash]) (j := ((0 + (3 * (zi k))) + 1)) (x := (MNow ((0 + (3 * (zi k))) + 1))) X Z 1 rfl rfl (by omega) (by decide) rfl dX9_setCell_128 (fun H locs Z => ?_)
            refine lv_aload_n hx hb dX9_setCell_129 rfl (lv_at hl 4 rfl) ?_
            refine lv_iload hx hb dX9_setCell_130 (lv_at hl 0 rfl) ?_
            refine lv_if_eq (tgt := 139) hx hb dX9_setCell_132 (by decide) (fun c_8 => ?_) (fun c_8 => ?_)
            · refine lv_iconst (v := (0 : Int32)) hx hb dX9_setCell_139 (by decide) ?_
              refine z_callV (mc := 0) (ms := 0) (As := [.int (0 : Int32)]) (rest := []) (st2 := [.int (0 : Int32)]) (cs2 := [wMod g md (vp_updL (vp_updL (vp_updL (vp_updL MNow (0 + (3 * (zi k))) x.toInt64) ((0 + (3 * (zi k))) + 1) y.toInt64) (0 + (3 * (zi k))) (MNow (0 + (3 * (zi k))))) ((0 + (3 * (zi k))) + 1) (MNow ((0 + (3 * (zi k))) + 1))) MPast MSav (zf_X9_refused_0) MThen MLev MFst MWay MMost MHash]) X Z [0] [] [0] 0 7 (zc_X9_refused_0 l g B md (vp_updL (vp_updL (vp_updL (vp_updL MNow (0 + (3 * (zi k))) x.toInt64) ((0 + (3 * (zi k))) + 1) y.toInt64) (0 + (3 * (zi k))) (MNow (0 + (3 * (zi k))))) ((0 + (3 * (zi k))) + 1) (MNow ((0 + (3 * (zi k))) + 1))) MPast MSav (zf_X9_refused_0) MThen MLev MFst MWay MMost MHash) wM_X9_55 wS_X9_refused wV_X9_refused wK_X9_refused wZ_X9 1 1 1 rfl (by decide +kernel) rfl (by decide) rfl rfl rfl (by decide) rfl rfl (rfl : zCl[7]? = some (RX9, TX9, 10)) hl.1 rfl rfl (by rw [hRf, hRl]; exact ⟨Nat.le_of_ble_eq_true rfl, Nat.le_of_ble_eq_true rfl⟩) (Nat.le_of_ble_eq_true rfl) ⟨Nat.zero_le _, Nat.zero_le _⟩ dX9_setCell_140 (fun H locs Z => ?_)
              refine lv_if_eq (tgt := 148) hx hb dX9_setCell_143 (by decide) (fun c_9 => ?_) (fun c_9 => ?_)
              · refine lv_aload_n hx hb dX9_setCell_148 rfl (lv_at hl 4 rfl) ?_
                refine z_callV (mc := 0) (ms := 0) (As := []) (rest := []) (st2 := []) (cs2 := [wMod g md (vp_updL (vp_updL (vp_updL (vp_updL MNow (0 + (3 * (zi k))) x.toInt64) ((0 + (3 * (zi k))) + 1) y.toInt64) (0 + (3 * (zi k))) (MNow (0 + (3 * (zi k))))) ((0 + (3 * (zi k))) + 1) (MNow ((0 + (3 * (zi k))) + 1))) ((zf_X9_saves (vp_updL (vp_updL (vp_updL (vp_updL MNow (0 + (3 * (zi k))) x.toInt64) ((0 + (3 * (zi k))) + 1) y.toInt64) (0 + (3 * (zi k))) (MNow (0 + (3 * (zi k))))) ((0 + (3 * (zi k))) + 1) (MNow ((0 + (3 * (zi k))) + 1))) MPast MSav).1) ((zf_X9_saves (vp_updL (vp_updL (vp_updL (vp_updL MNow (0 + (3 * (zi k))) x.toInt64) ((0 + (3 * (zi k))) + 1) y.toInt64) (0 + (3 * (zi k))) (MNow (0 + (3 * (zi k))))) ((0 + (3 * (zi k))) + 1) (MNow ((0 + (3 * (zi k))) + 1))) MPast MSav).2) (zf_X9_refused_0) MThen MLev MFst MWay MMost MHash]) X Z [0] [] [0] 0 7 (zc_X9_saves l g B md (vp_updL (vp_updL (vp_updL (vp_updL MNow (0 + (3 * (zi k))) x.toInt64) ((0 + (3 * (zi k))) + 1) y.toInt64) (0 + (3 * (zi k))) (MNow (0 + (3 * (zi k))))) ((0 + (3 * (zi k))) + 1) (MNow ((0 + (3 * (zi k))) + 1))) MPast MSav (zf_X9_refused_0) MThen MLev MFst MWay MMost MHash (by first | assumption | omega | decide)) wM_X9_87 wS_X9_saves wV_X9_saves wK_X9_saves wZ_X9 0 1 1 rfl (by decide +kernel) rfl (by decide) rfl rfl rfl (by decide) rfl rfl (rfl : zCl[7]? = some (RX9, TX9, 10)) hl.1 rfl rfl (by rw [hRf, hRl]; exact ⟨Nat.le_of_ble_eq_true rfl, Nat.le_of_ble_eq_true rfl⟩) (Nat.le_of_ble_eq_true rfl) ⟨Nat.zero_le _, Nat.zero_le _⟩ dX9_setCell_149 (fun H locs Z => ?_)
                refine lv_aload_n hx hb dX9_setCell_152 rfl (lv_at hl 4 rfl) ?_
                refine z_get X Z 0 rfl (rfl : zCl[7]? = some (RX9, TX9, 10)) zU_X9 0 (by decide) wF_X9_7 rfl rfl dX9_setCell_153 ?_
                refine lv_iload hx hb dX9_setCell_156 (lv_at hl 3 rfl) ?_
                refine lv_iconst (v := (2 : Int32)) hx hb dX9_setCell_158 (by decide) ?_
                refine z_iadd (a := (0 + (3 * (zi k)))) (b := 2) X rfl rfl dX9_setCell_159 ?_
                refine z_lald (j := ((0 + (3 * (zi k))) + 2)) X Z 1 rfl rfl (by omega) (by decide) dX9_setCell_160 ?_
                refine lv_lstore (lv' := [(11, .long ((vp_updL (vp_updL (vp_updL (vp_updL MNow (0 + (3 * (zi k))) x.toInt64) ((0 + (3 * (zi k))) + 1) y.toInt64) (0 + (3 * (zi k))) (MNow (0 + (3 * (zi k))))) ((0 + (3 * (zi k))) + 1) (MNow ((0 + (3 * (zi k))) + 1))) ((0 + (3 * (zi k))) + 2))), (10, .int (0 : Int32)), (8, .long (MNow ((0 + (3 * (zi k))) + 1))), (6, .long (MNow (0 + (3 * (zi k))))), (5, .int (nI (0 + (3 * (zi k))))), (0, .ref (md 0)), (1, .int (nI (zi k))), (2, .int x), (3, .int y), (4, .int z)]) hx hb dX9_setCell_161 hl (by decide) rfl (fun ls hl => ?_)
                refine lv_aload_n hx hb dX9_setCell_163 rfl (lv_at hl 5 rfl) ?_
                refine z_get X Z 0 rfl (rfl : zCl[7]? = some (RX9, TX9, 10)) zU_X9 0 (by decide) wF_X9_7 rfl rfl dX9_setCell_164 ?_
                refine lv_iload hx hb dX9_setCell_167 (lv_at hl 4 rfl) ?_
                refine lv_iload_n hx hb dX9_setCell_169 rfl (lv_at hl 7 rfl) ?_
                refine lv_i2l hx hb dX9_setCell_170 rfl ?_
                refine z_last (cs2 := [wMod g md (vp_updL (vp_updL (vp_updL (vp_updL (vp_updL MNow (0 + (3 * (zi k))) x.toInt64) ((0 + (3 * (zi k))) + 1) y.toInt64) (0 + (3 * (zi k))) (MNow (0 + (3 * (zi k))))) ((0 + (3 * (zi k))) + 1) (MNow ((0 + (3 * (zi k))) + 1))) (0 + (3 * (zi k))) x.toInt64) ((zf_X9_saves (vp_updL (vp_updL (vp_updL (vp_updL MNow (0 + (3 * (zi k))) x.toInt64) ((0 + (3 * (zi k))) + 1) y.toInt64) (0 + (3 * (zi k))) (MNow (0 + (3 * (zi k))))) ((0 + (3 * (zi k))) + 1) (MNow ((0 + (3 * (zi k))) + 1))) MPast MSav).1) ((zf_X9_saves (vp_updL (vp_updL (vp_updL (vp_updL MNow (0 + (3 * (zi k))) x.toInt64) ((0 + (3 * (zi k))) + 1) y.toInt64) (0 + (3 * (zi k))) (MNow (0 + (3 * (zi k))))) ((0 + (3 * (zi k))) + 1) (MNow ((0 + (3 * (zi k))) + 1))) MPast MSav).2) (zf_X9_refused_0) MThen MLev MFst MWay MMost MHash]) (j := (0 + (3 * (zi k)))) (x := x.toInt64) X Z 1 rfl rfl (by omega) (by decide) rfl dX9_setCell_171 (fun H locs Z => ?_)
                refine lv_aload_n hx hb dX9_setCell_172 rfl (lv_at hl 5 rfl) ?_
                refine z_get X Z 0 rfl (rfl : zCl[7]? = some (RX9, TX9, 10)) zU_X9 0 (by decide) wF_X9_7 rfl rfl dX9_setCell_173 ?_
                refine lv_iload hx hb dX9_setCell_176 (lv_at hl 4 rfl) ?_
                refine lv_iconst (v := (1 : Int32)) hx hb dX9_setCell_178 (by decide) ?_
                refine z_iadd (a := (0 + (3 * (zi k)))) (b := 1) X rfl rfl dX9_setCell_179 ?_
                refine lv_iload_n hx hb dX9_setCell_180 rfl (lv_at hl 8 rfl) ?_
                refine lv_i2l hx hb dX9_setCell_181 rfl ?_
                refine z_last (cs2 := [wMod g md (vp_updL (vp_updL (vp_updL (vp_updL (vp_updL (vp_updL MNow (0 + (3 * (zi k))) x.toInt64) ((0 + (3 * (zi k))) + 1) y.toInt64) (0 + (3 * (zi k))) (MNow (0 + (3 * (zi k))))) ((0 + (3 * (zi k))) + 1) (MNow ((0 + (3 * (zi k))) + 1))) (0 + (3 * (zi k))) x.toInt64) ((0 + (3 * (zi k))) + 1) y.toInt64) ((zf_X9_saves (vp_updL (vp_updL (vp_updL (vp_updL MNow (0 + (3 * (zi k))) x.toInt64) ((0 + (3 * (zi k))) + 1) y.toInt64) (0 + (3 * (zi k))) (MNow (0 + (3 * (zi k))))) ((0 + (3 * (zi k))) + 1) (MNow ((0 + (3 * (zi k))) + 1))) MPast MSav).1) ((zf_X9_saves (vp_updL (vp_updL (vp_updL (vp_updL MNow (0 + (3 * (zi k))) x.toInt64) ((0 + (3 * (zi k))) + 1) y.toInt64) (0 + (3 * (zi k))) (MNow (0 + (3 * (zi k))))) ((0 + (3 * (zi k))) + 1) (MNow ((0 + (3 * (zi k))) + 1))) MPast MSav).2) (zf_X9_refused_0) MThen MLev MFst MWay MMost MHash]) (j := ((0 + (3 * (zi k))) + 1)) (x := y.toInt64) X Z 1 rfl rfl (by omega) (by decide) rfl dX9_setCell_182 (fun H locs Z => ?_)
                refine lv_aload_n hx hb dX9_setCell_183 rfl (lv_at hl 5 rfl) ?_
                refine z_get X Z 0 rfl (rfl : zCl[7]? = some (RX9, TX9, 10)) zU_X9 0 (by decide) wF_X9_7 rfl rfl dX9_setCell_184 ?_
                refine lv_iload hx hb dX9_setCell_187 (lv_at hl 4 rfl) ?_
                refine lv_iconst (v := (2 : Int32)) hx hb dX9_setCell_189 (by decide) ?_
                refine z_iadd (a := (0 + (3 * (zi k)))) (b := 2) X rfl rfl dX9_setCell_190 ?_
                refine lv_iload hx hb dX9_setCell_191 (lv_at hl 9 rfl) ?_
                refine lv_i2l hx hb dX9_setCell_193 rfl ?_
                refine z_last (cs2 := [wMod g md (vp_updL (vp_updL (vp_updL (vp_updL (vp_updL (vp_updL (vp_updL MNow (0 + (3 * (zi k))) x.toInt64) ((0 + (3 * (zi k))) + 1) y.toInt64) (0 + (3 * (zi k))) (MNow (0 + (3 * (zi k))))) ((0 + (3 * (zi k))) + 1) (MNow ((0 + (3 * (zi k))) + 1))) (0 + (3 * (zi k))) x.toInt64) ((0 + (3 * (zi k))) + 1) y.toInt64) ((0 + (3 * (zi k))) + 2) z.toInt64) ((zf_X9_saves (vp_updL (vp_updL (vp_updL (vp_updL MNow (0 + (3 * (zi k))) x.toInt64) ((0 + (3 * (zi k))) + 1) y.toInt64) (0 + (3 * (zi k))) (MNow (0 + (3 * (zi k))))) ((0 + (3 * (zi k))) + 1) (MNow ((0 + (3 * (zi k))) + 1))) MPast MSav).1) ((zf_X9_saves (vp_updL (vp_updL (vp_updL (vp_updL MNow (0 + (3 * (zi k))) x.toInt64) ((0 + (3 * (zi k))) + 1) y.toInt64) (0 + (3 * (zi k))) (MNow (0 + (3 * (zi k))))) ((0 + (3 * (zi k))) + 1) (MNow ((0 + (3 * (zi k))) + 1))) MPast MSav).2) (zf_X9_refused_0) MThen MLev MFst MWay MMost MHash]) (j := ((0 + (3 * (zi k))) + 2)) (x := z.toInt64) X Z 1 rfl rfl (by omega) (by decide) rfl dX9_setCell_194 (fun H locs Z => ?_)
                refine lv_lload hx hb dX9_setCell_195 (lv_at hl 0 rfl) ?_
                refine lv_l2i hx hb dX9_setCell_197 rfl ?_
                exact z_ri (v := (((vp_updL (vp_updL (vp_updL (vp_updL MNow (0 + (3 * (zi k))) x.toInt64) ((0 + (3 * (zi k))) + 1) y.toInt64) (0 + (3 * (zi k))) (MNow (0 + (3 * (zi k))))) ((0 + (3 * (zi k))) + 1) (MNow ((0 + (3 * (zi k))) + 1))) ((0 + (3 * (zi k))) + 2)).toInt32)) E Z rfl (by rw [zf_X9_setCell_e, if_pos c_1, if_pos c_2, if_pos c_4, if_neg c_7]; dsimp only; exact ⟨rfl, rfl⟩) dX9_setCell_198 (Nat.zero_le _) (Nat.zero_le _)
              · (exact absurd c_9 (by decide))
            · (exact absurd c_8 (by decide))
          · refine lv_iconst (v := (1 : Int32)) hx hb dX9_setCell_102 (by decide) ?_
            refine lv_goto (tgt := 107) hx hb dX9_setCell_103 (by decide) ?_
            refine lv_istore (lv' := [(10, .int (1 : Int32)), (8, .long (MNow ((0 + (3 * (zi k))) + 1))), (6, .long (MNow (0 + (3 * (zi k))))), (5, .int (nI (0 + (3 * (zi k))))), (0, .ref (md 0)), (1, .int (nI (zi k))), (2, .int x), (3, .int y), (4, .int z)]) hx hb dX9_setCell_107 hl (by decide) rfl (fun ls hl => ?_)
            refine lv_aload_n hx hb dX9_setCell_109 rfl (lv_at hl 4 rfl) ?_
            refine z_get X Z 0 rfl (rfl : zCl[7]? = some (RX9, TX9, 10)) zU_X9 0 (by decide) wF_X9_7 rfl rfl dX9_setCell_110 ?_
            refine lv_iload hx hb dX9_setCell_113 (lv_at hl 3 rfl) ?_
            refine lv_lload hx hb dX9_setCell_115 (lv_at hl 2 rfl) ?_
            refine z_last (cs2 := [wMod g md (vp_updL (vp_updL (vp_updL MNow (0 + (3 * (zi k))) x.toInt64) ((0 + (3 * (zi k))) + 1) y.toInt64) (0 + (3 * (zi k))) (MNow (0 + (3 * (zi k))))) MPast MSav (zf_X9_refused_0) MThen MLev MFst MWay MMost MHash]) (j := (0 + (3 * (zi k)))) (x := (MNow (0 + (3 * (zi k))))) X Z 1 rfl rfl (by omega) (by decide) rfl dX9_setCell_117 (fun H locs Z => ?_)
            refine lv_aload_n hx hb dX9_setCell_118 rfl (lv_at hl 4 rfl) ?_
            refine z_get X Z 0 rfl (rfl : zCl[7]? = some (RX9, TX9, 10)) zU_X9 0 (by decide) wF_X9_7 rfl rfl dX9_setCell_119 ?_
            refine lv_iload hx hb dX9_setCell_122 (lv_at hl 3 rfl) ?_
            refine lv_iconst (v := (1 : Int32)) hx hb dX9_setCell_124 (by decide) ?_
            refine z_iadd (a := (0 + (3 * (zi k)))) (b := 1) X rfl rfl dX9_setCell_125 ?_
            refine lv_lload hx hb dX9_setCell_126 (lv_at hl 1 rfl) ?_
            refine z_last (cs2 := [wMod g md (vp_updL (vp_updL (vp_updL (vp_updL MNow (0 + (3 * (zi k))) x.toInt64) ((0 + (3 * (zi k))) + 1) y.toInt64) (0 + (3 * (zi k))) (MNow (0 + (3 * (zi k))))) ((0 + (3 * (zi k))) + 1) (MNow ((0 + (3 * (zi k))) + 1))) MPast MSav (zf_X9_refused_0) MThen MLev MFst MWay MMost MHash]) (j := ((0 + (3 * (zi k))) + 1)) (x := (MNow ((0 + (3 * (zi k))) + 1))) X Z 1 rfl rfl (by omega) (by decide) rfl dX9_setCell_128 (fun H locs Z => ?_)
            refine lv_aload_n hx hb dX9_setCell_129 rfl (lv_at hl 4 rfl) ?_
            refine lv_iload hx hb dX9_setCell_130 (lv_at hl 0 rfl) ?_
            refine lv_if_eq (tgt := 139) hx hb dX9_setCell_132 (by decide) (fun c_10 => ?_) (fun c_10 => ?_)
            · (exact absurd c_10 (by decide))
            · refine lv_iconst (v := (2 : Int32)) hx hb dX9_setCell_135 (by decide) ?_
              refine lv_goto (tgt := 140) hx hb dX9_setCell_136 (by decide) ?_
              refine z_callV (mc := 0) (ms := 0) (As := [.int (2 : Int32)]) (rest := []) (st2 := [.int (1 : Int32)]) (cs2 := [wMod g md (vp_updL (vp_updL (vp_updL (vp_updL MNow (0 + (3 * (zi k))) x.toInt64) ((0 + (3 * (zi k))) + 1) y.toInt64) (0 + (3 * (zi k))) (MNow (0 + (3 * (zi k))))) ((0 + (3 * (zi k))) + 1) (MNow ((0 + (3 * (zi k))) + 1))) MPast MSav (zf_X9_refused_2) MThen MLev MFst MWay MMost MHash]) X Z [0] [] [0] 0 7 (zc_X9_refused_2 l g B md (vp_updL (vp_updL (vp_updL (vp_updL MNow (0 + (3 * (zi k))) x.toInt64) ((0 + (3 * (zi k))) + 1) y.toInt64) (0 + (3 * (zi k))) (MNow (0 + (3 * (zi k))))) ((0 + (3 * (zi k))) + 1) (MNow ((0 + (3 * (zi k))) + 1))) MPast MSav (zf_X9_refused_0) MThen MLev MFst MWay MMost MHash) wM_X9_55 wS_X9_refused wV_X9_refused wK_X9_refused wZ_X9 1 1 1 rfl (by decide +kernel) rfl (by decide) rfl rfl rfl (by decide) rfl rfl (rfl : zCl[7]? = some (RX9, TX9, 10)) hl.1 rfl rfl (by rw [hRf, hRl]; exact ⟨Nat.le_of_ble_eq_true rfl, Nat.le_of_ble_eq_true rfl⟩) (Nat.le_of_ble_eq_true rfl) ⟨Nat.zero_le _, Nat.zero_le _⟩ dX9_setCell_140 (fun H locs Z => ?_)
              refine lv_if_eq (tgt := 148) hx hb dX9_setCell_143 (by decide) (fun c_11 => ?_) (fun c_11 => ?_)
              · (exact absurd c_11 (by decide))
              · refine lv_iconst (v := (0 : Int32)) hx hb dX9_setCell_146 (by decide) ?_
                exact z_ri (v := (0 : Int32)) E Z rfl (by rw [zf_X9_setCell_e, if_pos c_1, if_pos c_2, if_pos c_4, if_pos c_7]; dsimp only; exact ⟨rfl, rfl⟩) dX9_setCell_147 (Nat.zero_le _) (Nat.zero_le _)
        · (exact absurd c_6 (by decide))
  · refine lv_iconst (v := (1 : Int32)) hx hb dX9_setCell_8 (by decide) ?_
    refine lv_goto (tgt := 38) hx hb dX9_setCell_9 (by decide) ?_
    refine z_callV (mc := 0) (ms := 0) (As := [.int (1 : Int32)]) (rest := []) (st2 := [.int (1 : Int32)]) (cs2 := [wMod g md MNow MPast MSav (zf_X9_refused_1) MThen MLev MFst MWay MMost MHash]) X Z [0] [] [0] 0 7 (zc_X9_refused_1 l g B md MNow MPast MSav MRef MThen MLev MFst MWay MMost MHash) wM_X9_55 wS_X9_refused wV_X9_refused wK_X9_refused wZ_X9 1 1 1 rfl (by decide +kernel) rfl (by decide) rfl rfl rfl (by decide) rfl rfl (rfl : zCl[7]? = some (RX9, TX9, 10)) hl.1 rfl rfl (by rw [hRf, hRl]; exact ⟨Nat.le_of_ble_eq_true rfl, Nat.le_of_ble_eq_true rfl⟩) (Nat.le_of_ble_eq_true rfl) ⟨Nat.zero_le _, Nat.zero_le _⟩ dX9_setCell_38 (fun H locs Z => ?_)
    refine lv_if_eq (tgt := 46) hx hb dX9_setCell_41 (by decide) (fun c_12 => ?_) (fun c_12 => ?_)
    · (exact absurd c_12 (by decide))
    · refine lv_iconst (v := (0 : Int32)) hx hb dX9_setCell_44 (by decide) ?_
      exact z_ri (v := (0 : Int32)) E Z rfl (by rw [zf_X9_setCell_e, if_neg (zBf c_1)]; dsimp only; exact ⟨rfl, rfl⟩) dX9_setCell_45 (Nat.zero_le _) (Nat.zero_le _)
def zf_X9_place (MNow : Nat → Int64) (MPast : Nat → Int64) (MSav : Nat) (x : Int32) (y : Int32) (z : Int32) : Nat × Int32 × (Nat → Int64) × (Nat → Int64) × Nat := (if (zf_X9_isPlace x y) = true then (if (zf_X9_within z.toInt64 (1 : Int64) (1000 : Int64)) = true then (if (zc (MNow 9)) = 8 then (0, (zf_X9_refused_2), MNow, MPast, MSav) else (((zc (MNow 9) + 1) - 1), (zf_X9_refused_0), (vp_updL (vp_updL (vp_updL (vp_updL MNow (10 + (3 * (zc (MNow 9)))) x.toInt64) ((10 + (3 * (zc (MNow 9)))) + 1) y.toInt64) ((10 + (3 * (zc (MNow 9)))) + 2) z.toInt64) 9 (((vp_updL (vp_updL (vp_updL MNow (10 + (3 * (zc (MNow 9)))) x.toInt64) ((10 + (3 * (zc (MNow 9)))) + 1) y.toInt64) ((10 + (3 * (zc (MNow 9)))) + 2) z.toInt64) 9) + (1 : Int64))), ((zf_X9_saves MNow MPast MSav).1), ((zf_X9_saves MNow MPast MSav).2))) else (0, (zf_X9_refused_1), MNow, MPast, MSav)) else (0, (zf_X9_refused_1), MNow, MPast, MSav))
theorem zf_X9_place_e (MNow : Nat → Int64) (MPast : Nat → Int64) (MSav : Nat) (x : Int32) (y : Int32) (z : Int32) : zf_X9_place MNow MPast MSav x y z = (if (zf_X9_isPlace x y) = true then (if (zf_X9_within z.toInt64 (1 : Int64) (1000 : Int64)) = true then (if (zc (MNow 9)) = 8 then (0, (zf_X9_refused_2), MNow, MPast, MSav) else (((zc (MNow 9) + 1) - 1), (zf_X9_refused_0), (vp_updL (vp_updL (vp_updL (vp_updL MNow (10 + (3 * (zc (MNow 9)))) x.toInt64) ((10 + (3 * (zc (MNow 9)))) + 1) y.toInt64) ((10 + (3 * (zc (MNow 9)))) + 2) z.toInt64) 9 (((vp_updL (vp_updL (vp_updL MNow (10 + (3 * (zc (MNow 9)))) x.toInt64) ((10 + (3 * (zc (MNow 9)))) + 1) y.toInt64) ((10 + (3 * (zc (MNow 9)))) + 2) z.toInt64) 9) + (1 : Int64))), ((zf_X9_saves MNow MPast MSav).1), ((zf_X9_saves MNow MPast MSav).2))) else (0, (zf_X9_refused_1), MNow, MPast, MSav)) else (0, (zf_X9_refused_1), MNow, MPast, MSav)) := rfl
set_option maxHeartbeats 4000000 in
set_option maxRecDepth 100000 in
theorem zc_X9_place (l : Launch) (g : zG) (B : Nat) (md : Nat → Nat) (MNow : Nat → Int64) (MPast : Nat → Int64) (MSav : Nat) (MRef : Int32) (MThen : Nat → Int64) (MLev : Nat → Int64) (MFst : Int32) (MWay : Nat → Int64) (MMost : Nat → Int32) (MHash : Int64) (x : Int32) (y : Int32) (z : Int32) (hN : zNow MNow) (hs : MSav ≤ 4) : zMet l g B yX9_place cX9_place 5 (some .int) 3 140 0 0 [.ref (md 0), .int x, .int y, .int z] [wMod g md MNow MPast MSav MRef MThen MLev MFst MWay MMost MHash] (zDet (some (.int (nI ((zf_X9_place MNow MPast MSav x y z).1)))) [wMod g md ((zf_X9_place MNow MPast MSav x y z).2.2.1) ((zf_X9_place MNow MPast MSav x y z).2.2.2.1) ((zf_X9_place MNow MPast MSav x y z).2.2.2.2) ((zf_X9_place MNow MPast MSav x y z).2.1) MThen MLev MFst MWay MMost MHash]) := by
  refine z_in (plainFor_of_name (by decide)) (Nat.le_of_ble_eq_true rfl) (fun p e R s m args below meth c A Q hRf hRl hRc hRs X Z hnm E ls hl => ?_)
  have hx := X.1
  have hb := X.2.1
  have hown := X.2.2.2.1
  have hts := X.2.2.2.2.1
  have hl : lv_has ls 5 [(0, .ref (md 0)), (1, .int x), (2, .int y), (3, .int z)] := hl
  have hN2 := hN; obtain ⟨he9, hb9, he34, hb34, he43, hb43, he284, hb284, he301, hb301⟩ := hN2
  refine lv_aload_n hx hb dX9_place_0 rfl (lv_at hl 0 rfl) ?_
  refine lv_iload_n hx hb dX9_place_1 rfl (lv_at hl 1 rfl) ?_
  refine lv_iload_n hx hb dX9_place_2 rfl (lv_at hl 2 rfl) ?_
  refine z_callS (mc := 0) (ms := 0) (As := [.int x, .int y]) (rest := [.ref (md 0)]) (st2 := [.int (zB (zf_X9_isPlace x y)), .ref (md 0)]) (cs2 := [wMod g md MNow MPast MSav MRef MThen MLev MFst MWay MMost MHash]) X Z [] [0] [0] (zc_X9_isPlace l g B x y) wM_X9_81 wS_X9_isPlace wK_X9_isPlace wZ_X9 2 1 1 rfl (by decide +kernel) rfl (by decide) rfl rfl rfl (by decide) rfl hl.1 rfl rfl (by rw [hRf, hRl]; exact ⟨Nat.le_of_ble_eq_true rfl, Nat.le_of_ble_eq_true rfl⟩) (Nat.le_of_ble_eq_true rfl) ⟨Nat.zero_le _, Nat.zero_le _⟩ dX9_place_3 (fun H locs Z => ?_)
  refine z_ifeqB (b := (zf_X9_isPlace x y)) (tgt := 21) X dX9_place_6 (by decide) (fun c_1 => ?_) (fun c_1 => ?_)
  · refine lv_iconst (v := (1 : Int32)) hx hb dX9_place_21 (by decide) ?_
    refine lv_goto (tgt := 41) hx hb dX9_place_22 (by decide) ?_
    refine z_callV (mc := 0) (ms := 0) (As := [.int (1 : Int32)]) (rest := []) (st2 := [.int (1 : Int32)]) (cs2 := [wMod g md MNow MPast MSav (zf_X9_refused_1) MThen MLev MFst MWay MMost MHash]) X Z [0] [] [0] 0 7 (zc_X9_refused_1 l g B md MNow MPast MSav MRef MThen MLev MFst MWay MMost MHash) wM_X9_55 wS_X9_refused wV_X9_refused wK_X9_refused wZ_X9 1 1 1 rfl (by decide +kernel) rfl (by decide) rfl rfl rfl (by decide) rfl rfl (rfl : zCl[7]? = some (RX9, TX9, 10)) hl.1 rfl rfl (by rw [hRf, hRl]; exact ⟨Nat.le_of_ble_eq_true rfl, Nat.le_of_ble_eq_true rfl⟩) (Nat.le_of_ble_eq_true rfl) ⟨Nat.zero_le _, Nat.zero_le _⟩ dX9_place_41 (fun H locs Z => ?_)
    refine lv_if_eq (tgt := 49) hx hb dX9_place_44 (by decide) (fun c_2 => ?_) (fun c_2 => ?_)
    · (exact absurd c_2 (by decide))
    · refine lv_iconst (v := (0 : Int32)) hx hb dX9_place_47 (by decide) ?_
      exact z_ri (v := nI 0) E Z rfl (by rw [zf_X9_place_e, if_neg (zBf c_1)]; dsimp only; exact ⟨rfl, rfl⟩) dX9_place_48 (Nat.zero_le _) (Nat.zero_le _)
  · refine lv_iload_n hx hb dX9_place_9 rfl (lv_at hl 3 rfl) ?_
    refine lv_i2l hx hb dX9_place_10 rfl ?_
    refine lv_lconst (v := (1 : Int64)) hx hb dX9_place_11 (by decide) ?_
    refine lv_ldc2 (v := (1000 : Int64)) hx hb hown (hts _ wL_X9_90) dX9_place_12 ?_
    refine z_callS (mc := 0) (ms := 0) (As := [.long z.toInt64, .long (1 : Int64), .long (1000 : Int64)]) (rest := [.ref (md 0)]) (st2 := [.int (zB (zf_X9_within z.toInt64 (1 : Int64) (1000 : Int64))), .ref (md 0)]) (cs2 := [wMod g md MNow MPast MSav MRef MThen MLev MFst MWay MMost MHash]) X Z [] [0] [0] (zc_X9_within l g B z.toInt64 (1 : Int64) (1000 : Int64)) wM_X9_44 wS_X9_within wK_X9_within wZ_X9 3 1 1 rfl (by decide +kernel) rfl (by decide) rfl rfl rfl (by decide) rfl hl.1 rfl rfl (by rw [hRf, hRl]; exact ⟨Nat.le_of_ble_eq_true rfl, Nat.le_of_ble_eq_true rfl⟩) (Nat.le_of_ble_eq_true rfl) ⟨Nat.zero_le _, Nat.zero_le _⟩ dX9_place_15 (fun H locs Z => ?_)
    refine z_ifneB (b := (zf_X9_within z.toInt64 (1 : Int64) (1000 : Int64))) (tgt := 25) X dX9_place_18 (by decide) (fun c_3 => ?_) (fun c_3 => ?_)
    · refine lv_aload_n hx hb dX9_place_25 rfl (lv_at hl 0 rfl) ?_
      refine lv_bipush (v := (9 : Int32)) hx hb dX9_place_26 (by decide) ?_
      refine z_callV (mc := 0) (ms := 0) (As := [.int (9 : Int32)]) (rest := [.ref (md 0)]) (st2 := [.int (nI (zc (MNow 9))), .ref (md 0)]) (cs2 := [wMod g md MNow MPast MSav MRef MThen MLev MFst MWay MMost MHash]) X Z [0] [] [0] 0 7 (zc_X9_many l g B md MNow MPast MSav MRef MThen MLev MFst MWay MMost MHash 9 (zc (MNow 9)) (by first | assumption | omega | decide) (by first | assumption | omega | decide)) wM_X9_66 wS_X9_many wV_X9_many wK_X9_many wZ_X9 1 1 1 rfl (by decide +kernel) rfl (by decide) rfl rfl rfl (by decide) rfl rfl (rfl : zCl[7]? = some (RX9, TX9, 10)) hl.1 rfl rfl (by rw [hRf, hRl]; exact ⟨Nat.le_of_ble_eq_true rfl, Nat.le_of_ble_eq_true rfl⟩) (Nat.le_of_ble_eq_true rfl) ⟨Nat.zero_le _, Nat.zero_le _⟩ dX9_place_28 (fun H locs Z => ?_)
      refine lv_bipush (v := (8 : Int32)) hx hb dX9_place_31 (by decide) ?_
      refine z_icmp_ne (a := (zc (MNow 9))) (b := 8) (tgt := 40) X rfl rfl (by omega) (by omega) dX9_place_33 (by decide) (fun c_4 => ?_) (fun c_4 => ?_)
      · refine lv_iconst (v := (0 : Int32)) hx hb dX9_place_40 (by decide) ?_
        refine z_callV (mc := 0) (ms := 0) (As := [.int (0 : Int32)]) (rest := []) (st2 := [.int (0 : Int32)]) (cs2 := [wMod g md MNow MPast MSav (zf_X9_refused_0) MThen MLev MFst MWay MMost MHash]) X Z [0] [] [0] 0 7 (zc_X9_refused_0 l g B md MNow MPast MSav MRef MThen MLev MFst MWay MMost MHash) wM_X9_55 wS_X9_refused wV_X9_refused wK_X9_refused wZ_X9 1 1 1 rfl (by decide +kernel) rfl (by decide) rfl rfl rfl (by decide) rfl rfl (rfl : zCl[7]? = some (RX9, TX9, 10)) hl.1 rfl rfl (by rw [hRf, hRl]; exact ⟨Nat.le_of_ble_eq_true rfl, Nat.le_of_ble_eq_true rfl⟩) (Nat.le_of_ble_eq_true rfl) ⟨Nat.zero_le _, Nat.zero_le _⟩ dX9_place_41 (fun H locs Z => ?_)
        refine lv_if_eq (tgt := 49) hx hb dX9_place_44 (by decide) (fun c_5 => ?_) (fun c_5 => ?_)
        · refine lv_aload_n hx hb dX9_place_49 rfl (lv_at hl 0 rfl) ?_
          refine z_callV (mc := 0) (ms := 0) (As := []) (rest := []) (st2 := []) (cs2 := [wMod g md MNow ((zf_X9_saves MNow MPast MSav).1) ((zf_X9_saves MNow MPast MSav).2) (zf_X9_refused_0) MThen MLev MFst MWay MMost MHash]) X Z [0] [] [0] 0 7 (zc_X9_saves l g B md MNow MPast MSav (zf_X9_refused_0) MThen MLev MFst MWay MMost MHash (by first | assumption | omega | decide)) wM_X9_87 wS_X9_saves wV_X9_saves wK_X9_saves wZ_X9 0 1 1 rfl (by decide +kernel) rfl (by decide) rfl rfl rfl (by decide) rfl rfl (rfl : zCl[7]? = some (RX9, TX9, 10)) hl.1 rfl rfl (by rw [hRf, hRl]; exact ⟨Nat.le_of_ble_eq_true rfl, Nat.le_of_ble_eq_true rfl⟩) (Nat.le_of_ble_eq_true rfl) ⟨Nat.zero_le _, Nat.zero_le _⟩ dX9_place_50 (fun H locs Z => ?_)
          refine lv_bipush (v := (10 : Int32)) hx hb dX9_place_53 (by decide) ?_
          refine lv_iconst (v := (3 : Int32)) hx hb dX9_place_55 (by decide) ?_
          refine lv_aload_n hx hb dX9_place_56 rfl (lv_at hl 0 rfl) ?_
          refine lv_bipush (v := (9 : Int32)) hx hb dX9_place_57 (by decide) ?_
          refine z_callV (mc := 0) (ms := 0) (As := [.int (9 : Int32)]) (rest := [.int (3 : Int32), .int (10 : Int32)]) (st2 := [.int (nI (zc (MNow 9))), .int (3 : Int32), .int (10 : Int32)]) (cs2 := [wMod g md MNow ((zf_X9_saves MNow MPast MSav).1) ((zf_X9_saves MNow MPast MSav).2) (zf_X9_refused_0) MThen MLev MFst MWay MMost MHash]) X Z [0] [] [0] 0 7 (zc_X9_many l g B md MNow ((zf_X9_saves MNow MPast MSav).1) ((zf_X9_saves MNow MPast MSav).2) (zf_X9_refused_0) MThen MLev MFst MWay MMost MHash 9 (zc (MNow 9)) (by first | assumption | omega | decide) (by first | assumption | omega | decide)) wM_X9_66 wS_X9_many wV_X9_many wK_X9_many wZ_X9 1 1 1 rfl (by decide +kernel) rfl (by decide) rfl rfl rfl (by decide) rfl rfl (rfl : zCl[7]? = some (RX9, TX9, 10)) hl.1 rfl rfl (by rw [hRf, hRl]; exact ⟨Nat.le_of_ble_eq_true rfl, Nat.le_of_ble_eq_true rfl⟩) (Nat.le_of_ble_eq_true rfl) ⟨Nat.zero_le _, Nat.zero_le _⟩ dX9_place_59 (fun H locs Z => ?_)
          refine z_imul (a := 3) (b := (zc (MNow 9))) X rfl rfl dX9_place_62 ?_
          refine z_iadd (a := 10) (b := (3 * (zc (MNow 9)))) X rfl rfl dX9_place_63 ?_
          refine lv_istore (lv' := [(4, .int (nI (10 + (3 * (zc (MNow 9)))))), (0, .ref (md 0)), (1, .int x), (2, .int y), (3, .int z)]) hx hb dX9_place_64 hl (by decide) rfl (fun ls hl => ?_)
          refine lv_aload_n hx hb dX9_place_66 rfl (lv_at hl 1 rfl) ?_
          refine z_get X Z 0 rfl (rfl : zCl[7]? = some (RX9, TX9, 10)) zU_X9 0 (by decide) wF_X9_7 rfl rfl dX9_place_67 ?_
          refine lv_iload hx hb dX9_place_70 (lv_at hl 0 rfl) ?_
          refine lv_iload_n hx hb dX9_place_72 rfl (lv_at hl 2 rfl) ?_
          refine lv_i2l hx hb dX9_place_73 rfl ?_
          refine z_last (cs2 := [wMod g md (vp_updL MNow (10 + (3 * (zc (MNow 9)))) x.toInt64) ((zf_X9_saves MNow MPast MSav).1) ((zf_X9_saves MNow MPast MSav).2) (zf_X9_refused_0) MThen MLev MFst MWay MMost MHash]) (j := (10 + (3 * (zc (MNow 9))))) (x := x.toInt64) X Z 1 rfl rfl (by omega) (by decide) rfl dX9_place_74 (fun H locs Z => ?_)
          refine lv_aload_n hx hb dX9_place_75 rfl (lv_at hl 1 rfl) ?_
          refine z_get X Z 0 rfl (rfl : zCl[7]? = some (RX9, TX9, 10)) zU_X9 0 (by decide) wF_X9_7 rfl rfl dX9_place_76 ?_
          refine lv_iload hx hb dX9_place_79 (lv_at hl 0 rfl) ?_
          refine lv_iconst (v := (1 : Int32)) hx hb dX9_place_81 (by decide) ?_
          refine z_iadd (a := (10 + (3 * (zc (MNow 9))))) (b := 1) X rfl rfl dX9_place_82 ?_
          refine lv_iload_n hx hb dX9_place_83 rfl (lv_at hl 3 rfl) ?_
          refine lv_i2l hx hb dX9_place_84 rfl ?_
          refine z_last (cs2 := [wMod g md (vp_updL (vp_updL MNow (10 + (3 * (zc (MNow 9)))) x.toInt64) ((10 + (3 * (zc (MNow 9)))) + 1) y.toInt64) ((zf_X9_saves MNow MPast MSav).1) ((zf_X9_saves MNow MPast MSav).2) (zf_X9_refused_0) MThen MLev MFst MWay MMost MHash]) (j := ((10 + (3 * (zc (MNow 9)))) + 1)) (x := y.toInt64) X Z 1 rfl rfl (by omega) (by decide) rfl dX9_place_85 (fun H locs Z => ?_)
          refine lv_aload_n hx hb dX9_place_86 rfl (lv_at hl 1 rfl) ?_
          refine z_get X Z 0 rfl (rfl : zCl[7]? = some (RX9, TX9, 10)) zU_X9 0 (by decide) wF_X9_7 rfl rfl dX9_place_87 ?_
          refine lv_iload hx hb dX9_place_90 (lv_at hl 0 rfl) ?_
          refine lv_iconst (v := (2 : Int32)) hx hb dX9_place_92 (by decide) ?_
          refine z_iadd (a := (10 + (3 * (zc (MNow 9))))) (b := 2) X rfl rfl dX9_place_93 ?_
          refine lv_iload_n hx hb dX9_place_94 rfl (lv_at hl 4 rfl) ?_
          refine lv_i2l hx hb dX9_place_95 rfl ?_
          refine z_last (cs2 := [wMod g md (vp_updL (vp_updL (vp_updL MNow (10 + (3 * (zc (MNow 9)))) x.toInt64) ((10 + (3 * (zc (MNow 9)))) + 1) y.toInt64) ((10 + (3 * (zc (MNow 9)))) + 2) z.toInt64) ((zf_X9_saves MNow MPast MSav).1) ((zf_X9_saves MNow MPast MSav).2) (zf_X9_refused_0) MThen MLev MFst MWay MMost MHash]) (j := ((10 + (3 * (zc (MNow 9)))) + 2)) (x := z.toInt64) X Z 1 rfl rfl (by omega) (by decide) rfl dX9_place_96 (fun H locs Z => ?_)
          refine lv_aload_n hx hb dX9_place_97 rfl (lv_at hl 1 rfl) ?_
          refine z_get X Z 0 rfl (rfl : zCl[7]? = some (RX9, TX9, 10)) zU_X9 0 (by decide) wF_X9_7 rfl rfl dX9_place_98 ?_
          refine lv_bipush (v := (9 : Int32)) hx hb dX9_place_101 (by decide) ?_
          refine lv_dup2_11 hx hb dX9_place_103 rfl rfl ?_
          refine z_lald (j := 9) X Z 1 rfl rfl (by omega) (by decide) dX9_place_104 ?_
          refine lv_lconst (v := (1 : Int64)) hx hb dX9_place_105 (by decide) ?_
          refine lv_ladd hx hb dX9_place_106 ?_
          refine z_last (cs2 := [wMod g md (vp_updL (vp_updL (vp_updL (vp_updL MNow (10 + (3 * (zc (MNow 9)))) x.toInt64) ((10 + (3 * (zc (MNow 9)))) + 1) y.toInt64) ((10 + (3 * (zc (MNow 9)))) + 2) z.toInt64) 9 (((vp_updL (vp_updL (vp_updL MNow (10 + (3 * (zc (MNow 9)))) x.toInt64) ((10 + (3 * (zc (MNow 9)))) + 1) y.toInt64) ((10 + (3 * (zc (MNow 9)))) + 2) z.toInt64) 9) + (1 : Int64))) ((zf_X9_saves MNow MPast MSav).1) ((zf_X9_saves MNow MPast MSav).2) (zf_X9_refused_0) MThen MLev MFst MWay MMost MHash]) (j := 9) (x := (((vp_updL (vp_updL (vp_updL MNow (10 + (3 * (zc (MNow 9)))) x.toInt64) ((10 + (3 * (zc (MNow 9)))) + 1) y.toInt64) ((10 + (3 * (zc (MNow 9)))) + 2) z.toInt64) 9) + (1 : Int64))) X Z 1 rfl rfl (by omega) (by decide) rfl dX9_place_107 (fun H locs Z => ?_)
          refine lv_aload_n hx hb dX9_place_108 rfl (lv_at hl 1 rfl) ?_
          refine lv_bipush (v := (9 : Int32)) hx hb dX9_place_109 (by decide) ?_
          refine z_callV (mc := 0) (ms := 0) (As := [.int (9 : Int32)]) (rest := []) (st2 := [.int (nI (zc (MNow 9) + 1))]) (cs2 := [wMod g md (vp_updL (vp_updL (vp_updL (vp_updL MNow (10 + (3 * (zc (MNow 9)))) x.toInt64) ((10 + (3 * (zc (MNow 9)))) + 1) y.toInt64) ((10 + (3 * (zc (MNow 9)))) + 2) z.toInt64) 9 (((vp_updL (vp_updL (vp_updL MNow (10 + (3 * (zc (MNow 9)))) x.toInt64) ((10 + (3 * (zc (MNow 9)))) + 1) y.toInt64) ((10 + (3 * (zc (MNow 9)))) + 2) z.toInt64) 9) + (1 : Int64))) ((zf_X9_saves MNow MPast MSav).1) ((zf_X9_saves MNow MPast MSav).2) (zf_X9_refused_0) MThen MLev MFst MWay MMost MHash]) X Z [0] [] [0] 0 7 (zc_X9_many l g B md (vp_updL (vp_updL (vp_updL (vp_updL MNow (10 + (3 * (zc (MNow 9)))) x.toInt64) ((10 + (3 * (zc (MNow 9)))) + 1) y.toInt64) ((10 + (3 * (zc (MNow 9)))) + 2) z.toInt64) 9 (((vp_updL (vp_updL (vp_updL MNow (10 + (3 * (zc (MNow 9)))) x.toInt64) ((10 + (3 * (zc (MNow 9)))) + 1) y.toInt64) ((10 + (3 * (zc (MNow 9)))) + 2) z.toInt64) 9) + (1 : Int64))) ((zf_X9_saves MNow MPast MSav).1) ((zf_X9_saves MNow MPast MSav).2) (zf_X9_refused_0) MThen MLev MFst MWay MMost MHash 9 (zc (MNow 9) + 1) (by first | assumption | omega | decide) (zmany1 (n := zc (MNow 9)) (by rw [zuL_ne (by omega), zuL_ne (by omega), zuL_ne (by omega)]; exact he9))) wM_X9_66 wS_X9_many wV_X9_many wK_X9_many wZ_X9 1 1 1 rfl (by decide +kernel) rfl (by decide) rfl rfl rfl (by decide) rfl rfl (rfl : zCl[7]? = some (RX9, TX9, 10)) hl.1 rfl rfl (by rw [hRf, hRl]; exact ⟨Nat.le_of_ble_eq_true rfl, Nat.le_of_ble_eq_true rfl⟩) (Nat.le_of_ble_eq_true rfl) ⟨Nat.zero_le _, Nat.zero_le _⟩ dX9_place_111 (fun H locs Z => ?_)
          refine lv_iconst (v := (1 : Int32)) hx hb dX9_place_114 (by decide) ?_
          refine z_isub (a := (zc (MNow 9) + 1)) (b := 1) X rfl rfl (by omega) dX9_place_115 ?_
          exact z_ri (v := nI ((zc (MNow 9) + 1) - 1)) E Z rfl (by rw [zf_X9_place_e, if_pos c_1, if_pos c_3, if_neg c_4]; dsimp only; exact ⟨rfl, rfl⟩) dX9_place_116 (Nat.zero_le _) (Nat.zero_le _)
        · (exact absurd c_5 (by decide))
      · refine lv_iconst (v := (2 : Int32)) hx hb dX9_place_36 (by decide) ?_
        refine lv_goto (tgt := 41) hx hb dX9_place_37 (by decide) ?_
        refine z_callV (mc := 0) (ms := 0) (As := [.int (2 : Int32)]) (rest := []) (st2 := [.int (1 : Int32)]) (cs2 := [wMod g md MNow MPast MSav (zf_X9_refused_2) MThen MLev MFst MWay MMost MHash]) X Z [0] [] [0] 0 7 (zc_X9_refused_2 l g B md MNow MPast MSav MRef MThen MLev MFst MWay MMost MHash) wM_X9_55 wS_X9_refused wV_X9_refused wK_X9_refused wZ_X9 1 1 1 rfl (by decide +kernel) rfl (by decide) rfl rfl rfl (by decide) rfl rfl (rfl : zCl[7]? = some (RX9, TX9, 10)) hl.1 rfl rfl (by rw [hRf, hRl]; exact ⟨Nat.le_of_ble_eq_true rfl, Nat.le_of_ble_eq_true rfl⟩) (Nat.le_of_ble_eq_true rfl) ⟨Nat.zero_le _, Nat.zero_le _⟩ dX9_place_41 (fun H locs Z => ?_)
        refine lv_if_eq (tgt := 49) hx hb dX9_place_44 (by decide) (fun c_6 => ?_) (fun c_6 => ?_)
        · (exact absurd c_6 (by decide))
        · refine lv_iconst (v := (0 : Int32)) hx hb dX9_place_47 (by decide) ?_
          exact z_ri (v := nI 0) E Z rfl (by rw [zf_X9_place_e, if_pos c_1, if_pos c_3, if_pos c_4]; dsimp only; exact ⟨rfl, rfl⟩) dX9_place_48 (Nat.zero_le _) (Nat.zero_le _)
    · refine lv_iconst (v := (1 : Int32)) hx hb dX9_place_21 (by decide) ?_
      refine lv_goto (tgt := 41) hx hb dX9_place_22 (by decide) ?_
      refine z_callV (mc := 0) (ms := 0) (As := [.int (1 : Int32)]) (rest := []) (st2 := [.int (1 : Int32)]) (cs2 := [wMod g md MNow MPast MSav (zf_X9_refused_1) MThen MLev MFst MWay MMost MHash]) X Z [0] [] [0] 0 7 (zc_X9_refused_1 l g B md MNow MPast MSav MRef MThen MLev MFst MWay MMost MHash) wM_X9_55 wS_X9_refused wV_X9_refused wK_X9_refused wZ_X9 1 1 1 rfl (by decide +kernel) rfl (by decide) rfl rfl rfl (by decide) rfl rfl (rfl : zCl[7]? = some (RX9, TX9, 10)) hl.1 rfl rfl (by rw [hRf, hRl]; exact ⟨Nat.le_of_ble_eq_true rfl, Nat.le_of_ble_eq_true rfl⟩) (Nat.le_of_ble_eq_true rfl) ⟨Nat.zero_le _, Nat.zero_le _⟩ dX9_place_41 (fun H locs Z => ?_)
      refine lv_if_eq (tgt := 49) hx hb dX9_place_44 (by decide) (fun c_7 => ?_) (fun c_7 => ?_)
      · (exact absurd c_7 (by decide))
      · refine lv_iconst (v := (0 : Int32)) hx hb dX9_place_47 (by decide) ?_
        exact z_ri (v := nI 0) E Z rfl (by rw [zf_X9_place_e, if_pos c_1, if_neg (zBf c_3)]; dsimp only; exact ⟨rfl, rfl⟩) dX9_place_48 (Nat.zero_le _) (Nat.zero_le _)
def zl_X9_lift_69 (k : Int32) : Nat → Nat → (Nat → Int64) → (Nat → Int64)
  | 0, _, v1 => v1
  | n69 + 1, j69, v1 => zl_X9_lift_69 k n69 (j69 + 1) (vp_updL v1 ((10 + (3 * (zi k))) + j69) (v1 (((10 + (3 * (zi k))) + j69) + 3)))
theorem zl_X9_lift_69_s (k : Int32) (n69 : Nat) (j69 : Nat) (v1 : Nat → Int64) : zl_X9_lift_69 k (n69 + 1) j69 v1 = zl_X9_lift_69 k n69 (j69 + 1) (vp_updL v1 ((10 + (3 * (zi k))) + j69) (v1 (((10 + (3 * (zi k))) + j69) + 3))) := rfl
def zf_X9_lift (MNow : Nat → Int64) (MPast : Nat → Int64) (MSav : Nat) (k : Int32) : Int32 × Int32 × (Nat → Int64) × (Nat → Int64) × Nat := (if (zf_X9_within k.toInt64 (0 : Int64) (((nI (zc (MNow 9))) - (1 : Int32)).toInt64)) = true then (((MNow ((10 + (3 * (zi k))) + 2)).toInt32), (zf_X9_refused_0), (zl_X9_lift_69 k ((10 + (3 * (zc (MNow 9) - 1))) - (10 + (3 * (zi k)))) 0 (vp_updL MNow 9 ((MNow 9) - (1 : Int64)))), ((zf_X9_saves MNow MPast MSav).1), ((zf_X9_saves MNow MPast MSav).2)) else ((0 : Int32), (zf_X9_refused_1), MNow, MPast, MSav))
theorem zf_X9_lift_e (MNow : Nat → Int64) (MPast : Nat → Int64) (MSav : Nat) (k : Int32) : zf_X9_lift MNow MPast MSav k = (if (zf_X9_within k.toInt64 (0 : Int64) (((nI (zc (MNow 9))) - (1 : Int32)).toInt64)) = true then (((MNow ((10 + (3 * (zi k))) + 2)).toInt32), (zf_X9_refused_0), (zl_X9_lift_69 k ((10 + (3 * (zc (MNow 9) - 1))) - (10 + (3 * (zi k)))) 0 (vp_updL MNow 9 ((MNow 9) - (1 : Int64)))), ((zf_X9_saves MNow MPast MSav).1), ((zf_X9_saves MNow MPast MSav).2)) else ((0 : Int32), (zf_X9_refused_1), MNow, MPast, MSav)) := rfl
set_option maxHeartbeats 4000000 in
set_option maxRecDepth 100000 in
theorem zc_X9_lift (l : Launch) (g : zG) (B : Nat) (md : Nat → Nat) (MNow : Nat → Int64) (MPast : Nat → Int64) (MSav : Nat) (MRef : Int32) (MThen : Nat → Int64) (MLev : Nat → Int64) (MFst : Int32) (MWay : Nat → Int64) (MMost : Nat → Int32) (MHash : Int64) (k : Int32) (hN : zNow MNow) (hs : MSav ≤ 4) : zMet l g B yX9_lift cX9_lift 4 (some .int) 3 140 0 0 [.ref (md 0), .int k] [wMod g md MNow MPast MSav MRef MThen MLev MFst MWay MMost MHash] (zDet (some (.int ((zf_X9_lift MNow MPast MSav k).1))) [wMod g md ((zf_X9_lift MNow MPast MSav k).2.2.1) ((zf_X9_lift MNow MPast MSav k).2.2.2.1) ((zf_X9_lift MNow MPast MSav k).2.2.2.2) ((zf_X9_lift MNow MPast MSav k).2.1) MThen MLev MFst MWay MMost MHash]) := by
  refine z_in (plainFor_of_name (by decide)) (Nat.le_of_ble_eq_true rfl) (fun p e R s m args below meth c A Q hRf hRl hRc hRs X Z hnm E ls hl => ?_)
  have hx := X.1
  have hb := X.2.1
  have hown := X.2.2.2.1
  have hts := X.2.2.2.2.1
  have hl : lv_has ls 4 [(0, .ref (md 0)), (1, .int k)] := hl
  have hN2 := hN; obtain ⟨he9, hb9, he34, hb34, he43, hb43, he284, hb284, he301, hb301⟩ := hN2
  refine lv_aload_n hx hb dX9_lift_0 rfl (lv_at hl 0 rfl) ?_
  refine lv_iload_n hx hb dX9_lift_1 rfl (lv_at hl 1 rfl) ?_
  refine lv_i2l hx hb dX9_lift_2 rfl ?_
  refine lv_lconst (v := (0 : Int64)) hx hb dX9_lift_3 (by decide) ?_
  refine lv_aload_n hx hb dX9_lift_4 rfl (lv_at hl 0 rfl) ?_
  refine lv_bipush (v := (9 : Int32)) hx hb dX9_lift_5 (by decide) ?_
  refine z_callV (mc := 0) (ms := 0) (As := [.int (9 : Int32)]) (rest := [.long (0 : Int64), .long k.toInt64, .ref (md 0)]) (st2 := [.int (nI (zc (MNow 9))), .long (0 : Int64), .long k.toInt64, .ref (md 0)]) (cs2 := [wMod g md MNow MPast MSav MRef MThen MLev MFst MWay MMost MHash]) X Z [0] [] [0] 0 7 (zc_X9_many l g B md MNow MPast MSav MRef MThen MLev MFst MWay MMost MHash 9 (zc (MNow 9)) (by first | assumption | omega | decide) (by first | assumption | omega | decide)) wM_X9_66 wS_X9_many wV_X9_many wK_X9_many wZ_X9 1 1 1 rfl (by decide +kernel) rfl (by decide) rfl rfl rfl (by decide) rfl rfl (rfl : zCl[7]? = some (RX9, TX9, 10)) hl.1 rfl rfl (by rw [hRf, hRl]; exact ⟨Nat.le_of_ble_eq_true rfl, Nat.le_of_ble_eq_true rfl⟩) (Nat.le_of_ble_eq_true rfl) ⟨Nat.zero_le _, Nat.zero_le _⟩ dX9_lift_7 (fun H locs Z => ?_)
  refine lv_iconst (v := (1 : Int32)) hx hb dX9_lift_10 (by decide) ?_
  refine lv_isub hx hb dX9_lift_11 ?_
  refine lv_i2l hx hb dX9_lift_12 rfl ?_
  refine z_callS (mc := 0) (ms := 0) (As := [.long k.toInt64, .long (0 : Int64), .long (((nI (zc (MNow 9))) - (1 : Int32)).toInt64)]) (rest := [.ref (md 0)]) (st2 := [.int (zB (zf_X9_within k.toInt64 (0 : Int64) (((nI (zc (MNow 9))) - (1 : Int32)).toInt64))), .ref (md 0)]) (cs2 := [wMod g md MNow MPast MSav MRef MThen MLev MFst MWay MMost MHash]) X Z [] [0] [0] (zc_X9_within l g B k.toInt64 (0 : Int64) (((nI (zc (MNow 9))) - (1 : Int32)).toInt64)) wM_X9_44 wS_X9_within wK_X9_within wZ_X9 3 1 1 rfl (by decide +kernel) rfl (by decide) rfl rfl rfl (by decide) rfl hl.1 rfl rfl (by rw [hRf, hRl]; exact ⟨Nat.le_of_ble_eq_true rfl, Nat.le_of_ble_eq_true rfl⟩) (Nat.le_of_ble_eq_true rfl) ⟨Nat.zero_le _, Nat.zero_le _⟩ dX9_lift_13 (fun H locs Z => ?_)
  refine z_ifeqB (b := (zf_X9_within k.toInt64 (0 : Int64) (((nI (zc (MNow 9))) - (1 : Int32)).toInt64))) (tgt := 23) X dX9_lift_16 (by decide) (fun c_1 => ?_) (fun c_1 => ?_)
  · refine lv_iconst (v := (1 : Int32)) hx hb dX9_lift_23 (by decide) ?_
    refine z_callV (mc := 0) (ms := 0) (As := [.int (1 : Int32)]) (rest := []) (st2 := [.int (1 : Int32)]) (cs2 := [wMod g md MNow MPast MSav (zf_X9_refused_1) MThen MLev MFst MWay MMost MHash]) X Z [0] [] [0] 0 7 (zc_X9_refused_1 l g B md MNow MPast MSav MRef MThen MLev MFst MWay MMost MHash) wM_X9_55 wS_X9_refused wV_X9_refused wK_X9_refused wZ_X9 1 1 1 rfl (by decide +kernel) rfl (by decide) rfl rfl rfl (by decide) rfl rfl (rfl : zCl[7]? = some (RX9, TX9, 10)) hl.1 rfl rfl (by rw [hRf, hRl]; exact ⟨Nat.le_of_ble_eq_true rfl, Nat.le_of_ble_eq_true rfl⟩) (Nat.le_of_ble_eq_true rfl) ⟨Nat.zero_le _, Nat.zero_le _⟩ dX9_lift_24 (fun H locs Z => ?_)
    refine lv_if_eq (tgt := 32) hx hb dX9_lift_27 (by decide) (fun c_2 => ?_) (fun c_2 => ?_)
    · (exact absurd c_2 (by decide))
    · refine lv_iconst (v := (0 : Int32)) hx hb dX9_lift_30 (by decide) ?_
      exact z_ri (v := (0 : Int32)) E Z rfl (by rw [zf_X9_lift_e, if_neg (zBf c_1)]; dsimp only; exact ⟨rfl, rfl⟩) dX9_lift_31 (Nat.zero_le _) (Nat.zero_le _)
  · refine lv_iconst (v := (0 : Int32)) hx hb dX9_lift_19 (by decide) ?_
    refine lv_goto (tgt := 24) hx hb dX9_lift_20 (by decide) ?_
    refine z_callV (mc := 0) (ms := 0) (As := [.int (0 : Int32)]) (rest := []) (st2 := [.int (0 : Int32)]) (cs2 := [wMod g md MNow MPast MSav (zf_X9_refused_0) MThen MLev MFst MWay MMost MHash]) X Z [0] [] [0] 0 7 (zc_X9_refused_0 l g B md MNow MPast MSav MRef MThen MLev MFst MWay MMost MHash) wM_X9_55 wS_X9_refused wV_X9_refused wK_X9_refused wZ_X9 1 1 1 rfl (by decide +kernel) rfl (by decide) rfl rfl rfl (by decide) rfl rfl (rfl : zCl[7]? = some (RX9, TX9, 10)) hl.1 rfl rfl (by rw [hRf, hRl]; exact ⟨Nat.le_of_ble_eq_true rfl, Nat.le_of_ble_eq_true rfl⟩) (Nat.le_of_ble_eq_true rfl) ⟨Nat.zero_le _, Nat.zero_le _⟩ dX9_lift_24 (fun H locs Z => ?_)
    refine lv_if_eq (tgt := 32) hx hb dX9_lift_27 (by decide) (fun c_3 => ?_) (fun c_3 => ?_)
    · obtain ⟨ek1, hk1⟩ := (zok_lt (by assumption) (by omega) : k = nI (zi k) ∧ _)
      have hl : lv_has ls 4 [(0, .ref (md 0)), (1, .int (nI (zi k)))] := by rw [← ek1]; exact hl
      refine lv_aload_n hx hb dX9_lift_32 rfl (lv_at hl 0 rfl) ?_
      refine z_callV (mc := 0) (ms := 0) (As := []) (rest := []) (st2 := []) (cs2 := [wMod g md MNow ((zf_X9_saves MNow MPast MSav).1) ((zf_X9_saves MNow MPast MSav).2) (zf_X9_refused_0) MThen MLev MFst MWay MMost MHash]) X Z [0] [] [0] 0 7 (zc_X9_saves l g B md MNow MPast MSav (zf_X9_refused_0) MThen MLev MFst MWay MMost MHash (by first | assumption | omega | decide)) wM_X9_87 wS_X9_saves wV_X9_saves wK_X9_saves wZ_X9 0 1 1 rfl (by decide +kernel) rfl (by decide) rfl rfl rfl (by decide) rfl rfl (rfl : zCl[7]? = some (RX9, TX9, 10)) hl.1 rfl rfl (by rw [hRf, hRl]; exact ⟨Nat.le_of_ble_eq_true rfl, Nat.le_of_ble_eq_true rfl⟩) (Nat.le_of_ble_eq_true rfl) ⟨Nat.zero_le _, Nat.zero_le _⟩ dX9_lift_33 (fun H locs Z => ?_)
      refine lv_aload_n hx hb dX9_lift_36 rfl (lv_at hl 0 rfl) ?_
      refine z_get X Z 0 rfl (rfl : zCl[7]? = some (RX9, TX9, 10)) zU_X9 0 (by decide) wF_X9_7 rfl rfl dX9_lift_37 ?_
      refine lv_bipush (v := (10 : Int32)) hx hb dX9_lift_40 (by decide) ?_
      refine lv_iconst (v := (3 : Int32)) hx hb dX9_lift_42 (by decide) ?_
      refine lv_iload_n hx hb dX9_lift_43 rfl (lv_at hl 1 rfl) ?_
      refine z_imul (a := 3) (b := (zi k)) X rfl rfl dX9_lift_44 ?_
      refine z_iadd (a := 10) (b := (3 * (zi k))) X rfl rfl dX9_lift_45 ?_
      refine lv_iconst (v := (2 : Int32)) hx hb dX9_lift_46 (by decide) ?_
      refine z_iadd (a := (10 + (3 * (zi k)))) (b := 2) X rfl rfl dX9_lift_47 ?_
      refine z_lald (j := ((10 + (3 * (zi k))) + 2)) X Z 1 rfl rfl (by omega) (by decide) dX9_lift_48 ?_
      refine lv_l2i hx hb dX9_lift_49 rfl ?_
      refine lv_istore_n (lv' := [(2, .int ((MNow ((10 + (3 * (zi k))) + 2)).toInt32)), (0, .ref (md 0)), (1, .int (nI (zi k)))]) hx hb dX9_lift_50 rfl hl (by decide) rfl (fun ls hl => ?_)
      refine lv_aload_n hx hb dX9_lift_51 rfl (lv_at hl 1 rfl) ?_
      refine z_get X Z 0 rfl (rfl : zCl[7]? = some (RX9, TX9, 10)) zU_X9 0 (by decide) wF_X9_7 rfl rfl dX9_lift_52 ?_
      refine lv_bipush (v := (9 : Int32)) hx hb dX9_lift_55 (by decide) ?_
      refine lv_dup2_11 hx hb dX9_lift_57 rfl rfl ?_
      refine z_lald (j := 9) X Z 1 rfl rfl (by omega) (by decide) dX9_lift_58 ?_
      refine lv_lconst (v := (1 : Int64)) hx hb dX9_lift_59 (by decide) ?_
      refine lv_lsub hx hb dX9_lift_60 ?_
      refine z_last (cs2 := [wMod g md (vp_updL MNow 9 ((MNow 9) - (1 : Int64))) ((zf_X9_saves MNow MPast MSav).1) ((zf_X9_saves MNow MPast MSav).2) (zf_X9_refused_0) MThen MLev MFst MWay MMost MHash]) (j := 9) (x := ((MNow 9) - (1 : Int64))) X Z 1 rfl rfl (by omega) (by decide) rfl dX9_lift_61 (fun H locs Z => ?_)
      refine lv_bipush (v := (10 : Int32)) hx hb dX9_lift_62 (by decide) ?_
      refine lv_iconst (v := (3 : Int32)) hx hb dX9_lift_64 (by decide) ?_
      refine lv_iload_n hx hb dX9_lift_65 rfl (lv_at hl 2 rfl) ?_
      refine z_imul (a := 3) (b := (zi k)) X rfl rfl dX9_lift_66 ?_
      refine z_iadd (a := 10) (b := (3 * (zi k))) X rfl rfl dX9_lift_67 ?_
      refine lv_istore_n (lv' := [(3, .int (nI (10 + (3 * (zi k))))), (2, .int ((MNow ((10 + (3 * (zi k))) + 2)).toInt32)), (0, .ref (md 0)), (1, .int (nI (zi k)))]) hx hb dX9_lift_68 rfl hl (by decide) rfl (fun ls hl => ?_)
      have loop_69 : ∀ (n69 j69 : Nat) (v1 : Nat → Int64), j69 + n69 = ((10 + (3 * (zc (MNow 9) - 1))) - (10 + (3 * (zi k)))) → zl_X9_lift_69 k n69 j69 v1 = (zl_X9_lift_69 k ((10 + (3 * (zc (MNow 9) - 1))) - (10 + (3 * (zi k)))) 0 (vp_updL MNow 9 ((MNow 9) - (1 : Int64)))) → (v1 9 = lN (zc (MNow 9) - 1)) → ∀ (H : Heap) (locs : List Loc), zM g B A s [wMod g md v1 ((zf_X9_saves MNow MPast MSav).1) ((zf_X9_saves MNow MPast MSav).2) (zf_X9_refused_0) MThen MLev MFst MWay MMost MHash] H locs → ∀ ls : Array Slot, lv_has ls 4 [(3, .int (nI ((10 + (3 * (zi k))) + j69))), (2, .int ((MNow ((10 + (3 * (zi k))) + 2)).toInt32)), (0, .ref (md 0)), (1, .int (nI (zi k)))] → W p l e R s m args below meth c H locs 0 0 Q (F0 m 69 ls []) := by
        intro n69
        induction n69 with
        | zero =>
          intro j69 v1 hin69 hR69 i1 H locs Z ls hl
          have e_v1 : (zl_X9_lift_69 k ((10 + (3 * (zc (MNow 9) - 1))) - (10 + (3 * (zi k)))) 0 (vp_updL MNow 9 ((MNow 9) - (1 : Int64)))) = v1 := hR69.symm
          subst e_v1
          refine lv_iload_n hx hb dX9_lift_69 rfl (lv_at hl 0 rfl) ?_
          refine lv_bipush (v := (10 : Int32)) hx hb dX9_lift_70 (by decide) ?_
          refine lv_iconst (v := (3 : Int32)) hx hb dX9_lift_72 (by decide) ?_
          refine lv_aload_n hx hb dX9_lift_73 rfl (lv_at hl 2 rfl) ?_
          refine lv_bipush (v := (9 : Int32)) hx hb dX9_lift_74 (by decide) ?_
          refine z_callV (mc := 0) (ms := 0) (As := [.int (9 : Int32)]) (rest := [.int (3 : Int32), .int (10 : Int32), .int (nI ((10 + (3 * (zi k))) + j69))]) (st2 := [.int (nI (zc (MNow 9) - 1)), .int (3 : Int32), .int (10 : Int32), .int (nI ((10 + (3 * (zi k))) + j69))]) (cs2 := [wMod g md (zl_X9_lift_69 k ((10 + (3 * (zc (MNow 9) - 1))) - (10 + (3 * (zi k)))) 0 (vp_updL MNow 9 ((MNow 9) - (1 : Int64)))) ((zf_X9_saves MNow MPast MSav).1) ((zf_X9_saves MNow MPast MSav).2) (zf_X9_refused_0) MThen MLev MFst MWay MMost MHash]) X Z [0] [] [0] 0 7 (zc_X9_many l g B md (zl_X9_lift_69 k ((10 + (3 * (zc (MNow 9) - 1))) - (10 + (3 * (zi k)))) 0 (vp_updL MNow 9 ((MNow 9) - (1 : Int64)))) ((zf_X9_saves MNow MPast MSav).1) ((zf_X9_saves MNow MPast MSav).2) (zf_X9_refused_0) MThen MLev MFst MWay MMost MHash 9 (zc (MNow 9) - 1) (by first | assumption | omega | decide) i1) wM_X9_66 wS_X9_many wV_X9_many wK_X9_many wZ_X9 1 1 1 rfl (by decide +kernel) rfl (by decide) rfl rfl rfl (by decide) rfl rfl (rfl : zCl[7]? = some (RX9, TX9, 10)) hl.1 rfl rfl (by rw [hRf, hRl]; exact ⟨Nat.le_of_ble_eq_true rfl, Nat.le_of_ble_eq_true rfl⟩) (Nat.le_of_ble_eq_true rfl) ⟨Nat.zero_le _, Nat.zero_le _⟩ dX9_lift_76 (fun H locs Z => ?_)
          refine z_imul (a := 3) (b := (zc (MNow 9) - 1)) X rfl rfl dX9_lift_79 ?_
          refine z_iadd (a := 10) (b := (3 * (zc (MNow 9) - 1))) X rfl rfl dX9_lift_80 ?_
          refine z_icmp_ge (a := ((10 + (3 * (zi k))) + j69)) (b := (10 + (3 * (zc (MNow 9) - 1)))) (tgt := 104) X rfl rfl (by omega) (by omega) dX9_lift_81 (by decide) (fun c_4 => ?_) (fun c_4 => ?_)
          · refine lv_iload_n hx hb dX9_lift_104 rfl (lv_at hl 1 rfl) ?_
            exact z_ri (v := ((MNow ((10 + (3 * (zi k))) + 2)).toInt32)) E Z rfl (by rw [zf_X9_lift_e, if_pos c_1]; dsimp only; exact ⟨rfl, rfl⟩) dX9_lift_105 (Nat.zero_le _) (Nat.zero_le _)
          · (exfalso; omega)
        | succ n69 ih69 =>
          intro j69 v1 hin69 hR69 i1 H locs Z ls hl
          refine lv_iload_n hx hb dX9_lift_69 rfl (lv_at hl 0 rfl) ?_
          refine lv_bipush (v := (10 : Int32)) hx hb dX9_lift_70 (by decide) ?_
          refine lv_iconst (v := (3 : Int32)) hx hb dX9_lift_72 (by decide) ?_
          refine lv_aload_n hx hb dX9_lift_73 rfl (lv_at hl 2 rfl) ?_
          refine lv_bipush (v := (9 : Int32)) hx hb dX9_lift_74 (by decide) ?_
          refine z_callV (mc := 0) (ms := 0) (As := [.int (9 : Int32)]) (rest := [.int (3 : Int32), .int (10 : Int32), .int (nI ((10 + (3 * (zi k))) + j69))]) (st2 := [.int (nI (zc (MNow 9) - 1)), .int (3 : Int32), .int (10 : Int32), .int (nI ((10 + (3 * (zi k))) + j69))]) (cs2 := [wMod g md v1 ((zf_X9_saves MNow MPast MSav).1) ((zf_X9_saves MNow MPast MSav).2) (zf_X9_refused_0) MThen MLev MFst MWay MMost MHash]) X Z [0] [] [0] 0 7 (zc_X9_many l g B md v1 ((zf_X9_saves MNow MPast MSav).1) ((zf_X9_saves MNow MPast MSav).2) (zf_X9_refused_0) MThen MLev MFst MWay MMost MHash 9 (zc (MNow 9) - 1) (by first | assumption | omega | decide) i1) wM_X9_66 wS_X9_many wV_X9_many wK_X9_many wZ_X9 1 1 1 rfl (by decide +kernel) rfl (by decide) rfl rfl rfl (by decide) rfl rfl (rfl : zCl[7]? = some (RX9, TX9, 10)) hl.1 rfl rfl (by rw [hRf, hRl]; exact ⟨Nat.le_of_ble_eq_true rfl, Nat.le_of_ble_eq_true rfl⟩) (Nat.le_of_ble_eq_true rfl) ⟨Nat.zero_le _, Nat.zero_le _⟩ dX9_lift_76 (fun H locs Z => ?_)
          refine z_imul (a := 3) (b := (zc (MNow 9) - 1)) X rfl rfl dX9_lift_79 ?_
          refine z_iadd (a := 10) (b := (3 * (zc (MNow 9) - 1))) X rfl rfl dX9_lift_80 ?_
          refine z_icmp_ge (a := ((10 + (3 * (zi k))) + j69)) (b := (10 + (3 * (zc (MNow 9) - 1)))) (tgt := 104) X rfl rfl (by omega) (by omega) dX9_lift_81 (by decide) (fun c_5 => ?_) (fun c_5 => ?_)
          · (exfalso; omega)
          · refine lv_aload_n hx hb dX9_lift_84 rfl (lv_at hl 2 rfl) ?_
            refine z_get X Z 0 rfl (rfl : zCl[7]? = some (RX9, TX9, 10)) zU_X9 0 (by decide) wF_X9_7 rfl rfl dX9_lift_85 ?_
            refine lv_iload_n hx hb dX9_lift_88 rfl (lv_at hl 0 rfl) ?_
            refine lv_aload_n hx hb dX9_lift_89 rfl (lv_at hl 2 rfl) ?_
            refine z_get X Z 0 rfl (rfl : zCl[7]? = some (RX9, TX9, 10)) zU_X9 0 (by decide) wF_X9_7 rfl rfl dX9_lift_90 ?_
            refine lv_iload_n hx hb dX9_lift_93 rfl (lv_at hl 0 rfl) ?_
            refine lv_iconst (v := (3 : Int32)) hx hb dX9_lift_94 (by decide) ?_
            refine z_iadd (a := ((10 + (3 * (zi k))) + j69)) (b := 3) X rfl rfl dX9_lift_95 ?_
            refine z_lald (j := (((10 + (3 * (zi k))) + j69) + 3)) X Z 1 rfl rfl (by omega) (by decide) dX9_lift_96 ?_
            refine z_last (cs2 := [wMod g md (vp_updL v1 ((10 + (3 * (zi k))) + j69) (v1 (((10 + (3 * (zi k))) + j69) + 3))) ((zf_X9_saves MNow MPast MSav).1) ((zf_X9_saves MNow MPast MSav).2) (zf_X9_refused_0) MThen MLev MFst MWay MMost MHash]) (j := ((10 + (3 * (zi k))) + j69)) (x := (v1 (((10 + (3 * (zi k))) + j69) + 3))) X Z 1 rfl rfl (by omega) (by decide) rfl dX9_lift_97 (fun H locs Z => ?_)
            refine z_iinc (b := ((10 + (3 * (zi k))) + (j69 + 1))) (st := 1) (lv' := [(3, .int (nI ((10 + (3 * (zi k))) + (j69 + 1)))), (2, .int ((MNow ((10 + (3 * (zi k))) + 2)).toInt32)), (0, .ref (md 0)), (1, .int (nI (zi k)))]) X dX9_lift_98 hl (k := 0) rfl rfl (by decide) (by omega) (by decide) rfl (fun ls hl => ?_)
            refine lv_goto (tgt := 69) hx hb dX9_lift_101 (by decide) ?_
            exact ih69 (j69 + 1) (vp_updL v1 ((10 + (3 * (zi k))) + j69) (v1 (((10 + (3 * (zi k))) + j69) + 3))) (by omega) (by have h9 := hR69; rw [zl_X9_lift_69_s] at h9; exact h9) ((zuL_ne (by omega)).trans i1) _ _ Z ls (lv_sub hl [0, 1, 2, 3] rfl)
      exact loop_69 ((10 + (3 * (zc (MNow 9) - 1))) - (10 + (3 * (zi k)))) 0 (vp_updL MNow 9 ((MNow 9) - (1 : Int64))) (by omega) rfl (zmanym (n := zc (MNow 9)) he9 (by omega)) _ _ Z ls (lv_sub hl [0, 1, 2, 3] rfl)
    · (exact absurd c_3 (by decide))
def zf_X9_load (MNow : Nat → Int64) (k : Int32) (t : Int32) : Int64 × Int32 := (if (zf_X9_isCell k) = true then (if (zf_X9_isPart t) = true then ((zf_X9_partOf (zf_X9_loadOf MNow (zi k)) (zf_X9_size MNow) t), (zf_X9_refused_0)) else ((0 : Int64), (zf_X9_refused_2))) else ((0 : Int64), (zf_X9_refused_1)))
theorem zf_X9_load_e (MNow : Nat → Int64) (k : Int32) (t : Int32) : zf_X9_load MNow k t = (if (zf_X9_isCell k) = true then (if (zf_X9_isPart t) = true then ((zf_X9_partOf (zf_X9_loadOf MNow (zi k)) (zf_X9_size MNow) t), (zf_X9_refused_0)) else ((0 : Int64), (zf_X9_refused_2))) else ((0 : Int64), (zf_X9_refused_1))) := rfl
set_option maxHeartbeats 4000000 in
set_option maxRecDepth 100000 in
theorem zc_X9_load (l : Launch) (g : zG) (B : Nat) (md : Nat → Nat) (MNow : Nat → Int64) (MPast : Nat → Int64) (MSav : Nat) (MRef : Int32) (MThen : Nat → Int64) (MLev : Nat → Int64) (MFst : Int32) (MWay : Nat → Int64) (MMost : Nat → Int32) (MHash : Int64) (k : Int32) (t : Int32) (hN : zNow MNow) (hld : zLd MNow) : zMet l g B yX9_load cX9_load 3 (some .long) 4 160 0 0 [.ref (md 0), .int k, .int t] [wMod g md MNow MPast MSav MRef MThen MLev MFst MWay MMost MHash] (zDet (some (.long ((zf_X9_load MNow k t).1))) [wMod g md MNow MPast MSav ((zf_X9_load MNow k t).2) MThen MLev MFst MWay MMost MHash]) := by
  refine z_in (plainFor_of_name (by decide)) (Nat.le_of_ble_eq_true rfl) (fun p e R s m args below meth c A Q hRf hRl hRc hRs X Z hnm E ls hl => ?_)
  have hx := X.1
  have hb := X.2.1
  have hown := X.2.2.2.1
  have hts := X.2.2.2.2.1
  have hl : lv_has ls 3 [(0, .ref (md 0)), (1, .int k), (2, .int t)] := hl
  have hN2 := hN; obtain ⟨he9, hb9, he34, hb34, he43, hb43, he284, hb284, he301, hb301⟩ := hN2
  refine lv_aload_n hx hb dX9_load_0 rfl (lv_at hl 0 rfl) ?_
  refine lv_iload_n hx hb dX9_load_1 rfl (lv_at hl 1 rfl) ?_
  refine z_callS (mc := 0) (ms := 0) (As := [.int k]) (rest := [.ref (md 0)]) (st2 := [.int (zB (zf_X9_isCell k)), .ref (md 0)]) (cs2 := [wMod g md MNow MPast MSav MRef MThen MLev MFst MWay MMost MHash]) X Z [] [0] [0] (zc_X9_isCell l g B k) wM_X9_78 wS_X9_isCell wK_X9_isCell wZ_X9 1 1 1 rfl (by decide +kernel) rfl (by decide) rfl rfl rfl (by decide) rfl hl.1 rfl rfl (by rw [hRf, hRl]; exact ⟨Nat.le_of_ble_eq_true rfl, Nat.le_of_ble_eq_true rfl⟩) (Nat.le_of_ble_eq_true rfl) ⟨Nat.zero_le _, Nat.zero_le _⟩ dX9_load_2 (fun H locs Z => ?_)
  refine z_ifneB (b := (zf_X9_isCell k)) (tgt := 12) X dX9_load_5 (by decide) (fun c_1 => ?_) (fun c_1 => ?_)
  · refine lv_iload_n hx hb dX9_load_12 rfl (lv_at hl 2 rfl) ?_
    refine z_callS (mc := 0) (ms := 0) (As := [.int t]) (rest := [.ref (md 0)]) (st2 := [.int (zB (zf_X9_isPart t)), .ref (md 0)]) (cs2 := [wMod g md MNow MPast MSav MRef MThen MLev MFst MWay MMost MHash]) X Z [] [0] [0] (zc_X9_isPart l g B t) wM_X9_92 wS_X9_isPart wK_X9_isPart wZ_X9 1 1 1 rfl (by decide +kernel) rfl (by decide) rfl rfl rfl (by decide) rfl hl.1 rfl rfl (by rw [hRf, hRl]; exact ⟨Nat.le_of_ble_eq_true rfl, Nat.le_of_ble_eq_true rfl⟩) (Nat.le_of_ble_eq_true rfl) ⟨Nat.zero_le _, Nat.zero_le _⟩ dX9_load_13 (fun H locs Z => ?_)
    refine z_ifeqB (b := (zf_X9_isPart t)) (tgt := 23) X dX9_load_16 (by decide) (fun c_2 => ?_) (fun c_2 => ?_)
    · refine lv_iconst (v := (2 : Int32)) hx hb dX9_load_23 (by decide) ?_
      refine z_callV (mc := 0) (ms := 0) (As := [.int (2 : Int32)]) (rest := []) (st2 := [.int (1 : Int32)]) (cs2 := [wMod g md MNow MPast MSav (zf_X9_refused_2) MThen MLev MFst MWay MMost MHash]) X Z [0] [] [0] 0 7 (zc_X9_refused_2 l g B md MNow MPast MSav MRef MThen MLev MFst MWay MMost MHash) wM_X9_55 wS_X9_refused wV_X9_refused wK_X9_refused wZ_X9 1 1 1 rfl (by decide +kernel) rfl (by decide) rfl rfl rfl (by decide) rfl rfl (rfl : zCl[7]? = some (RX9, TX9, 10)) hl.1 rfl rfl (by rw [hRf, hRl]; exact ⟨Nat.le_of_ble_eq_true rfl, Nat.le_of_ble_eq_true rfl⟩) (Nat.le_of_ble_eq_true rfl) ⟨Nat.zero_le _, Nat.zero_le _⟩ dX9_load_24 (fun H locs Z => ?_)
      refine lv_if_eq (tgt := 34) hx hb dX9_load_27 (by decide) (fun c_3 => ?_) (fun c_3 => ?_)
      · (exact absurd c_3 (by decide))
      · refine lv_lconst (v := (0 : Int64)) hx hb dX9_load_30 (by decide) ?_
        refine lv_goto (tgt := 47) hx hb dX9_load_31 (by decide) ?_
        exact z_rl (v := (0 : Int64)) E Z (by rw [zf_X9_load_e, if_pos c_1, if_neg (zBf c_2)]; dsimp only; exact ⟨rfl, rfl⟩) dX9_load_47 (Nat.zero_le _) (Nat.zero_le _)
    · refine lv_iconst (v := (0 : Int32)) hx hb dX9_load_19 (by decide) ?_
      refine lv_goto (tgt := 24) hx hb dX9_load_20 (by decide) ?_
      refine z_callV (mc := 0) (ms := 0) (As := [.int (0 : Int32)]) (rest := []) (st2 := [.int (0 : Int32)]) (cs2 := [wMod g md MNow MPast MSav (zf_X9_refused_0) MThen MLev MFst MWay MMost MHash]) X Z [0] [] [0] 0 7 (zc_X9_refused_0 l g B md MNow MPast MSav MRef MThen MLev MFst MWay MMost MHash) wM_X9_55 wS_X9_refused wV_X9_refused wK_X9_refused wZ_X9 1 1 1 rfl (by decide +kernel) rfl (by decide) rfl rfl rfl (by decide) rfl rfl (rfl : zCl[7]? = some (RX9, TX9, 10)) hl.1 rfl rfl (by rw [hRf, hRl]; exact ⟨Nat.le_of_ble_eq_true rfl, Nat.le_of_ble_eq_true rfl⟩) (Nat.le_of_ble_eq_true rfl) ⟨Nat.zero_le _, Nat.zero_le _⟩ dX9_load_24 (fun H locs Z => ?_)
      refine lv_if_eq (tgt := 34) hx hb dX9_load_27 (by decide) (fun c_4 => ?_) (fun c_4 => ?_)
      · obtain ⟨ek1, hk1⟩ := (zok_cell (by assumption) : k = nI (zi k) ∧ _)
        have hl : lv_has ls 3 [(0, .ref (md 0)), (1, .int (nI (zi k))), (2, .int t)] := by rw [← ek1]; exact hl
        refine lv_aload_n hx hb dX9_load_34 rfl (lv_at hl 0 rfl) ?_
        refine lv_iload_n hx hb dX9_load_35 rfl (lv_at hl 1 rfl) ?_
        refine z_callV (mc := 0) (ms := 0) (As := [.int (nI (zi k))]) (rest := []) (st2 := [.long (zf_X9_loadOf MNow (zi k))]) (cs2 := [wMod g md MNow MPast MSav (zf_X9_refused_0) MThen MLev MFst MWay MMost MHash]) X Z [0] [] [0] 0 7 (zc_X9_loadOf l g B md MNow MPast MSav (zf_X9_refused_0) MThen MLev MFst MWay MMost MHash (zi k) (by first | assumption | omega | decide) (by first | assumption | omega | decide)) wM_X9_95 wS_X9_loadOf wV_X9_loadOf wK_X9_loadOf wZ_X9 1 1 1 rfl (by decide +kernel) rfl (by decide) rfl rfl rfl (by decide) rfl rfl (rfl : zCl[7]? = some (RX9, TX9, 10)) hl.1 rfl rfl (by rw [hRf, hRl]; exact ⟨Nat.le_of_ble_eq_true rfl, Nat.le_of_ble_eq_true rfl⟩) (Nat.le_of_ble_eq_true rfl) ⟨Nat.zero_le _, Nat.zero_le _⟩ dX9_load_36 (fun H locs Z => ?_)
        refine lv_aload_n hx hb dX9_load_39 rfl (lv_at hl 0 rfl) ?_
        refine z_callV (mc := 0) (ms := 0) (As := []) (rest := [.long (zf_X9_loadOf MNow (zi k))]) (st2 := [.long (zf_X9_size MNow), .long (zf_X9_loadOf MNow (zi k))]) (cs2 := [wMod g md MNow MPast MSav (zf_X9_refused_0) MThen MLev MFst MWay MMost MHash]) X Z [0] [] [0] 0 7 (zc_X9_size l g B md MNow MPast MSav (zf_X9_refused_0) MThen MLev MFst MWay MMost MHash) wM_X9_98 wS_X9_size wV_X9_size wK_X9_size wZ_X9 0 1 1 rfl (by decide +kernel) rfl (by decide) rfl rfl rfl (by decide) rfl rfl (rfl : zCl[7]? = some (RX9, TX9, 10)) hl.1 rfl rfl (by rw [hRf, hRl]; exact ⟨Nat.le_of_ble_eq_true rfl, Nat.le_of_ble_eq_true rfl⟩) (Nat.le_of_ble_eq_true rfl) ⟨Nat.zero_le _, Nat.zero_le _⟩ dX9_load_40 (fun H locs Z => ?_)
        refine lv_iload_n hx hb dX9_load_43 rfl (lv_at hl 2 rfl) ?_
        refine z_callS (mc := 0) (ms := 0) (As := [.long (zf_X9_loadOf MNow (zi k)), .long (zf_X9_size MNow), .int t]) (rest := []) (st2 := [.long (zf_X9_partOf (zf_X9_loadOf MNow (zi k)) (zf_X9_size MNow) t)]) (cs2 := [wMod g md MNow MPast MSav (zf_X9_refused_0) MThen MLev MFst MWay MMost MHash]) X Z [] [0] [0] (zc_X9_partOf l g B (zf_X9_loadOf MNow (zi k)) (zf_X9_size MNow) t (hld.2.2 _ (by omega)).1 hld.1 (hld.2.2 _ (by omega)).2) wM_X9_101 wS_X9_partOf wK_X9_partOf wZ_X9 3 1 1 rfl (by decide +kernel) rfl (by decide) rfl rfl rfl (by decide) rfl hl.1 rfl rfl (by rw [hRf, hRl]; exact ⟨Nat.le_of_ble_eq_true rfl, Nat.le_of_ble_eq_true rfl⟩) (Nat.le_of_ble_eq_true rfl) ⟨Nat.zero_le _, Nat.zero_le _⟩ dX9_load_44 (fun H locs Z => ?_)
        exact z_rl (v := (zf_X9_partOf (zf_X9_loadOf MNow (zi k)) (zf_X9_size MNow) t)) E Z (by rw [zf_X9_load_e, if_pos c_1, if_pos c_2]; dsimp only; exact ⟨rfl, rfl⟩) dX9_load_47 (Nat.zero_le _) (Nat.zero_le _)
      · (exact absurd c_4 (by decide))
  · refine lv_iconst (v := (1 : Int32)) hx hb dX9_load_8 (by decide) ?_
    refine lv_goto (tgt := 24) hx hb dX9_load_9 (by decide) ?_
    refine z_callV (mc := 0) (ms := 0) (As := [.int (1 : Int32)]) (rest := []) (st2 := [.int (1 : Int32)]) (cs2 := [wMod g md MNow MPast MSav (zf_X9_refused_1) MThen MLev MFst MWay MMost MHash]) X Z [0] [] [0] 0 7 (zc_X9_refused_1 l g B md MNow MPast MSav MRef MThen MLev MFst MWay MMost MHash) wM_X9_55 wS_X9_refused wV_X9_refused wK_X9_refused wZ_X9 1 1 1 rfl (by decide +kernel) rfl (by decide) rfl rfl rfl (by decide) rfl rfl (rfl : zCl[7]? = some (RX9, TX9, 10)) hl.1 rfl rfl (by rw [hRf, hRl]; exact ⟨Nat.le_of_ble_eq_true rfl, Nat.le_of_ble_eq_true rfl⟩) (Nat.le_of_ble_eq_true rfl) ⟨Nat.zero_le _, Nat.zero_le _⟩ dX9_load_24 (fun H locs Z => ?_)
    refine lv_if_eq (tgt := 34) hx hb dX9_load_27 (by decide) (fun c_5 => ?_) (fun c_5 => ?_)
    · (exact absurd c_5 (by decide))
    · refine lv_lconst (v := (0 : Int64)) hx hb dX9_load_30 (by decide) ?_
      refine lv_goto (tgt := 47) hx hb dX9_load_31 (by decide) ?_
      exact z_rl (v := (0 : Int64)) E Z (by rw [zf_X9_load_e, if_neg (zBf c_1)]; dsimp only; exact ⟨rfl, rfl⟩) dX9_load_47 (Nat.zero_le _) (Nat.zero_le _)
def zf_X9_reading (MNow : Nat → Int64) (k : Int32) (t : Int32) : Int32 × Int32 := (if (zf_X9_isCell k) = true then (if (zf_X9_within t.toInt64 (1 : Int64) (100 : Int64)) = true then ((((zf_X9_floor (zf_X9_loadOf MNow (zi k)) ((zf_X9_size MNow) * t.toInt64)).toInt32) * t), (zf_X9_refused_0)) else ((0 : Int32), (zf_X9_refused_2))) else ((0 : Int32), (zf_X9_refused_1)))
theorem zf_X9_reading_e (MNow : Nat → Int64) (k : Int32) (t : Int32) : zf_X9_reading MNow k t = (if (zf_X9_isCell k) = true then (if (zf_X9_within t.toInt64 (1 : Int64) (100 : Int64)) = true then ((((zf_X9_floor (zf_X9_loadOf MNow (zi k)) ((zf_X9_size MNow) * t.toInt64)).toInt32) * t), (zf_X9_refused_0)) else ((0 : Int32), (zf_X9_refused_2))) else ((0 : Int32), (zf_X9_refused_1))) := rfl
set_option maxHeartbeats 4000000 in
set_option maxRecDepth 100000 in
theorem zc_X9_reading (l : Launch) (g : zG) (B : Nat) (md : Nat → Nat) (MNow : Nat → Int64) (MPast : Nat → Int64) (MSav : Nat) (MRef : Int32) (MThen : Nat → Int64) (MLev : Nat → Int64) (MFst : Int32) (MWay : Nat → Int64) (MMost : Nat → Int32) (MHash : Int64) (k : Int32) (t : Int32) (hN : zNow MNow) (hy : ∀ t : Int32, zf_X9_within t.toInt64 (1 : Int64) (100 : Int64) = true → ¬ (zf_X9_size MNow) * t.toInt64 = 0) : zMet l g B yX9_reading cX9_reading 3 (some .int) 4 160 0 0 [.ref (md 0), .int k, .int t] [wMod g md MNow MPast MSav MRef MThen MLev MFst MWay MMost MHash] (zDet (some (.int ((zf_X9_reading MNow k t).1))) [wMod g md MNow MPast MSav ((zf_X9_reading MNow k t).2) MThen MLev MFst MWay MMost MHash]) := by
  refine z_in (plainFor_of_name (by decide)) (Nat.le_of_ble_eq_true rfl) (fun p e R s m args below meth c A Q hRf hRl hRc hRs X Z hnm E ls hl => ?_)
  have hx := X.1
  have hb := X.2.1
  have hown := X.2.2.2.1
  have hts := X.2.2.2.2.1
  have hl : lv_has ls 3 [(0, .ref (md 0)), (1, .int k), (2, .int t)] := hl
  have hN2 := hN; obtain ⟨he9, hb9, he34, hb34, he43, hb43, he284, hb284, he301, hb301⟩ := hN2
  refine lv_aload_n hx hb dX9_reading_0 rfl (lv_at hl 0 rfl) ?_
  refine lv_iload_n hx hb dX9_reading_1 rfl (lv_at hl 1 rfl) ?_
  refine z_callS (mc := 0) (ms := 0) (As := [.int k]) (rest := [.ref (md 0)]) (st2 := [.int (zB (zf_X9_isCell k)), .ref (md 0)]) (cs2 := [wMod g md MNow MPast MSav MRef MThen MLev MFst MWay MMost MHash]) X Z [] [0] [0] (zc_X9_isCell l g B k) wM_X9_78 wS_X9_isCell wK_X9_isCell wZ_X9 1 1 1 rfl (by decide +kernel) rfl (by decide) rfl rfl rfl (by decide) rfl hl.1 rfl rfl (by rw [hRf, hRl]; exact ⟨Nat.le_of_ble_eq_true rfl, Nat.le_of_ble_eq_true rfl⟩) (Nat.le_of_ble_eq_true rfl) ⟨Nat.zero_le _, Nat.zero_le _⟩ dX9_reading_2 (fun H locs Z => ?_)
  refine z_ifneB (b := (zf_X9_isCell k)) (tgt := 12) X dX9_reading_5 (by decide) (fun c_1 => ?_) (fun c_1 => ?_)
  · refine lv_iload_n hx hb dX9_reading_12 rfl (lv_at hl 2 rfl) ?_
    refine lv_i2l hx hb dX9_reading_13 rfl ?_
    refine lv_lconst (v := (1 : Int64)) hx hb dX9_reading_14 (by decide) ?_
    refine lv_ldc2 (v := (100 : Int64)) hx hb hown (hts _ wL_X9_31) dX9_reading_15 ?_
    refine z_callS (mc := 0) (ms := 0) (As := [.long t.toInt64, .long (1 : Int64), .long (100 : Int64)]) (rest := [.ref (md 0)]) (st2 := [.int (zB (zf_X9_within t.toInt64 (1 : Int64) (100 : Int64))), .ref (md 0)]) (cs2 := [wMod g md MNow MPast MSav MRef MThen MLev MFst MWay MMost MHash]) X Z [] [0] [0] (zc_X9_within l g B t.toInt64 (1 : Int64) (100 : Int64)) wM_X9_44 wS_X9_within wK_X9_within wZ_X9 3 1 1 rfl (by decide +kernel) rfl (by decide) rfl rfl rfl (by decide) rfl hl.1 rfl rfl (by rw [hRf, hRl]; exact ⟨Nat.le_of_ble_eq_true rfl, Nat.le_of_ble_eq_true rfl⟩) (Nat.le_of_ble_eq_true rfl) ⟨Nat.zero_le _, Nat.zero_le _⟩ dX9_reading_18 (fun H locs Z => ?_)
    refine z_ifeqB (b := (zf_X9_within t.toInt64 (1 : Int64) (100 : Int64))) (tgt := 28) X dX9_reading_21 (by decide) (fun c_2 => ?_) (fun c_2 => ?_)
    · refine lv_iconst (v := (2 : Int32)) hx hb dX9_reading_28 (by decide) ?_
      refine z_callV (mc := 0) (ms := 0) (As := [.int (2 : Int32)]) (rest := []) (st2 := [.int (1 : Int32)]) (cs2 := [wMod g md MNow MPast MSav (zf_X9_refused_2) MThen MLev MFst MWay MMost MHash]) X Z [0] [] [0] 0 7 (zc_X9_refused_2 l g B md MNow MPast MSav MRef MThen MLev MFst MWay MMost MHash) wM_X9_55 wS_X9_refused wV_X9_refused wK_X9_refused wZ_X9 1 1 1 rfl (by decide +kernel) rfl (by decide) rfl rfl rfl (by decide) rfl rfl (rfl : zCl[7]? = some (RX9, TX9, 10)) hl.1 rfl rfl (by rw [hRf, hRl]; exact ⟨Nat.le_of_ble_eq_true rfl, Nat.le_of_ble_eq_true rfl⟩) (Nat.le_of_ble_eq_true rfl) ⟨Nat.zero_le _, Nat.zero_le _⟩ dX9_reading_29 (fun H locs Z => ?_)
      refine lv_if_eq (tgt := 37) hx hb dX9_reading_32 (by decide) (fun c_3 => ?_) (fun c_3 => ?_)
      · (exact absurd c_3 (by decide))
      · refine lv_iconst (v := (0 : Int32)) hx hb dX9_reading_35 (by decide) ?_
        exact z_ri (v := (0 : Int32)) E Z rfl (by rw [zf_X9_reading_e, if_pos c_1, if_neg (zBf c_2)]; dsimp only; exact ⟨rfl, rfl⟩) dX9_reading_36 (Nat.zero_le _) (Nat.zero_le _)
    · refine lv_iconst (v := (0 : Int32)) hx hb dX9_reading_24 (by decide) ?_
      refine lv_goto (tgt := 29) hx hb dX9_reading_25 (by decide) ?_
      refine z_callV (mc := 0) (ms := 0) (As := [.int (0 : Int32)]) (rest := []) (st2 := [.int (0 : Int32)]) (cs2 := [wMod g md MNow MPast MSav (zf_X9_refused_0) MThen MLev MFst MWay MMost MHash]) X Z [0] [] [0] 0 7 (zc_X9_refused_0 l g B md MNow MPast MSav MRef MThen MLev MFst MWay MMost MHash) wM_X9_55 wS_X9_refused wV_X9_refused wK_X9_refused wZ_X9 1 1 1 rfl (by decide +kernel) rfl (by decide) rfl rfl rfl (by decide) rfl rfl (rfl : zCl[7]? = some (RX9, TX9, 10)) hl.1 rfl rfl (by rw [hRf, hRl]; exact ⟨Nat.le_of_ble_eq_true rfl, Nat.le_of_ble_eq_true rfl⟩) (Nat.le_of_ble_eq_true rfl) ⟨Nat.zero_le _, Nat.zero_le _⟩ dX9_reading_29 (fun H locs Z => ?_)
      refine lv_if_eq (tgt := 37) hx hb dX9_reading_32 (by decide) (fun c_4 => ?_) (fun c_4 => ?_)
      · obtain ⟨ek1, hk1⟩ := (zok_cell (by assumption) : k = nI (zi k) ∧ _)
        have hl : lv_has ls 3 [(0, .ref (md 0)), (1, .int (nI (zi k))), (2, .int t)] := by rw [← ek1]; exact hl
        refine lv_aload_n hx hb dX9_reading_37 rfl (lv_at hl 0 rfl) ?_
        refine lv_iload_n hx hb dX9_reading_38 rfl (lv_at hl 1 rfl) ?_
        refine z_callV (mc := 0) (ms := 0) (As := [.int (nI (zi k))]) (rest := []) (st2 := [.long (zf_X9_loadOf MNow (zi k))]) (cs2 := [wMod g md MNow MPast MSav (zf_X9_refused_0) MThen MLev MFst MWay MMost MHash]) X Z [0] [] [0] 0 7 (zc_X9_loadOf l g B md MNow MPast MSav (zf_X9_refused_0) MThen MLev MFst MWay MMost MHash (zi k) (by first | assumption | omega | decide) (by first | assumption | omega | decide)) wM_X9_95 wS_X9_loadOf wV_X9_loadOf wK_X9_loadOf wZ_X9 1 1 1 rfl (by decide +kernel) rfl (by decide) rfl rfl rfl (by decide) rfl rfl (rfl : zCl[7]? = some (RX9, TX9, 10)) hl.1 rfl rfl (by rw [hRf, hRl]; exact ⟨Nat.le_of_ble_eq_true rfl, Nat.le_of_ble_eq_true rfl⟩) (Nat.le_of_ble_eq_true rfl) ⟨Nat.zero_le _, Nat.zero_le _⟩ dX9_reading_39 (fun H locs Z => ?_)
        refine lv_aload_n hx hb dX9_reading_42 rfl (lv_at hl 0 rfl) ?_
        refine z_callV (mc := 0) (ms := 0) (As := []) (rest := [.long (zf_X9_loadOf MNow (zi k))]) (st2 := [.long (zf_X9_size MNow), .long (zf_X9_loadOf MNow (zi k))]) (cs2 := [wMod g md MNow MPast MSav (zf_X9_refused_0) MThen MLev MFst MWay MMost MHash]) X Z [0] [] [0] 0 7 (zc_X9_size l g B md MNow MPast MSav (zf_X9_refused_0) MThen MLev MFst MWay MMost MHash) wM_X9_98 wS_X9_size wV_X9_size wK_X9_size wZ_X9 0 1 1 rfl (by decide +kernel) rfl (by decide) rfl rfl rfl (by decide) rfl rfl (rfl : zCl[7]? = some (RX9, TX9, 10)) hl.1 rfl rfl (by rw [hRf, hRl]; exact ⟨Nat.le_of_ble_eq_true rfl, Nat.le_of_ble_eq_true rfl⟩) (Nat.le_of_ble_eq_true rfl) ⟨Nat.zero_le _, Nat.zero_le _⟩ dX9_reading_43 (fun H locs Z => ?_)
        refine lv_iload_n hx hb dX9_reading_46 rfl (lv_at hl 2 rfl) ?_
        refine lv_i2l hx hb dX9_reading_47 rfl ?_
        refine lv_lmul hx hb dX9_reading_48 ?_
        refine z_callS (mc := 0) (ms := 0) (As := [.long (zf_X9_loadOf MNow (zi k)), .long ((zf_X9_size MNow) * t.toInt64)]) (rest := []) (st2 := [.long (zf_X9_floor (zf_X9_loadOf MNow (zi k)) ((zf_X9_size MNow) * t.toInt64))]) (cs2 := [wMod g md MNow MPast MSav (zf_X9_refused_0) MThen MLev MFst MWay MMost MHash]) X Z [] [0] [0] (zc_X9_floor l g B (zf_X9_loadOf MNow (zi k)) ((zf_X9_size MNow) * t.toInt64) (hy _ (by assumption))) wM_X9_105 wS_X9_floor wK_X9_floor wZ_X9 2 1 1 rfl (by decide +kernel) rfl (by decide) rfl rfl rfl (by decide) rfl hl.1 rfl rfl (by rw [hRf, hRl]; exact ⟨Nat.le_of_ble_eq_true rfl, Nat.le_of_ble_eq_true rfl⟩) (Nat.le_of_ble_eq_true rfl) ⟨Nat.zero_le _, Nat.zero_le _⟩ dX9_reading_49 (fun H locs Z => ?_)
        refine lv_l2i hx hb dX9_reading_52 rfl ?_
        refine lv_iload_n hx hb dX9_reading_53 rfl (lv_at hl 2 rfl) ?_
        refine lv_imul hx hb dX9_reading_54 ?_
        exact z_ri (v := (((zf_X9_floor (zf_X9_loadOf MNow (zi k)) ((zf_X9_size MNow) * t.toInt64)).toInt32) * t)) E Z rfl (by rw [zf_X9_reading_e, if_pos c_1, if_pos c_2]; dsimp only; exact ⟨rfl, rfl⟩) dX9_reading_55 (Nat.zero_le _) (Nat.zero_le _)
      · (exact absurd c_4 (by decide))
  · refine lv_iconst (v := (1 : Int32)) hx hb dX9_reading_8 (by decide) ?_
    refine lv_goto (tgt := 29) hx hb dX9_reading_9 (by decide) ?_
    refine z_callV (mc := 0) (ms := 0) (As := [.int (1 : Int32)]) (rest := []) (st2 := [.int (1 : Int32)]) (cs2 := [wMod g md MNow MPast MSav (zf_X9_refused_1) MThen MLev MFst MWay MMost MHash]) X Z [0] [] [0] 0 7 (zc_X9_refused_1 l g B md MNow MPast MSav MRef MThen MLev MFst MWay MMost MHash) wM_X9_55 wS_X9_refused wV_X9_refused wK_X9_refused wZ_X9 1 1 1 rfl (by decide +kernel) rfl (by decide) rfl rfl rfl (by decide) rfl rfl (rfl : zCl[7]? = some (RX9, TX9, 10)) hl.1 rfl rfl (by rw [hRf, hRl]; exact ⟨Nat.le_of_ble_eq_true rfl, Nat.le_of_ble_eq_true rfl⟩) (Nat.le_of_ble_eq_true rfl) ⟨Nat.zero_le _, Nat.zero_le _⟩ dX9_reading_29 (fun H locs Z => ?_)
    refine lv_if_eq (tgt := 37) hx hb dX9_reading_32 (by decide) (fun c_5 => ?_) (fun c_5 => ?_)
    · (exact absurd c_5 (by decide))
    · refine lv_iconst (v := (0 : Int32)) hx hb dX9_reading_35 (by decide) ?_
      exact z_ri (v := (0 : Int32)) E Z rfl (by rw [zf_X9_reading_e, if_neg (zBf c_1)]; dsimp only; exact ⟨rfl, rfl⟩) dX9_reading_36 (Nat.zero_le _) (Nat.zero_le _)
def zf_X9_isStable (MNow : Nat → Int64) : Bool × Int32 := ((zf_X9_isStill MNow), (0 : Int32))
theorem zf_X9_isStable_e (MNow : Nat → Int64) : zf_X9_isStable MNow = ((zf_X9_isStill MNow), (0 : Int32)) := rfl
set_option maxHeartbeats 4000000 in
set_option maxRecDepth 100000 in
theorem zc_X9_isStable (l : Launch) (g : zG) (B : Nat) (md : Nat → Nat) (MNow : Nat → Int64) (MPast : Nat → Int64) (MSav : Nat) (MRef : Int32) (MThen : Nat → Int64) (MLev : Nat → Int64) (MFst : Int32) (MWay : Nat → Int64) (MMost : Nat → Int32) (MHash : Int64) (hN : zNow MNow) : zMet l g B yX9_isStable cX9_isStable 1 (some .boolean) 5 200 0 0 [.ref (md 0)] [wMod g md MNow MPast MSav MRef MThen MLev MFst MWay MMost MHash] (zDet (some (.int (zB ((zf_X9_isStable MNow).1)))) [wMod g md MNow MPast MSav ((zf_X9_isStable MNow).2) MThen MLev MFst MWay MMost MHash]) := by
  refine z_in (plainFor_of_name (by decide)) (Nat.le_of_ble_eq_true rfl) (fun p e R s m args below meth c A Q hRf hRl hRc hRs X Z hnm E ls hl => ?_)
  have hx := X.1
  have hb := X.2.1
  have hown := X.2.2.2.1
  have hts := X.2.2.2.2.1
  have hl : lv_has ls 1 [(0, .ref (md 0))] := hl
  have hN2 := hN; obtain ⟨he9, hb9, he34, hb34, he43, hb43, he284, hb284, he301, hb301⟩ := hN2
  refine lv_aload_n hx hb dX9_isStable_0 rfl (lv_at hl 0 rfl) ?_
  refine lv_iconst (v := (0 : Int32)) hx hb dX9_isStable_1 (by decide) ?_
  refine z_put (cs2 := [wMod g md MNow MPast MSav (0 : Int32) MThen MLev MFst MWay MMost MHash]) (v := .int (0 : Int32)) X Z 0 rfl (rfl : zCl[7]? = some (RX9, TX9, 10)) zU_X9 tyX9 tyX9_ok nmX9 3 (by decide) wF_X9_38 rfl rfl rfl rfl (Nat.le_of_ble_eq_true rfl) rfl dX9_isStable_2 (fun H locs Z => ?_)
  refine lv_aload_n hx hb dX9_isStable_5 rfl (lv_at hl 0 rfl) ?_
  refine z_callV (mc := 0) (ms := 0) (As := []) (rest := []) (st2 := [.int (zB (zf_X9_isStill MNow))]) (cs2 := [wMod g md MNow MPast MSav (0 : Int32) MThen MLev MFst MWay MMost MHash]) X Z [0] [] [0] 0 7 (zc_X9_isStill l g B md MNow MPast MSav (0 : Int32) MThen MLev MFst MWay MMost MHash (by first | assumption | omega | decide)) wM_X9_108 wS_X9_isStill wV_X9_isStill wK_X9_isStill wZ_X9 0 1 1 rfl (by decide +kernel) rfl (by decide) rfl rfl rfl (by decide) rfl rfl (rfl : zCl[7]? = some (RX9, TX9, 10)) hl.1 rfl rfl (by rw [hRf, hRl]; exact ⟨Nat.le_of_ble_eq_true rfl, Nat.le_of_ble_eq_true rfl⟩) (Nat.le_of_ble_eq_true rfl) ⟨Nat.zero_le _, Nat.zero_le _⟩ dX9_isStable_6 (fun H locs Z => ?_)
  exact z_ri (v := zB (zf_X9_isStill MNow)) E Z (zB_narrow _) (by rw [zf_X9_isStable_e]; dsimp only; exact ⟨rfl, rfl⟩) dX9_isStable_9 (Nat.zero_le _) (Nat.zero_le _)
def zf_X9_overloaded (MNow : Nat → Int64) : Int32 × Int32 := ((zf_X9_overs MNow), (0 : Int32))
theorem zf_X9_overloaded_e (MNow : Nat → Int64) : zf_X9_overloaded MNow = ((zf_X9_overs MNow), (0 : Int32)) := rfl
set_option maxHeartbeats 4000000 in
set_option maxRecDepth 100000 in
theorem zc_X9_overloaded (l : Launch) (g : zG) (B : Nat) (md : Nat → Nat) (MNow : Nat → Int64) (MPast : Nat → Int64) (MSav : Nat) (MRef : Int32) (MThen : Nat → Int64) (MLev : Nat → Int64) (MFst : Int32) (MWay : Nat → Int64) (MMost : Nat → Int32) (MHash : Int64) (hN : zNow MNow) : zMet l g B yX9_overloaded cX9_overloaded 1 (some .int) 6 220 0 0 [.ref (md 0)] [wMod g md MNow MPast MSav MRef MThen MLev MFst MWay MMost MHash] (zDet (some (.int ((zf_X9_overloaded MNow).1))) [wMod g md MNow MPast MSav ((zf_X9_overloaded MNow).2) MThen MLev MFst MWay MMost MHash]) := by
  refine z_in (plainFor_of_name (by decide)) (Nat.le_of_ble_eq_true rfl) (fun p e R s m args below meth c A Q hRf hRl hRc hRs X Z hnm E ls hl => ?_)
  have hx := X.1
  have hb := X.2.1
  have hown := X.2.2.2.1
  have hts := X.2.2.2.2.1
  have hl : lv_has ls 1 [(0, .ref (md 0))] := hl
  have hN2 := hN; obtain ⟨he9, hb9, he34, hb34, he43, hb43, he284, hb284, he301, hb301⟩ := hN2
  refine lv_aload_n hx hb dX9_overloaded_0 rfl (lv_at hl 0 rfl) ?_
  refine lv_iconst (v := (0 : Int32)) hx hb dX9_overloaded_1 (by decide) ?_
  refine z_put (cs2 := [wMod g md MNow MPast MSav (0 : Int32) MThen MLev MFst MWay MMost MHash]) (v := .int (0 : Int32)) X Z 0 rfl (rfl : zCl[7]? = some (RX9, TX9, 10)) zU_X9 tyX9 tyX9_ok nmX9 3 (by decide) wF_X9_38 rfl rfl rfl rfl (Nat.le_of_ble_eq_true rfl) rfl dX9_overloaded_2 (fun H locs Z => ?_)
  refine lv_aload_n hx hb dX9_overloaded_5 rfl (lv_at hl 0 rfl) ?_
  refine z_callV (mc := 0) (ms := 0) (As := []) (rest := []) (st2 := [.int (zf_X9_overs MNow)]) (cs2 := [wMod g md MNow MPast MSav (0 : Int32) MThen MLev MFst MWay MMost MHash]) X Z [0] [] [0] 0 7 (zc_X9_overs l g B md MNow MPast MSav (0 : Int32) MThen MLev MFst MWay MMost MHash (by first | assumption | omega | decide)) wM_X9_115 wS_X9_overs wV_X9_overs wK_X9_overs wZ_X9 0 1 1 rfl (by decide +kernel) rfl (by decide) rfl rfl rfl (by decide) rfl rfl (rfl : zCl[7]? = some (RX9, TX9, 10)) hl.1 rfl rfl (by rw [hRf, hRl]; exact ⟨Nat.le_of_ble_eq_true rfl, Nat.le_of_ble_eq_true rfl⟩) (Nat.le_of_ble_eq_true rfl) ⟨Nat.zero_le _, Nat.zero_le _⟩ dX9_overloaded_6 (fun H locs Z => ?_)
  exact z_ri (v := (zf_X9_overs MNow)) E Z rfl (by rw [zf_X9_overloaded_e]; dsimp only; exact ⟨rfl, rfl⟩) dX9_overloaded_9 (Nat.zero_le _) (Nat.zero_le _)
def zl_X9_room_45 (MNow : Nat → Int64) (x : Int32) (y : Int32) : Nat → Nat → Int64 → Int64
  | 0, _, x3 => x3
  | n45 + 1, j45, x3 => (if (0 : Int64) ≤ (zf_X9_area MNow) then (if (zf_X9_share MNow j45 (1 : Int64) x.toInt64 y.toInt64) ≤ (0 : Int64) then (if (0 : Int64) ≤ (zf_X9_share MNow j45 (1 : Int64) x.toInt64 y.toInt64) then (if x3 ≤ x3 then zl_X9_room_45 MNow x y n45 (j45 + 1) x3 else zl_X9_room_45 MNow x y n45 (j45 + 1) x3) else (if x3 ≤ ((zf_X9_loadOf MNow j45) / (-(zf_X9_share MNow j45 (1 : Int64) x.toInt64 y.toInt64))) then zl_X9_room_45 MNow x y n45 (j45 + 1) x3 else zl_X9_room_45 MNow x y n45 (j45 + 1) ((zf_X9_loadOf MNow j45) / (-(zf_X9_share MNow j45 (1 : Int64) x.toInt64 y.toInt64))))) else (if x3 ≤ (((zf_X9_capacity MNow j45) - (zf_X9_loadOf MNow j45)) / (zf_X9_share MNow j45 (1 : Int64) x.toInt64 y.toInt64)) then zl_X9_room_45 MNow x y n45 (j45 + 1) x3 else zl_X9_room_45 MNow x y n45 (j45 + 1) (((zf_X9_capacity MNow j45) - (zf_X9_loadOf MNow j45)) / (zf_X9_share MNow j45 (1 : Int64) x.toInt64 y.toInt64)))) else (if (-(zf_X9_share MNow j45 (1 : Int64) x.toInt64 y.toInt64)) ≤ (0 : Int64) then (if (0 : Int64) ≤ (-(zf_X9_share MNow j45 (1 : Int64) x.toInt64 y.toInt64)) then (if x3 ≤ x3 then zl_X9_room_45 MNow x y n45 (j45 + 1) x3 else zl_X9_room_45 MNow x y n45 (j45 + 1) x3) else (if x3 ≤ ((zf_X9_loadOf MNow j45) / (-(-(zf_X9_share MNow j45 (1 : Int64) x.toInt64 y.toInt64)))) then zl_X9_room_45 MNow x y n45 (j45 + 1) x3 else zl_X9_room_45 MNow x y n45 (j45 + 1) ((zf_X9_loadOf MNow j45) / (-(-(zf_X9_share MNow j45 (1 : Int64) x.toInt64 y.toInt64)))))) else (if x3 ≤ (((zf_X9_capacity MNow j45) - (zf_X9_loadOf MNow j45)) / (-(zf_X9_share MNow j45 (1 : Int64) x.toInt64 y.toInt64))) then zl_X9_room_45 MNow x y n45 (j45 + 1) x3 else zl_X9_room_45 MNow x y n45 (j45 + 1) (((zf_X9_capacity MNow j45) - (zf_X9_loadOf MNow j45)) / (-(zf_X9_share MNow j45 (1 : Int64) x.toInt64 y.toInt64))))))
theorem zl_X9_room_45_s (MNow : Nat → Int64) (x : Int32) (y : Int32) (n45 : Nat) (j45 : Nat) (x3 : Int64) : zl_X9_room_45 MNow x y (n45 + 1) j45 x3 = (if (0 : Int64) ≤ (zf_X9_area MNow) then (if (zf_X9_share MNow j45 (1 : Int64) x.toInt64 y.toInt64) ≤ (0 : Int64) then (if (0 : Int64) ≤ (zf_X9_share MNow j45 (1 : Int64) x.toInt64 y.toInt64) then (if x3 ≤ x3 then zl_X9_room_45 MNow x y n45 (j45 + 1) x3 else zl_X9_room_45 MNow x y n45 (j45 + 1) x3) else (if x3 ≤ ((zf_X9_loadOf MNow j45) / (-(zf_X9_share MNow j45 (1 : Int64) x.toInt64 y.toInt64))) then zl_X9_room_45 MNow x y n45 (j45 + 1) x3 else zl_X9_room_45 MNow x y n45 (j45 + 1) ((zf_X9_loadOf MNow j45) / (-(zf_X9_share MNow j45 (1 : Int64) x.toInt64 y.toInt64))))) else (if x3 ≤ (((zf_X9_capacity MNow j45) - (zf_X9_loadOf MNow j45)) / (zf_X9_share MNow j45 (1 : Int64) x.toInt64 y.toInt64)) then zl_X9_room_45 MNow x y n45 (j45 + 1) x3 else zl_X9_room_45 MNow x y n45 (j45 + 1) (((zf_X9_capacity MNow j45) - (zf_X9_loadOf MNow j45)) / (zf_X9_share MNow j45 (1 : Int64) x.toInt64 y.toInt64)))) else (if (-(zf_X9_share MNow j45 (1 : Int64) x.toInt64 y.toInt64)) ≤ (0 : Int64) then (if (0 : Int64) ≤ (-(zf_X9_share MNow j45 (1 : Int64) x.toInt64 y.toInt64)) then (if x3 ≤ x3 then zl_X9_room_45 MNow x y n45 (j45 + 1) x3 else zl_X9_room_45 MNow x y n45 (j45 + 1) x3) else (if x3 ≤ ((zf_X9_loadOf MNow j45) / (-(-(zf_X9_share MNow j45 (1 : Int64) x.toInt64 y.toInt64)))) then zl_X9_room_45 MNow x y n45 (j45 + 1) x3 else zl_X9_room_45 MNow x y n45 (j45 + 1) ((zf_X9_loadOf MNow j45) / (-(-(zf_X9_share MNow j45 (1 : Int64) x.toInt64 y.toInt64)))))) else (if x3 ≤ (((zf_X9_capacity MNow j45) - (zf_X9_loadOf MNow j45)) / (-(zf_X9_share MNow j45 (1 : Int64) x.toInt64 y.toInt64))) then zl_X9_room_45 MNow x y n45 (j45 + 1) x3 else zl_X9_room_45 MNow x y n45 (j45 + 1) (((zf_X9_capacity MNow j45) - (zf_X9_loadOf MNow j45)) / (-(zf_X9_share MNow j45 (1 : Int64) x.toInt64 y.toInt64)))))) := rfl
def zf_X9_room (MNow : Nat → Int64) (x : Int32) (y : Int32) : Int32 × Int32 := (if (zf_X9_isPlace x y) = true then (if (zf_X9_isStill MNow) = true then (if (zf_X9_overs MNow) = 0 then (((zl_X9_room_45 MNow x y 3 0 (1000000000000000 : Int64)).toInt32), (zf_X9_refused_0)) else ((-1 : Int32), (zf_X9_refused_0))) else ((-1 : Int32), (zf_X9_refused_0))) else ((0 : Int32), (zf_X9_refused_1)))
theorem zf_X9_room_e (MNow : Nat → Int64) (x : Int32) (y : Int32) : zf_X9_room MNow x y = (if (zf_X9_isPlace x y) = true then (if (zf_X9_isStill MNow) = true then (if (zf_X9_overs MNow) = 0 then (((zl_X9_room_45 MNow x y 3 0 (1000000000000000 : Int64)).toInt32), (zf_X9_refused_0)) else ((-1 : Int32), (zf_X9_refused_0))) else ((-1 : Int32), (zf_X9_refused_0))) else ((0 : Int32), (zf_X9_refused_1))) := rfl
set_option maxHeartbeats 4000000 in
set_option maxRecDepth 100000 in
theorem zc_X9_room (l : Launch) (g : zG) (B : Nat) (md : Nat → Nat) (MNow : Nat → Int64) (MPast : Nat → Int64) (MSav : Nat) (MRef : Int32) (MThen : Nat → Int64) (MLev : Nat → Int64) (MFst : Int32) (MWay : Nat → Int64) (MMost : Nat → Int32) (MHash : Int64) (x : Int32) (y : Int32) (hN : zNow MNow) : zMet l g B yX9_room cX9_room 10 (some .int) 6 240 0 0 [.ref (md 0), .int x, .int y] [wMod g md MNow MPast MSav MRef MThen MLev MFst MWay MMost MHash] (zDet (some (.int ((zf_X9_room MNow x y).1))) [wMod g md MNow MPast MSav ((zf_X9_room MNow x y).2) MThen MLev MFst MWay MMost MHash]) := by
  refine z_in (plainFor_of_name (by decide)) (Nat.le_of_ble_eq_true rfl) (fun p e R s m args below meth c A Q hRf hRl hRc hRs X Z hnm E ls hl => ?_)
  have hx := X.1
  have hb := X.2.1
  have hown := X.2.2.2.1
  have hts := X.2.2.2.2.1
  have hl : lv_has ls 10 [(0, .ref (md 0)), (1, .int x), (2, .int y)] := hl
  have hN2 := hN; obtain ⟨he9, hb9, he34, hb34, he43, hb43, he284, hb284, he301, hb301⟩ := hN2
  refine lv_aload_n hx hb dX9_room_0 rfl (lv_at hl 0 rfl) ?_
  refine lv_iload_n hx hb dX9_room_1 rfl (lv_at hl 1 rfl) ?_
  refine lv_iload_n hx hb dX9_room_2 rfl (lv_at hl 2 rfl) ?_
  refine z_callS (mc := 0) (ms := 0) (As := [.int x, .int y]) (rest := [.ref (md 0)]) (st2 := [.int (zB (zf_X9_isPlace x y)), .ref (md 0)]) (cs2 := [wMod g md MNow MPast MSav MRef MThen MLev MFst MWay MMost MHash]) X Z [] [0] [0] (zc_X9_isPlace l g B x y) wM_X9_81 wS_X9_isPlace wK_X9_isPlace wZ_X9 2 1 1 rfl (by decide +kernel) rfl (by decide) rfl rfl rfl (by decide) rfl hl.1 rfl rfl (by rw [hRf, hRl]; exact ⟨Nat.le_of_ble_eq_true rfl, Nat.le_of_ble_eq_true rfl⟩) (Nat.le_of_ble_eq_true rfl) ⟨Nat.zero_le _, Nat.zero_le _⟩ dX9_room_3 (fun H locs Z => ?_)
  refine z_ifeqB (b := (zf_X9_isPlace x y)) (tgt := 13) X dX9_room_6 (by decide) (fun c_1 => ?_) (fun c_1 => ?_)
  · refine lv_iconst (v := (1 : Int32)) hx hb dX9_room_13 (by decide) ?_
    refine z_callV (mc := 0) (ms := 0) (As := [.int (1 : Int32)]) (rest := []) (st2 := [.int (1 : Int32)]) (cs2 := [wMod g md MNow MPast MSav (zf_X9_refused_1) MThen MLev MFst MWay MMost MHash]) X Z [0] [] [0] 0 7 (zc_X9_refused_1 l g B md MNow MPast MSav MRef MThen MLev MFst MWay MMost MHash) wM_X9_55 wS_X9_refused wV_X9_refused wK_X9_refused wZ_X9 1 1 1 rfl (by decide +kernel) rfl (by decide) rfl rfl rfl (by decide) rfl rfl (rfl : zCl[7]? = some (RX9, TX9, 10)) hl.1 rfl rfl (by rw [hRf, hRl]; exact ⟨Nat.le_of_ble_eq_true rfl, Nat.le_of_ble_eq_true rfl⟩) (Nat.le_of_ble_eq_true rfl) ⟨Nat.zero_le _, Nat.zero_le _⟩ dX9_room_14 (fun H locs Z => ?_)
    refine lv_if_eq (tgt := 22) hx hb dX9_room_17 (by decide) (fun c_2 => ?_) (fun c_2 => ?_)
    · (exact absurd c_2 (by decide))
    · refine lv_iconst (v := (0 : Int32)) hx hb dX9_room_20 (by decide) ?_
      exact z_ri (v := (0 : Int32)) E Z rfl (by rw [zf_X9_room_e, if_neg (zBf c_1)]; dsimp only; exact ⟨rfl, rfl⟩) dX9_room_21 (Nat.zero_le _) (Nat.zero_le _)
  · refine lv_iconst (v := (0 : Int32)) hx hb dX9_room_9 (by decide) ?_
    refine lv_goto (tgt := 14) hx hb dX9_room_10 (by decide) ?_
    refine z_callV (mc := 0) (ms := 0) (As := [.int (0 : Int32)]) (rest := []) (st2 := [.int (0 : Int32)]) (cs2 := [wMod g md MNow MPast MSav (zf_X9_refused_0) MThen MLev MFst MWay MMost MHash]) X Z [0] [] [0] 0 7 (zc_X9_refused_0 l g B md MNow MPast MSav MRef MThen MLev MFst MWay MMost MHash) wM_X9_55 wS_X9_refused wV_X9_refused wK_X9_refused wZ_X9 1 1 1 rfl (by decide +kernel) rfl (by decide) rfl rfl rfl (by decide) rfl rfl (rfl : zCl[7]? = some (RX9, TX9, 10)) hl.1 rfl rfl (by rw [hRf, hRl]; exact ⟨Nat.le_of_ble_eq_true rfl, Nat.le_of_ble_eq_true rfl⟩) (Nat.le_of_ble_eq_true rfl) ⟨Nat.zero_le _, Nat.zero_le _⟩ dX9_room_14 (fun H locs Z => ?_)
    refine lv_if_eq (tgt := 22) hx hb dX9_room_17 (by decide) (fun c_3 => ?_) (fun c_3 => ?_)
    · refine lv_aload_n hx hb dX9_room_22 rfl (lv_at hl 0 rfl) ?_
      refine z_callV (mc := 0) (ms := 0) (As := []) (rest := []) (st2 := [.int (zB (zf_X9_isStill MNow))]) (cs2 := [wMod g md MNow MPast MSav (zf_X9_refused_0) MThen MLev MFst MWay MMost MHash]) X Z [0] [] [0] 0 7 (zc_X9_isStill l g B md MNow MPast MSav (zf_X9_refused_0) MThen MLev MFst MWay MMost MHash (by first | assumption | omega | decide)) wM_X9_108 wS_X9_isStill wV_X9_isStill wK_X9_isStill wZ_X9 0 1 1 rfl (by decide +kernel) rfl (by decide) rfl rfl rfl (by decide) rfl rfl (rfl : zCl[7]? = some (RX9, TX9, 10)) hl.1 rfl rfl (by rw [hRf, hRl]; exact ⟨Nat.le_of_ble_eq_true rfl, Nat.le_of_ble_eq_true rfl⟩) (Nat.le_of_ble_eq_true rfl) ⟨Nat.zero_le _, Nat.zero_le _⟩ dX9_room_23 (fun H locs Z => ?_)
      refine z_ifeqB (b := (zf_X9_isStill MNow)) (tgt := 36) X dX9_room_26 (by decide) (fun c_4 => ?_) (fun c_4 => ?_)
      · refine lv_iconst (v := (-1 : Int32)) hx hb dX9_room_36 (by decide) ?_
        exact z_ri (v := (-1 : Int32)) E Z rfl (by rw [zf_X9_room_e, if_pos c_1, if_neg (zBf c_4)]; dsimp only; exact ⟨rfl, rfl⟩) dX9_room_37 (Nat.zero_le _) (Nat.zero_le _)
      · refine lv_aload_n hx hb dX9_room_29 rfl (lv_at hl 0 rfl) ?_
        refine z_callV (mc := 0) (ms := 0) (As := []) (rest := []) (st2 := [.int (zf_X9_overs MNow)]) (cs2 := [wMod g md MNow MPast MSav (zf_X9_refused_0) MThen MLev MFst MWay MMost MHash]) X Z [0] [] [0] 0 7 (zc_X9_overs l g B md MNow MPast MSav (zf_X9_refused_0) MThen MLev MFst MWay MMost MHash (by first | assumption | omega | decide)) wM_X9_115 wS_X9_overs wV_X9_overs wK_X9_overs wZ_X9 0 1 1 rfl (by decide +kernel) rfl (by decide) rfl rfl rfl (by decide) rfl rfl (rfl : zCl[7]? = some (RX9, TX9, 10)) hl.1 rfl rfl (by rw [hRf, hRl]; exact ⟨Nat.le_of_ble_eq_true rfl, Nat.le_of_ble_eq_true rfl⟩) (Nat.le_of_ble_eq_true rfl) ⟨Nat.zero_le _, Nat.zero_le _⟩ dX9_room_30 (fun H locs Z => ?_)
        refine lv_if_eq (tgt := 38) hx hb dX9_room_33 (by decide) (fun c_5 => ?_) (fun c_5 => ?_)
        · refine lv_ldc2 (v := (1000000000000000 : Int64)) hx hb hown (hts _ wL_X9_119) dX9_room_38 ?_
          refine lv_lstore_n (lv' := [(3, .long (1000000000000000 : Int64)), (0, .ref (md 0)), (1, .int x), (2, .int y)]) hx hb dX9_room_41 rfl hl (by decide) rfl (fun ls hl => ?_)
          refine lv_iconst (v := (0 : Int32)) hx hb dX9_room_42 (by decide) ?_
          refine lv_istore (lv' := [(5, .int (0 : Int32)), (3, .long (1000000000000000 : Int64)), (0, .ref (md 0)), (1, .int x), (2, .int y)]) hx hb dX9_room_43 hl (by decide) rfl (fun ls hl => ?_)
          have loop_45 : ∀ (n45 j45 : Nat) (x3 : Int64), j45 + n45 = 3 → zl_X9_room_45 MNow x y n45 j45 x3 = (zl_X9_room_45 MNow x y 3 0 (1000000000000000 : Int64)) → ∀ (H : Heap) (locs : List Loc), zM g B A s [wMod g md MNow MPast MSav (zf_X9_refused_0) MThen MLev MFst MWay MMost MHash] H locs → ∀ ls : Array Slot, lv_has ls 10 [(5, .int (nI j45)), (3, .long x3), (0, .ref (md 0)), (1, .int x), (2, .int y)] → W p l e R s m args below meth c H locs 0 0 Q (F0 m 45 ls []) := by
            intro n45
            induction n45 with
            | zero =>
              intro j45 x3 hin45 hR45 H locs Z ls hl
              have e_x3 : (zl_X9_room_45 MNow x y 3 0 (1000000000000000 : Int64)) = x3 := hR45.symm
              subst e_x3
              refine lv_iload hx hb dX9_room_45 (lv_at hl 0 rfl) ?_
              refine lv_iconst (v := (3 : Int32)) hx hb dX9_room_47 (by decide) ?_
              refine z_icmp_ge (a := j45) (b := 3) (tgt := 157) X rfl rfl (by omega) (by omega) dX9_room_48 (by decide) (fun c_6 => ?_) (fun c_6 => ?_)
              · refine lv_lload_n hx hb dX9_room_157 rfl (lv_at hl 1 rfl) ?_
                refine lv_l2i hx hb dX9_room_158 rfl ?_
                exact z_ri (v := ((zl_X9_room_45 MNow x y 3 0 (1000000000000000 : Int64)).toInt32)) E Z rfl (by rw [zf_X9_room_e, if_pos c_1, if_pos c_4, if_pos c_5]; dsimp only; exact ⟨rfl, rfl⟩) dX9_room_159 (Nat.zero_le _) (Nat.zero_le _)
              · (exfalso; omega)
            | succ n45 ih45 =>
              intro j45 x3 hin45 hR45 H locs Z ls hl
              refine lv_iload hx hb dX9_room_45 (lv_at hl 0 rfl) ?_
              refine lv_iconst (v := (3 : Int32)) hx hb dX9_room_47 (by decide) ?_
              refine z_icmp_ge (a := j45) (b := 3) (tgt := 157) X rfl rfl (by omega) (by omega) dX9_room_48 (by decide) (fun c_7 => ?_) (fun c_7 => ?_)
              · (exfalso; omega)
              · refine lv_aload_n hx hb dX9_room_51 rfl (lv_at hl 2 rfl) ?_
                refine z_callV (mc := 0) (ms := 0) (As := []) (rest := []) (st2 := [.long (zf_X9_area MNow)]) (cs2 := [wMod g md MNow MPast MSav (zf_X9_refused_0) MThen MLev MFst MWay MMost MHash]) X Z [0] [] [0] 0 7 (zc_X9_area l g B md MNow MPast MSav (zf_X9_refused_0) MThen MLev MFst MWay MMost MHash) wM_X9_74 wS_X9_area wV_X9_area wK_X9_area wZ_X9 0 1 1 rfl (by decide +kernel) rfl (by decide) rfl rfl rfl (by decide) rfl rfl (rfl : zCl[7]? = some (RX9, TX9, 10)) hl.1 rfl rfl (by rw [hRf, hRl]; exact ⟨Nat.le_of_ble_eq_true rfl, Nat.le_of_ble_eq_true rfl⟩) (Nat.le_of_ble_eq_true rfl) ⟨Nat.zero_le _, Nat.zero_le _⟩ dX9_room_52 (fun H locs Z => ?_)
                refine lv_lconst (v := (0 : Int64)) hx hb dX9_room_55 (by decide) ?_
                refine z_lc_ge (tgt := 75) X dX9_room_56 dX9_room_57 (by decide) (fun c_8 => ?_) (fun c_8 => ?_)
                · refine lv_aload_n hx hb dX9_room_75 rfl (lv_at hl 2 rfl) ?_
                  refine lv_iload hx hb dX9_room_76 (lv_at hl 0 rfl) ?_
                  refine lv_lconst (v := (1 : Int64)) hx hb dX9_room_78 (by decide) ?_
                  refine lv_iload_n hx hb dX9_room_79 rfl (lv_at hl 3 rfl) ?_
                  refine lv_i2l hx hb dX9_room_80 rfl ?_
                  refine lv_iload_n hx hb dX9_room_81 rfl (lv_at hl 4 rfl) ?_
                  refine lv_i2l hx hb dX9_room_82 rfl ?_
                  refine z_callV (mc := 0) (ms := 0) (As := [.int (nI j45), .long (1 : Int64), .long x.toInt64, .long y.toInt64]) (rest := []) (st2 := [.long (zf_X9_share MNow j45 (1 : Int64) x.toInt64 y.toInt64)]) (cs2 := [wMod g md MNow MPast MSav (zf_X9_refused_0) MThen MLev MFst MWay MMost MHash]) X Z [0] [] [0] 0 7 (zc_X9_share l g B md MNow MPast MSav (zf_X9_refused_0) MThen MLev MFst MWay MMost MHash j45 (1 : Int64) x.toInt64 y.toInt64 (by first | assumption | omega | decide)) wM_X9_70 wS_X9_share wV_X9_share wK_X9_share wZ_X9 4 1 1 rfl (by decide +kernel) rfl (by decide) rfl rfl rfl (by decide) rfl rfl (rfl : zCl[7]? = some (RX9, TX9, 10)) hl.1 rfl rfl (by rw [hRf, hRl]; exact ⟨Nat.le_of_ble_eq_true rfl, Nat.le_of_ble_eq_true rfl⟩) (Nat.le_of_ble_eq_true rfl) ⟨Nat.zero_le _, Nat.zero_le _⟩ dX9_room_83 (fun H locs Z => ?_)
                  refine lv_lstore (lv' := [(6, .long (zf_X9_share MNow j45 (1 : Int64) x.toInt64 y.toInt64)), (5, .int (nI j45)), (3, .long x3), (0, .ref (md 0)), (1, .int x), (2, .int y)]) hx hb dX9_room_86 hl (by decide) rfl (fun ls hl => ?_)
                  refine lv_lload hx hb dX9_room_88 (lv_at hl 0 rfl) ?_
                  refine lv_lconst (v := (0 : Int64)) hx hb dX9_room_90 (by decide) ?_
                  refine z_lc_le (tgt := 114) X dX9_room_91 dX9_room_92 (by decide) (fun c_9 => ?_) (fun c_9 => ?_)
                  · refine lv_lload hx hb dX9_room_114 (lv_at hl 0 rfl) ?_
                    refine lv_lconst (v := (0 : Int64)) hx hb dX9_room_116 (by decide) ?_
                    refine z_lc_ge (tgt := 134) X dX9_room_117 dX9_room_118 (by decide) (fun c_10 => ?_) (fun c_10 => ?_)
                    · refine lv_lload_n hx hb dX9_room_134 rfl (lv_at hl 2 rfl) ?_
                      refine lv_lstore (lv' := [(8, .long x3), (6, .long (zf_X9_share MNow j45 (1 : Int64) x.toInt64 y.toInt64)), (5, .int (nI j45)), (3, .long x3), (0, .ref (md 0)), (1, .int x), (2, .int y)]) hx hb dX9_room_135 hl (by decide) rfl (fun ls hl => ?_)
                      refine lv_lload hx hb dX9_room_137 (lv_at hl 0 rfl) ?_
                      refine lv_lload_n hx hb dX9_room_139 rfl (lv_at hl 3 rfl) ?_
                      refine z_lc_ge (tgt := 149) X dX9_room_140 dX9_room_141 (by decide) (fun c_11 => ?_) (fun c_11 => ?_)
                      · refine lv_lload_n hx hb dX9_room_149 rfl (lv_at hl 3 rfl) ?_
                        refine lv_lstore_n (lv' := [(3, .long x3), (8, .long x3), (6, .long (zf_X9_share MNow j45 (1 : Int64) x.toInt64 y.toInt64)), (5, .int (nI j45)), (0, .ref (md 0)), (1, .int x), (2, .int y)]) hx hb dX9_room_150 rfl hl (by decide) rfl (fun ls hl => ?_)
                        refine z_iinc (b := (j45 + 1)) (st := 1) (lv' := [(5, .int (nI (j45 + 1))), (3, .long x3), (8, .long x3), (6, .long (zf_X9_share MNow j45 (1 : Int64) x.toInt64 y.toInt64)), (0, .ref (md 0)), (1, .int x), (2, .int y)]) X dX9_room_151 hl (k := 3) rfl rfl (by decide) (by omega) (by decide) rfl (fun ls hl => ?_)
                        refine lv_goto (tgt := 45) hx hb dX9_room_154 (by decide) ?_
                        exact ih45 (j45 + 1) x3 (by omega) (by have h9 := hR45; rw [zl_X9_room_45_s, if_pos c_8, if_pos c_9, if_pos c_10, if_pos c_11] at h9; exact h9) _ _ Z ls (lv_sub hl [0, 1, 4, 5, 6] rfl)
                      · refine lv_lload hx hb dX9_room_144 (lv_at hl 0 rfl) ?_
                        refine lv_goto (tgt := 150) hx hb dX9_room_146 (by decide) ?_
                        refine lv_lstore_n (lv' := [(3, .long x3), (8, .long x3), (6, .long (zf_X9_share MNow j45 (1 : Int64) x.toInt64 y.toInt64)), (5, .int (nI j45)), (0, .ref (md 0)), (1, .int x), (2, .int y)]) hx hb dX9_room_150 rfl hl (by decide) rfl (fun ls hl => ?_)
                        refine z_iinc (b := (j45 + 1)) (st := 1) (lv' := [(5, .int (nI (j45 + 1))), (3, .long x3), (8, .long x3), (6, .long (zf_X9_share MNow j45 (1 : Int64) x.toInt64 y.toInt64)), (0, .ref (md 0)), (1, .int x), (2, .int y)]) X dX9_room_151 hl (k := 3) rfl rfl (by decide) (by omega) (by decide) rfl (fun ls hl => ?_)
                        refine lv_goto (tgt := 45) hx hb dX9_room_154 (by decide) ?_
                        exact ih45 (j45 + 1) x3 (by omega) (by have h9 := hR45; rw [zl_X9_room_45_s, if_pos c_8, if_pos c_9, if_pos c_10, if_neg c_11] at h9; exact h9) _ _ Z ls (lv_sub hl [0, 1, 4, 5, 6] rfl)
                    · refine lv_aload_n hx hb dX9_room_121 rfl (lv_at hl 3 rfl) ?_
                      refine lv_iload hx hb dX9_room_122 (lv_at hl 1 rfl) ?_
                      refine z_callV (mc := 0) (ms := 0) (As := [.int (nI j45)]) (rest := []) (st2 := [.long (zf_X9_loadOf MNow j45)]) (cs2 := [wMod g md MNow MPast MSav (zf_X9_refused_0) MThen MLev MFst MWay MMost MHash]) X Z [0] [] [0] 0 7 (zc_X9_loadOf l g B md MNow MPast MSav (zf_X9_refused_0) MThen MLev MFst MWay MMost MHash j45 (by first | assumption | omega | decide) (by first | assumption | omega | decide)) wM_X9_95 wS_X9_loadOf wV_X9_loadOf wK_X9_loadOf wZ_X9 1 1 1 rfl (by decide +kernel) rfl (by decide) rfl rfl rfl (by decide) rfl rfl (rfl : zCl[7]? = some (RX9, TX9, 10)) hl.1 rfl rfl (by rw [hRf, hRl]; exact ⟨Nat.le_of_ble_eq_true rfl, Nat.le_of_ble_eq_true rfl⟩) (Nat.le_of_ble_eq_true rfl) ⟨Nat.zero_le _, Nat.zero_le _⟩ dX9_room_124 (fun H locs Z => ?_)
                      refine lv_lload hx hb dX9_room_127 (lv_at hl 0 rfl) ?_
                      refine lv_lneg hx hb dX9_room_129 ?_
                      refine lv_ldiv hx hb dX9_room_130 (zne2 c_10) ?_
                      refine lv_goto (tgt := 135) hx hb dX9_room_131 (by decide) ?_
                      refine lv_lstore (lv' := [(8, .long ((zf_X9_loadOf MNow j45) / (-(zf_X9_share MNow j45 (1 : Int64) x.toInt64 y.toInt64)))), (6, .long (zf_X9_share MNow j45 (1 : Int64) x.toInt64 y.toInt64)), (5, .int (nI j45)), (3, .long x3), (0, .ref (md 0)), (1, .int x), (2, .int y)]) hx hb dX9_room_135 hl (by decide) rfl (fun ls hl => ?_)
                      refine lv_lload hx hb dX9_room_137 (lv_at hl 0 rfl) ?_
                      refine lv_lload_n hx hb dX9_room_139 rfl (lv_at hl 3 rfl) ?_
                      refine z_lc_ge (tgt := 149) X dX9_room_140 dX9_room_141 (by decide) (fun c_12 => ?_) (fun c_12 => ?_)
                      · refine lv_lload_n hx hb dX9_room_149 rfl (lv_at hl 3 rfl) ?_
                        refine lv_lstore_n (lv' := [(3, .long x3), (8, .long ((zf_X9_loadOf MNow j45) / (-(zf_X9_share MNow j45 (1 : Int64) x.toInt64 y.toInt64)))), (6, .long (zf_X9_share MNow j45 (1 : Int64) x.toInt64 y.toInt64)), (5, .int (nI j45)), (0, .ref (md 0)), (1, .int x), (2, .int y)]) hx hb dX9_room_150 rfl hl (by decide) rfl (fun ls hl => ?_)
                        refine z_iinc (b := (j45 + 1)) (st := 1) (lv' := [(5, .int (nI (j45 + 1))), (3, .long x3), (8, .long ((zf_X9_loadOf MNow j45) / (-(zf_X9_share MNow j45 (1 : Int64) x.toInt64 y.toInt64)))), (6, .long (zf_X9_share MNow j45 (1 : Int64) x.toInt64 y.toInt64)), (0, .ref (md 0)), (1, .int x), (2, .int y)]) X dX9_room_151 hl (k := 3) rfl rfl (by decide) (by omega) (by decide) rfl (fun ls hl => ?_)
                        refine lv_goto (tgt := 45) hx hb dX9_room_154 (by decide) ?_
                        exact ih45 (j45 + 1) x3 (by omega) (by have h9 := hR45; rw [zl_X9_room_45_s, if_pos c_8, if_pos c_9, if_neg c_10, if_pos c_12] at h9; exact h9) _ _ Z ls (lv_sub hl [0, 1, 4, 5, 6] rfl)
                      · refine lv_lload hx hb dX9_room_144 (lv_at hl 0 rfl) ?_
                        refine lv_goto (tgt := 150) hx hb dX9_room_146 (by decide) ?_
                        refine lv_lstore_n (lv' := [(3, .long ((zf_X9_loadOf MNow j45) / (-(zf_X9_share MNow j45 (1 : Int64) x.toInt64 y.toInt64)))), (8, .long ((zf_X9_loadOf MNow j45) / (-(zf_X9_share MNow j45 (1 : Int64) x.toInt64 y.toInt64)))), (6, .long (zf_X9_share MNow j45 (1 : Int64) x.toInt64 y.toInt64)), (5, .int (nI j45)), (0, .ref (md 0)), (1, .int x), (2, .int y)]) hx hb dX9_room_150 rfl hl (by decide) rfl (fun ls hl => ?_)
                        refine z_iinc (b := (j45 + 1)) (st := 1) (lv' := [(5, .int (nI (j45 + 1))), (3, .long ((zf_X9_loadOf MNow j45) / (-(zf_X9_share MNow j45 (1 : Int64) x.toInt64 y.toInt64)))), (8, .long ((zf_X9_loadOf MNow j45) / (-(zf_X9_share MNow j45 (1 : Int64) x.toInt64 y.toInt64)))), (6, .long (zf_X9_share MNow j45 (1 : Int64) x.toInt64 y.toInt64)), (0, .ref (md 0)), (1, .int x), (2, .int y)]) X dX9_room_151 hl (k := 3) rfl rfl (by decide) (by omega) (by decide) rfl (fun ls hl => ?_)
                        refine lv_goto (tgt := 45) hx hb dX9_room_154 (by decide) ?_
                        exact ih45 (j45 + 1) ((zf_X9_loadOf MNow j45) / (-(zf_X9_share MNow j45 (1 : Int64) x.toInt64 y.toInt64))) (by omega) (by have h9 := hR45; rw [zl_X9_room_45_s, if_pos c_8, if_pos c_9, if_neg c_10, if_neg c_12] at h9; exact h9) _ _ Z ls (lv_sub hl [0, 1, 4, 5, 6] rfl)
                  · refine lv_aload_n hx hb dX9_room_95 rfl (lv_at hl 3 rfl) ?_
                    refine lv_iload hx hb dX9_room_96 (lv_at hl 1 rfl) ?_
                    refine z_callV (mc := 0) (ms := 0) (As := [.int (nI j45)]) (rest := []) (st2 := [.long (zf_X9_capacity MNow j45)]) (cs2 := [wMod g md MNow MPast MSav (zf_X9_refused_0) MThen MLev MFst MWay MMost MHash]) X Z [0] [] [0] 0 7 (zc_X9_capacity l g B md MNow MPast MSav (zf_X9_refused_0) MThen MLev MFst MWay MMost MHash j45 (by first | assumption | omega | decide)) wM_X9_112 wS_X9_capacity wV_X9_capacity wK_X9_capacity wZ_X9 1 1 1 rfl (by decide +kernel) rfl (by decide) rfl rfl rfl (by decide) rfl rfl (rfl : zCl[7]? = some (RX9, TX9, 10)) hl.1 rfl rfl (by rw [hRf, hRl]; exact ⟨Nat.le_of_ble_eq_true rfl, Nat.le_of_ble_eq_true rfl⟩) (Nat.le_of_ble_eq_true rfl) ⟨Nat.zero_le _, Nat.zero_le _⟩ dX9_room_98 (fun H locs Z => ?_)
                    refine lv_aload_n hx hb dX9_room_101 rfl (lv_at hl 3 rfl) ?_
                    refine lv_iload hx hb dX9_room_102 (lv_at hl 1 rfl) ?_
                    refine z_callV (mc := 0) (ms := 0) (As := [.int (nI j45)]) (rest := [.long (zf_X9_capacity MNow j45)]) (st2 := [.long (zf_X9_loadOf MNow j45), .long (zf_X9_capacity MNow j45)]) (cs2 := [wMod g md MNow MPast MSav (zf_X9_refused_0) MThen MLev MFst MWay MMost MHash]) X Z [0] [] [0] 0 7 (zc_X9_loadOf l g B md MNow MPast MSav (zf_X9_refused_0) MThen MLev MFst MWay MMost MHash j45 (by first | assumption | omega | decide) (by first | assumption | omega | decide)) wM_X9_95 wS_X9_loadOf wV_X9_loadOf wK_X9_loadOf wZ_X9 1 1 1 rfl (by decide +kernel) rfl (by decide) rfl rfl rfl (by decide) rfl rfl (rfl : zCl[7]? = some (RX9, TX9, 10)) hl.1 rfl rfl (by rw [hRf, hRl]; exact ⟨Nat.le_of_ble_eq_true rfl, Nat.le_of_ble_eq_true rfl⟩) (Nat.le_of_ble_eq_true rfl) ⟨Nat.zero_le _, Nat.zero_le _⟩ dX9_room_104 (fun H locs Z => ?_)
                    refine lv_lsub hx hb dX9_room_107 ?_
                    refine lv_lload hx hb dX9_room_108 (lv_at hl 0 rfl) ?_
                    refine lv_ldiv hx hb dX9_room_110 (zne1 c_9) ?_
                    refine lv_goto (tgt := 135) hx hb dX9_room_111 (by decide) ?_
                    refine lv_lstore (lv' := [(8, .long (((zf_X9_capacity MNow j45) - (zf_X9_loadOf MNow j45)) / (zf_X9_share MNow j45 (1 : Int64) x.toInt64 y.toInt64))), (6, .long (zf_X9_share MNow j45 (1 : Int64) x.toInt64 y.toInt64)), (5, .int (nI j45)), (3, .long x3), (0, .ref (md 0)), (1, .int x), (2, .int y)]) hx hb dX9_room_135 hl (by decide) rfl (fun ls hl => ?_)
                    refine lv_lload hx hb dX9_room_137 (lv_at hl 0 rfl) ?_
                    refine lv_lload_n hx hb dX9_room_139 rfl (lv_at hl 3 rfl) ?_
                    refine z_lc_ge (tgt := 149) X dX9_room_140 dX9_room_141 (by decide) (fun c_13 => ?_) (fun c_13 => ?_)
                    · refine lv_lload_n hx hb dX9_room_149 rfl (lv_at hl 3 rfl) ?_
                      refine lv_lstore_n (lv' := [(3, .long x3), (8, .long (((zf_X9_capacity MNow j45) - (zf_X9_loadOf MNow j45)) / (zf_X9_share MNow j45 (1 : Int64) x.toInt64 y.toInt64))), (6, .long (zf_X9_share MNow j45 (1 : Int64) x.toInt64 y.toInt64)), (5, .int (nI j45)), (0, .ref (md 0)), (1, .int x), (2, .int y)]) hx hb dX9_room_150 rfl hl (by decide) rfl (fun ls hl => ?_)
                      refine z_iinc (b := (j45 + 1)) (st := 1) (lv' := [(5, .int (nI (j45 + 1))), (3, .long x3), (8, .long (((zf_X9_capacity MNow j45) - (zf_X9_loadOf MNow j45)) / (zf_X9_share MNow j45 (1 : Int64) x.toInt64 y.toInt64))), (6, .long (zf_X9_share MNow j45 (1 : Int64) x.toInt64 y.toInt64)), (0, .ref (md 0)), (1, .int x), (2, .int y)]) X dX9_room_151 hl (k := 3) rfl rfl (by decide) (by omega) (by decide) rfl (fun ls hl => ?_)
                      refine lv_goto (tgt := 45) hx hb dX9_room_154 (by decide) ?_
                      exact ih45 (j45 + 1) x3 (by omega) (by have h9 := hR45; rw [zl_X9_room_45_s, if_pos c_8, if_neg c_9, if_pos c_13] at h9; exact h9) _ _ Z ls (lv_sub hl [0, 1, 4, 5, 6] rfl)
                    · refine lv_lload hx hb dX9_room_144 (lv_at hl 0 rfl) ?_
                      refine lv_goto (tgt := 150) hx hb dX9_room_146 (by decide) ?_
                      refine lv_lstore_n (lv' := [(3, .long (((zf_X9_capacity MNow j45) - (zf_X9_loadOf MNow j45)) / (zf_X9_share MNow j45 (1 : Int64) x.toInt64 y.toInt64))), (8, .long (((zf_X9_capacity MNow j45) - (zf_X9_loadOf MNow j45)) / (zf_X9_share MNow j45 (1 : Int64) x.toInt64 y.toInt64))), (6, .long (zf_X9_share MNow j45 (1 : Int64) x.toInt64 y.toInt64)), (5, .int (nI j45)), (0, .ref (md 0)), (1, .int x), (2, .int y)]) hx hb dX9_room_150 rfl hl (by decide) rfl (fun ls hl => ?_)
                      refine z_iinc (b := (j45 + 1)) (st := 1) (lv' := [(5, .int (nI (j45 + 1))), (3, .long (((zf_X9_capacity MNow j45) - (zf_X9_loadOf MNow j45)) / (zf_X9_share MNow j45 (1 : Int64) x.toInt64 y.toInt64))), (8, .long (((zf_X9_capacity MNow j45) - (zf_X9_loadOf MNow j45)) / (zf_X9_share MNow j45 (1 : Int64) x.toInt64 y.toInt64))), (6, .long (zf_X9_share MNow j45 (1 : Int64) x.toInt64 y.toInt64)), (0, .ref (md 0)), (1, .int x), (2, .int y)]) X dX9_room_151 hl (k := 3) rfl rfl (by decide) (by omega) (by decide) rfl (fun ls hl => ?_)
                      refine lv_goto (tgt := 45) hx hb dX9_room_154 (by decide) ?_
                      exact ih45 (j45 + 1) (((zf_X9_capacity MNow j45) - (zf_X9_loadOf MNow j45)) / (zf_X9_share MNow j45 (1 : Int64) x.toInt64 y.toInt64)) (by omega) (by have h9 := hR45; rw [zl_X9_room_45_s, if_pos c_8, if_neg c_9, if_neg c_13] at h9; exact h9) _ _ Z ls (lv_sub hl [0, 1, 4, 5, 6] rfl)
                · refine lv_aload_n hx hb dX9_room_60 rfl (lv_at hl 2 rfl) ?_
                  refine lv_iload hx hb dX9_room_61 (lv_at hl 0 rfl) ?_
                  refine lv_lconst (v := (1 : Int64)) hx hb dX9_room_63 (by decide) ?_
                  refine lv_iload_n hx hb dX9_room_64 rfl (lv_at hl 3 rfl) ?_
                  refine lv_i2l hx hb dX9_room_65 rfl ?_
                  refine lv_iload_n hx hb dX9_room_66 rfl (lv_at hl 4 rfl) ?_
                  refine lv_i2l hx hb dX9_room_67 rfl ?_
                  refine z_callV (mc := 0) (ms := 0) (As := [.int (nI j45), .long (1 : Int64), .long x.toInt64, .long y.toInt64]) (rest := []) (st2 := [.long (zf_X9_share MNow j45 (1 : Int64) x.toInt64 y.toInt64)]) (cs2 := [wMod g md MNow MPast MSav (zf_X9_refused_0) MThen MLev MFst MWay MMost MHash]) X Z [0] [] [0] 0 7 (zc_X9_share l g B md MNow MPast MSav (zf_X9_refused_0) MThen MLev MFst MWay MMost MHash j45 (1 : Int64) x.toInt64 y.toInt64 (by first | assumption | omega | decide)) wM_X9_70 wS_X9_share wV_X9_share wK_X9_share wZ_X9 4 1 1 rfl (by decide +kernel) rfl (by decide) rfl rfl rfl (by decide) rfl rfl (rfl : zCl[7]? = some (RX9, TX9, 10)) hl.1 rfl rfl (by rw [hRf, hRl]; exact ⟨Nat.le_of_ble_eq_true rfl, Nat.le_of_ble_eq_true rfl⟩) (Nat.le_of_ble_eq_true rfl) ⟨Nat.zero_le _, Nat.zero_le _⟩ dX9_room_68 (fun H locs Z => ?_)
                  refine lv_lneg hx hb dX9_room_71 ?_
                  refine lv_goto (tgt := 86) hx hb dX9_room_72 (by decide) ?_
                  refine lv_lstore (lv' := [(6, .long (-(zf_X9_share MNow j45 (1 : Int64) x.toInt64 y.toInt64))), (5, .int (nI j45)), (3, .long x3), (0, .ref (md 0)), (1, .int x), (2, .int y)]) hx hb dX9_room_86 hl (by decide) rfl (fun ls hl => ?_)
                  refine lv_lload hx hb dX9_room_88 (lv_at hl 0 rfl) ?_
                  refine lv_lconst (v := (0 : Int64)) hx hb dX9_room_90 (by decide) ?_
                  refine z_lc_le (tgt := 114) X dX9_room_91 dX9_room_92 (by decide) (fun c_14 => ?_) (fun c_14 => ?_)
                  · refine lv_lload hx hb dX9_room_114 (lv_at hl 0 rfl) ?_
                    refine lv_lconst (v := (0 : Int64)) hx hb dX9_room_116 (by decide) ?_
                    refine z_lc_ge (tgt := 134) X dX9_room_117 dX9_room_118 (by decide) (fun c_15 => ?_) (fun c_15 => ?_)
                    · refine lv_lload_n hx hb dX9_room_134 rfl (lv_at hl 2 rfl) ?_
                      refine lv_lstore (lv' := [(8, .long x3), (6, .long (-(zf_X9_share MNow j45 (1 : Int64) x.toInt64 y.toInt64))), (5, .int (nI j45)), (3, .long x3), (0, .ref (md 0)), (1, .int x), (2, .int y)]) hx hb dX9_room_135 hl (by decide) rfl (fun ls hl => ?_)
                      refine lv_lload hx hb dX9_room_137 (lv_at hl 0 rfl) ?_
                      refine lv_lload_n hx hb dX9_room_139 rfl (lv_at hl 3 rfl) ?_
                      refine z_lc_ge (tgt := 149) X dX9_room_140 dX9_room_141 (by decide) (fun c_16 => ?_) (fun c_16 => ?_)
                      · refine lv_lload_n hx hb dX9_room_149 rfl (lv_at hl 3 rfl) ?_
                        refine lv_lstore_n (lv' := [(3, .long x3), (8, .long x3), (6, .long (-(zf_X9_share MNow j45 (1 : Int64) x.toInt64 y.toInt64))), (5, .int (nI j45)), (0, .ref (md 0)), (1, .int x), (2, .int y)]) hx hb dX9_room_150 rfl hl (by decide) rfl (fun ls hl => ?_)
                        refine z_iinc (b := (j45 + 1)) (st := 1) (lv' := [(5, .int (nI (j45 + 1))), (3, .long x3), (8, .long x3), (6, .long (-(zf_X9_share MNow j45 (1 : Int64) x.toInt64 y.toInt64))), (0, .ref (md 0)), (1, .int x), (2, .int y)]) X dX9_room_151 hl (k := 3) rfl rfl (by decide) (by omega) (by decide) rfl (fun ls hl => ?_)
                        refine lv_goto (tgt := 45) hx hb dX9_room_154 (by decide) ?_
                        exact ih45 (j45 + 1) x3 (by omega) (by have h9 := hR45; rw [zl_X9_room_45_s, if_neg c_8, if_pos c_14, if_pos c_15, if_pos c_16] at h9; exact h9) _ _ Z ls (lv_sub hl [0, 1, 4, 5, 6] rfl)
                      · refine lv_lload hx hb dX9_room_144 (lv_at hl 0 rfl) ?_
                        refine lv_goto (tgt := 150) hx hb dX9_room_146 (by decide) ?_
                        refine lv_lstore_n (lv' := [(3, .long x3), (8, .long x3), (6, .long (-(zf_X9_share MNow j45 (1 : Int64) x.toInt64 y.toInt64))), (5, .int (nI j45)), (0, .ref (md 0)), (1, .int x), (2, .int y)]) hx hb dX9_room_150 rfl hl (by decide) rfl (fun ls hl => ?_)
                        refine z_iinc (b := (j45 + 1)) (st := 1) (lv' := [(5, .int (nI (j45 + 1))), (3, .long x3), (8, .long x3), (6, .long (-(zf_X9_share MNow j45 (1 : Int64) x.toInt64 y.toInt64))), (0, .ref (md 0)), (1, .int x), (2, .int y)]) X dX9_room_151 hl (k := 3) rfl rfl (by decide) (by omega) (by decide) rfl (fun ls hl => ?_)
                        refine lv_goto (tgt := 45) hx hb dX9_room_154 (by decide) ?_
                        exact ih45 (j45 + 1) x3 (by omega) (by have h9 := hR45; rw [zl_X9_room_45_s, if_neg c_8, if_pos c_14, if_pos c_15, if_neg c_16] at h9; exact h9) _ _ Z ls (lv_sub hl [0, 1, 4, 5, 6] rfl)
                    · refine lv_aload_n hx hb dX9_room_121 rfl (lv_at hl 3 rfl) ?_
                      refine lv_iload hx hb dX9_room_122 (lv_at hl 1 rfl) ?_
                      refine z_callV (mc := 0) (ms := 0) (As := [.int (nI j45)]) (rest := []) (st2 := [.long (zf_X9_loadOf MNow j45)]) (cs2 := [wMod g md MNow MPast MSav (zf_X9_refused_0) MThen MLev MFst MWay MMost MHash]) X Z [0] [] [0] 0 7 (zc_X9_loadOf l g B md MNow MPast MSav (zf_X9_refused_0) MThen MLev MFst MWay MMost MHash j45 (by first | assumption | omega | decide) (by first | assumption | omega | decide)) wM_X9_95 wS_X9_loadOf wV_X9_loadOf wK_X9_loadOf wZ_X9 1 1 1 rfl (by decide +kernel) rfl (by decide) rfl rfl rfl (by decide) rfl rfl (rfl : zCl[7]? = some (RX9, TX9, 10)) hl.1 rfl rfl (by rw [hRf, hRl]; exact ⟨Nat.le_of_ble_eq_true rfl, Nat.le_of_ble_eq_true rfl⟩) (Nat.le_of_ble_eq_true rfl) ⟨Nat.zero_le _, Nat.zero_le _⟩ dX9_room_124 (fun H locs Z => ?_)
                      refine lv_lload hx hb dX9_room_127 (lv_at hl 0 rfl) ?_
                      refine lv_lneg hx hb dX9_room_129 ?_
                      refine lv_ldiv hx hb dX9_room_130 (zne2 c_15) ?_
                      refine lv_goto (tgt := 135) hx hb dX9_room_131 (by decide) ?_
                      refine lv_lstore (lv' := [(8, .long ((zf_X9_loadOf MNow j45) / (-(-(zf_X9_share MNow j45 (1 : Int64) x.toInt64 y.toInt64))))), (6, .long (-(zf_X9_share MNow j45 (1 : Int64) x.toInt64 y.toInt64))), (5, .int (nI j45)), (3, .long x3), (0, .ref (md 0)), (1, .int x), (2, .int y)]) hx hb dX9_room_135 hl (by decide) rfl (fun ls hl => ?_)
                      refine lv_lload hx hb dX9_room_137 (lv_at hl 0 rfl) ?_
                      refine lv_lload_n hx hb dX9_room_139 rfl (lv_at hl 3 rfl) ?_
                      refine z_lc_ge (tgt := 149) X dX9_room_140 dX9_room_141 (by decide) (fun c_17 => ?_) (fun c_17 => ?_)
                      · refine lv_lload_n hx hb dX9_room_149 rfl (lv_at hl 3 rfl) ?_
                        refine lv_lstore_n (lv' := [(3, .long x3), (8, .long ((zf_X9_loadOf MNow j45) / (-(-(zf_X9_share MNow j45 (1 : Int64) x.toInt64 y.toInt64))))), (6, .long (-(zf_X9_share MNow j45 (1 : Int64) x.toInt64 y.toInt64))), (5, .int (nI j45)), (0, .ref (md 0)), (1, .int x), (2, .int y)]) hx hb dX9_room_150 rfl hl (by decide) rfl (fun ls hl => ?_)
                        refine z_iinc (b := (j45 + 1)) (st := 1) (lv' := [(5, .int (nI (j45 + 1))), (3, .long x3), (8, .long ((zf_X9_loadOf MNow j45) / (-(-(zf_X9_share MNow j45 (1 : Int64) x.toInt64 y.toInt64))))), (6, .long (-(zf_X9_share MNow j45 (1 : Int64) x.toInt64 y.toInt64))), (0, .ref (md 0)), (1, .int x), (2, .int y)]) X dX9_room_151 hl (k := 3) rfl rfl (by decide) (by omega) (by decide) rfl (fun ls hl => ?_)
                        refine lv_goto (tgt := 45) hx hb dX9_room_154 (by decide) ?_
                        exact ih45 (j45 + 1) x3 (by omega) (by have h9 := hR45; rw [zl_X9_room_45_s, if_neg c_8, if_pos c_14, if_neg c_15, if_pos c_17] at h9; exact h9) _ _ Z ls (lv_sub hl [0, 1, 4, 5, 6] rfl)
                      · refine lv_lload hx hb dX9_room_144 (lv_at hl 0 rfl) ?_
                        refine lv_goto (tgt := 150) hx hb dX9_room_146 (by decide) ?_
                        refine lv_lstore_n (lv' := [(3, .long ((zf_X9_loadOf MNow j45) / (-(-(zf_X9_share MNow j45 (1 : Int64) x.toInt64 y.toInt64))))), (8, .long ((zf_X9_loadOf MNow j45) / (-(-(zf_X9_share MNow j45 (1 : Int64) x.toInt64 y.toInt64))))), (6, .long (-(zf_X9_share MNow j45 (1 : Int64) x.toInt64 y.toInt64))), (5, .int (nI j45)), (0, .ref (md 0)), (1, .int x), (2, .int y)]) hx hb dX9_room_150 rfl hl (by decide) rfl (fun ls hl => ?_)
                        refine z_iinc (b := (j45 + 1)) (st := 1) (lv' := [(5, .int (nI (j45 + 1))), (3, .long ((zf_X9_loadOf MNow j45) / (-(-(zf_X9_share MNow j45 (1 : Int64) x.toInt64 y.toInt64))))), (8, .long ((zf_X9_loadOf MNow j45) / (-(-(zf_X9_share MNow j45 (1 : Int64) x.toInt64 y.toInt64))))), (6, .long (-(zf_X9_share MNow j45 (1 : Int64) x.toInt64 y.toInt64))), (0, .ref (md 0)), (1, .int x), (2, .int y)]) X dX9_room_151 hl (k := 3) rfl rfl (by decide) (by omega) (by decide) rfl (fun ls hl => ?_)
                        refine lv_goto (tgt := 45) hx hb dX9_room_154 (by decide) ?_
                        exact ih45 (j45 + 1) ((zf_X9_loadOf MNow j45) / (-(-(zf_X9_share MNow j45 (1 : Int64) x.toInt64 y.toInt64)))) (by omega) (by have h9 := hR45; rw [zl_X9_room_45_s, if_neg c_8, if_pos c_14, if_neg c_15, if_neg c_17] at h9; exact h9) _ _ Z ls (lv_sub hl [0, 1, 4, 5, 6] rfl)
                  · refine lv_aload_n hx hb dX9_room_95 rfl (lv_at hl 3 rfl) ?_
                    refine lv_iload hx hb dX9_room_96 (lv_at hl 1 rfl) ?_
                    refine z_callV (mc := 0) (ms := 0) (As := [.int (nI j45)]) (rest := []) (st2 := [.long (zf_X9_capacity MNow j45)]) (cs2 := [wMod g md MNow MPast MSav (zf_X9_refused_0) MThen MLev MFst MWay MMost MHash]) X Z [0] [] [0] 0 7 (zc_X9_capacity l g B md MNow MPast MSav (zf_X9_refused_0) MThen MLev MFst MWay MMost MHash j45 (by first | assumption | omega | decide)) wM_X9_112 wS_X9_capacity wV_X9_capacity wK_X9_capacity wZ_X9 1 1 1 rfl (by decide +kernel) rfl (by decide) rfl rfl rfl (by decide) rfl rfl (rfl : zCl[7]? = some (RX9, TX9, 10)) hl.1 rfl rfl (by rw [hRf, hRl]; exact ⟨Nat.le_of_ble_eq_true rfl, Nat.le_of_ble_eq_true rfl⟩) (Nat.le_of_ble_eq_true rfl) ⟨Nat.zero_le _, Nat.zero_le _⟩ dX9_room_98 (fun H locs Z => ?_)
                    refine lv_aload_n hx hb dX9_room_101 rfl (lv_at hl 3 rfl) ?_
                    refine lv_iload hx hb dX9_room_102 (lv_at hl 1 rfl) ?_
                    refine z_callV (mc := 0) (ms := 0) (As := [.int (nI j45)]) (rest := [.long (zf_X9_capacity MNow j45)]) (st2 := [.long (zf_X9_loadOf MNow j45), .long (zf_X9_capacity MNow j45)]) (cs2 := [wMod g md MNow MPast MSav (zf_X9_refused_0) MThen MLev MFst MWay MMost MHash]) X Z [0] [] [0] 0 7 (zc_X9_loadOf l g B md MNow MPast MSav (zf_X9_refused_0) MThen MLev MFst MWay MMost MHash j45 (by first | assumption | omega | decide) (by first | assumption | omega | decide)) wM_X9_95 wS_X9_loadOf wV_X9_loadOf wK_X9_loadOf wZ_X9 1 1 1 rfl (by decide +kernel) rfl (by decide) rfl rfl rfl (by decide) rfl rfl (rfl : zCl[7]? = some (RX9, TX9, 10)) hl.1 rfl rfl (by rw [hRf, hRl]; exact ⟨Nat.le_of_ble_eq_true rfl, Nat.le_of_ble_eq_true rfl⟩) (Nat.le_of_ble_eq_true rfl) ⟨Nat.zero_le _, Nat.zero_le _⟩ dX9_room_104 (fun H locs Z => ?_)
                    refine lv_lsub hx hb dX9_room_107 ?_
                    refine lv_lload hx hb dX9_room_108 (lv_at hl 0 rfl) ?_
                    refine lv_ldiv hx hb dX9_room_110 (zne1 c_14) ?_
                    refine lv_goto (tgt := 135) hx hb dX9_room_111 (by decide) ?_
                    refine lv_lstore (lv' := [(8, .long (((zf_X9_capacity MNow j45) - (zf_X9_loadOf MNow j45)) / (-(zf_X9_share MNow j45 (1 : Int64) x.toInt64 y.toInt64)))), (6, .long (-(zf_X9_share MNow j45 (1 : Int64) x.toInt64 y.toInt64))), (5, .int (nI j45)), (3, .long x3), (0, .ref (md 0)), (1, .int x), (2, .int y)]) hx hb dX9_room_135 hl (by decide) rfl (fun ls hl => ?_)
                    refine lv_lload hx hb dX9_room_137 (lv_at hl 0 rfl) ?_
                    refine lv_lload_n hx hb dX9_room_139 rfl (lv_at hl 3 rfl) ?_
                    refine z_lc_ge (tgt := 149) X dX9_room_140 dX9_room_141 (by decide) (fun c_18 => ?_) (fun c_18 => ?_)
                    · refine lv_lload_n hx hb dX9_room_149 rfl (lv_at hl 3 rfl) ?_
                      refine lv_lstore_n (lv' := [(3, .long x3), (8, .long (((zf_X9_capacity MNow j45) - (zf_X9_loadOf MNow j45)) / (-(zf_X9_share MNow j45 (1 : Int64) x.toInt64 y.toInt64)))), (6, .long (-(zf_X9_share MNow j45 (1 : Int64) x.toInt64 y.toInt64))), (5, .int (nI j45)), (0, .ref (md 0)), (1, .int x), (2, .int y)]) hx hb dX9_room_150 rfl hl (by decide) rfl (fun ls hl => ?_)
                      refine z_iinc (b := (j45 + 1)) (st := 1) (lv' := [(5, .int (nI (j45 + 1))), (3, .long x3), (8, .long (((zf_X9_capacity MNow j45) - (zf_X9_loadOf MNow j45)) / (-(zf_X9_share MNow j45 (1 : Int64) x.toInt64 y.toInt64)))), (6, .long (-(zf_X9_share MNow j45 (1 : Int64) x.toInt64 y.toInt64))), (0, .ref (md 0)), (1, .int x), (2, .int y)]) X dX9_room_151 hl (k := 3) rfl rfl (by decide) (by omega) (by decide) rfl (fun ls hl => ?_)
                      refine lv_goto (tgt := 45) hx hb dX9_room_154 (by decide) ?_
                      exact ih45 (j45 + 1) x3 (by omega) (by have h9 := hR45; rw [zl_X9_room_45_s, if_neg c_8, if_neg c_14, if_pos c_18] at h9; exact h9) _ _ Z ls (lv_sub hl [0, 1, 4, 5, 6] rfl)
                    · refine lv_lload hx hb dX9_room_144 (lv_at hl 0 rfl) ?_
                      refine lv_goto (tgt := 150) hx hb dX9_room_146 (by decide) ?_
                      refine lv_lstore_n (lv' := [(3, .long (((zf_X9_capacity MNow j45) - (zf_X9_loadOf MNow j45)) / (-(zf_X9_share MNow j45 (1 : Int64) x.toInt64 y.toInt64)))), (8, .long (((zf_X9_capacity MNow j45) - (zf_X9_loadOf MNow j45)) / (-(zf_X9_share MNow j45 (1 : Int64) x.toInt64 y.toInt64)))), (6, .long (-(zf_X9_share MNow j45 (1 : Int64) x.toInt64 y.toInt64))), (5, .int (nI j45)), (0, .ref (md 0)), (1, .int x), (2, .int y)]) hx hb dX9_room_150 rfl hl (by decide) rfl (fun ls hl => ?_)
                      refine z_iinc (b := (j45 + 1)) (st := 1) (lv' := [(5, .int (nI (j45 + 1))), (3, .long (((zf_X9_capacity MNow j45) - (zf_X9_loadOf MNow j45)) / (-(zf_X9_share MNow j45 (1 : Int64) x.toInt64 y.toInt64)))), (8, .long (((zf_X9_capacity MNow j45) - (zf_X9_loadOf MNow j45)) / (-(zf_X9_share MNow j45 (1 : Int64) x.toInt64 y.toInt64)))), (6, .long (-(zf_X9_share MNow j45 (1 : Int64) x.toInt64 y.toInt64))), (0, .ref (md 0)), (1, .int x), (2, .int y)]) X dX9_room_151 hl (k := 3) rfl rfl (by decide) (by omega) (by decide) rfl (fun ls hl => ?_)
                      refine lv_goto (tgt := 45) hx hb dX9_room_154 (by decide) ?_
                      exact ih45 (j45 + 1) (((zf_X9_capacity MNow j45) - (zf_X9_loadOf MNow j45)) / (-(zf_X9_share MNow j45 (1 : Int64) x.toInt64 y.toInt64))) (by omega) (by have h9 := hR45; rw [zl_X9_room_45_s, if_neg c_8, if_neg c_14, if_neg c_18] at h9; exact h9) _ _ Z ls (lv_sub hl [0, 1, 4, 5, 6] rfl)
          exact loop_45 3 0 (1000000000000000 : Int64) (by omega) rfl _ _ Z ls (lv_sub hl [0, 1, 2, 3, 4] rfl)
        · refine lv_iconst (v := (-1 : Int32)) hx hb dX9_room_36 (by decide) ?_
          exact z_ri (v := (-1 : Int32)) E Z rfl (by rw [zf_X9_room_e, if_pos c_1, if_pos c_4, if_neg c_5]; dsimp only; exact ⟨rfl, rfl⟩) dX9_room_37 (Nat.zero_le _) (Nat.zero_le _)
    · (exact absurd c_3 (by decide))
def zf_X9_setHypotheses (MNow : Nat → Int64) (MPast : Nat → Int64) (MSav : Nat) (k : Int32) : Nat × Int32 × (Nat → Int64) × (Nat → Int64) × Nat := (if (zf_X9_within k.toInt64 (1 : Int64) (8 : Int64)) = true then ((zc (MNow 34)), (zf_X9_refused_0), (zf_X9_laysHypotheses (vp_updL MNow 34 (lN (zi k))) (zi k)), ((zf_X9_saves MNow MPast MSav).1), ((zf_X9_saves MNow MPast MSav).2)) else (0, (zf_X9_refused_1), MNow, MPast, MSav))
theorem zf_X9_setHypotheses_e (MNow : Nat → Int64) (MPast : Nat → Int64) (MSav : Nat) (k : Int32) : zf_X9_setHypotheses MNow MPast MSav k = (if (zf_X9_within k.toInt64 (1 : Int64) (8 : Int64)) = true then ((zc (MNow 34)), (zf_X9_refused_0), (zf_X9_laysHypotheses (vp_updL MNow 34 (lN (zi k))) (zi k)), ((zf_X9_saves MNow MPast MSav).1), ((zf_X9_saves MNow MPast MSav).2)) else (0, (zf_X9_refused_1), MNow, MPast, MSav)) := rfl
set_option maxHeartbeats 4000000 in
set_option maxRecDepth 100000 in
theorem zc_X9_setHypotheses (l : Launch) (g : zG) (B : Nat) (md : Nat → Nat) (MNow : Nat → Int64) (MPast : Nat → Int64) (MSav : Nat) (MRef : Int32) (MThen : Nat → Int64) (MLev : Nat → Int64) (MFst : Int32) (MWay : Nat → Int64) (MMost : Nat → Int32) (MHash : Int64) (k : Int32) (hN : zNow MNow) (hs : MSav ≤ 4) : zMet l g B yX9_setHypotheses cX9_setHypotheses 3 (some .int) 4 160 0 0 [.ref (md 0), .int k] [wMod g md MNow MPast MSav MRef MThen MLev MFst MWay MMost MHash] (zDet (some (.int (nI ((zf_X9_setHypotheses MNow MPast MSav k).1)))) [wMod g md ((zf_X9_setHypotheses MNow MPast MSav k).2.2.1) ((zf_X9_setHypotheses MNow MPast MSav k).2.2.2.1) ((zf_X9_setHypotheses MNow MPast MSav k).2.2.2.2) ((zf_X9_setHypotheses MNow MPast MSav k).2.1) MThen MLev MFst MWay MMost MHash]) := by
  refine z_in (plainFor_of_name (by decide)) (Nat.le_of_ble_eq_true rfl) (fun p e R s m args below meth c A Q hRf hRl hRc hRs X Z hnm E ls hl => ?_)
  have hx := X.1
  have hb := X.2.1
  have hown := X.2.2.2.1
  have hts := X.2.2.2.2.1
  have hl : lv_has ls 3 [(0, .ref (md 0)), (1, .int k)] := hl
  have hN2 := hN; obtain ⟨he9, hb9, he34, hb34, he43, hb43, he284, hb284, he301, hb301⟩ := hN2
  refine lv_aload_n hx hb dX9_setHypotheses_0 rfl (lv_at hl 0 rfl) ?_
  refine lv_iload_n hx hb dX9_setHypotheses_1 rfl (lv_at hl 1 rfl) ?_
  refine lv_i2l hx hb dX9_setHypotheses_2 rfl ?_
  refine lv_lconst (v := (1 : Int64)) hx hb dX9_setHypotheses_3 (by decide) ?_
  refine lv_ldc2 (v := (8 : Int64)) hx hb hown (hts _ wL_X9_129) dX9_setHypotheses_4 ?_
  refine z_callS (mc := 0) (ms := 0) (As := [.long k.toInt64, .long (1 : Int64), .long (8 : Int64)]) (rest := [.ref (md 0)]) (st2 := [.int (zB (zf_X9_within k.toInt64 (1 : Int64) (8 : Int64))), .ref (md 0)]) (cs2 := [wMod g md MNow MPast MSav MRef MThen MLev MFst MWay MMost MHash]) X Z [] [0] [0] (zc_X9_within l g B k.toInt64 (1 : Int64) (8 : Int64)) wM_X9_44 wS_X9_within wK_X9_within wZ_X9 3 1 1 rfl (by decide +kernel) rfl (by decide) rfl rfl rfl (by decide) rfl hl.1 rfl rfl (by rw [hRf, hRl]; exact ⟨Nat.le_of_ble_eq_true rfl, Nat.le_of_ble_eq_true rfl⟩) (Nat.le_of_ble_eq_true rfl) ⟨Nat.zero_le _, Nat.zero_le _⟩ dX9_setHypotheses_7 (fun H locs Z => ?_)
  refine z_ifeqB (b := (zf_X9_within k.toInt64 (1 : Int64) (8 : Int64))) (tgt := 17) X dX9_setHypotheses_10 (by decide) (fun c_1 => ?_) (fun c_1 => ?_)
  · refine lv_iconst (v := (1 : Int32)) hx hb dX9_setHypotheses_17 (by decide) ?_
    refine z_callV (mc := 0) (ms := 0) (As := [.int (1 : Int32)]) (rest := []) (st2 := [.int (1 : Int32)]) (cs2 := [wMod g md MNow MPast MSav (zf_X9_refused_1) MThen MLev MFst MWay MMost MHash]) X Z [0] [] [0] 0 7 (zc_X9_refused_1 l g B md MNow MPast MSav MRef MThen MLev MFst MWay MMost MHash) wM_X9_55 wS_X9_refused wV_X9_refused wK_X9_refused wZ_X9 1 1 1 rfl (by decide +kernel) rfl (by decide) rfl rfl rfl (by decide) rfl rfl (rfl : zCl[7]? = some (RX9, TX9, 10)) hl.1 rfl rfl (by rw [hRf, hRl]; exact ⟨Nat.le_of_ble_eq_true rfl, Nat.le_of_ble_eq_true rfl⟩) (Nat.le_of_ble_eq_true rfl) ⟨Nat.zero_le _, Nat.zero_le _⟩ dX9_setHypotheses_18 (fun H locs Z => ?_)
    refine lv_if_eq (tgt := 26) hx hb dX9_setHypotheses_21 (by decide) (fun c_2 => ?_) (fun c_2 => ?_)
    · (exact absurd c_2 (by decide))
    · refine lv_iconst (v := (0 : Int32)) hx hb dX9_setHypotheses_24 (by decide) ?_
      exact z_ri (v := nI 0) E Z rfl (by rw [zf_X9_setHypotheses_e, if_neg (zBf c_1)]; dsimp only; exact ⟨rfl, rfl⟩) dX9_setHypotheses_25 (Nat.zero_le _) (Nat.zero_le _)
  · refine lv_iconst (v := (0 : Int32)) hx hb dX9_setHypotheses_13 (by decide) ?_
    refine lv_goto (tgt := 18) hx hb dX9_setHypotheses_14 (by decide) ?_
    refine z_callV (mc := 0) (ms := 0) (As := [.int (0 : Int32)]) (rest := []) (st2 := [.int (0 : Int32)]) (cs2 := [wMod g md MNow MPast MSav (zf_X9_refused_0) MThen MLev MFst MWay MMost MHash]) X Z [0] [] [0] 0 7 (zc_X9_refused_0 l g B md MNow MPast MSav MRef MThen MLev MFst MWay MMost MHash) wM_X9_55 wS_X9_refused wV_X9_refused wK_X9_refused wZ_X9 1 1 1 rfl (by decide +kernel) rfl (by decide) rfl rfl rfl (by decide) rfl rfl (rfl : zCl[7]? = some (RX9, TX9, 10)) hl.1 rfl rfl (by rw [hRf, hRl]; exact ⟨Nat.le_of_ble_eq_true rfl, Nat.le_of_ble_eq_true rfl⟩) (Nat.le_of_ble_eq_true rfl) ⟨Nat.zero_le _, Nat.zero_le _⟩ dX9_setHypotheses_18 (fun H locs Z => ?_)
    refine lv_if_eq (tgt := 26) hx hb dX9_setHypotheses_21 (by decide) (fun c_3 => ?_) (fun c_3 => ?_)
    · obtain ⟨ek1, hk1⟩ := (zok_w2 (u := 1) (v := 8) rfl rfl (by assumption) (by decide) (by decide) : k = nI (zi k) ∧ _)
      have hl : lv_has ls 3 [(0, .ref (md 0)), (1, .int (nI (zi k)))] := by rw [← ek1]; exact hl
      refine lv_aload_n hx hb dX9_setHypotheses_26 rfl (lv_at hl 0 rfl) ?_
      refine z_callV (mc := 0) (ms := 0) (As := []) (rest := []) (st2 := []) (cs2 := [wMod g md MNow ((zf_X9_saves MNow MPast MSav).1) ((zf_X9_saves MNow MPast MSav).2) (zf_X9_refused_0) MThen MLev MFst MWay MMost MHash]) X Z [0] [] [0] 0 7 (zc_X9_saves l g B md MNow MPast MSav (zf_X9_refused_0) MThen MLev MFst MWay MMost MHash (by first | assumption | omega | decide)) wM_X9_87 wS_X9_saves wV_X9_saves wK_X9_saves wZ_X9 0 1 1 rfl (by decide +kernel) rfl (by decide) rfl rfl rfl (by decide) rfl rfl (rfl : zCl[7]? = some (RX9, TX9, 10)) hl.1 rfl rfl (by rw [hRf, hRl]; exact ⟨Nat.le_of_ble_eq_true rfl, Nat.le_of_ble_eq_true rfl⟩) (Nat.le_of_ble_eq_true rfl) ⟨Nat.zero_le _, Nat.zero_le _⟩ dX9_setHypotheses_27 (fun H locs Z => ?_)
      refine lv_aload_n hx hb dX9_setHypotheses_30 rfl (lv_at hl 0 rfl) ?_
      refine lv_bipush (v := (34 : Int32)) hx hb dX9_setHypotheses_31 (by decide) ?_
      refine z_callV (mc := 0) (ms := 0) (As := [.int (34 : Int32)]) (rest := []) (st2 := [.int (nI (zc (MNow 34)))]) (cs2 := [wMod g md MNow ((zf_X9_saves MNow MPast MSav).1) ((zf_X9_saves MNow MPast MSav).2) (zf_X9_refused_0) MThen MLev MFst MWay MMost MHash]) X Z [0] [] [0] 0 7 (zc_X9_many l g B md MNow ((zf_X9_saves MNow MPast MSav).1) ((zf_X9_saves MNow MPast MSav).2) (zf_X9_refused_0) MThen MLev MFst MWay MMost MHash 34 (zc (MNow 34)) (by first | assumption | omega | decide) (by first | assumption | omega | decide)) wM_X9_66 wS_X9_many wV_X9_many wK_X9_many wZ_X9 1 1 1 rfl (by decide +kernel) rfl (by decide) rfl rfl rfl (by decide) rfl rfl (rfl : zCl[7]? = some (RX9, TX9, 10)) hl.1 rfl rfl (by rw [hRf, hRl]; exact ⟨Nat.le_of_ble_eq_true rfl, Nat.le_of_ble_eq_true rfl⟩) (Nat.le_of_ble_eq_true rfl) ⟨Nat.zero_le _, Nat.zero_le _⟩ dX9_setHypotheses_33 (fun H locs Z => ?_)
      refine lv_istore_n (lv' := [(2, .int (nI (zc (MNow 34)))), (0, .ref (md 0)), (1, .int (nI (zi k)))]) hx hb dX9_setHypotheses_36 rfl hl (by decide) rfl (fun ls hl => ?_)
      refine lv_aload_n hx hb dX9_setHypotheses_37 rfl (lv_at hl 1 rfl) ?_
      refine z_get X Z 0 rfl (rfl : zCl[7]? = some (RX9, TX9, 10)) zU_X9 0 (by decide) wF_X9_7 rfl rfl dX9_setHypotheses_38 ?_
      refine lv_bipush (v := (34 : Int32)) hx hb dX9_setHypotheses_41 (by decide) ?_
      refine lv_iload_n hx hb dX9_setHypotheses_43 rfl (lv_at hl 2 rfl) ?_
      refine z_i2l (a := (zi k)) X rfl (by omega) dX9_setHypotheses_44 ?_
      refine z_last (cs2 := [wMod g md (vp_updL MNow 34 (lN (zi k))) ((zf_X9_saves MNow MPast MSav).1) ((zf_X9_saves MNow MPast MSav).2) (zf_X9_refused_0) MThen MLev MFst MWay MMost MHash]) (j := 34) (x := (lN (zi k))) X Z 1 rfl rfl (by omega) (by decide) rfl dX9_setHypotheses_45 (fun H locs Z => ?_)
      refine lv_aload_n hx hb dX9_setHypotheses_46 rfl (lv_at hl 1 rfl) ?_
      refine z_callV (mc := 0) (ms := 0) (As := []) (rest := []) (st2 := []) (cs2 := [wMod g md (zf_X9_laysHypotheses (vp_updL MNow 34 (lN (zi k))) (zi k)) ((zf_X9_saves MNow MPast MSav).1) ((zf_X9_saves MNow MPast MSav).2) (zf_X9_refused_0) MThen MLev MFst MWay MMost MHash]) X Z [0] [] [0] 0 7 (zc_X9_laysHypotheses l g B md (vp_updL MNow 34 (lN (zi k))) ((zf_X9_saves MNow MPast MSav).1) ((zf_X9_saves MNow MPast MSav).2) (zf_X9_refused_0) MThen MLev MFst MWay MMost MHash (zi k) (zuL_eq _ _ _) (by first | assumption | omega | decide)) wM_X9_35 wS_X9_laysHypotheses wV_X9_laysHypotheses wK_X9_laysHypotheses wZ_X9 0 1 1 rfl (by decide +kernel) rfl (by decide) rfl rfl rfl (by decide) rfl rfl (rfl : zCl[7]? = some (RX9, TX9, 10)) hl.1 rfl rfl (by rw [hRf, hRl]; exact ⟨Nat.le_of_ble_eq_true rfl, Nat.le_of_ble_eq_true rfl⟩) (Nat.le_of_ble_eq_true rfl) ⟨Nat.zero_le _, Nat.zero_le _⟩ dX9_setHypotheses_47 (fun H locs Z => ?_)
      refine lv_iload_n hx hb dX9_setHypotheses_50 rfl (lv_at hl 0 rfl) ?_
      exact z_ri (v := nI (zc (MNow 34))) E Z rfl (by rw [zf_X9_setHypotheses_e, if_pos c_1]; dsimp only; exact ⟨rfl, rfl⟩) dX9_setHypotheses_51 (Nat.zero_le _) (Nat.zero_le _)
    · (exact absurd c_3 (by decide))
def zf_X9_setWeight (MNow : Nat → Int64) (MPast : Nat → Int64) (MSav : Nat) (k : Int32) (x : Int32) : Int64 × Int32 × (Nat → Int64) × (Nat → Int64) × Nat := (if (zf_X9_isHypothesis MNow k) = true then (if (zf_X9_within x.toInt64 (0 : Int64) (1000000 : Int64)) = true then (if x = 0 then (if (zf_X9_weights MNow) = (MNow (35 + (zi k))) then ((0 : Int64), (zf_X9_refused_3), MNow, MPast, MSav) else ((MNow (35 + (zi k))), (zf_X9_refused_0), (vp_updL MNow (35 + (zi k)) x.toInt64), ((zf_X9_saves MNow MPast MSav).1), ((zf_X9_saves MNow MPast MSav).2))) else ((MNow (35 + (zi k))), (zf_X9_refused_0), (vp_updL MNow (35 + (zi k)) x.toInt64), ((zf_X9_saves MNow MPast MSav).1), ((zf_X9_saves MNow MPast MSav).2))) else ((0 : Int64), (zf_X9_refused_2), MNow, MPast, MSav)) else ((0 : Int64), (zf_X9_refused_1), MNow, MPast, MSav))
theorem zf_X9_setWeight_e (MNow : Nat → Int64) (MPast : Nat → Int64) (MSav : Nat) (k : Int32) (x : Int32) : zf_X9_setWeight MNow MPast MSav k x = (if (zf_X9_isHypothesis MNow k) = true then (if (zf_X9_within x.toInt64 (0 : Int64) (1000000 : Int64)) = true then (if x = 0 then (if (zf_X9_weights MNow) = (MNow (35 + (zi k))) then ((0 : Int64), (zf_X9_refused_3), MNow, MPast, MSav) else ((MNow (35 + (zi k))), (zf_X9_refused_0), (vp_updL MNow (35 + (zi k)) x.toInt64), ((zf_X9_saves MNow MPast MSav).1), ((zf_X9_saves MNow MPast MSav).2))) else ((MNow (35 + (zi k))), (zf_X9_refused_0), (vp_updL MNow (35 + (zi k)) x.toInt64), ((zf_X9_saves MNow MPast MSav).1), ((zf_X9_saves MNow MPast MSav).2))) else ((0 : Int64), (zf_X9_refused_2), MNow, MPast, MSav)) else ((0 : Int64), (zf_X9_refused_1), MNow, MPast, MSav)) := rfl
set_option maxHeartbeats 4000000 in
set_option maxRecDepth 100000 in
theorem zc_X9_setWeight (l : Launch) (g : zG) (B : Nat) (md : Nat → Nat) (MNow : Nat → Int64) (MPast : Nat → Int64) (MSav : Nat) (MRef : Int32) (MThen : Nat → Int64) (MLev : Nat → Int64) (MFst : Int32) (MWay : Nat → Int64) (MMost : Nat → Int32) (MHash : Int64) (k : Int32) (x : Int32) (hN : zNow MNow) (hs : MSav ≤ 4) : zMet l g B yX9_setWeight cX9_setWeight 5 (some .long) 4 160 0 0 [.ref (md 0), .int k, .int x] [wMod g md MNow MPast MSav MRef MThen MLev MFst MWay MMost MHash] (zDet (some (.long ((zf_X9_setWeight MNow MPast MSav k x).1))) [wMod g md ((zf_X9_setWeight MNow MPast MSav k x).2.2.1) ((zf_X9_setWeight MNow MPast MSav k x).2.2.2.1) ((zf_X9_setWeight MNow MPast MSav k x).2.2.2.2) ((zf_X9_setWeight MNow MPast MSav k x).2.1) MThen MLev MFst MWay MMost MHash]) := by
  refine z_in (plainFor_of_name (by decide)) (Nat.le_of_ble_eq_true rfl) (fun p e R s m args below meth c A Q hRf hRl hRc hRs X Z hnm E ls hl => ?_)
  have hx := X.1
  have hb := X.2.1
  have hown := X.2.2.2.1
  have hts := X.2.2.2.2.1
  have hl : lv_has ls 5 [(0, .ref (md 0)), (1, .int k), (2, .int x)] := hl
  have hN2 := hN; obtain ⟨he9, hb9, he34, hb34, he43, hb43, he284, hb284, he301, hb301⟩ := hN2
  refine lv_aload_n hx hb dX9_setWeight_0 rfl (lv_at hl 0 rfl) ?_
  refine lv_aload_n hx hb dX9_setWeight_1 rfl (lv_at hl 0 rfl) ?_
  refine lv_iload_n hx hb dX9_setWeight_2 rfl (lv_at hl 1 rfl) ?_
  refine z_callV (mc := 0) (ms := 0) (As := [.int k]) (rest := [.ref (md 0)]) (st2 := [.int (zB (zf_X9_isHypothesis MNow k)), .ref (md 0)]) (cs2 := [wMod g md MNow MPast MSav MRef MThen MLev MFst MWay MMost MHash]) X Z [0] [] [0] 0 7 (zc_X9_isHypothesis l g B md MNow MPast MSav MRef MThen MLev MFst MWay MMost MHash k (by first | assumption | omega | decide)) wM_X9_131 wS_X9_isHypothesis wV_X9_isHypothesis wK_X9_isHypothesis wZ_X9 1 1 1 rfl (by decide +kernel) rfl (by decide) rfl rfl rfl (by decide) rfl rfl (rfl : zCl[7]? = some (RX9, TX9, 10)) hl.1 rfl rfl (by rw [hRf, hRl]; exact ⟨Nat.le_of_ble_eq_true rfl, Nat.le_of_ble_eq_true rfl⟩) (Nat.le_of_ble_eq_true rfl) ⟨Nat.zero_le _, Nat.zero_le _⟩ dX9_setWeight_3 (fun H locs Z => ?_)
  refine z_ifneB (b := (zf_X9_isHypothesis MNow k)) (tgt := 13) X dX9_setWeight_6 (by decide) (fun c_1 => ?_) (fun c_1 => ?_)
  · refine lv_iload_n hx hb dX9_setWeight_13 rfl (lv_at hl 2 rfl) ?_
    refine lv_i2l hx hb dX9_setWeight_14 rfl ?_
    refine lv_lconst (v := (0 : Int64)) hx hb dX9_setWeight_15 (by decide) ?_
    refine lv_ldc2 (v := (1000000 : Int64)) hx hb hown (hts _ wL_X9_134) dX9_setWeight_16 ?_
    refine z_callS (mc := 0) (ms := 0) (As := [.long x.toInt64, .long (0 : Int64), .long (1000000 : Int64)]) (rest := [.ref (md 0)]) (st2 := [.int (zB (zf_X9_within x.toInt64 (0 : Int64) (1000000 : Int64))), .ref (md 0)]) (cs2 := [wMod g md MNow MPast MSav MRef MThen MLev MFst MWay MMost MHash]) X Z [] [0] [0] (zc_X9_within l g B x.toInt64 (0 : Int64) (1000000 : Int64)) wM_X9_44 wS_X9_within wK_X9_within wZ_X9 3 1 1 rfl (by decide +kernel) rfl (by decide) rfl rfl rfl (by decide) rfl hl.1 rfl rfl (by rw [hRf, hRl]; exact ⟨Nat.le_of_ble_eq_true rfl, Nat.le_of_ble_eq_true rfl⟩) (Nat.le_of_ble_eq_true rfl) ⟨Nat.zero_le _, Nat.zero_le _⟩ dX9_setWeight_19 (fun H locs Z => ?_)
    refine z_ifneB (b := (zf_X9_within x.toInt64 (0 : Int64) (1000000 : Int64))) (tgt := 29) X dX9_setWeight_22 (by decide) (fun c_2 => ?_) (fun c_2 => ?_)
    · refine lv_iload_n hx hb dX9_setWeight_29 rfl (lv_at hl 2 rfl) ?_
      refine lv_if_ne (tgt := 54) hx hb dX9_setWeight_30 (by decide) (fun c_3 => ?_) (fun c_3 => ?_)
      · refine lv_iconst (v := (0 : Int32)) hx hb dX9_setWeight_54 (by decide) ?_
        refine z_callV (mc := 0) (ms := 0) (As := [.int (0 : Int32)]) (rest := []) (st2 := [.int (0 : Int32)]) (cs2 := [wMod g md MNow MPast MSav (zf_X9_refused_0) MThen MLev MFst MWay MMost MHash]) X Z [0] [] [0] 0 7 (zc_X9_refused_0 l g B md MNow MPast MSav MRef MThen MLev MFst MWay MMost MHash) wM_X9_55 wS_X9_refused wV_X9_refused wK_X9_refused wZ_X9 1 1 1 rfl (by decide +kernel) rfl (by decide) rfl rfl rfl (by decide) rfl rfl (rfl : zCl[7]? = some (RX9, TX9, 10)) hl.1 rfl rfl (by rw [hRf, hRl]; exact ⟨Nat.le_of_ble_eq_true rfl, Nat.le_of_ble_eq_true rfl⟩) (Nat.le_of_ble_eq_true rfl) ⟨Nat.zero_le _, Nat.zero_le _⟩ dX9_setWeight_55 (fun H locs Z => ?_)
        refine lv_if_eq (tgt := 63) hx hb dX9_setWeight_58 (by decide) (fun c_4 => ?_) (fun c_4 => ?_)
        · obtain ⟨ek1, hk1⟩ := (zok_hyp (by assumption) hb34 : k = nI (zi k) ∧ _)
          have hl : lv_has ls 5 [(0, .ref (md 0)), (1, .int (nI (zi k))), (2, .int x)] := by rw [← ek1]; exact hl
          refine lv_aload_n hx hb dX9_setWeight_63 rfl (lv_at hl 0 rfl) ?_
          refine z_callV (mc := 0) (ms := 0) (As := []) (rest := []) (st2 := []) (cs2 := [wMod g md MNow ((zf_X9_saves MNow MPast MSav).1) ((zf_X9_saves MNow MPast MSav).2) (zf_X9_refused_0) MThen MLev MFst MWay MMost MHash]) X Z [0] [] [0] 0 7 (zc_X9_saves l g B md MNow MPast MSav (zf_X9_refused_0) MThen MLev MFst MWay MMost MHash (by first | assumption | omega | decide)) wM_X9_87 wS_X9_saves wV_X9_saves wK_X9_saves wZ_X9 0 1 1 rfl (by decide +kernel) rfl (by decide) rfl rfl rfl (by decide) rfl rfl (rfl : zCl[7]? = some (RX9, TX9, 10)) hl.1 rfl rfl (by rw [hRf, hRl]; exact ⟨Nat.le_of_ble_eq_true rfl, Nat.le_of_ble_eq_true rfl⟩) (Nat.le_of_ble_eq_true rfl) ⟨Nat.zero_le _, Nat.zero_le _⟩ dX9_setWeight_64 (fun H locs Z => ?_)
          refine lv_aload_n hx hb dX9_setWeight_67 rfl (lv_at hl 0 rfl) ?_
          refine z_get X Z 0 rfl (rfl : zCl[7]? = some (RX9, TX9, 10)) zU_X9 0 (by decide) wF_X9_7 rfl rfl dX9_setWeight_68 ?_
          refine lv_bipush (v := (35 : Int32)) hx hb dX9_setWeight_71 (by decide) ?_
          refine lv_iload_n hx hb dX9_setWeight_73 rfl (lv_at hl 1 rfl) ?_
          refine z_iadd (a := 35) (b := (zi k)) X rfl rfl dX9_setWeight_74 ?_
          refine z_lald (j := (35 + (zi k))) X Z 1 rfl rfl (by omega) (by decide) dX9_setWeight_75 ?_
          refine lv_lstore_n (lv' := [(3, .long (MNow (35 + (zi k)))), (0, .ref (md 0)), (1, .int (nI (zi k))), (2, .int x)]) hx hb dX9_setWeight_76 rfl hl (by decide) rfl (fun ls hl => ?_)
          refine lv_aload_n hx hb dX9_setWeight_77 rfl (lv_at hl 1 rfl) ?_
          refine z_get X Z 0 rfl (rfl : zCl[7]? = some (RX9, TX9, 10)) zU_X9 0 (by decide) wF_X9_7 rfl rfl dX9_setWeight_78 ?_
          refine lv_bipush (v := (35 : Int32)) hx hb dX9_setWeight_81 (by decide) ?_
          refine lv_iload_n hx hb dX9_setWeight_83 rfl (lv_at hl 2 rfl) ?_
          refine z_iadd (a := 35) (b := (zi k)) X rfl rfl dX9_setWeight_84 ?_
          refine lv_iload_n hx hb dX9_setWeight_85 rfl (lv_at hl 3 rfl) ?_
          refine lv_i2l hx hb dX9_setWeight_86 rfl ?_
          refine z_last (cs2 := [wMod g md (vp_updL MNow (35 + (zi k)) x.toInt64) ((zf_X9_saves MNow MPast MSav).1) ((zf_X9_saves MNow MPast MSav).2) (zf_X9_refused_0) MThen MLev MFst MWay MMost MHash]) (j := (35 + (zi k))) (x := x.toInt64) X Z 1 rfl rfl (by omega) (by decide) rfl dX9_setWeight_87 (fun H locs Z => ?_)
          refine lv_lload_n hx hb dX9_setWeight_88 rfl (lv_at hl 0 rfl) ?_
          exact z_rl (v := (MNow (35 + (zi k)))) E Z (by rw [zf_X9_setWeight_e, if_pos c_1, if_pos c_2, if_neg c_3]; dsimp only; exact ⟨rfl, rfl⟩) dX9_setWeight_89 (Nat.zero_le _) (Nat.zero_le _)
        · (exact absurd c_4 (by decide))
      · obtain ⟨ek1, hk1⟩ := (zok_hyp (by assumption) hb34 : k = nI (zi k) ∧ _)
        have hl : lv_has ls 5 [(0, .ref (md 0)), (1, .int (nI (zi k))), (2, .int x)] := by rw [← ek1]; exact hl
        refine lv_aload_n hx hb dX9_setWeight_33 rfl (lv_at hl 0 rfl) ?_
        refine z_callV (mc := 0) (ms := 0) (As := []) (rest := [.ref (md 0)]) (st2 := [.long (zf_X9_weights MNow), .ref (md 0)]) (cs2 := [wMod g md MNow MPast MSav MRef MThen MLev MFst MWay MMost MHash]) X Z [0] [] [0] 0 7 (zc_X9_weights l g B md MNow MPast MSav MRef MThen MLev MFst MWay MMost MHash) wM_X9_136 wS_X9_weights wV_X9_weights wK_X9_weights wZ_X9 0 1 1 rfl (by decide +kernel) rfl (by decide) rfl rfl rfl (by decide) rfl rfl (rfl : zCl[7]? = some (RX9, TX9, 10)) hl.1 rfl rfl (by rw [hRf, hRl]; exact ⟨Nat.le_of_ble_eq_true rfl, Nat.le_of_ble_eq_true rfl⟩) (Nat.le_of_ble_eq_true rfl) ⟨Nat.zero_le _, Nat.zero_le _⟩ dX9_setWeight_34 (fun H locs Z => ?_)
        refine lv_aload_n hx hb dX9_setWeight_37 rfl (lv_at hl 0 rfl) ?_
        refine z_get X Z 0 rfl (rfl : zCl[7]? = some (RX9, TX9, 10)) zU_X9 0 (by decide) wF_X9_7 rfl rfl dX9_setWeight_38 ?_
        refine lv_bipush (v := (35 : Int32)) hx hb dX9_setWeight_41 (by decide) ?_
        refine lv_iload_n hx hb dX9_setWeight_43 rfl (lv_at hl 1 rfl) ?_
        refine z_iadd (a := 35) (b := (zi k)) X rfl rfl dX9_setWeight_44 ?_
        refine z_lald (j := (35 + (zi k))) X Z 1 rfl rfl (by omega) (by decide) dX9_setWeight_45 ?_
        refine z_lc_ne (tgt := 54) X dX9_setWeight_46 dX9_setWeight_47 (by decide) (fun c_5 => ?_) (fun c_5 => ?_)
        · refine lv_iconst (v := (0 : Int32)) hx hb dX9_setWeight_54 (by decide) ?_
          refine z_callV (mc := 0) (ms := 0) (As := [.int (0 : Int32)]) (rest := []) (st2 := [.int (0 : Int32)]) (cs2 := [wMod g md MNow MPast MSav (zf_X9_refused_0) MThen MLev MFst MWay MMost MHash]) X Z [0] [] [0] 0 7 (zc_X9_refused_0 l g B md MNow MPast MSav MRef MThen MLev MFst MWay MMost MHash) wM_X9_55 wS_X9_refused wV_X9_refused wK_X9_refused wZ_X9 1 1 1 rfl (by decide +kernel) rfl (by decide) rfl rfl rfl (by decide) rfl rfl (rfl : zCl[7]? = some (RX9, TX9, 10)) hl.1 rfl rfl (by rw [hRf, hRl]; exact ⟨Nat.le_of_ble_eq_true rfl, Nat.le_of_ble_eq_true rfl⟩) (Nat.le_of_ble_eq_true rfl) ⟨Nat.zero_le _, Nat.zero_le _⟩ dX9_setWeight_55 (fun H locs Z => ?_)
          refine lv_if_eq (tgt := 63) hx hb dX9_setWeight_58 (by decide) (fun c_6 => ?_) (fun c_6 => ?_)
          · refine lv_aload_n hx hb dX9_setWeight_63 rfl (lv_at hl 0 rfl) ?_
            refine z_callV (mc := 0) (ms := 0) (As := []) (rest := []) (st2 := []) (cs2 := [wMod g md MNow ((zf_X9_saves MNow MPast MSav).1) ((zf_X9_saves MNow MPast MSav).2) (zf_X9_refused_0) MThen MLev MFst MWay MMost MHash]) X Z [0] [] [0] 0 7 (zc_X9_saves l g B md MNow MPast MSav (zf_X9_refused_0) MThen MLev MFst MWay MMost MHash (by first | assumption | omega | decide)) wM_X9_87 wS_X9_saves wV_X9_saves wK_X9_saves wZ_X9 0 1 1 rfl (by decide +kernel) rfl (by decide) rfl rfl rfl (by decide) rfl rfl (rfl : zCl[7]? = some (RX9, TX9, 10)) hl.1 rfl rfl (by rw [hRf, hRl]; exact ⟨Nat.le_of_ble_eq_true rfl, Nat.le_of_ble_eq_true rfl⟩) (Nat.le_of_ble_eq_true rfl) ⟨Nat.zero_le _, Nat.zero_le _⟩ dX9_setWeight_64 (fun H locs Z => ?_)
            refine lv_aload_n hx hb dX9_setWeight_67 rfl (lv_at hl 0 rfl) ?_
            refine z_get X Z 0 rfl (rfl : zCl[7]? = some (RX9, TX9, 10)) zU_X9 0 (by decide) wF_X9_7 rfl rfl dX9_setWeight_68 ?_
            refine lv_bipush (v := (35 : Int32)) hx hb dX9_setWeight_71 (by decide) ?_
            refine lv_iload_n hx hb dX9_setWeight_73 rfl (lv_at hl 1 rfl) ?_
            refine z_iadd (a := 35) (b := (zi k)) X rfl rfl dX9_setWeight_74 ?_
            refine z_lald (j := (35 + (zi k))) X Z 1 rfl rfl (by omega) (by decide) dX9_setWeight_75 ?_
            refine lv_lstore_n (lv' := [(3, .long (MNow (35 + (zi k)))), (0, .ref (md 0)), (1, .int (nI (zi k))), (2, .int x)]) hx hb dX9_setWeight_76 rfl hl (by decide) rfl (fun ls hl => ?_)
            refine lv_aload_n hx hb dX9_setWeight_77 rfl (lv_at hl 1 rfl) ?_
            refine z_get X Z 0 rfl (rfl : zCl[7]? = some (RX9, TX9, 10)) zU_X9 0 (by decide) wF_X9_7 rfl rfl dX9_setWeight_78 ?_
            refine lv_bipush (v := (35 : Int32)) hx hb dX9_setWeight_81 (by decide) ?_
            refine lv_iload_n hx hb dX9_setWeight_83 rfl (lv_at hl 2 rfl) ?_
            refine z_iadd (a := 35) (b := (zi k)) X rfl rfl dX9_setWeight_84 ?_
            refine lv_iload_n hx hb dX9_setWeight_85 rfl (lv_at hl 3 rfl) ?_
            refine lv_i2l hx hb dX9_setWeight_86 rfl ?_
            refine z_last (cs2 := [wMod g md (vp_updL MNow (35 + (zi k)) x.toInt64) ((zf_X9_saves MNow MPast MSav).1) ((zf_X9_saves MNow MPast MSav).2) (zf_X9_refused_0) MThen MLev MFst MWay MMost MHash]) (j := (35 + (zi k))) (x := x.toInt64) X Z 1 rfl rfl (by omega) (by decide) rfl dX9_setWeight_87 (fun H locs Z => ?_)
            refine lv_lload_n hx hb dX9_setWeight_88 rfl (lv_at hl 0 rfl) ?_
            exact z_rl (v := (MNow (35 + (zi k)))) E Z (by rw [zf_X9_setWeight_e, if_pos c_1, if_pos c_2, if_pos c_3, if_neg c_5]; dsimp only; exact ⟨rfl, rfl⟩) dX9_setWeight_89 (Nat.zero_le _) (Nat.zero_le _)
          · (exact absurd c_6 (by decide))
        · refine lv_iconst (v := (3 : Int32)) hx hb dX9_setWeight_50 (by decide) ?_
          refine lv_goto (tgt := 55) hx hb dX9_setWeight_51 (by decide) ?_
          refine z_callV (mc := 0) (ms := 0) (As := [.int (3 : Int32)]) (rest := []) (st2 := [.int (1 : Int32)]) (cs2 := [wMod g md MNow MPast MSav (zf_X9_refused_3) MThen MLev MFst MWay MMost MHash]) X Z [0] [] [0] 0 7 (zc_X9_refused_3 l g B md MNow MPast MSav MRef MThen MLev MFst MWay MMost MHash) wM_X9_55 wS_X9_refused wV_X9_refused wK_X9_refused wZ_X9 1 1 1 rfl (by decide +kernel) rfl (by decide) rfl rfl rfl (by decide) rfl rfl (rfl : zCl[7]? = some (RX9, TX9, 10)) hl.1 rfl rfl (by rw [hRf, hRl]; exact ⟨Nat.le_of_ble_eq_true rfl, Nat.le_of_ble_eq_true rfl⟩) (Nat.le_of_ble_eq_true rfl) ⟨Nat.zero_le _, Nat.zero_le _⟩ dX9_setWeight_55 (fun H locs Z => ?_)
          refine lv_if_eq (tgt := 63) hx hb dX9_setWeight_58 (by decide) (fun c_7 => ?_) (fun c_7 => ?_)
          · (exact absurd c_7 (by decide))
          · refine lv_lconst (v := (0 : Int64)) hx hb dX9_setWeight_61 (by decide) ?_
            exact z_rl (v := (0 : Int64)) E Z (by rw [zf_X9_setWeight_e, if_pos c_1, if_pos c_2, if_pos c_3, if_pos c_5]; dsimp only; exact ⟨rfl, rfl⟩) dX9_setWeight_62 (Nat.zero_le _) (Nat.zero_le _)
    · refine lv_iconst (v := (2 : Int32)) hx hb dX9_setWeight_25 (by decide) ?_
      refine lv_goto (tgt := 55) hx hb dX9_setWeight_26 (by decide) ?_
      refine z_callV (mc := 0) (ms := 0) (As := [.int (2 : Int32)]) (rest := []) (st2 := [.int (1 : Int32)]) (cs2 := [wMod g md MNow MPast MSav (zf_X9_refused_2) MThen MLev MFst MWay MMost MHash]) X Z [0] [] [0] 0 7 (zc_X9_refused_2 l g B md MNow MPast MSav MRef MThen MLev MFst MWay MMost MHash) wM_X9_55 wS_X9_refused wV_X9_refused wK_X9_refused wZ_X9 1 1 1 rfl (by decide +kernel) rfl (by decide) rfl rfl rfl (by decide) rfl rfl (rfl : zCl[7]? = some (RX9, TX9, 10)) hl.1 rfl rfl (by rw [hRf, hRl]; exact ⟨Nat.le_of_ble_eq_true rfl, Nat.le_of_ble_eq_true rfl⟩) (Nat.le_of_ble_eq_true rfl) ⟨Nat.zero_le _, Nat.zero_le _⟩ dX9_setWeight_55 (fun H locs Z => ?_)
      refine lv_if_eq (tgt := 63) hx hb dX9_setWeight_58 (by decide) (fun c_8 => ?_) (fun c_8 => ?_)
      · (exact absurd c_8 (by decide))
      · refine lv_lconst (v := (0 : Int64)) hx hb dX9_setWeight_61 (by decide) ?_
        exact z_rl (v := (0 : Int64)) E Z (by rw [zf_X9_setWeight_e, if_pos c_1, if_neg (zBf c_2)]; dsimp only; exact ⟨rfl, rfl⟩) dX9_setWeight_62 (Nat.zero_le _) (Nat.zero_le _)
  · refine lv_iconst (v := (1 : Int32)) hx hb dX9_setWeight_9 (by decide) ?_
    refine lv_goto (tgt := 55) hx hb dX9_setWeight_10 (by decide) ?_
    refine z_callV (mc := 0) (ms := 0) (As := [.int (1 : Int32)]) (rest := []) (st2 := [.int (1 : Int32)]) (cs2 := [wMod g md MNow MPast MSav (zf_X9_refused_1) MThen MLev MFst MWay MMost MHash]) X Z [0] [] [0] 0 7 (zc_X9_refused_1 l g B md MNow MPast MSav MRef MThen MLev MFst MWay MMost MHash) wM_X9_55 wS_X9_refused wV_X9_refused wK_X9_refused wZ_X9 1 1 1 rfl (by decide +kernel) rfl (by decide) rfl rfl rfl (by decide) rfl rfl (rfl : zCl[7]? = some (RX9, TX9, 10)) hl.1 rfl rfl (by rw [hRf, hRl]; exact ⟨Nat.le_of_ble_eq_true rfl, Nat.le_of_ble_eq_true rfl⟩) (Nat.le_of_ble_eq_true rfl) ⟨Nat.zero_le _, Nat.zero_le _⟩ dX9_setWeight_55 (fun H locs Z => ?_)
    refine lv_if_eq (tgt := 63) hx hb dX9_setWeight_58 (by decide) (fun c_9 => ?_) (fun c_9 => ?_)
    · (exact absurd c_9 (by decide))
    · refine lv_lconst (v := (0 : Int64)) hx hb dX9_setWeight_61 (by decide) ?_
      exact z_rl (v := (0 : Int64)) E Z (by rw [zf_X9_setWeight_e, if_neg (zBf c_1)]; dsimp only; exact ⟨rfl, rfl⟩) dX9_setWeight_62 (Nat.zero_le _) (Nat.zero_le _)
def zl_X9_addTest_38 (MNow : Nat → Int64) : Nat → Nat → (Nat → Int64) → (Nat → Int64)
  | 0, _, v1 => v1
  | n38 + 1, j38, v1 => zl_X9_addTest_38 MNow n38 (j38 + 1) (zf_X9_laysChances v1 (zc (MNow 43)) j38 (0 : Int32) (0 : Int32))
theorem zl_X9_addTest_38_s (MNow : Nat → Int64) (n38 : Nat) (j38 : Nat) (v1 : Nat → Int64) : zl_X9_addTest_38 MNow (n38 + 1) j38 v1 = zl_X9_addTest_38 MNow n38 (j38 + 1) (zf_X9_laysChances v1 (zc (MNow 43)) j38 (0 : Int32) (0 : Int32)) := rfl
def zf_X9_addTest (MNow : Nat → Int64) (MPast : Nat → Int64) (MSav : Nat) : Nat × Int32 × (Nat → Int64) × (Nat → Int64) × Nat := (if (zc (MNow 43)) = 10 then (0, (zf_X9_refused_1), MNow, MPast, MSav) else ((zc (MNow 43)), (zf_X9_refused_0), (vp_updL (zl_X9_addTest_38 MNow 8 0 MNow) 43 (((zl_X9_addTest_38 MNow 8 0 MNow) 43) + (1 : Int64))), ((zf_X9_saves MNow MPast MSav).1), ((zf_X9_saves MNow MPast MSav).2)))
theorem zf_X9_addTest_e (MNow : Nat → Int64) (MPast : Nat → Int64) (MSav : Nat) : zf_X9_addTest MNow MPast MSav = (if (zc (MNow 43)) = 10 then (0, (zf_X9_refused_1), MNow, MPast, MSav) else ((zc (MNow 43)), (zf_X9_refused_0), (vp_updL (zl_X9_addTest_38 MNow 8 0 MNow) 43 (((zl_X9_addTest_38 MNow 8 0 MNow) 43) + (1 : Int64))), ((zf_X9_saves MNow MPast MSav).1), ((zf_X9_saves MNow MPast MSav).2))) := rfl
set_option maxHeartbeats 4000000 in
set_option maxRecDepth 100000 in
theorem zc_X9_addTest (l : Launch) (g : zG) (B : Nat) (md : Nat → Nat) (MNow : Nat → Int64) (MPast : Nat → Int64) (MSav : Nat) (MRef : Int32) (MThen : Nat → Int64) (MLev : Nat → Int64) (MFst : Int32) (MWay : Nat → Int64) (MMost : Nat → Int32) (MHash : Int64) (hN : zNow MNow) (hs : MSav ≤ 4) : zMet l g B yX9_addTest cX9_addTest 3 (some .int) 4 160 0 0 [.ref (md 0)] [wMod g md MNow MPast MSav MRef MThen MLev MFst MWay MMost MHash] (zDet (some (.int (nI ((zf_X9_addTest MNow MPast MSav).1)))) [wMod g md ((zf_X9_addTest MNow MPast MSav).2.2.1) ((zf_X9_addTest MNow MPast MSav).2.2.2.1) ((zf_X9_addTest MNow MPast MSav).2.2.2.2) ((zf_X9_addTest MNow MPast MSav).2.1) MThen MLev MFst MWay MMost MHash]) := by
  refine z_in (plainFor_of_name (by decide)) (Nat.le_of_ble_eq_true rfl) (fun p e R s m args below meth c A Q hRf hRl hRc hRs X Z hnm E ls hl => ?_)
  have hx := X.1
  have hb := X.2.1
  have hown := X.2.2.2.1
  have hts := X.2.2.2.2.1
  have hl : lv_has ls 3 [(0, .ref (md 0))] := hl
  have hN2 := hN; obtain ⟨he9, hb9, he34, hb34, he43, hb43, he284, hb284, he301, hb301⟩ := hN2
  refine lv_aload_n hx hb dX9_addTest_0 rfl (lv_at hl 0 rfl) ?_
  refine lv_aload_n hx hb dX9_addTest_1 rfl (lv_at hl 0 rfl) ?_
  refine lv_bipush (v := (43 : Int32)) hx hb dX9_addTest_2 (by decide) ?_
  refine z_callV (mc := 0) (ms := 0) (As := [.int (43 : Int32)]) (rest := [.ref (md 0)]) (st2 := [.int (nI (zc (MNow 43))), .ref (md 0)]) (cs2 := [wMod g md MNow MPast MSav MRef MThen MLev MFst MWay MMost MHash]) X Z [0] [] [0] 0 7 (zc_X9_many l g B md MNow MPast MSav MRef MThen MLev MFst MWay MMost MHash 43 (zc (MNow 43)) (by first | assumption | omega | decide) (by first | assumption | omega | decide)) wM_X9_66 wS_X9_many wV_X9_many wK_X9_many wZ_X9 1 1 1 rfl (by decide +kernel) rfl (by decide) rfl rfl rfl (by decide) rfl rfl (rfl : zCl[7]? = some (RX9, TX9, 10)) hl.1 rfl rfl (by rw [hRf, hRl]; exact ⟨Nat.le_of_ble_eq_true rfl, Nat.le_of_ble_eq_true rfl⟩) (Nat.le_of_ble_eq_true rfl) ⟨Nat.zero_le _, Nat.zero_le _⟩ dX9_addTest_4 (fun H locs Z => ?_)
  refine lv_bipush (v := (10 : Int32)) hx hb dX9_addTest_7 (by decide) ?_
  refine z_icmp_ne (a := (zc (MNow 43))) (b := 10) (tgt := 16) X rfl rfl (by omega) (by omega) dX9_addTest_9 (by decide) (fun c_1 => ?_) (fun c_1 => ?_)
  · refine lv_iconst (v := (0 : Int32)) hx hb dX9_addTest_16 (by decide) ?_
    refine z_callV (mc := 0) (ms := 0) (As := [.int (0 : Int32)]) (rest := []) (st2 := [.int (0 : Int32)]) (cs2 := [wMod g md MNow MPast MSav (zf_X9_refused_0) MThen MLev MFst MWay MMost MHash]) X Z [0] [] [0] 0 7 (zc_X9_refused_0 l g B md MNow MPast MSav MRef MThen MLev MFst MWay MMost MHash) wM_X9_55 wS_X9_refused wV_X9_refused wK_X9_refused wZ_X9 1 1 1 rfl (by decide +kernel) rfl (by decide) rfl rfl rfl (by decide) rfl rfl (rfl : zCl[7]? = some (RX9, TX9, 10)) hl.1 rfl rfl (by rw [hRf, hRl]; exact ⟨Nat.le_of_ble_eq_true rfl, Nat.le_of_ble_eq_true rfl⟩) (Nat.le_of_ble_eq_true rfl) ⟨Nat.zero_le _, Nat.zero_le _⟩ dX9_addTest_17 (fun H locs Z => ?_)
    refine lv_if_eq (tgt := 25) hx hb dX9_addTest_20 (by decide) (fun c_2 => ?_) (fun c_2 => ?_)
    · refine lv_aload_n hx hb dX9_addTest_25 rfl (lv_at hl 0 rfl) ?_
      refine z_callV (mc := 0) (ms := 0) (As := []) (rest := []) (st2 := []) (cs2 := [wMod g md MNow ((zf_X9_saves MNow MPast MSav).1) ((zf_X9_saves MNow MPast MSav).2) (zf_X9_refused_0) MThen MLev MFst MWay MMost MHash]) X Z [0] [] [0] 0 7 (zc_X9_saves l g B md MNow MPast MSav (zf_X9_refused_0) MThen MLev MFst MWay MMost MHash (by first | assumption | omega | decide)) wM_X9_87 wS_X9_saves wV_X9_saves wK_X9_saves wZ_X9 0 1 1 rfl (by decide +kernel) rfl (by decide) rfl rfl rfl (by decide) rfl rfl (rfl : zCl[7]? = some (RX9, TX9, 10)) hl.1 rfl rfl (by rw [hRf, hRl]; exact ⟨Nat.le_of_ble_eq_true rfl, Nat.le_of_ble_eq_true rfl⟩) (Nat.le_of_ble_eq_true rfl) ⟨Nat.zero_le _, Nat.zero_le _⟩ dX9_addTest_26 (fun H locs Z => ?_)
      refine lv_aload_n hx hb dX9_addTest_29 rfl (lv_at hl 0 rfl) ?_
      refine lv_bipush (v := (43 : Int32)) hx hb dX9_addTest_30 (by decide) ?_
      refine z_callV (mc := 0) (ms := 0) (As := [.int (43 : Int32)]) (rest := []) (st2 := [.int (nI (zc (MNow 43)))]) (cs2 := [wMod g md MNow ((zf_X9_saves MNow MPast MSav).1) ((zf_X9_saves MNow MPast MSav).2) (zf_X9_refused_0) MThen MLev MFst MWay MMost MHash]) X Z [0] [] [0] 0 7 (zc_X9_many l g B md MNow ((zf_X9_saves MNow MPast MSav).1) ((zf_X9_saves MNow MPast MSav).2) (zf_X9_refused_0) MThen MLev MFst MWay MMost MHash 43 (zc (MNow 43)) (by first | assumption | omega | decide) (by first | assumption | omega | decide)) wM_X9_66 wS_X9_many wV_X9_many wK_X9_many wZ_X9 1 1 1 rfl (by decide +kernel) rfl (by decide) rfl rfl rfl (by decide) rfl rfl (rfl : zCl[7]? = some (RX9, TX9, 10)) hl.1 rfl rfl (by rw [hRf, hRl]; exact ⟨Nat.le_of_ble_eq_true rfl, Nat.le_of_ble_eq_true rfl⟩) (Nat.le_of_ble_eq_true rfl) ⟨Nat.zero_le _, Nat.zero_le _⟩ dX9_addTest_32 (fun H locs Z => ?_)
      refine lv_istore_n (lv' := [(1, .int (nI (zc (MNow 43)))), (0, .ref (md 0))]) hx hb dX9_addTest_35 rfl hl (by decide) rfl (fun ls hl => ?_)
      refine lv_iconst (v := (0 : Int32)) hx hb dX9_addTest_36 (by decide) ?_
      refine lv_istore_n (lv' := [(2, .int (0 : Int32)), (1, .int (nI (zc (MNow 43)))), (0, .ref (md 0))]) hx hb dX9_addTest_37 rfl hl (by decide) rfl (fun ls hl => ?_)
      have loop_38 : ∀ (n38 j38 : Nat) (v1 : Nat → Int64), j38 + n38 = 8 → zl_X9_addTest_38 MNow n38 j38 v1 = (zl_X9_addTest_38 MNow 8 0 MNow) → ∀ (H : Heap) (locs : List Loc), zM g B A s [wMod g md v1 ((zf_X9_saves MNow MPast MSav).1) ((zf_X9_saves MNow MPast MSav).2) (zf_X9_refused_0) MThen MLev MFst MWay MMost MHash] H locs → ∀ ls : Array Slot, lv_has ls 3 [(2, .int (nI j38)), (1, .int (nI (zc (MNow 43)))), (0, .ref (md 0))] → W p l e R s m args below meth c H locs 0 0 Q (F0 m 38 ls []) := by
        intro n38
        induction n38 with
        | zero =>
          intro j38 v1 hin38 hR38 H locs Z ls hl
          have e_v1 : (zl_X9_addTest_38 MNow 8 0 MNow) = v1 := hR38.symm
          subst e_v1
          refine lv_iload_n hx hb dX9_addTest_38 rfl (lv_at hl 0 rfl) ?_
          refine lv_bipush (v := (8 : Int32)) hx hb dX9_addTest_39 (by decide) ?_
          refine z_icmp_ge (a := j38) (b := 8) (tgt := 58) X rfl rfl (by omega) (by omega) dX9_addTest_41 (by decide) (fun c_3 => ?_) (fun c_3 => ?_)
          · refine lv_aload_n hx hb dX9_addTest_58 rfl (lv_at hl 2 rfl) ?_
            refine z_get X Z 0 rfl (rfl : zCl[7]? = some (RX9, TX9, 10)) zU_X9 0 (by decide) wF_X9_7 rfl rfl dX9_addTest_59 ?_
            refine lv_bipush (v := (43 : Int32)) hx hb dX9_addTest_62 (by decide) ?_
            refine lv_dup2_11 hx hb dX9_addTest_64 rfl rfl ?_
            refine z_lald (j := 43) X Z 1 rfl rfl (by omega) (by decide) dX9_addTest_65 ?_
            refine lv_lconst (v := (1 : Int64)) hx hb dX9_addTest_66 (by decide) ?_
            refine lv_ladd hx hb dX9_addTest_67 ?_
            refine z_last (cs2 := [wMod g md (vp_updL (zl_X9_addTest_38 MNow 8 0 MNow) 43 (((zl_X9_addTest_38 MNow 8 0 MNow) 43) + (1 : Int64))) ((zf_X9_saves MNow MPast MSav).1) ((zf_X9_saves MNow MPast MSav).2) (zf_X9_refused_0) MThen MLev MFst MWay MMost MHash]) (j := 43) (x := (((zl_X9_addTest_38 MNow 8 0 MNow) 43) + (1 : Int64))) X Z 1 rfl rfl (by omega) (by decide) rfl dX9_addTest_68 (fun H locs Z => ?_)
            refine lv_iload_n hx hb dX9_addTest_69 rfl (lv_at hl 1 rfl) ?_
            exact z_ri (v := nI (zc (MNow 43))) E Z rfl (by rw [zf_X9_addTest_e, if_neg c_1]; dsimp only; exact ⟨rfl, rfl⟩) dX9_addTest_70 (Nat.zero_le _) (Nat.zero_le _)
          · (exfalso; omega)
        | succ n38 ih38 =>
          intro j38 v1 hin38 hR38 H locs Z ls hl
          refine lv_iload_n hx hb dX9_addTest_38 rfl (lv_at hl 0 rfl) ?_
          refine lv_bipush (v := (8 : Int32)) hx hb dX9_addTest_39 (by decide) ?_
          refine z_icmp_ge (a := j38) (b := 8) (tgt := 58) X rfl rfl (by omega) (by omega) dX9_addTest_41 (by decide) (fun c_4 => ?_) (fun c_4 => ?_)
          · (exfalso; omega)
          · refine lv_aload_n hx hb dX9_addTest_44 rfl (lv_at hl 2 rfl) ?_
            refine lv_iload_n hx hb dX9_addTest_45 rfl (lv_at hl 1 rfl) ?_
            refine lv_iload_n hx hb dX9_addTest_46 rfl (lv_at hl 0 rfl) ?_
            refine lv_iconst (v := (0 : Int32)) hx hb dX9_addTest_47 (by decide) ?_
            refine lv_iconst (v := (0 : Int32)) hx hb dX9_addTest_48 (by decide) ?_
            refine z_callV (mc := 0) (ms := 0) (As := [.int (nI (zc (MNow 43))), .int (nI j38), .int (0 : Int32), .int (0 : Int32)]) (rest := []) (st2 := []) (cs2 := [wMod g md (zf_X9_laysChances v1 (zc (MNow 43)) j38 (0 : Int32) (0 : Int32)) ((zf_X9_saves MNow MPast MSav).1) ((zf_X9_saves MNow MPast MSav).2) (zf_X9_refused_0) MThen MLev MFst MWay MMost MHash]) X Z [0] [] [0] 0 7 (zc_X9_laysChances l g B md v1 ((zf_X9_saves MNow MPast MSav).1) ((zf_X9_saves MNow MPast MSav).2) (zf_X9_refused_0) MThen MLev MFst MWay MMost MHash (zc (MNow 43)) j38 (0 : Int32) (0 : Int32) (by first | assumption | omega | decide) (by first | assumption | omega | decide)) wM_X9_121 wS_X9_laysChances wV_X9_laysChances wK_X9_laysChances wZ_X9 4 1 1 rfl (by decide +kernel) rfl (by decide) rfl rfl rfl (by decide) rfl rfl (rfl : zCl[7]? = some (RX9, TX9, 10)) hl.1 rfl rfl (by rw [hRf, hRl]; exact ⟨Nat.le_of_ble_eq_true rfl, Nat.le_of_ble_eq_true rfl⟩) (Nat.le_of_ble_eq_true rfl) ⟨Nat.zero_le _, Nat.zero_le _⟩ dX9_addTest_49 (fun H locs Z => ?_)
            refine z_iinc (b := (j38 + 1)) (st := 1) (lv' := [(2, .int (nI (j38 + 1))), (1, .int (nI (zc (MNow 43)))), (0, .ref (md 0))]) X dX9_addTest_52 hl (k := 0) rfl rfl (by decide) (by omega) (by decide) rfl (fun ls hl => ?_)
            refine lv_goto (tgt := 38) hx hb dX9_addTest_55 (by decide) ?_
            exact ih38 (j38 + 1) (zf_X9_laysChances v1 (zc (MNow 43)) j38 (0 : Int32) (0 : Int32)) (by omega) (by have h9 := hR38; rw [zl_X9_addTest_38_s] at h9; exact h9) _ _ Z ls (lv_sub hl [0, 1, 2] rfl)
      exact loop_38 8 0 MNow (by omega) rfl _ _ Z ls (lv_sub hl [0, 1, 2] rfl)
    · (exact absurd c_2 (by decide))
  · refine lv_iconst (v := (1 : Int32)) hx hb dX9_addTest_12 (by decide) ?_
    refine lv_goto (tgt := 17) hx hb dX9_addTest_13 (by decide) ?_
    refine z_callV (mc := 0) (ms := 0) (As := [.int (1 : Int32)]) (rest := []) (st2 := [.int (1 : Int32)]) (cs2 := [wMod g md MNow MPast MSav (zf_X9_refused_1) MThen MLev MFst MWay MMost MHash]) X Z [0] [] [0] 0 7 (zc_X9_refused_1 l g B md MNow MPast MSav MRef MThen MLev MFst MWay MMost MHash) wM_X9_55 wS_X9_refused wV_X9_refused wK_X9_refused wZ_X9 1 1 1 rfl (by decide +kernel) rfl (by decide) rfl rfl rfl (by decide) rfl rfl (rfl : zCl[7]? = some (RX9, TX9, 10)) hl.1 rfl rfl (by rw [hRf, hRl]; exact ⟨Nat.le_of_ble_eq_true rfl, Nat.le_of_ble_eq_true rfl⟩) (Nat.le_of_ble_eq_true rfl) ⟨Nat.zero_le _, Nat.zero_le _⟩ dX9_addTest_17 (fun H locs Z => ?_)
    refine lv_if_eq (tgt := 25) hx hb dX9_addTest_20 (by decide) (fun c_5 => ?_) (fun c_5 => ?_)
    · (exact absurd c_5 (by decide))
    · refine lv_iconst (v := (0 : Int32)) hx hb dX9_addTest_23 (by decide) ?_
      exact z_ri (v := nI 0) E Z rfl (by rw [zf_X9_addTest_e, if_pos c_1]; dsimp only; exact ⟨rfl, rfl⟩) dX9_addTest_24 (Nat.zero_le _) (Nat.zero_le _)
def zf_X9_setChances (MNow : Nat → Int64) (MPast : Nat → Int64) (MSav : Nat) (t : Int32) (k : Int32) (x : Int32) (y : Int32) : Int32 × Int32 × (Nat → Int64) × (Nat → Int64) × Nat := (if (zf_X9_isTest MNow t) = true then (if (zf_X9_isHypothesis MNow k) = true then (if (zf_X9_within x.toInt64 (0 : Int64) (10 : Int64)) = true then (if (zf_X9_within y.toInt64 (0 : Int64) (((10 : Int32) - x).toInt64)) = true then ((((10 : Int32) - x) - y), (zf_X9_refused_0), (zf_X9_laysChances MNow (zi t) (zi k) x y), ((zf_X9_saves MNow MPast MSav).1), ((zf_X9_saves MNow MPast MSav).2)) else ((0 : Int32), (zf_X9_refused_2), MNow, MPast, MSav)) else ((0 : Int32), (zf_X9_refused_2), MNow, MPast, MSav)) else ((0 : Int32), (zf_X9_refused_1), MNow, MPast, MSav)) else ((0 : Int32), (zf_X9_refused_1), MNow, MPast, MSav))
theorem zf_X9_setChances_e (MNow : Nat → Int64) (MPast : Nat → Int64) (MSav : Nat) (t : Int32) (k : Int32) (x : Int32) (y : Int32) : zf_X9_setChances MNow MPast MSav t k x y = (if (zf_X9_isTest MNow t) = true then (if (zf_X9_isHypothesis MNow k) = true then (if (zf_X9_within x.toInt64 (0 : Int64) (10 : Int64)) = true then (if (zf_X9_within y.toInt64 (0 : Int64) (((10 : Int32) - x).toInt64)) = true then ((((10 : Int32) - x) - y), (zf_X9_refused_0), (zf_X9_laysChances MNow (zi t) (zi k) x y), ((zf_X9_saves MNow MPast MSav).1), ((zf_X9_saves MNow MPast MSav).2)) else ((0 : Int32), (zf_X9_refused_2), MNow, MPast, MSav)) else ((0 : Int32), (zf_X9_refused_2), MNow, MPast, MSav)) else ((0 : Int32), (zf_X9_refused_1), MNow, MPast, MSav)) else ((0 : Int32), (zf_X9_refused_1), MNow, MPast, MSav)) := rfl
set_option maxHeartbeats 4000000 in
set_option maxRecDepth 100000 in
theorem zc_X9_setChances (l : Launch) (g : zG) (B : Nat) (md : Nat → Nat) (MNow : Nat → Int64) (MPast : Nat → Int64) (MSav : Nat) (MRef : Int32) (MThen : Nat → Int64) (MLev : Nat → Int64) (MFst : Int32) (MWay : Nat → Int64) (MMost : Nat → Int32) (MHash : Int64) (t : Int32) (k : Int32) (x : Int32) (y : Int32) (hN : zNow MNow) (hs : MSav ≤ 4) : zMet l g B yX9_setChances cX9_setChances 5 (some .int) 4 160 0 0 [.ref (md 0), .int t, .int k, .int x, .int y] [wMod g md MNow MPast MSav MRef MThen MLev MFst MWay MMost MHash] (zDet (some (.int ((zf_X9_setChances MNow MPast MSav t k x y).1))) [wMod g md ((zf_X9_setChances MNow MPast MSav t k x y).2.2.1) ((zf_X9_setChances MNow MPast MSav t k x y).2.2.2.1) ((zf_X9_setChances MNow MPast MSav t k x y).2.2.2.2) ((zf_X9_setChances MNow MPast MSav t k x y).2.1) MThen MLev MFst MWay MMost MHash]) := by
  refine z_in (plainFor_of_name (by decide)) (Nat.le_of_ble_eq_true rfl) (fun p e R s m args below meth c A Q hRf hRl hRc hRs X Z hnm E ls hl => ?_)
  have hx := X.1
  have hb := X.2.1
  have hown := X.2.2.2.1
  have hts := X.2.2.2.2.1
  have hl : lv_has ls 5 [(0, .ref (md 0)), (1, .int t), (2, .int k), (3, .int x), (4, .int y)] := hl
  have hN2 := hN; obtain ⟨he9, hb9, he34, hb34, he43, hb43, he284, hb284, he301, hb301⟩ := hN2
  refine lv_aload_n hx hb dX9_setChances_0 rfl (lv_at hl 0 rfl) ?_
  refine lv_aload_n hx hb dX9_setChances_1 rfl (lv_at hl 0 rfl) ?_
  refine lv_iload_n hx hb dX9_setChances_2 rfl (lv_at hl 1 rfl) ?_
  refine z_callV (mc := 0) (ms := 0) (As := [.int t]) (rest := [.ref (md 0)]) (st2 := [.int (zB (zf_X9_isTest MNow t)), .ref (md 0)]) (cs2 := [wMod g md MNow MPast MSav MRef MThen MLev MFst MWay MMost MHash]) X Z [0] [] [0] 0 7 (zc_X9_isTest l g B md MNow MPast MSav MRef MThen MLev MFst MWay MMost MHash t (by first | assumption | omega | decide)) wM_X9_139 wS_X9_isTest wV_X9_isTest wK_X9_isTest wZ_X9 1 1 1 rfl (by decide +kernel) rfl (by decide) rfl rfl rfl (by decide) rfl rfl (rfl : zCl[7]? = some (RX9, TX9, 10)) hl.1 rfl rfl (by rw [hRf, hRl]; exact ⟨Nat.le_of_ble_eq_true rfl, Nat.le_of_ble_eq_true rfl⟩) (Nat.le_of_ble_eq_true rfl) ⟨Nat.zero_le _, Nat.zero_le _⟩ dX9_setChances_3 (fun H locs Z => ?_)
  refine z_ifeqB (b := (zf_X9_isTest MNow t)) (tgt := 17) X dX9_setChances_6 (by decide) (fun c_1 => ?_) (fun c_1 => ?_)
  · refine lv_iconst (v := (1 : Int32)) hx hb dX9_setChances_17 (by decide) ?_
    refine lv_goto (tgt := 53) hx hb dX9_setChances_18 (by decide) ?_
    refine z_callV (mc := 0) (ms := 0) (As := [.int (1 : Int32)]) (rest := []) (st2 := [.int (1 : Int32)]) (cs2 := [wMod g md MNow MPast MSav (zf_X9_refused_1) MThen MLev MFst MWay MMost MHash]) X Z [0] [] [0] 0 7 (zc_X9_refused_1 l g B md MNow MPast MSav MRef MThen MLev MFst MWay MMost MHash) wM_X9_55 wS_X9_refused wV_X9_refused wK_X9_refused wZ_X9 1 1 1 rfl (by decide +kernel) rfl (by decide) rfl rfl rfl (by decide) rfl rfl (rfl : zCl[7]? = some (RX9, TX9, 10)) hl.1 rfl rfl (by rw [hRf, hRl]; exact ⟨Nat.le_of_ble_eq_true rfl, Nat.le_of_ble_eq_true rfl⟩) (Nat.le_of_ble_eq_true rfl) ⟨Nat.zero_le _, Nat.zero_le _⟩ dX9_setChances_53 (fun H locs Z => ?_)
    refine lv_if_eq (tgt := 61) hx hb dX9_setChances_56 (by decide) (fun c_2 => ?_) (fun c_2 => ?_)
    · (exact absurd c_2 (by decide))
    · refine lv_iconst (v := (0 : Int32)) hx hb dX9_setChances_59 (by decide) ?_
      exact z_ri (v := (0 : Int32)) E Z rfl (by rw [zf_X9_setChances_e, if_neg (zBf c_1)]; dsimp only; exact ⟨rfl, rfl⟩) dX9_setChances_60 (Nat.zero_le _) (Nat.zero_le _)
  · refine lv_aload_n hx hb dX9_setChances_9 rfl (lv_at hl 0 rfl) ?_
    refine lv_iload_n hx hb dX9_setChances_10 rfl (lv_at hl 2 rfl) ?_
    refine z_callV (mc := 0) (ms := 0) (As := [.int k]) (rest := [.ref (md 0)]) (st2 := [.int (zB (zf_X9_isHypothesis MNow k)), .ref (md 0)]) (cs2 := [wMod g md MNow MPast MSav MRef MThen MLev MFst MWay MMost MHash]) X Z [0] [] [0] 0 7 (zc_X9_isHypothesis l g B md MNow MPast MSav MRef MThen MLev MFst MWay MMost MHash k (by first | assumption | omega | decide)) wM_X9_131 wS_X9_isHypothesis wV_X9_isHypothesis wK_X9_isHypothesis wZ_X9 1 1 1 rfl (by decide +kernel) rfl (by decide) rfl rfl rfl (by decide) rfl rfl (rfl : zCl[7]? = some (RX9, TX9, 10)) hl.1 rfl rfl (by rw [hRf, hRl]; exact ⟨Nat.le_of_ble_eq_true rfl, Nat.le_of_ble_eq_true rfl⟩) (Nat.le_of_ble_eq_true rfl) ⟨Nat.zero_le _, Nat.zero_le _⟩ dX9_setChances_11 (fun H locs Z => ?_)
    refine z_ifneB (b := (zf_X9_isHypothesis MNow k)) (tgt := 21) X dX9_setChances_14 (by decide) (fun c_3 => ?_) (fun c_3 => ?_)
    · refine lv_iload_n hx hb dX9_setChances_21 rfl (lv_at hl 3 rfl) ?_
      refine lv_i2l hx hb dX9_setChances_22 rfl ?_
      refine lv_lconst (v := (0 : Int64)) hx hb dX9_setChances_23 (by decide) ?_
      refine lv_ldc2 (v := (10 : Int64)) hx hb hown (hts _ wL_X9_142) dX9_setChances_24 ?_
      refine z_callS (mc := 0) (ms := 0) (As := [.long x.toInt64, .long (0 : Int64), .long (10 : Int64)]) (rest := [.ref (md 0)]) (st2 := [.int (zB (zf_X9_within x.toInt64 (0 : Int64) (10 : Int64))), .ref (md 0)]) (cs2 := [wMod g md MNow MPast MSav MRef MThen MLev MFst MWay MMost MHash]) X Z [] [0] [0] (zc_X9_within l g B x.toInt64 (0 : Int64) (10 : Int64)) wM_X9_44 wS_X9_within wK_X9_within wZ_X9 3 1 1 rfl (by decide +kernel) rfl (by decide) rfl rfl rfl (by decide) rfl hl.1 rfl rfl (by rw [hRf, hRl]; exact ⟨Nat.le_of_ble_eq_true rfl, Nat.le_of_ble_eq_true rfl⟩) (Nat.le_of_ble_eq_true rfl) ⟨Nat.zero_le _, Nat.zero_le _⟩ dX9_setChances_27 (fun H locs Z => ?_)
      refine z_ifeqB (b := (zf_X9_within x.toInt64 (0 : Int64) (10 : Int64))) (tgt := 52) X dX9_setChances_30 (by decide) (fun c_4 => ?_) (fun c_4 => ?_)
      · refine lv_iconst (v := (2 : Int32)) hx hb dX9_setChances_52 (by decide) ?_
        refine z_callV (mc := 0) (ms := 0) (As := [.int (2 : Int32)]) (rest := []) (st2 := [.int (1 : Int32)]) (cs2 := [wMod g md MNow MPast MSav (zf_X9_refused_2) MThen MLev MFst MWay MMost MHash]) X Z [0] [] [0] 0 7 (zc_X9_refused_2 l g B md MNow MPast MSav MRef MThen MLev MFst MWay MMost MHash) wM_X9_55 wS_X9_refused wV_X9_refused wK_X9_refused wZ_X9 1 1 1 rfl (by decide +kernel) rfl (by decide) rfl rfl rfl (by decide) rfl rfl (rfl : zCl[7]? = some (RX9, TX9, 10)) hl.1 rfl rfl (by rw [hRf, hRl]; exact ⟨Nat.le_of_ble_eq_true rfl, Nat.le_of_ble_eq_true rfl⟩) (Nat.le_of_ble_eq_true rfl) ⟨Nat.zero_le _, Nat.zero_le _⟩ dX9_setChances_53 (fun H locs Z => ?_)
        refine lv_if_eq (tgt := 61) hx hb dX9_setChances_56 (by decide) (fun c_5 => ?_) (fun c_5 => ?_)
        · (exact absurd c_5 (by decide))
        · refine lv_iconst (v := (0 : Int32)) hx hb dX9_setChances_59 (by decide) ?_
          exact z_ri (v := (0 : Int32)) E Z rfl (by rw [zf_X9_setChances_e, if_pos c_1, if_pos c_3, if_neg (zBf c_4)]; dsimp only; exact ⟨rfl, rfl⟩) dX9_setChances_60 (Nat.zero_le _) (Nat.zero_le _)
      · refine lv_iload hx hb dX9_setChances_33 (lv_at hl 4 rfl) ?_
        refine lv_i2l hx hb dX9_setChances_35 rfl ?_
        refine lv_lconst (v := (0 : Int64)) hx hb dX9_setChances_36 (by decide) ?_
        refine lv_bipush (v := (10 : Int32)) hx hb dX9_setChances_37 (by decide) ?_
        refine lv_iload_n hx hb dX9_setChances_39 rfl (lv_at hl 3 rfl) ?_
        refine lv_isub hx hb dX9_setChances_40 ?_
        refine lv_i2l hx hb dX9_setChances_41 rfl ?_
        refine z_callS (mc := 0) (ms := 0) (As := [.long y.toInt64, .long (0 : Int64), .long (((10 : Int32) - x).toInt64)]) (rest := [.ref (md 0)]) (st2 := [.int (zB (zf_X9_within y.toInt64 (0 : Int64) (((10 : Int32) - x).toInt64))), .ref (md 0)]) (cs2 := [wMod g md MNow MPast MSav MRef MThen MLev MFst MWay MMost MHash]) X Z [] [0] [0] (zc_X9_within l g B y.toInt64 (0 : Int64) (((10 : Int32) - x).toInt64)) wM_X9_44 wS_X9_within wK_X9_within wZ_X9 3 1 1 rfl (by decide +kernel) rfl (by decide) rfl rfl rfl (by decide) rfl hl.1 rfl rfl (by rw [hRf, hRl]; exact ⟨Nat.le_of_ble_eq_true rfl, Nat.le_of_ble_eq_true rfl⟩) (Nat.le_of_ble_eq_true rfl) ⟨Nat.zero_le _, Nat.zero_le _⟩ dX9_setChances_42 (fun H locs Z => ?_)
        refine z_ifeqB (b := (zf_X9_within y.toInt64 (0 : Int64) (((10 : Int32) - x).toInt64))) (tgt := 52) X dX9_setChances_45 (by decide) (fun c_6 => ?_) (fun c_6 => ?_)
        · refine lv_iconst (v := (2 : Int32)) hx hb dX9_setChances_52 (by decide) ?_
          refine z_callV (mc := 0) (ms := 0) (As := [.int (2 : Int32)]) (rest := []) (st2 := [.int (1 : Int32)]) (cs2 := [wMod g md MNow MPast MSav (zf_X9_refused_2) MThen MLev MFst MWay MMost MHash]) X Z [0] [] [0] 0 7 (zc_X9_refused_2 l g B md MNow MPast MSav MRef MThen MLev MFst MWay MMost MHash) wM_X9_55 wS_X9_refused wV_X9_refused wK_X9_refused wZ_X9 1 1 1 rfl (by decide +kernel) rfl (by decide) rfl rfl rfl (by decide) rfl rfl (rfl : zCl[7]? = some (RX9, TX9, 10)) hl.1 rfl rfl (by rw [hRf, hRl]; exact ⟨Nat.le_of_ble_eq_true rfl, Nat.le_of_ble_eq_true rfl⟩) (Nat.le_of_ble_eq_true rfl) ⟨Nat.zero_le _, Nat.zero_le _⟩ dX9_setChances_53 (fun H locs Z => ?_)
          refine lv_if_eq (tgt := 61) hx hb dX9_setChances_56 (by decide) (fun c_7 => ?_) (fun c_7 => ?_)
          · (exact absurd c_7 (by decide))
          · refine lv_iconst (v := (0 : Int32)) hx hb dX9_setChances_59 (by decide) ?_
            exact z_ri (v := (0 : Int32)) E Z rfl (by rw [zf_X9_setChances_e, if_pos c_1, if_pos c_3, if_pos c_4, if_neg (zBf c_6)]; dsimp only; exact ⟨rfl, rfl⟩) dX9_setChances_60 (Nat.zero_le _) (Nat.zero_le _)
        · refine lv_iconst (v := (0 : Int32)) hx hb dX9_setChances_48 (by decide) ?_
          refine lv_goto (tgt := 53) hx hb dX9_setChances_49 (by decide) ?_
          refine z_callV (mc := 0) (ms := 0) (As := [.int (0 : Int32)]) (rest := []) (st2 := [.int (0 : Int32)]) (cs2 := [wMod g md MNow MPast MSav (zf_X9_refused_0) MThen MLev MFst MWay MMost MHash]) X Z [0] [] [0] 0 7 (zc_X9_refused_0 l g B md MNow MPast MSav MRef MThen MLev MFst MWay MMost MHash) wM_X9_55 wS_X9_refused wV_X9_refused wK_X9_refused wZ_X9 1 1 1 rfl (by decide +kernel) rfl (by decide) rfl rfl rfl (by decide) rfl rfl (rfl : zCl[7]? = some (RX9, TX9, 10)) hl.1 rfl rfl (by rw [hRf, hRl]; exact ⟨Nat.le_of_ble_eq_true rfl, Nat.le_of_ble_eq_true rfl⟩) (Nat.le_of_ble_eq_true rfl) ⟨Nat.zero_le _, Nat.zero_le _⟩ dX9_setChances_53 (fun H locs Z => ?_)
          refine lv_if_eq (tgt := 61) hx hb dX9_setChances_56 (by decide) (fun c_8 => ?_) (fun c_8 => ?_)
          · obtain ⟨ek1, hk1⟩ := (zok_test (by assumption) hb43 : t = nI (zi t) ∧ _)
            have hl : lv_has ls 5 [(0, .ref (md 0)), (1, .int (nI (zi t))), (2, .int k), (3, .int x), (4, .int y)] := by rw [← ek1]; exact hl
            obtain ⟨ek2, hk2⟩ := (zok_hyp (by assumption) hb34 : k = nI (zi k) ∧ _)
            have hl : lv_has ls 5 [(0, .ref (md 0)), (1, .int (nI (zi t))), (2, .int (nI (zi k))), (3, .int x), (4, .int y)] := by rw [← ek2]; exact hl
            refine lv_aload_n hx hb dX9_setChances_61 rfl (lv_at hl 0 rfl) ?_
            refine z_callV (mc := 0) (ms := 0) (As := []) (rest := []) (st2 := []) (cs2 := [wMod g md MNow ((zf_X9_saves MNow MPast MSav).1) ((zf_X9_saves MNow MPast MSav).2) (zf_X9_refused_0) MThen MLev MFst MWay MMost MHash]) X Z [0] [] [0] 0 7 (zc_X9_saves l g B md MNow MPast MSav (zf_X9_refused_0) MThen MLev MFst MWay MMost MHash (by first | assumption | omega | decide)) wM_X9_87 wS_X9_saves wV_X9_saves wK_X9_saves wZ_X9 0 1 1 rfl (by decide +kernel) rfl (by decide) rfl rfl rfl (by decide) rfl rfl (rfl : zCl[7]? = some (RX9, TX9, 10)) hl.1 rfl rfl (by rw [hRf, hRl]; exact ⟨Nat.le_of_ble_eq_true rfl, Nat.le_of_ble_eq_true rfl⟩) (Nat.le_of_ble_eq_true rfl) ⟨Nat.zero_le _, Nat.zero_le _⟩ dX9_setChances_62 (fun H locs Z => ?_)
            refine lv_aload_n hx hb dX9_setChances_65 rfl (lv_at hl 0 rfl) ?_
            refine lv_iload_n hx hb dX9_setChances_66 rfl (lv_at hl 1 rfl) ?_
            refine lv_iload_n hx hb dX9_setChances_67 rfl (lv_at hl 2 rfl) ?_
            refine lv_iload_n hx hb dX9_setChances_68 rfl (lv_at hl 3 rfl) ?_
            refine lv_iload hx hb dX9_setChances_69 (lv_at hl 4 rfl) ?_
            refine z_callV (mc := 0) (ms := 0) (As := [.int (nI (zi t)), .int (nI (zi k)), .int x, .int y]) (rest := []) (st2 := []) (cs2 := [wMod g md (zf_X9_laysChances MNow (zi t) (zi k) x y) ((zf_X9_saves MNow MPast MSav).1) ((zf_X9_saves MNow MPast MSav).2) (zf_X9_refused_0) MThen MLev MFst MWay MMost MHash]) X Z [0] [] [0] 0 7 (zc_X9_laysChances l g B md MNow ((zf_X9_saves MNow MPast MSav).1) ((zf_X9_saves MNow MPast MSav).2) (zf_X9_refused_0) MThen MLev MFst MWay MMost MHash (zi t) (zi k) x y (by first | assumption | omega | decide) (by first | assumption | omega | decide)) wM_X9_121 wS_X9_laysChances wV_X9_laysChances wK_X9_laysChances wZ_X9 4 1 1 rfl (by decide +kernel) rfl (by decide) rfl rfl rfl (by decide) rfl rfl (rfl : zCl[7]? = some (RX9, TX9, 10)) hl.1 rfl rfl (by rw [hRf, hRl]; exact ⟨Nat.le_of_ble_eq_true rfl, Nat.le_of_ble_eq_true rfl⟩) (Nat.le_of_ble_eq_true rfl) ⟨Nat.zero_le _, Nat.zero_le _⟩ dX9_setChances_71 (fun H locs Z => ?_)
            refine lv_bipush (v := (10 : Int32)) hx hb dX9_setChances_74 (by decide) ?_
            refine lv_iload_n hx hb dX9_setChances_76 rfl (lv_at hl 3 rfl) ?_
            refine lv_isub hx hb dX9_setChances_77 ?_
            refine lv_iload hx hb dX9_setChances_78 (lv_at hl 4 rfl) ?_
            refine lv_isub hx hb dX9_setChances_80 ?_
            exact z_ri (v := (((10 : Int32) - x) - y)) E Z rfl (by rw [zf_X9_setChances_e, if_pos c_1, if_pos c_3, if_pos c_4, if_pos c_6]; dsimp only; exact ⟨rfl, rfl⟩) dX9_setChances_81 (Nat.zero_le _) (Nat.zero_le _)
          · (exact absurd c_8 (by decide))
    · refine lv_iconst (v := (1 : Int32)) hx hb dX9_setChances_17 (by decide) ?_
      refine lv_goto (tgt := 53) hx hb dX9_setChances_18 (by decide) ?_
      refine z_callV (mc := 0) (ms := 0) (As := [.int (1 : Int32)]) (rest := []) (st2 := [.int (1 : Int32)]) (cs2 := [wMod g md MNow MPast MSav (zf_X9_refused_1) MThen MLev MFst MWay MMost MHash]) X Z [0] [] [0] 0 7 (zc_X9_refused_1 l g B md MNow MPast MSav MRef MThen MLev MFst MWay MMost MHash) wM_X9_55 wS_X9_refused wV_X9_refused wK_X9_refused wZ_X9 1 1 1 rfl (by decide +kernel) rfl (by decide) rfl rfl rfl (by decide) rfl rfl (rfl : zCl[7]? = some (RX9, TX9, 10)) hl.1 rfl rfl (by rw [hRf, hRl]; exact ⟨Nat.le_of_ble_eq_true rfl, Nat.le_of_ble_eq_true rfl⟩) (Nat.le_of_ble_eq_true rfl) ⟨Nat.zero_le _, Nat.zero_le _⟩ dX9_setChances_53 (fun H locs Z => ?_)
      refine lv_if_eq (tgt := 61) hx hb dX9_setChances_56 (by decide) (fun c_9 => ?_) (fun c_9 => ?_)
      · (exact absurd c_9 (by decide))
      · refine lv_iconst (v := (0 : Int32)) hx hb dX9_setChances_59 (by decide) ?_
        exact z_ri (v := (0 : Int32)) E Z rfl (by rw [zf_X9_setChances_e, if_pos c_1, if_neg (zBf c_3)]; dsimp only; exact ⟨rfl, rfl⟩) dX9_setChances_60 (Nat.zero_le _) (Nat.zero_le _)
def zl_X9_laysThen_5 (MNow : Nat → Int64) (t : Nat) (k : Nat) : Nat → Nat → Int64 → (Nat → Int64) → Int64 × (Nat → Int64)
  | 0, _, x3, v1 => (x3, v1)
  | n5 + 1, j5, x3, v1 => zl_X9_laysThen_5 MNow t k n5 (j5 + 1) (zf_X9_divisor x3 ((vp_updL v1 j5 ((MNow (35 + j5)) * (MNow ((44 + 3 * (8 * t + j5)) + k)))) j5)) (vp_updL v1 j5 ((MNow (35 + j5)) * (MNow ((44 + 3 * (8 * t + j5)) + k))))
def zl_X9_laysThen_68 (MNow : Nat → Int64) (MThen : Nat → Int64) (t : Nat) (k : Nat) : Nat → Nat → Int64 → (Nat → Int64) → Int64 × (Nat → Int64)
  | 0, _, x5, v2 => (x5, v2)
  | n68 + 1, j68, x5, v2 => (if ((zl_X9_laysThen_5 MNow t k 8 0 (0 : Int64) MThen).1) = (0 : Int64) then (if ((vp_updL v2 j68 (0 : Int64)) j68) ≤ x5 then zl_X9_laysThen_68 MNow MThen t k n68 (j68 + 1) x5 (vp_updL v2 j68 (0 : Int64)) else zl_X9_laysThen_68 MNow MThen t k n68 (j68 + 1) ((vp_updL v2 j68 (0 : Int64)) j68) (vp_updL v2 j68 (0 : Int64))) else (if ((vp_updL v2 j68 ((v2 j68) / ((zl_X9_laysThen_5 MNow t k 8 0 (0 : Int64) MThen).1))) j68) ≤ x5 then zl_X9_laysThen_68 MNow MThen t k n68 (j68 + 1) x5 (vp_updL v2 j68 ((v2 j68) / ((zl_X9_laysThen_5 MNow t k 8 0 (0 : Int64) MThen).1))) else zl_X9_laysThen_68 MNow MThen t k n68 (j68 + 1) ((vp_updL v2 j68 ((v2 j68) / ((zl_X9_laysThen_5 MNow t k 8 0 (0 : Int64) MThen).1))) j68) (vp_updL v2 j68 ((v2 j68) / ((zl_X9_laysThen_5 MNow t k 8 0 (0 : Int64) MThen).1)))))
theorem zl_X9_laysThen_68_s (MNow : Nat → Int64) (MThen : Nat → Int64) (t : Nat) (k : Nat) (n68 : Nat) (j68 : Nat) (x5 : Int64) (v2 : Nat → Int64) : zl_X9_laysThen_68 MNow MThen t k (n68 + 1) j68 x5 v2 = (if ((zl_X9_laysThen_5 MNow t k 8 0 (0 : Int64) MThen).1) = (0 : Int64) then (if ((vp_updL v2 j68 (0 : Int64)) j68) ≤ x5 then zl_X9_laysThen_68 MNow MThen t k n68 (j68 + 1) x5 (vp_updL v2 j68 (0 : Int64)) else zl_X9_laysThen_68 MNow MThen t k n68 (j68 + 1) ((vp_updL v2 j68 (0 : Int64)) j68) (vp_updL v2 j68 (0 : Int64))) else (if ((vp_updL v2 j68 ((v2 j68) / ((zl_X9_laysThen_5 MNow t k 8 0 (0 : Int64) MThen).1))) j68) ≤ x5 then zl_X9_laysThen_68 MNow MThen t k n68 (j68 + 1) x5 (vp_updL v2 j68 ((v2 j68) / ((zl_X9_laysThen_5 MNow t k 8 0 (0 : Int64) MThen).1))) else zl_X9_laysThen_68 MNow MThen t k n68 (j68 + 1) ((vp_updL v2 j68 ((v2 j68) / ((zl_X9_laysThen_5 MNow t k 8 0 (0 : Int64) MThen).1))) j68) (vp_updL v2 j68 ((v2 j68) / ((zl_X9_laysThen_5 MNow t k 8 0 (0 : Int64) MThen).1))))) := rfl
theorem zl_X9_laysThen_5_s (MNow : Nat → Int64) (t : Nat) (k : Nat) (n5 : Nat) (j5 : Nat) (x3 : Int64) (v1 : Nat → Int64) : zl_X9_laysThen_5 MNow t k (n5 + 1) j5 x3 v1 = zl_X9_laysThen_5 MNow t k n5 (j5 + 1) (zf_X9_divisor x3 ((vp_updL v1 j5 ((MNow (35 + j5)) * (MNow ((44 + 3 * (8 * t + j5)) + k)))) j5)) (vp_updL v1 j5 ((MNow (35 + j5)) * (MNow ((44 + 3 * (8 * t + j5)) + k)))) := rfl
def zf_X9_laysThen (MNow : Nat → Int64) (MThen : Nat → Int64) (t : Nat) (k : Nat) : Int64 × (Nat → Int64) := (((zl_X9_laysThen_68 MNow MThen t k 8 0 (0 : Int64) ((zl_X9_laysThen_5 MNow t k 8 0 (0 : Int64) MThen).2)).1), ((zl_X9_laysThen_68 MNow MThen t k 8 0 (0 : Int64) ((zl_X9_laysThen_5 MNow t k 8 0 (0 : Int64) MThen).2)).2))
theorem zf_X9_laysThen_e (MNow : Nat → Int64) (MThen : Nat → Int64) (t : Nat) (k : Nat) : zf_X9_laysThen MNow MThen t k = (((zl_X9_laysThen_68 MNow MThen t k 8 0 (0 : Int64) ((zl_X9_laysThen_5 MNow t k 8 0 (0 : Int64) MThen).2)).1), ((zl_X9_laysThen_68 MNow MThen t k 8 0 (0 : Int64) ((zl_X9_laysThen_5 MNow t k 8 0 (0 : Int64) MThen).2)).2)) := rfl
set_option maxHeartbeats 4000000 in
set_option maxRecDepth 100000 in
theorem zc_X9_laysThen (l : Launch) (g : zG) (B : Nat) (md : Nat → Nat) (MNow : Nat → Int64) (MPast : Nat → Int64) (MSav : Nat) (MRef : Int32) (MThen : Nat → Int64) (MLev : Nat → Int64) (MFst : Int32) (MWay : Nat → Int64) (MMost : Nat → Int32) (MHash : Int64) (t : Nat) (k : Nat) (ht : t < 10) (hk : k < 3) (hw : ∀ j, j < 8 → zNM ((MNow (35 + j)) * (MNow ((44 + 3 * (8 * t + j)) + k)))) : zMet l g B yX9_laysThen cX9_laysThen 8 (some .long) 3 100 0 0 [.ref (md 0), .int (nI t), .int (nI k)] [wMod g md MNow MPast MSav MRef MThen MLev MFst MWay MMost MHash] (zDet (some (.long ((zf_X9_laysThen MNow MThen t k).1))) [wMod g md MNow MPast MSav MRef ((zf_X9_laysThen MNow MThen t k).2) MLev MFst MWay MMost MHash]) := by
  refine z_in (plainFor_of_name (by decide)) (Nat.le_of_ble_eq_true rfl) (fun p e R s m args below meth c A Q hRf hRl hRc hRs X Z hnm E ls hl => ?_)
  have hx := X.1
  have hb := X.2.1
  have hown := X.2.2.2.1
  have hts := X.2.2.2.2.1
  have hl : lv_has ls 8 [(0, .ref (md 0)), (1, .int (nI t)), (2, .int (nI k))] := hl
  refine lv_lconst (v := (0 : Int64)) hx hb dX9_laysThen_0 (by decide) ?_
  refine lv_lstore_n (lv' := [(3, .long (0 : Int64)), (0, .ref (md 0)), (1, .int (nI t)), (2, .int (nI k))]) hx hb dX9_laysThen_1 rfl hl (by decide) rfl (fun ls hl => ?_)
  refine lv_iconst (v := (0 : Int32)) hx hb dX9_laysThen_2 (by decide) ?_
  refine lv_istore (lv' := [(5, .int (0 : Int32)), (3, .long (0 : Int64)), (0, .ref (md 0)), (1, .int (nI t)), (2, .int (nI k))]) hx hb dX9_laysThen_3 hl (by decide) rfl (fun ls hl => ?_)
  have loop_5 : ∀ (n5 j5 : Nat) (x3 : Int64) (v1 : Nat → Int64), j5 + n5 = 8 → zl_X9_laysThen_5 MNow t k n5 j5 x3 v1 = (zl_X9_laysThen_5 MNow t k 8 0 (0 : Int64) MThen) → (zNM x3) → ∀ (H : Heap) (locs : List Loc), zM g B A s [wMod g md MNow MPast MSav MRef v1 MLev MFst MWay MMost MHash] H locs → ∀ ls : Array Slot, lv_has ls 8 [(5, .int (nI j5)), (3, .long x3), (0, .ref (md 0)), (1, .int (nI t)), (2, .int (nI k))] → W p l e R s m args below meth c H locs 0 0 Q (F0 m 5 ls []) := by
    intro n5
    induction n5 with
    | zero =>
      intro j5 x3 v1 hin5 hR5 i1 H locs Z ls hl
      have e_x3 : (zl_X9_laysThen_5 MNow t k 8 0 (0 : Int64) MThen).1 = x3 := (by rw [← hR5]; rfl)
      have e_v1 : (zl_X9_laysThen_5 MNow t k 8 0 (0 : Int64) MThen).2 = v1 := (by rw [← hR5]; rfl)
      subst e_x3
      subst e_v1
      refine lv_iload hx hb dX9_laysThen_5 (lv_at hl 0 rfl) ?_
      refine lv_bipush (v := (8 : Int32)) hx hb dX9_laysThen_7 (by decide) ?_
      refine z_icmp_ge (a := j5) (b := 8) (tgt := 62) X rfl rfl (by omega) (by omega) dX9_laysThen_9 (by decide) (fun c_1 => ?_) (fun c_1 => ?_)
      · refine lv_lconst (v := (0 : Int64)) hx hb dX9_laysThen_62 (by decide) ?_
        refine lv_lstore (lv' := [(5, .long (0 : Int64)), (3, .long ((zl_X9_laysThen_5 MNow t k 8 0 (0 : Int64) MThen).1)), (0, .ref (md 0)), (1, .int (nI t)), (2, .int (nI k))]) hx hb dX9_laysThen_63 hl (by decide) rfl (fun ls hl => ?_)
        refine lv_iconst (v := (0 : Int32)) hx hb dX9_laysThen_65 (by decide) ?_
        refine lv_istore (lv' := [(7, .int (0 : Int32)), (5, .long (0 : Int64)), (3, .long ((zl_X9_laysThen_5 MNow t k 8 0 (0 : Int64) MThen).1)), (0, .ref (md 0)), (1, .int (nI t)), (2, .int (nI k))]) hx hb dX9_laysThen_66 hl (by decide) rfl (fun ls hl => ?_)
        have loop_68 : ∀ (n68 j68 : Nat) (x5 : Int64) (v2 : Nat → Int64), j68 + n68 = 8 → zl_X9_laysThen_68 MNow MThen t k n68 j68 x5 v2 = (zl_X9_laysThen_68 MNow MThen t k 8 0 (0 : Int64) ((zl_X9_laysThen_5 MNow t k 8 0 (0 : Int64) MThen).2)) → ∀ (H : Heap) (locs : List Loc), zM g B A s [wMod g md MNow MPast MSav MRef v2 MLev MFst MWay MMost MHash] H locs → ∀ ls : Array Slot, lv_has ls 8 [(7, .int (nI j68)), (5, .long x5), (3, .long ((zl_X9_laysThen_5 MNow t k 8 0 (0 : Int64) MThen).1)), (0, .ref (md 0)), (1, .int (nI t)), (2, .int (nI k))] → W p l e R s m args below meth c H locs 0 0 Q (F0 m 68 ls []) := by
          intro n68
          induction n68 with
          | zero =>
            intro j68 x5 v2 hin68 hR68 H locs Z ls hl
            have e_x5 : (zl_X9_laysThen_68 MNow MThen t k 8 0 (0 : Int64) ((zl_X9_laysThen_5 MNow t k 8 0 (0 : Int64) MThen).2)).1 = x5 := (by rw [← hR68]; rfl)
            have e_v2 : (zl_X9_laysThen_68 MNow MThen t k 8 0 (0 : Int64) ((zl_X9_laysThen_5 MNow t k 8 0 (0 : Int64) MThen).2)).2 = v2 := (by rw [← hR68]; rfl)
            subst e_x5
            subst e_v2
            refine lv_iload hx hb dX9_laysThen_68 (lv_at hl 0 rfl) ?_
            refine lv_bipush (v := (8 : Int32)) hx hb dX9_laysThen_70 (by decide) ?_
            refine z_icmp_ge (a := j68) (b := 8) (tgt := 134) X rfl rfl (by omega) (by omega) dX9_laysThen_72 (by decide) (fun c_2 => ?_) (fun c_2 => ?_)
            · refine lv_lload hx hb dX9_laysThen_134 (lv_at hl 1 rfl) ?_
              exact z_rl (v := ((zl_X9_laysThen_68 MNow MThen t k 8 0 (0 : Int64) ((zl_X9_laysThen_5 MNow t k 8 0 (0 : Int64) MThen).2)).1)) E Z (by rw [zf_X9_laysThen_e]; dsimp only; exact ⟨rfl, rfl⟩) dX9_laysThen_136 (Nat.zero_le _) (Nat.zero_le _)
            · (exfalso; omega)
          | succ n68 ih68 =>
            intro j68 x5 v2 hin68 hR68 H locs Z ls hl
            refine lv_iload hx hb dX9_laysThen_68 (lv_at hl 0 rfl) ?_
            refine lv_bipush (v := (8 : Int32)) hx hb dX9_laysThen_70 (by decide) ?_
            refine z_icmp_ge (a := j68) (b := 8) (tgt := 134) X rfl rfl (by omega) (by omega) dX9_laysThen_72 (by decide) (fun c_3 => ?_) (fun c_3 => ?_)
            · (exfalso; omega)
            · refine lv_aload_n hx hb dX9_laysThen_75 rfl (lv_at hl 3 rfl) ?_
              refine z_get X Z 0 rfl (rfl : zCl[7]? = some (RX9, TX9, 10)) zU_X9 4 (by decide) wF_X9_16 rfl rfl dX9_laysThen_76 ?_
              refine lv_iload hx hb dX9_laysThen_79 (lv_at hl 0 rfl) ?_
              refine lv_lload_n hx hb dX9_laysThen_81 rfl (lv_at hl 2 rfl) ?_
              refine lv_lconst (v := (0 : Int64)) hx hb dX9_laysThen_82 (by decide) ?_
              refine z_lc_ne (tgt := 91) X dX9_laysThen_83 dX9_laysThen_84 (by decide) (fun c_4 => ?_) (fun c_4 => ?_)
              · refine lv_aload_n hx hb dX9_laysThen_91 rfl (lv_at hl 3 rfl) ?_
                refine z_get X Z 0 rfl (rfl : zCl[7]? = some (RX9, TX9, 10)) zU_X9 4 (by decide) wF_X9_16 rfl rfl dX9_laysThen_92 ?_
                refine lv_iload hx hb dX9_laysThen_95 (lv_at hl 0 rfl) ?_
                refine z_lald (j := j68) X Z 3 rfl rfl (by omega) (by decide) dX9_laysThen_97 ?_
                refine lv_lload_n hx hb dX9_laysThen_98 rfl (lv_at hl 2 rfl) ?_
                refine lv_ldiv hx hb dX9_laysThen_99 c_4 ?_
                refine z_last (cs2 := [wMod g md MNow MPast MSav MRef (vp_updL v2 j68 ((v2 j68) / ((zl_X9_laysThen_5 MNow t k 8 0 (0 : Int64) MThen).1))) MLev MFst MWay MMost MHash]) (j := j68) (x := ((v2 j68) / ((zl_X9_laysThen_5 MNow t k 8 0 (0 : Int64) MThen).1))) X Z 3 rfl rfl (by omega) (by decide) rfl dX9_laysThen_100 (fun H locs Z => ?_)
                refine lv_aload_n hx hb dX9_laysThen_101 rfl (lv_at hl 3 rfl) ?_
                refine z_get X Z 0 rfl (rfl : zCl[7]? = some (RX9, TX9, 10)) zU_X9 4 (by decide) wF_X9_16 rfl rfl dX9_laysThen_102 ?_
                refine lv_iload hx hb dX9_laysThen_105 (lv_at hl 0 rfl) ?_
                refine z_lald (j := j68) X Z 3 rfl rfl (by omega) (by decide) dX9_laysThen_107 ?_
                refine lv_lload hx hb dX9_laysThen_108 (lv_at hl 1 rfl) ?_
                refine z_lc_le (tgt := 124) X dX9_laysThen_110 dX9_laysThen_111 (by decide) (fun c_5 => ?_) (fun c_5 => ?_)
                · refine lv_lload hx hb dX9_laysThen_124 (lv_at hl 1 rfl) ?_
                  refine lv_lstore (lv' := [(5, .long x5), (7, .int (nI j68)), (3, .long ((zl_X9_laysThen_5 MNow t k 8 0 (0 : Int64) MThen).1)), (0, .ref (md 0)), (1, .int (nI t)), (2, .int (nI k))]) hx hb dX9_laysThen_126 hl (by decide) rfl (fun ls hl => ?_)
                  refine z_iinc (b := (j68 + 1)) (st := 1) (lv' := [(7, .int (nI (j68 + 1))), (5, .long x5), (3, .long ((zl_X9_laysThen_5 MNow t k 8 0 (0 : Int64) MThen).1)), (0, .ref (md 0)), (1, .int (nI t)), (2, .int (nI k))]) X dX9_laysThen_128 hl (k := 1) rfl rfl (by decide) (by omega) (by decide) rfl (fun ls hl => ?_)
                  refine lv_goto (tgt := 68) hx hb dX9_laysThen_131 (by decide) ?_
                  exact ih68 (j68 + 1) x5 (vp_updL v2 j68 ((v2 j68) / ((zl_X9_laysThen_5 MNow t k 8 0 (0 : Int64) MThen).1))) (by omega) (by have h9 := hR68; rw [zl_X9_laysThen_68_s, if_neg c_4, if_pos c_5] at h9; exact h9) _ _ Z ls (lv_sub hl [0, 1, 2, 3, 4, 5] rfl)
                · refine lv_aload_n hx hb dX9_laysThen_114 rfl (lv_at hl 3 rfl) ?_
                  refine z_get X Z 0 rfl (rfl : zCl[7]? = some (RX9, TX9, 10)) zU_X9 4 (by decide) wF_X9_16 rfl rfl dX9_laysThen_115 ?_
                  refine lv_iload hx hb dX9_laysThen_118 (lv_at hl 0 rfl) ?_
                  refine z_lald (j := j68) X Z 3 rfl rfl (by omega) (by decide) dX9_laysThen_120 ?_
                  refine lv_goto (tgt := 126) hx hb dX9_laysThen_121 (by decide) ?_
                  refine lv_lstore (lv' := [(5, .long ((vp_updL v2 j68 ((v2 j68) / ((zl_X9_laysThen_5 MNow t k 8 0 (0 : Int64) MThen).1))) j68)), (7, .int (nI j68)), (3, .long ((zl_X9_laysThen_5 MNow t k 8 0 (0 : Int64) MThen).1)), (0, .ref (md 0)), (1, .int (nI t)), (2, .int (nI k))]) hx hb dX9_laysThen_126 hl (by decide) rfl (fun ls hl => ?_)
                  refine z_iinc (b := (j68 + 1)) (st := 1) (lv' := [(7, .int (nI (j68 + 1))), (5, .long ((vp_updL v2 j68 ((v2 j68) / ((zl_X9_laysThen_5 MNow t k 8 0 (0 : Int64) MThen).1))) j68)), (3, .long ((zl_X9_laysThen_5 MNow t k 8 0 (0 : Int64) MThen).1)), (0, .ref (md 0)), (1, .int (nI t)), (2, .int (nI k))]) X dX9_laysThen_128 hl (k := 1) rfl rfl (by decide) (by omega) (by decide) rfl (fun ls hl => ?_)
                  refine lv_goto (tgt := 68) hx hb dX9_laysThen_131 (by decide) ?_
                  exact ih68 (j68 + 1) ((vp_updL v2 j68 ((v2 j68) / ((zl_X9_laysThen_5 MNow t k 8 0 (0 : Int64) MThen).1))) j68) (vp_updL v2 j68 ((v2 j68) / ((zl_X9_laysThen_5 MNow t k 8 0 (0 : Int64) MThen).1))) (by omega) (by have h9 := hR68; rw [zl_X9_laysThen_68_s, if_neg c_4, if_neg c_5] at h9; exact h9) _ _ Z ls (lv_sub hl [0, 1, 2, 3, 4, 5] rfl)
              · refine lv_lconst (v := (0 : Int64)) hx hb dX9_laysThen_87 (by decide) ?_
                refine lv_goto (tgt := 100) hx hb dX9_laysThen_88 (by decide) ?_
                refine z_last (cs2 := [wMod g md MNow MPast MSav MRef (vp_updL v2 j68 (0 : Int64)) MLev MFst MWay MMost MHash]) (j := j68) (x := (0 : Int64)) X Z 3 rfl rfl (by omega) (by decide) rfl dX9_laysThen_100 (fun H locs Z => ?_)
                refine lv_aload_n hx hb dX9_laysThen_101 rfl (lv_at hl 3 rfl) ?_
                refine z_get X Z 0 rfl (rfl : zCl[7]? = some (RX9, TX9, 10)) zU_X9 4 (by decide) wF_X9_16 rfl rfl dX9_laysThen_102 ?_
                refine lv_iload hx hb dX9_laysThen_105 (lv_at hl 0 rfl) ?_
                refine z_lald (j := j68) X Z 3 rfl rfl (by omega) (by decide) dX9_laysThen_107 ?_
                refine lv_lload hx hb dX9_laysThen_108 (lv_at hl 1 rfl) ?_
                refine z_lc_le (tgt := 124) X dX9_laysThen_110 dX9_laysThen_111 (by decide) (fun c_6 => ?_) (fun c_6 => ?_)
                · refine lv_lload hx hb dX9_laysThen_124 (lv_at hl 1 rfl) ?_
                  refine lv_lstore (lv' := [(5, .long x5), (7, .int (nI j68)), (3, .long ((zl_X9_laysThen_5 MNow t k 8 0 (0 : Int64) MThen).1)), (0, .ref (md 0)), (1, .int (nI t)), (2, .int (nI k))]) hx hb dX9_laysThen_126 hl (by decide) rfl (fun ls hl => ?_)
                  refine z_iinc (b := (j68 + 1)) (st := 1) (lv' := [(7, .int (nI (j68 + 1))), (5, .long x5), (3, .long ((zl_X9_laysThen_5 MNow t k 8 0 (0 : Int64) MThen).1)), (0, .ref (md 0)), (1, .int (nI t)), (2, .int (nI k))]) X dX9_laysThen_128 hl (k := 1) rfl rfl (by decide) (by omega) (by decide) rfl (fun ls hl => ?_)
                  refine lv_goto (tgt := 68) hx hb dX9_laysThen_131 (by decide) ?_
                  exact ih68 (j68 + 1) x5 (vp_updL v2 j68 (0 : Int64)) (by omega) (by have h9 := hR68; rw [zl_X9_laysThen_68_s, if_pos c_4, if_pos c_6] at h9; exact h9) _ _ Z ls (lv_sub hl [0, 1, 2, 3, 4, 5] rfl)
                · refine lv_aload_n hx hb dX9_laysThen_114 rfl (lv_at hl 3 rfl) ?_
                  refine z_get X Z 0 rfl (rfl : zCl[7]? = some (RX9, TX9, 10)) zU_X9 4 (by decide) wF_X9_16 rfl rfl dX9_laysThen_115 ?_
                  refine lv_iload hx hb dX9_laysThen_118 (lv_at hl 0 rfl) ?_
                  refine z_lald (j := j68) X Z 3 rfl rfl (by omega) (by decide) dX9_laysThen_120 ?_
                  refine lv_goto (tgt := 126) hx hb dX9_laysThen_121 (by decide) ?_
                  refine lv_lstore (lv' := [(5, .long ((vp_updL v2 j68 (0 : Int64)) j68)), (7, .int (nI j68)), (3, .long ((zl_X9_laysThen_5 MNow t k 8 0 (0 : Int64) MThen).1)), (0, .ref (md 0)), (1, .int (nI t)), (2, .int (nI k))]) hx hb dX9_laysThen_126 hl (by decide) rfl (fun ls hl => ?_)
                  refine z_iinc (b := (j68 + 1)) (st := 1) (lv' := [(7, .int (nI (j68 + 1))), (5, .long ((vp_updL v2 j68 (0 : Int64)) j68)), (3, .long ((zl_X9_laysThen_5 MNow t k 8 0 (0 : Int64) MThen).1)), (0, .ref (md 0)), (1, .int (nI t)), (2, .int (nI k))]) X dX9_laysThen_128 hl (k := 1) rfl rfl (by decide) (by omega) (by decide) rfl (fun ls hl => ?_)
                  refine lv_goto (tgt := 68) hx hb dX9_laysThen_131 (by decide) ?_
                  exact ih68 (j68 + 1) ((vp_updL v2 j68 (0 : Int64)) j68) (vp_updL v2 j68 (0 : Int64)) (by omega) (by have h9 := hR68; rw [zl_X9_laysThen_68_s, if_pos c_4, if_neg c_6] at h9; exact h9) _ _ Z ls (lv_sub hl [0, 1, 2, 3, 4, 5] rfl)
        exact loop_68 8 0 (0 : Int64) ((zl_X9_laysThen_5 MNow t k 8 0 (0 : Int64) MThen).2) (by omega) rfl _ _ Z ls (lv_sub hl [0, 1, 2, 3, 4, 5] rfl)
      · (exfalso; omega)
    | succ n5 ih5 =>
      intro j5 x3 v1 hin5 hR5 i1 H locs Z ls hl
      refine lv_iload hx hb dX9_laysThen_5 (lv_at hl 0 rfl) ?_
      refine lv_bipush (v := (8 : Int32)) hx hb dX9_laysThen_7 (by decide) ?_
      refine z_icmp_ge (a := j5) (b := 8) (tgt := 62) X rfl rfl (by omega) (by omega) dX9_laysThen_9 (by decide) (fun c_7 => ?_) (fun c_7 => ?_)
      · (exfalso; omega)
      · refine lv_aload_n hx hb dX9_laysThen_12 rfl (lv_at hl 2 rfl) ?_
        refine z_get X Z 0 rfl (rfl : zCl[7]? = some (RX9, TX9, 10)) zU_X9 4 (by decide) wF_X9_16 rfl rfl dX9_laysThen_13 ?_
        refine lv_iload hx hb dX9_laysThen_16 (lv_at hl 0 rfl) ?_
        refine lv_aload_n hx hb dX9_laysThen_18 rfl (lv_at hl 2 rfl) ?_
        refine z_get X Z 0 rfl (rfl : zCl[7]? = some (RX9, TX9, 10)) zU_X9 0 (by decide) wF_X9_7 rfl rfl dX9_laysThen_19 ?_
        refine lv_bipush (v := (35 : Int32)) hx hb dX9_laysThen_22 (by decide) ?_
        refine lv_iload hx hb dX9_laysThen_24 (lv_at hl 0 rfl) ?_
        refine z_iadd (a := 35) (b := j5) X rfl rfl dX9_laysThen_26 ?_
        refine z_lald (j := (35 + j5)) X Z 1 rfl rfl (by omega) (by decide) dX9_laysThen_27 ?_
        refine lv_aload_n hx hb dX9_laysThen_28 rfl (lv_at hl 2 rfl) ?_
        refine z_get X Z 0 rfl (rfl : zCl[7]? = some (RX9, TX9, 10)) zU_X9 0 (by decide) wF_X9_7 rfl rfl dX9_laysThen_29 ?_
        refine lv_aload_n hx hb dX9_laysThen_32 rfl (lv_at hl 2 rfl) ?_
        refine lv_iload_n hx hb dX9_laysThen_33 rfl (lv_at hl 3 rfl) ?_
        refine lv_iload hx hb dX9_laysThen_34 (lv_at hl 0 rfl) ?_
        refine z_callV (mc := 0) (ms := 0) (As := [.int (nI t), .int (nI j5)]) (rest := [.ref (md 1), .long (MNow (35 + j5)), .int (nI j5), .ref (md 3)]) (st2 := [.int (nI (44 + 3 * (8 * t + j5))), .ref (md 1), .long (MNow (35 + j5)), .int (nI j5), .ref (md 3)]) (cs2 := [wMod g md MNow MPast MSav MRef v1 MLev MFst MWay MMost MHash]) X Z [0] [] [0] 0 7 (zc_X9_chanceAt l g B md MNow MPast MSav MRef v1 MLev MFst MWay MMost MHash t j5) wM_X9_125 wS_X9_chanceAt wV_X9_chanceAt wK_X9_chanceAt wZ_X9 2 1 1 rfl (by decide +kernel) rfl (by decide) rfl rfl rfl (by decide) rfl rfl (rfl : zCl[7]? = some (RX9, TX9, 10)) hl.1 rfl rfl (by rw [hRf, hRl]; exact ⟨Nat.le_of_ble_eq_true rfl, Nat.le_of_ble_eq_true rfl⟩) (Nat.le_of_ble_eq_true rfl) ⟨Nat.zero_le _, Nat.zero_le _⟩ dX9_laysThen_36 (fun H locs Z => ?_)
        refine lv_iload_n hx hb dX9_laysThen_39 rfl (lv_at hl 4 rfl) ?_
        refine z_iadd (a := (44 + 3 * (8 * t + j5))) (b := k) X rfl rfl dX9_laysThen_40 ?_
        refine z_lald (j := ((44 + 3 * (8 * t + j5)) + k)) X Z 1 rfl rfl (by omega) (by decide) dX9_laysThen_41 ?_
        refine lv_lmul hx hb dX9_laysThen_42 ?_
        refine z_last (cs2 := [wMod g md MNow MPast MSav MRef (vp_updL v1 j5 ((MNow (35 + j5)) * (MNow ((44 + 3 * (8 * t + j5)) + k)))) MLev MFst MWay MMost MHash]) (j := j5) (x := ((MNow (35 + j5)) * (MNow ((44 + 3 * (8 * t + j5)) + k)))) X Z 3 rfl rfl (by omega) (by decide) rfl dX9_laysThen_43 (fun H locs Z => ?_)
        refine lv_lload_n hx hb dX9_laysThen_44 rfl (lv_at hl 1 rfl) ?_
        refine lv_aload_n hx hb dX9_laysThen_45 rfl (lv_at hl 2 rfl) ?_
        refine z_get X Z 0 rfl (rfl : zCl[7]? = some (RX9, TX9, 10)) zU_X9 4 (by decide) wF_X9_16 rfl rfl dX9_laysThen_46 ?_
        refine lv_iload hx hb dX9_laysThen_49 (lv_at hl 0 rfl) ?_
        refine z_lald (j := j5) X Z 3 rfl rfl (by omega) (by decide) dX9_laysThen_51 ?_
        refine z_callS (mc := 0) (ms := 0) (As := [.long x3, .long ((vp_updL v1 j5 ((MNow (35 + j5)) * (MNow ((44 + 3 * (8 * t + j5)) + k)))) j5)]) (rest := []) (st2 := [.long (zf_X9_divisor x3 ((vp_updL v1 j5 ((MNow (35 + j5)) * (MNow ((44 + 3 * (8 * t + j5)) + k)))) j5))]) (cs2 := [wMod g md MNow MPast MSav MRef (vp_updL v1 j5 ((MNow (35 + j5)) * (MNow ((44 + 3 * (8 * t + j5)) + k)))) MLev MFst MWay MMost MHash]) X Z [] [0] [0] (zc_X9_divisor l g B x3 ((vp_updL v1 j5 ((MNow (35 + j5)) * (MNow ((44 + 3 * (8 * t + j5)) + k)))) j5) i1 (by rw [zuL_eq]; exact hw _ (by omega))) wM_X9_48 wS_X9_divisor wK_X9_divisor wZ_X9 2 1 1 rfl (by decide +kernel) rfl (by decide) rfl rfl rfl (by decide) rfl hl.1 rfl rfl (by rw [hRf, hRl]; exact ⟨Nat.le_of_ble_eq_true rfl, Nat.le_of_ble_eq_true rfl⟩) (Nat.le_of_ble_eq_true rfl) ⟨Nat.zero_le _, Nat.zero_le _⟩ dX9_laysThen_52 (fun H locs Z => ?_)
        refine lv_lstore_n (lv' := [(3, .long (zf_X9_divisor x3 ((vp_updL v1 j5 ((MNow (35 + j5)) * (MNow ((44 + 3 * (8 * t + j5)) + k)))) j5))), (5, .int (nI j5)), (0, .ref (md 0)), (1, .int (nI t)), (2, .int (nI k))]) hx hb dX9_laysThen_55 rfl hl (by decide) rfl (fun ls hl => ?_)
        refine z_iinc (b := (j5 + 1)) (st := 1) (lv' := [(5, .int (nI (j5 + 1))), (3, .long (zf_X9_divisor x3 ((vp_updL v1 j5 ((MNow (35 + j5)) * (MNow ((44 + 3 * (8 * t + j5)) + k)))) j5))), (0, .ref (md 0)), (1, .int (nI t)), (2, .int (nI k))]) X dX9_laysThen_56 hl (k := 1) rfl rfl (by decide) (by omega) (by decide) rfl (fun ls hl => ?_)
        refine lv_goto (tgt := 5) hx hb dX9_laysThen_59 (by decide) ?_
        exact ih5 (j5 + 1) (zf_X9_divisor x3 ((vp_updL v1 j5 ((MNow (35 + j5)) * (MNow ((44 + 3 * (8 * t + j5)) + k)))) j5)) (vp_updL v1 j5 ((MNow (35 + j5)) * (MNow ((44 + 3 * (8 * t + j5)) + k)))) (by omega) (by have h9 := hR5; rw [zl_X9_laysThen_5_s] at h9; exact h9) (zdiv_ne _ _ i1 (by rw [zuL_eq]; exact hw _ (by omega))) _ _ Z ls (lv_sub hl [0, 1, 2, 3, 4] rfl)
  exact loop_5 8 0 (0 : Int64) MThen (by omega) rfl (show ¬ (0 : Int64) = -9223372036854775808 by decide) _ _ Z ls (lv_sub hl [0, 1, 2, 3, 4] rfl)
def zl_X9_observe_88 (MNow : Nat → Int64) (MThen : Nat → Int64) (t : Int32) (k : Int32) : Nat → Int32 → (Nat → Int64) → Int32 × (Nat → Int64)
  | 0, x5, v1 => (x5, v1)
  | n88 + 1, x5, v1 => (if (((zf_X9_laysThen MNow MThen (zi t) (zi k)).2) n88) = ((zf_X9_laysThen MNow MThen (zi t) (zi k)).1) then zl_X9_observe_88 MNow MThen t k n88 (nI n88) (vp_updL v1 (35 + n88) (((zf_X9_laysThen MNow MThen (zi t) (zi k)).2) n88)) else zl_X9_observe_88 MNow MThen t k n88 x5 (vp_updL v1 (35 + n88) (((zf_X9_laysThen MNow MThen (zi t) (zi k)).2) n88)))
theorem zl_X9_observe_88_s (MNow : Nat → Int64) (MThen : Nat → Int64) (t : Int32) (k : Int32) (n88 : Nat) (x5 : Int32) (v1 : Nat → Int64) : zl_X9_observe_88 MNow MThen t k (n88 + 1) x5 v1 = (if (((zf_X9_laysThen MNow MThen (zi t) (zi k)).2) n88) = ((zf_X9_laysThen MNow MThen (zi t) (zi k)).1) then zl_X9_observe_88 MNow MThen t k n88 (nI n88) (vp_updL v1 (35 + n88) (((zf_X9_laysThen MNow MThen (zi t) (zi k)).2) n88)) else zl_X9_observe_88 MNow MThen t k n88 x5 (vp_updL v1 (35 + n88) (((zf_X9_laysThen MNow MThen (zi t) (zi k)).2) n88))) := by rw [zl_X9_observe_88]
def zf_X9_observe (MNow : Nat → Int64) (MPast : Nat → Int64) (MSav : Nat) (MThen : Nat → Int64) (t : Int32) (k : Int32) : Int32 × Int32 × (Nat → Int64) × (Nat → Int64) × Nat × (Nat → Int64) := (if (zf_X9_isTest MNow t) = true then (if (zf_X9_within k.toInt64 (0 : Int64) (2 : Int64)) = true then (if ((zf_X9_laysThen MNow MThen (zi t) (zi k)).1) = (0 : Int64) then ((0 : Int32), (zf_X9_refused_3), MNow, MPast, MSav, ((zf_X9_laysThen MNow MThen (zi t) (zi k)).2)) else (if ((zf_X9_laysThen MNow MThen (zi t) (zi k)).1) ≤ (1000000000000000 : Int64) then (((zl_X9_observe_88 MNow MThen t k 8 (-1 : Int32) MNow).1), (zf_X9_refused_0), ((zl_X9_observe_88 MNow MThen t k 8 (-1 : Int32) MNow).2), ((zf_X9_saves MNow MPast MSav).1), ((zf_X9_saves MNow MPast MSav).2), ((zf_X9_laysThen MNow MThen (zi t) (zi k)).2)) else ((0 : Int32), (zf_X9_refused_4), MNow, MPast, MSav, ((zf_X9_laysThen MNow MThen (zi t) (zi k)).2)))) else ((0 : Int32), (zf_X9_refused_2), MNow, MPast, MSav, MThen)) else ((0 : Int32), (zf_X9_refused_1), MNow, MPast, MSav, MThen))
theorem zf_X9_observe_e (MNow : Nat → Int64) (MPast : Nat → Int64) (MSav : Nat) (MThen : Nat → Int64) (t : Int32) (k : Int32) : zf_X9_observe MNow MPast MSav MThen t k = (if (zf_X9_isTest MNow t) = true then (if (zf_X9_within k.toInt64 (0 : Int64) (2 : Int64)) = true then (if ((zf_X9_laysThen MNow MThen (zi t) (zi k)).1) = (0 : Int64) then ((0 : Int32), (zf_X9_refused_3), MNow, MPast, MSav, ((zf_X9_laysThen MNow MThen (zi t) (zi k)).2)) else (if ((zf_X9_laysThen MNow MThen (zi t) (zi k)).1) ≤ (1000000000000000 : Int64) then (((zl_X9_observe_88 MNow MThen t k 8 (-1 : Int32) MNow).1), (zf_X9_refused_0), ((zl_X9_observe_88 MNow MThen t k 8 (-1 : Int32) MNow).2), ((zf_X9_saves MNow MPast MSav).1), ((zf_X9_saves MNow MPast MSav).2), ((zf_X9_laysThen MNow MThen (zi t) (zi k)).2)) else ((0 : Int32), (zf_X9_refused_4), MNow, MPast, MSav, ((zf_X9_laysThen MNow MThen (zi t) (zi k)).2)))) else ((0 : Int32), (zf_X9_refused_2), MNow, MPast, MSav, MThen)) else ((0 : Int32), (zf_X9_refused_1), MNow, MPast, MSav, MThen)) := by rw [zf_X9_observe]
set_option maxHeartbeats 4000000 in
set_option maxRecDepth 100000 in
theorem zc_X9_observe (l : Launch) (g : zG) (B : Nat) (md : Nat → Nat) (MNow : Nat → Int64) (MPast : Nat → Int64) (MSav : Nat) (MRef : Int32) (MThen : Nat → Int64) (MLev : Nat → Int64) (MFst : Int32) (MWay : Nat → Int64) (MMost : Nat → Int32) (MHash : Int64) (t : Int32) (k : Int32) (hN : zNow MNow) (hs : MSav ≤ 4) (hw : ∀ t k j, t < 10 → k < 3 → j < 8 → zNM ((MNow (35 + j)) * (MNow ((44 + 3 * (8 * t + j)) + k)))) : zMet l g B yX9_observe cX9_observe 7 (some .int) 4 160 0 0 [.ref (md 0), .int t, .int k] [wMod g md MNow MPast MSav MRef MThen MLev MFst MWay MMost MHash] (zDet (some (.int ((zf_X9_observe MNow MPast MSav MThen t k).1))) [wMod g md ((zf_X9_observe MNow MPast MSav MThen t k).2.2.1) ((zf_X9_observe MNow MPast MSav MThen t k).2.2.2.1) ((zf_X9_observe MNow MPast MSav MThen t k).2.2.2.2.1) ((zf_X9_observe MNow MPast MSav MThen t k).2.1) ((zf_X9_observe MNow MPast MSav MThen t k).2.2.2.2.2) MLev MFst MWay MMost MHash]) := by
  refine z_in (plainFor_of_name (by decide)) (Nat.le_of_ble_eq_true rfl) (fun p e R s m args below meth c A Q hRf hRl hRc hRs X Z hnm E ls hl => ?_)
  have hx := X.1
  have hb := X.2.1
  have hown := X.2.2.2.1
  have hts := X.2.2.2.2.1
  have hl : lv_has ls 7 [(0, .ref (md 0)), (1, .int t), (2, .int k)] := hl
  have hN2 := hN; obtain ⟨he9, hb9, he34, hb34, he43, hb43, he284, hb284, he301, hb301⟩ := hN2
  refine lv_aload_n hx hb dX9_observe_0 rfl (lv_at hl 0 rfl) ?_
  refine lv_aload_n hx hb dX9_observe_1 rfl (lv_at hl 0 rfl) ?_
  refine lv_iload_n hx hb dX9_observe_2 rfl (lv_at hl 1 rfl) ?_
  refine z_callV (mc := 0) (ms := 0) (As := [.int t]) (rest := [.ref (md 0)]) (st2 := [.int (zB (zf_X9_isTest MNow t)), .ref (md 0)]) (cs2 := [wMod g md MNow MPast MSav MRef MThen MLev MFst MWay MMost MHash]) X Z [0] [] [0] 0 7 (zc_X9_isTest l g B md MNow MPast MSav MRef MThen MLev MFst MWay MMost MHash t (by first | assumption | omega | decide)) wM_X9_139 wS_X9_isTest wV_X9_isTest wK_X9_isTest wZ_X9 1 1 1 rfl (by decide +kernel) rfl (by decide) rfl rfl rfl (by decide) rfl rfl (rfl : zCl[7]? = some (RX9, TX9, 10)) hl.1 rfl rfl (by rw [hRf, hRl]; exact ⟨Nat.le_of_ble_eq_true rfl, Nat.le_of_ble_eq_true rfl⟩) (Nat.le_of_ble_eq_true rfl) ⟨Nat.zero_le _, Nat.zero_le _⟩ dX9_observe_3 (fun H locs Z => ?_)
  refine z_ifneB (b := (zf_X9_isTest MNow t)) (tgt := 13) X dX9_observe_6 (by decide) (fun c_1 => ?_) (fun c_1 => ?_)
  · refine lv_iload_n hx hb dX9_observe_13 rfl (lv_at hl 2 rfl) ?_
    refine lv_i2l hx hb dX9_observe_14 rfl ?_
    refine lv_lconst (v := (0 : Int64)) hx hb dX9_observe_15 (by decide) ?_
    refine lv_ldc2 (v := (2 : Int64)) hx hb hown (hts _ wL_X9_33) dX9_observe_16 ?_
    refine z_callS (mc := 0) (ms := 0) (As := [.long k.toInt64, .long (0 : Int64), .long (2 : Int64)]) (rest := [.ref (md 0)]) (st2 := [.int (zB (zf_X9_within k.toInt64 (0 : Int64) (2 : Int64))), .ref (md 0)]) (cs2 := [wMod g md MNow MPast MSav MRef MThen MLev MFst MWay MMost MHash]) X Z [] [0] [0] (zc_X9_within l g B k.toInt64 (0 : Int64) (2 : Int64)) wM_X9_44 wS_X9_within wK_X9_within wZ_X9 3 1 1 rfl (by decide +kernel) rfl (by decide) rfl rfl rfl (by decide) rfl hl.1 rfl rfl (by rw [hRf, hRl]; exact ⟨Nat.le_of_ble_eq_true rfl, Nat.le_of_ble_eq_true rfl⟩) (Nat.le_of_ble_eq_true rfl) ⟨Nat.zero_le _, Nat.zero_le _⟩ dX9_observe_19 (fun H locs Z => ?_)
    refine z_ifeqB (b := (zf_X9_within k.toInt64 (0 : Int64) (2 : Int64))) (tgt := 29) X dX9_observe_22 (by decide) (fun c_2 => ?_) (fun c_2 => ?_)
    · refine lv_iconst (v := (2 : Int32)) hx hb dX9_observe_29 (by decide) ?_
      refine z_callV (mc := 0) (ms := 0) (As := [.int (2 : Int32)]) (rest := []) (st2 := [.int (1 : Int32)]) (cs2 := [wMod g md MNow MPast MSav (zf_X9_refused_2) MThen MLev MFst MWay MMost MHash]) X Z [0] [] [0] 0 7 (zc_X9_refused_2 l g B md MNow MPast MSav MRef MThen MLev MFst MWay MMost MHash) wM_X9_55 wS_X9_refused wV_X9_refused wK_X9_refused wZ_X9 1 1 1 rfl (by decide +kernel) rfl (by decide) rfl rfl rfl (by decide) rfl rfl (rfl : zCl[7]? = some (RX9, TX9, 10)) hl.1 rfl rfl (by rw [hRf, hRl]; exact ⟨Nat.le_of_ble_eq_true rfl, Nat.le_of_ble_eq_true rfl⟩) (Nat.le_of_ble_eq_true rfl) ⟨Nat.zero_le _, Nat.zero_le _⟩ dX9_observe_30 (fun H locs Z => ?_)
      refine lv_if_eq (tgt := 38) hx hb dX9_observe_33 (by decide) (fun c_3 => ?_) (fun c_3 => ?_)
      · (exact absurd c_3 (by decide))
      · refine lv_iconst (v := (0 : Int32)) hx hb dX9_observe_36 (by decide) ?_
        exact z_ri (v := (0 : Int32)) E Z rfl (by rw [zf_X9_observe_e, if_pos c_1, if_neg (zBf c_2)]; dsimp only; exact ⟨rfl, rfl⟩) dX9_observe_37 (Nat.zero_le _) (Nat.zero_le _)
    · refine lv_iconst (v := (0 : Int32)) hx hb dX9_observe_25 (by decide) ?_
      refine lv_goto (tgt := 30) hx hb dX9_observe_26 (by decide) ?_
      refine z_callV (mc := 0) (ms := 0) (As := [.int (0 : Int32)]) (rest := []) (st2 := [.int (0 : Int32)]) (cs2 := [wMod g md MNow MPast MSav (zf_X9_refused_0) MThen MLev MFst MWay MMost MHash]) X Z [0] [] [0] 0 7 (zc_X9_refused_0 l g B md MNow MPast MSav MRef MThen MLev MFst MWay MMost MHash) wM_X9_55 wS_X9_refused wV_X9_refused wK_X9_refused wZ_X9 1 1 1 rfl (by decide +kernel) rfl (by decide) rfl rfl rfl (by decide) rfl rfl (rfl : zCl[7]? = some (RX9, TX9, 10)) hl.1 rfl rfl (by rw [hRf, hRl]; exact ⟨Nat.le_of_ble_eq_true rfl, Nat.le_of_ble_eq_true rfl⟩) (Nat.le_of_ble_eq_true rfl) ⟨Nat.zero_le _, Nat.zero_le _⟩ dX9_observe_30 (fun H locs Z => ?_)
      refine lv_if_eq (tgt := 38) hx hb dX9_observe_33 (by decide) (fun c_4 => ?_) (fun c_4 => ?_)
      · obtain ⟨ek1, hk1⟩ := (zok_test c_1 hb43 : t = nI (zi t) ∧ _)
        have hl : lv_has ls 7 [(0, .ref (md 0)), (1, .int (nI (zi t))), (2, .int k)] := by rw [← ek1]; exact hl
        obtain ⟨ek2, hk2⟩ := (zok_w2 (u := 0) (v := 2) rfl rfl c_2 (by decide) (by decide) : k = nI (zi k) ∧ _)
        have hl : lv_has ls 7 [(0, .ref (md 0)), (1, .int (nI (zi t))), (2, .int (nI (zi k)))] := by rw [← ek2]; exact hl
        refine lv_aload_n hx hb dX9_observe_38 rfl (lv_at hl 0 rfl) ?_
        refine lv_iload_n hx hb dX9_observe_39 rfl (lv_at hl 1 rfl) ?_
        refine lv_iload_n hx hb dX9_observe_40 rfl (lv_at hl 2 rfl) ?_
        refine z_callV (mc := 0) (ms := 0) (As := [.int (nI (zi t)), .int (nI (zi k))]) (rest := []) (st2 := [.long ((zf_X9_laysThen MNow MThen (zi t) (zi k)).1)]) (cs2 := [wMod g md MNow MPast MSav (zf_X9_refused_0) ((zf_X9_laysThen MNow MThen (zi t) (zi k)).2) MLev MFst MWay MMost MHash]) X Z [0] [] [0] 0 7 (zc_X9_laysThen l g B md MNow MPast MSav (zf_X9_refused_0) MThen MLev MFst MWay MMost MHash (zi t) (zi k) (by first | assumption | omega | decide) (by first | assumption | omega | decide) (fun j hj => hw (zi t) (zi k) j (by omega) (by omega) hj)) wM_X9_144 wS_X9_laysThen wV_X9_laysThen wK_X9_laysThen wZ_X9 2 1 1 rfl (by decide +kernel) rfl (by decide) rfl rfl rfl (by decide) rfl rfl (rfl : zCl[7]? = some (RX9, TX9, 10)) hl.1 rfl rfl (by rw [hRf, hRl]; exact ⟨Nat.le_of_ble_eq_true rfl, Nat.le_of_ble_eq_true rfl⟩) (Nat.le_of_ble_eq_true rfl) ⟨Nat.zero_le _, Nat.zero_le _⟩ dX9_observe_41 (fun H locs Z => ?_)
        refine lv_lstore_n (lv' := [(3, .long ((zf_X9_laysThen MNow MThen (zi t) (zi k)).1)), (0, .ref (md 0)), (1, .int (nI (zi t))), (2, .int (nI (zi k)))]) hx hb dX9_observe_44 rfl hl (by decide) rfl (fun ls hl => ?_)
        refine lv_aload_n hx hb dX9_observe_45 rfl (lv_at hl 1 rfl) ?_
        refine lv_lload_n hx hb dX9_observe_46 rfl (lv_at hl 0 rfl) ?_
        refine lv_lconst (v := (0 : Int64)) hx hb dX9_observe_47 (by decide) ?_
        refine z_lc_ne (tgt := 56) X dX9_observe_48 dX9_observe_49 (by decide) (fun c_5 => ?_) (fun c_5 => ?_)
        · refine lv_lload_n hx hb dX9_observe_56 rfl (lv_at hl 0 rfl) ?_
          refine lv_ldc2 (v := (1000000000000000 : Int64)) hx hb hown (hts _ wL_X9_119) dX9_observe_57 ?_
          refine z_lc_le (tgt := 68) X dX9_observe_60 dX9_observe_61 (by decide) (fun c_6 => ?_) (fun c_6 => ?_)
          · refine lv_iconst (v := (0 : Int32)) hx hb dX9_observe_68 (by decide) ?_
            refine z_callV (mc := 0) (ms := 0) (As := [.int (0 : Int32)]) (rest := []) (st2 := [.int (0 : Int32)]) (cs2 := [wMod g md MNow MPast MSav (zf_X9_refused_0) ((zf_X9_laysThen MNow MThen (zi t) (zi k)).2) MLev MFst MWay MMost MHash]) X Z [0] [] [0] 0 7 (zc_X9_refused_0 l g B md MNow MPast MSav (zf_X9_refused_0) ((zf_X9_laysThen MNow MThen (zi t) (zi k)).2) MLev MFst MWay MMost MHash) wM_X9_55 wS_X9_refused wV_X9_refused wK_X9_refused wZ_X9 1 1 1 rfl (by decide +kernel) rfl (by decide) rfl rfl rfl (by decide) rfl rfl (rfl : zCl[7]? = some (RX9, TX9, 10)) hl.1 rfl rfl (by rw [hRf, hRl]; exact ⟨Nat.le_of_ble_eq_true rfl, Nat.le_of_ble_eq_true rfl⟩) (Nat.le_of_ble_eq_true rfl) ⟨Nat.zero_le _, Nat.zero_le _⟩ dX9_observe_69 (fun H locs Z => ?_)
            refine lv_if_eq (tgt := 77) hx hb dX9_observe_72 (by decide) (fun c_7 => ?_) (fun c_7 => ?_)
            · refine lv_aload_n hx hb dX9_observe_77 rfl (lv_at hl 1 rfl) ?_
              refine z_callV (mc := 0) (ms := 0) (As := []) (rest := []) (st2 := []) (cs2 := [wMod g md MNow ((zf_X9_saves MNow MPast MSav).1) ((zf_X9_saves MNow MPast MSav).2) (zf_X9_refused_0) ((zf_X9_laysThen MNow MThen (zi t) (zi k)).2) MLev MFst MWay MMost MHash]) X Z [0] [] [0] 0 7 (zc_X9_saves l g B md MNow MPast MSav (zf_X9_refused_0) ((zf_X9_laysThen MNow MThen (zi t) (zi k)).2) MLev MFst MWay MMost MHash (by first | assumption | omega | decide)) wM_X9_87 wS_X9_saves wV_X9_saves wK_X9_saves wZ_X9 0 1 1 rfl (by decide +kernel) rfl (by decide) rfl rfl rfl (by decide) rfl rfl (rfl : zCl[7]? = some (RX9, TX9, 10)) hl.1 rfl rfl (by rw [hRf, hRl]; exact ⟨Nat.le_of_ble_eq_true rfl, Nat.le_of_ble_eq_true rfl⟩) (Nat.le_of_ble_eq_true rfl) ⟨Nat.zero_le _, Nat.zero_le _⟩ dX9_observe_78 (fun H locs Z => ?_)
              refine lv_iconst (v := (-1 : Int32)) hx hb dX9_observe_81 (by decide) ?_
              refine lv_istore (lv' := [(5, .int (-1 : Int32)), (3, .long ((zf_X9_laysThen MNow MThen (zi t) (zi k)).1)), (0, .ref (md 0)), (1, .int (nI (zi t))), (2, .int (nI (zi k)))]) hx hb dX9_observe_82 hl (by decide) rfl (fun ls hl => ?_)
              refine lv_bipush (v := (7 : Int32)) hx hb dX9_observe_84 (by decide) ?_
              refine lv_istore (lv' := [(6, .int (7 : Int32)), (5, .int (-1 : Int32)), (3, .long ((zf_X9_laysThen MNow MThen (zi t) (zi k)).1)), (0, .ref (md 0)), (1, .int (nI (zi t))), (2, .int (nI (zi k)))]) hx hb dX9_observe_86 hl (by decide) rfl (fun ls hl => ?_)
              have loop_88 : ∀ (n88 : Nat) (x5 : Int32) (v1 : Nat → Int64), n88 ≤ 8 → zl_X9_observe_88 MNow MThen t k n88 x5 v1 = (zl_X9_observe_88 MNow MThen t k 8 (-1 : Int32) MNow) → ∀ (H : Heap) (locs : List Loc), zM g B A s [wMod g md v1 ((zf_X9_saves MNow MPast MSav).1) ((zf_X9_saves MNow MPast MSav).2) (zf_X9_refused_0) ((zf_X9_laysThen MNow MThen (zi t) (zi k)).2) MLev MFst MWay MMost MHash] H locs → ∀ ls : Array Slot, lv_has ls 7 [(6, .int (nI n88 - 1)), (5, .int x5), (3, .long ((zf_X9_laysThen MNow MThen (zi t) (zi k)).1)), (0, .ref (md 0)), (1, .int (nI (zi t))), (2, .int (nI (zi k)))] → W p l e R s m args below meth c H locs 0 0 Q (F0 m 88 ls []) := by
                intro n88
                induction n88 with
                | zero =>
                  intro x5 v1 hin88 hR88 H locs Z ls hl
                  have e_x5 : (zl_X9_observe_88 MNow MThen t k 8 (-1 : Int32) MNow).1 = x5 := (by rw [← hR88]; rfl)
                  have e_v1 : (zl_X9_observe_88 MNow MThen t k 8 (-1 : Int32) MNow).2 = v1 := (by rw [← hR88]; rfl)
                  subst e_x5
                  subst e_v1
                  have hl : lv_has ls 7 [(6, .int (-1 : Int32)), (5, .int ((zl_X9_observe_88 MNow MThen t k 8 (-1 : Int32) MNow).1)), (3, .long ((zf_X9_laysThen MNow MThen (zi t) (zi k)).1)), (0, .ref (md 0)), (1, .int (nI (zi t))), (2, .int (nI (zi k)))] := hl
                  refine lv_iload hx hb dX9_observe_88 (lv_at hl 0 rfl) ?_
                  refine lv_if_lt (tgt := 137) hx hb dX9_observe_90 (by decide) (fun c_8 => ?_) (fun c_8 => ?_)
                  · refine lv_iload hx hb dX9_observe_137 (lv_at hl 1 rfl) ?_
                    exact z_ri (v := ((zl_X9_observe_88 MNow MThen t k 8 (-1 : Int32) MNow).1)) E Z rfl (by rw [zf_X9_observe_e, if_pos c_1, if_pos c_2, if_neg c_5, if_pos c_6]; dsimp only; exact ⟨rfl, rfl⟩) dX9_observe_139 (Nat.zero_le _) (Nat.zero_le _)
                  · (exact absurd c_8 (by decide))
                | succ n88 ih88 =>
                  intro x5 v1 hin88 hR88 H locs Z ls hl
                  rw [nI_pred] at hl
                  refine lv_iload hx hb dX9_observe_88 (lv_at hl 0 rfl) ?_
                  refine z_ifltN (a := n88) (tgt := 137) X rfl (by omega) dX9_observe_90 (by decide) (fun c_9 => ?_) (fun c_9 => ?_)
                  · exact (c_9).elim
                  · refine lv_aload_n hx hb dX9_observe_93 rfl (lv_at hl 3 rfl) ?_
                    refine z_get X Z 0 rfl (rfl : zCl[7]? = some (RX9, TX9, 10)) zU_X9 0 (by decide) wF_X9_7 rfl rfl dX9_observe_94 ?_
                    refine lv_bipush (v := (35 : Int32)) hx hb dX9_observe_97 (by decide) ?_
                    refine lv_iload hx hb dX9_observe_99 (lv_at hl 0 rfl) ?_
                    refine z_iadd (a := 35) (b := n88) X rfl rfl dX9_observe_101 ?_
                    refine lv_aload_n hx hb dX9_observe_102 rfl (lv_at hl 3 rfl) ?_
                    refine z_get X Z 0 rfl (rfl : zCl[7]? = some (RX9, TX9, 10)) zU_X9 4 (by decide) wF_X9_16 rfl rfl dX9_observe_103 ?_
                    refine lv_iload hx hb dX9_observe_106 (lv_at hl 0 rfl) ?_
                    refine z_lald (j := n88) X Z 3 rfl rfl (by omega) (by decide) dX9_observe_108 ?_
                    refine z_last (cs2 := [wMod g md (vp_updL v1 (35 + n88) (((zf_X9_laysThen MNow MThen (zi t) (zi k)).2) n88)) ((zf_X9_saves MNow MPast MSav).1) ((zf_X9_saves MNow MPast MSav).2) (zf_X9_refused_0) ((zf_X9_laysThen MNow MThen (zi t) (zi k)).2) MLev MFst MWay MMost MHash]) (j := (35 + n88)) (x := (((zf_X9_laysThen MNow MThen (zi t) (zi k)).2) n88)) X Z 1 rfl rfl (by omega) (by decide) rfl dX9_observe_109 (fun H locs Z => ?_)
                    refine lv_aload_n hx hb dX9_observe_110 rfl (lv_at hl 3 rfl) ?_
                    refine z_get X Z 0 rfl (rfl : zCl[7]? = some (RX9, TX9, 10)) zU_X9 4 (by decide) wF_X9_16 rfl rfl dX9_observe_111 ?_
                    refine lv_iload hx hb dX9_observe_114 (lv_at hl 0 rfl) ?_
                    refine z_lald (j := n88) X Z 3 rfl rfl (by omega) (by decide) dX9_observe_116 ?_
                    refine lv_lload_n hx hb dX9_observe_117 rfl (lv_at hl 2 rfl) ?_
                    refine z_lc_ne (tgt := 127) X dX9_observe_118 dX9_observe_119 (by decide) (fun c_10 => ?_) (fun c_10 => ?_)
                    · refine lv_iload hx hb dX9_observe_127 (lv_at hl 1 rfl) ?_
                      refine lv_istore (lv' := [(5, .int x5), (6, .int (nI n88)), (3, .long ((zf_X9_laysThen MNow MThen (zi t) (zi k)).1)), (0, .ref (md 0)), (1, .int (nI (zi t))), (2, .int (nI (zi k)))]) hx hb dX9_observe_129 hl (by decide) rfl (fun ls hl => ?_)
                      refine lv_iinc (v := (nI n88 - 1)) (lv' := [(6, .int (nI n88 - 1)), (5, .int x5), (3, .long ((zf_X9_laysThen MNow MThen (zi t) (zi k)).1)), (0, .ref (md 0)), (1, .int (nI (zi t))), (2, .int (nI (zi k)))]) hx hb dX9_observe_131 hl (k := 1) rfl (zdn _) (by decide) rfl (fun ls hl => ?_)
                      refine lv_goto (tgt := 88) hx hb dX9_observe_134 (by decide) ?_
                      exact ih88 x5 (vp_updL v1 (35 + n88) (((zf_X9_laysThen MNow MThen (zi t) (zi k)).2) n88)) (by omega) (by have h9 := hR88; rw [zl_X9_observe_88_s, if_neg c_10] at h9; exact h9) _ _ Z ls (lv_sub hl [0, 1, 2, 3, 4, 5] rfl)
                    · refine lv_iload hx hb dX9_observe_122 (lv_at hl 0 rfl) ?_
                      refine lv_goto (tgt := 129) hx hb dX9_observe_124 (by decide) ?_
                      refine lv_istore (lv' := [(5, .int (nI n88)), (6, .int (nI n88)), (3, .long ((zf_X9_laysThen MNow MThen (zi t) (zi k)).1)), (0, .ref (md 0)), (1, .int (nI (zi t))), (2, .int (nI (zi k)))]) hx hb dX9_observe_129 hl (by decide) rfl (fun ls hl => ?_)
                      refine lv_iinc (v := (nI n88 - 1)) (lv' := [(6, .int (nI n88 - 1)), (5, .int (nI n88)), (3, .long ((zf_X9_laysThen MNow MThen (zi t) (zi k)).1)), (0, .ref (md 0)), (1, .int (nI (zi t))), (2, .int (nI (zi k)))]) hx hb dX9_observe_131 hl (k := 1) rfl (zdn _) (by decide) rfl (fun ls hl => ?_)
                      refine lv_goto (tgt := 88) hx hb dX9_observe_134 (by decide) ?_
                      exact ih88 (nI n88) (vp_updL v1 (35 + n88) (((zf_X9_laysThen MNow MThen (zi t) (zi k)).2) n88)) (by omega) (by have h9 := hR88; rw [zl_X9_observe_88_s, if_pos c_10] at h9; exact h9) _ _ Z ls (lv_sub hl [0, 1, 2, 3, 4, 5] rfl)
              have hl : lv_has ls 7 [(6, .int (nI 8 - 1)), (5, .int (-1 : Int32)), (3, .long ((zf_X9_laysThen MNow MThen (zi t) (zi k)).1)), (0, .ref (md 0)), (1, .int (nI (zi t))), (2, .int (nI (zi k)))] := by rw [show nI 8 - (1 : Int32) = (7 : Int32) from by decide]; exact hl
              exact loop_88 8 (-1 : Int32) MNow (Nat.le_refl _) rfl _ _ Z ls (lv_sub hl [0, 1, 2, 3, 4, 5] rfl)
            · (exact absurd c_7 (by decide))
          · refine lv_iconst (v := (4 : Int32)) hx hb dX9_observe_64 (by decide) ?_
            refine lv_goto (tgt := 69) hx hb dX9_observe_65 (by decide) ?_
            refine z_callV (mc := 0) (ms := 0) (As := [.int (4 : Int32)]) (rest := []) (st2 := [.int (1 : Int32)]) (cs2 := [wMod g md MNow MPast MSav (zf_X9_refused_4) ((zf_X9_laysThen MNow MThen (zi t) (zi k)).2) MLev MFst MWay MMost MHash]) X Z [0] [] [0] 0 7 (zc_X9_refused_4 l g B md MNow MPast MSav (zf_X9_refused_0) ((zf_X9_laysThen MNow MThen (zi t) (zi k)).2) MLev MFst MWay MMost MHash) wM_X9_55 wS_X9_refused wV_X9_refused wK_X9_refused wZ_X9 1 1 1 rfl (by decide +kernel) rfl (by decide) rfl rfl rfl (by decide) rfl rfl (rfl : zCl[7]? = some (RX9, TX9, 10)) hl.1 rfl rfl (by rw [hRf, hRl]; exact ⟨Nat.le_of_ble_eq_true rfl, Nat.le_of_ble_eq_true rfl⟩) (Nat.le_of_ble_eq_true rfl) ⟨Nat.zero_le _, Nat.zero_le _⟩ dX9_observe_69 (fun H locs Z => ?_)
            refine lv_if_eq (tgt := 77) hx hb dX9_observe_72 (by decide) (fun c_11 => ?_) (fun c_11 => ?_)
            · (exact absurd c_11 (by decide))
            · refine lv_iconst (v := (0 : Int32)) hx hb dX9_observe_75 (by decide) ?_
              exact z_ri (v := (0 : Int32)) E Z rfl (by rw [zf_X9_observe_e, if_pos c_1, if_pos c_2, if_neg c_5, if_neg c_6]; dsimp only; exact ⟨rfl, rfl⟩) dX9_observe_76 (Nat.zero_le _) (Nat.zero_le _)
        · refine lv_iconst (v := (3 : Int32)) hx hb dX9_observe_52 (by decide) ?_
          refine lv_goto (tgt := 69) hx hb dX9_observe_53 (by decide) ?_
          refine z_callV (mc := 0) (ms := 0) (As := [.int (3 : Int32)]) (rest := []) (st2 := [.int (1 : Int32)]) (cs2 := [wMod g md MNow MPast MSav (zf_X9_refused_3) ((zf_X9_laysThen MNow MThen (zi t) (zi k)).2) MLev MFst MWay MMost MHash]) X Z [0] [] [0] 0 7 (zc_X9_refused_3 l g B md MNow MPast MSav (zf_X9_refused_0) ((zf_X9_laysThen MNow MThen (zi t) (zi k)).2) MLev MFst MWay MMost MHash) wM_X9_55 wS_X9_refused wV_X9_refused wK_X9_refused wZ_X9 1 1 1 rfl (by decide +kernel) rfl (by decide) rfl rfl rfl (by decide) rfl rfl (rfl : zCl[7]? = some (RX9, TX9, 10)) hl.1 rfl rfl (by rw [hRf, hRl]; exact ⟨Nat.le_of_ble_eq_true rfl, Nat.le_of_ble_eq_true rfl⟩) (Nat.le_of_ble_eq_true rfl) ⟨Nat.zero_le _, Nat.zero_le _⟩ dX9_observe_69 (fun H locs Z => ?_)
          refine lv_if_eq (tgt := 77) hx hb dX9_observe_72 (by decide) (fun c_12 => ?_) (fun c_12 => ?_)
          · (exact absurd c_12 (by decide))
          · refine lv_iconst (v := (0 : Int32)) hx hb dX9_observe_75 (by decide) ?_
            exact z_ri (v := (0 : Int32)) E Z rfl (by rw [zf_X9_observe_e, if_pos c_1, if_pos c_2, if_pos c_5]; dsimp only; exact ⟨rfl, rfl⟩) dX9_observe_76 (Nat.zero_le _) (Nat.zero_le _)
      · (exact absurd c_4 (by decide))
  · refine lv_iconst (v := (1 : Int32)) hx hb dX9_observe_9 (by decide) ?_
    refine lv_goto (tgt := 30) hx hb dX9_observe_10 (by decide) ?_
    refine z_callV (mc := 0) (ms := 0) (As := [.int (1 : Int32)]) (rest := []) (st2 := [.int (1 : Int32)]) (cs2 := [wMod g md MNow MPast MSav (zf_X9_refused_1) MThen MLev MFst MWay MMost MHash]) X Z [0] [] [0] 0 7 (zc_X9_refused_1 l g B md MNow MPast MSav MRef MThen MLev MFst MWay MMost MHash) wM_X9_55 wS_X9_refused wV_X9_refused wK_X9_refused wZ_X9 1 1 1 rfl (by decide +kernel) rfl (by decide) rfl rfl rfl (by decide) rfl rfl (rfl : zCl[7]? = some (RX9, TX9, 10)) hl.1 rfl rfl (by rw [hRf, hRl]; exact ⟨Nat.le_of_ble_eq_true rfl, Nat.le_of_ble_eq_true rfl⟩) (Nat.le_of_ble_eq_true rfl) ⟨Nat.zero_le _, Nat.zero_le _⟩ dX9_observe_30 (fun H locs Z => ?_)
    refine lv_if_eq (tgt := 38) hx hb dX9_observe_33 (by decide) (fun c_13 => ?_) (fun c_13 => ?_)
    · (exact absurd c_13 (by decide))
    · refine lv_iconst (v := (0 : Int32)) hx hb dX9_observe_36 (by decide) ?_
      exact z_ri (v := (0 : Int32)) E Z rfl (by rw [zf_X9_observe_e, if_neg (zBf c_1)]; dsimp only; exact ⟨rfl, rfl⟩) dX9_observe_37 (Nat.zero_le _) (Nat.zero_le _)
def zf_X9_odds (MNow : Nat → Int64) (k : Int32) (t : Int32) : Int64 × Int32 := (if (zf_X9_isHypothesis MNow k) = true then (if (zf_X9_isPart t) = true then ((zf_X9_partOf (MNow (35 + (zi k))) (zf_X9_weights MNow) t), (zf_X9_refused_0)) else ((0 : Int64), (zf_X9_refused_2))) else ((0 : Int64), (zf_X9_refused_1)))
theorem zf_X9_odds_e (MNow : Nat → Int64) (k : Int32) (t : Int32) : zf_X9_odds MNow k t = (if (zf_X9_isHypothesis MNow k) = true then (if (zf_X9_isPart t) = true then ((zf_X9_partOf (MNow (35 + (zi k))) (zf_X9_weights MNow) t), (zf_X9_refused_0)) else ((0 : Int64), (zf_X9_refused_2))) else ((0 : Int64), (zf_X9_refused_1))) := rfl
set_option maxHeartbeats 4000000 in
set_option maxRecDepth 100000 in
theorem zc_X9_odds (l : Launch) (g : zG) (B : Nat) (md : Nat → Nat) (MNow : Nat → Int64) (MPast : Nat → Int64) (MSav : Nat) (MRef : Int32) (MThen : Nat → Int64) (MLev : Nat → Int64) (MFst : Int32) (MWay : Nat → Int64) (MMost : Nat → Int32) (MHash : Int64) (k : Int32) (t : Int32) (hN : zNow MNow) (hw0 : ¬ zf_X9_weights MNow = -9223372036854775808) (hwk : ∀ k, k < 8 → ¬ MNow (35 + k) = -9223372036854775808) (hwd : ∀ k, k < 8 → ¬ zf_X9_divisor (MNow (35 + k)) (zf_X9_weights MNow) = 0) : zMet l g B yX9_odds cX9_odds 3 (some .long) 4 160 0 0 [.ref (md 0), .int k, .int t] [wMod g md MNow MPast MSav MRef MThen MLev MFst MWay MMost MHash] (zDet (some (.long ((zf_X9_odds MNow k t).1))) [wMod g md MNow MPast MSav ((zf_X9_odds MNow k t).2) MThen MLev MFst MWay MMost MHash]) := by
  refine z_in (plainFor_of_name (by decide)) (Nat.le_of_ble_eq_true rfl) (fun p e R s m args below meth c A Q hRf hRl hRc hRs X Z hnm E ls hl => ?_)
  have hx := X.1
  have hb := X.2.1
  have hown := X.2.2.2.1
  have hts := X.2.2.2.2.1
  have hl : lv_has ls 3 [(0, .ref (md 0)), (1, .int k), (2, .int t)] := hl
  have hN2 := hN; obtain ⟨he9, hb9, he34, hb34, he43, hb43, he284, hb284, he301, hb301⟩ := hN2
  refine lv_aload_n hx hb dX9_odds_0 rfl (lv_at hl 0 rfl) ?_
  refine lv_aload_n hx hb dX9_odds_1 rfl (lv_at hl 0 rfl) ?_
  refine lv_iload_n hx hb dX9_odds_2 rfl (lv_at hl 1 rfl) ?_
  refine z_callV (mc := 0) (ms := 0) (As := [.int k]) (rest := [.ref (md 0)]) (st2 := [.int (zB (zf_X9_isHypothesis MNow k)), .ref (md 0)]) (cs2 := [wMod g md MNow MPast MSav MRef MThen MLev MFst MWay MMost MHash]) X Z [0] [] [0] 0 7 (zc_X9_isHypothesis l g B md MNow MPast MSav MRef MThen MLev MFst MWay MMost MHash k (by first | assumption | omega | decide)) wM_X9_131 wS_X9_isHypothesis wV_X9_isHypothesis wK_X9_isHypothesis wZ_X9 1 1 1 rfl (by decide +kernel) rfl (by decide) rfl rfl rfl (by decide) rfl rfl (rfl : zCl[7]? = some (RX9, TX9, 10)) hl.1 rfl rfl (by rw [hRf, hRl]; exact ⟨Nat.le_of_ble_eq_true rfl, Nat.le_of_ble_eq_true rfl⟩) (Nat.le_of_ble_eq_true rfl) ⟨Nat.zero_le _, Nat.zero_le _⟩ dX9_odds_3 (fun H locs Z => ?_)
  refine z_ifneB (b := (zf_X9_isHypothesis MNow k)) (tgt := 13) X dX9_odds_6 (by decide) (fun c_1 => ?_) (fun c_1 => ?_)
  · refine lv_iload_n hx hb dX9_odds_13 rfl (lv_at hl 2 rfl) ?_
    refine z_callS (mc := 0) (ms := 0) (As := [.int t]) (rest := [.ref (md 0)]) (st2 := [.int (zB (zf_X9_isPart t)), .ref (md 0)]) (cs2 := [wMod g md MNow MPast MSav MRef MThen MLev MFst MWay MMost MHash]) X Z [] [0] [0] (zc_X9_isPart l g B t) wM_X9_92 wS_X9_isPart wK_X9_isPart wZ_X9 1 1 1 rfl (by decide +kernel) rfl (by decide) rfl rfl rfl (by decide) rfl hl.1 rfl rfl (by rw [hRf, hRl]; exact ⟨Nat.le_of_ble_eq_true rfl, Nat.le_of_ble_eq_true rfl⟩) (Nat.le_of_ble_eq_true rfl) ⟨Nat.zero_le _, Nat.zero_le _⟩ dX9_odds_14 (fun H locs Z => ?_)
    refine z_ifeqB (b := (zf_X9_isPart t)) (tgt := 24) X dX9_odds_17 (by decide) (fun c_2 => ?_) (fun c_2 => ?_)
    · refine lv_iconst (v := (2 : Int32)) hx hb dX9_odds_24 (by decide) ?_
      refine z_callV (mc := 0) (ms := 0) (As := [.int (2 : Int32)]) (rest := []) (st2 := [.int (1 : Int32)]) (cs2 := [wMod g md MNow MPast MSav (zf_X9_refused_2) MThen MLev MFst MWay MMost MHash]) X Z [0] [] [0] 0 7 (zc_X9_refused_2 l g B md MNow MPast MSav MRef MThen MLev MFst MWay MMost MHash) wM_X9_55 wS_X9_refused wV_X9_refused wK_X9_refused wZ_X9 1 1 1 rfl (by decide +kernel) rfl (by decide) rfl rfl rfl (by decide) rfl rfl (rfl : zCl[7]? = some (RX9, TX9, 10)) hl.1 rfl rfl (by rw [hRf, hRl]; exact ⟨Nat.le_of_ble_eq_true rfl, Nat.le_of_ble_eq_true rfl⟩) (Nat.le_of_ble_eq_true rfl) ⟨Nat.zero_le _, Nat.zero_le _⟩ dX9_odds_25 (fun H locs Z => ?_)
      refine lv_if_eq (tgt := 35) hx hb dX9_odds_28 (by decide) (fun c_3 => ?_) (fun c_3 => ?_)
      · (exact absurd c_3 (by decide))
      · refine lv_lconst (v := (0 : Int64)) hx hb dX9_odds_31 (by decide) ?_
        refine lv_goto (tgt := 52) hx hb dX9_odds_32 (by decide) ?_
        exact z_rl (v := (0 : Int64)) E Z (by rw [zf_X9_odds_e, if_pos c_1, if_neg (zBf c_2)]; dsimp only; exact ⟨rfl, rfl⟩) dX9_odds_52 (Nat.zero_le _) (Nat.zero_le _)
    · refine lv_iconst (v := (0 : Int32)) hx hb dX9_odds_20 (by decide) ?_
      refine lv_goto (tgt := 25) hx hb dX9_odds_21 (by decide) ?_
      refine z_callV (mc := 0) (ms := 0) (As := [.int (0 : Int32)]) (rest := []) (st2 := [.int (0 : Int32)]) (cs2 := [wMod g md MNow MPast MSav (zf_X9_refused_0) MThen MLev MFst MWay MMost MHash]) X Z [0] [] [0] 0 7 (zc_X9_refused_0 l g B md MNow MPast MSav MRef MThen MLev MFst MWay MMost MHash) wM_X9_55 wS_X9_refused wV_X9_refused wK_X9_refused wZ_X9 1 1 1 rfl (by decide +kernel) rfl (by decide) rfl rfl rfl (by decide) rfl rfl (rfl : zCl[7]? = some (RX9, TX9, 10)) hl.1 rfl rfl (by rw [hRf, hRl]; exact ⟨Nat.le_of_ble_eq_true rfl, Nat.le_of_ble_eq_true rfl⟩) (Nat.le_of_ble_eq_true rfl) ⟨Nat.zero_le _, Nat.zero_le _⟩ dX9_odds_25 (fun H locs Z => ?_)
      refine lv_if_eq (tgt := 35) hx hb dX9_odds_28 (by decide) (fun c_4 => ?_) (fun c_4 => ?_)
      · obtain ⟨ek1, hk1⟩ := (zok_hyp (by assumption) hb34 : k = nI (zi k) ∧ _)
        have hl : lv_has ls 3 [(0, .ref (md 0)), (1, .int (nI (zi k))), (2, .int t)] := by rw [← ek1]; exact hl
        refine lv_aload_n hx hb dX9_odds_35 rfl (lv_at hl 0 rfl) ?_
        refine z_get X Z 0 rfl (rfl : zCl[7]? = some (RX9, TX9, 10)) zU_X9 0 (by decide) wF_X9_7 rfl rfl dX9_odds_36 ?_
        refine lv_bipush (v := (35 : Int32)) hx hb dX9_odds_39 (by decide) ?_
        refine lv_iload_n hx hb dX9_odds_41 rfl (lv_at hl 1 rfl) ?_
        refine z_iadd (a := 35) (b := (zi k)) X rfl rfl dX9_odds_42 ?_
        refine z_lald (j := (35 + (zi k))) X Z 1 rfl rfl (by omega) (by decide) dX9_odds_43 ?_
        refine lv_aload_n hx hb dX9_odds_44 rfl (lv_at hl 0 rfl) ?_
        refine z_callV (mc := 0) (ms := 0) (As := []) (rest := [.long (MNow (35 + (zi k)))]) (st2 := [.long (zf_X9_weights MNow), .long (MNow (35 + (zi k)))]) (cs2 := [wMod g md MNow MPast MSav (zf_X9_refused_0) MThen MLev MFst MWay MMost MHash]) X Z [0] [] [0] 0 7 (zc_X9_weights l g B md MNow MPast MSav (zf_X9_refused_0) MThen MLev MFst MWay MMost MHash) wM_X9_136 wS_X9_weights wV_X9_weights wK_X9_weights wZ_X9 0 1 1 rfl (by decide +kernel) rfl (by decide) rfl rfl rfl (by decide) rfl rfl (rfl : zCl[7]? = some (RX9, TX9, 10)) hl.1 rfl rfl (by rw [hRf, hRl]; exact ⟨Nat.le_of_ble_eq_true rfl, Nat.le_of_ble_eq_true rfl⟩) (Nat.le_of_ble_eq_true rfl) ⟨Nat.zero_le _, Nat.zero_le _⟩ dX9_odds_45 (fun H locs Z => ?_)
        refine lv_iload_n hx hb dX9_odds_48 rfl (lv_at hl 2 rfl) ?_
        refine z_callS (mc := 0) (ms := 0) (As := [.long (MNow (35 + (zi k))), .long (zf_X9_weights MNow), .int t]) (rest := []) (st2 := [.long (zf_X9_partOf (MNow (35 + (zi k))) (zf_X9_weights MNow) t)]) (cs2 := [wMod g md MNow MPast MSav (zf_X9_refused_0) MThen MLev MFst MWay MMost MHash]) X Z [] [0] [0] (zc_X9_partOf l g B (MNow (35 + (zi k))) (zf_X9_weights MNow) t (hwk _ (by omega)) hw0 (hwd _ (by omega))) wM_X9_101 wS_X9_partOf wK_X9_partOf wZ_X9 3 1 1 rfl (by decide +kernel) rfl (by decide) rfl rfl rfl (by decide) rfl hl.1 rfl rfl (by rw [hRf, hRl]; exact ⟨Nat.le_of_ble_eq_true rfl, Nat.le_of_ble_eq_true rfl⟩) (Nat.le_of_ble_eq_true rfl) ⟨Nat.zero_le _, Nat.zero_le _⟩ dX9_odds_49 (fun H locs Z => ?_)
        exact z_rl (v := (zf_X9_partOf (MNow (35 + (zi k))) (zf_X9_weights MNow) t)) E Z (by rw [zf_X9_odds_e, if_pos c_1, if_pos c_2]; dsimp only; exact ⟨rfl, rfl⟩) dX9_odds_52 (Nat.zero_le _) (Nat.zero_le _)
      · (exact absurd c_4 (by decide))
  · refine lv_iconst (v := (1 : Int32)) hx hb dX9_odds_9 (by decide) ?_
    refine lv_goto (tgt := 25) hx hb dX9_odds_10 (by decide) ?_
    refine z_callV (mc := 0) (ms := 0) (As := [.int (1 : Int32)]) (rest := []) (st2 := [.int (1 : Int32)]) (cs2 := [wMod g md MNow MPast MSav (zf_X9_refused_1) MThen MLev MFst MWay MMost MHash]) X Z [0] [] [0] 0 7 (zc_X9_refused_1 l g B md MNow MPast MSav MRef MThen MLev MFst MWay MMost MHash) wM_X9_55 wS_X9_refused wV_X9_refused wK_X9_refused wZ_X9 1 1 1 rfl (by decide +kernel) rfl (by decide) rfl rfl rfl (by decide) rfl rfl (rfl : zCl[7]? = some (RX9, TX9, 10)) hl.1 rfl rfl (by rw [hRf, hRl]; exact ⟨Nat.le_of_ble_eq_true rfl, Nat.le_of_ble_eq_true rfl⟩) (Nat.le_of_ble_eq_true rfl) ⟨Nat.zero_le _, Nat.zero_le _⟩ dX9_odds_25 (fun H locs Z => ?_)
    refine lv_if_eq (tgt := 35) hx hb dX9_odds_28 (by decide) (fun c_5 => ?_) (fun c_5 => ?_)
    · (exact absurd c_5 (by decide))
    · refine lv_lconst (v := (0 : Int64)) hx hb dX9_odds_31 (by decide) ?_
      refine lv_goto (tgt := 52) hx hb dX9_odds_32 (by decide) ?_
      exact z_rl (v := (0 : Int64)) E Z (by rw [zf_X9_odds_e, if_neg (zBf c_1)]; dsimp only; exact ⟨rfl, rfl⟩) dX9_odds_52 (Nat.zero_le _) (Nat.zero_le _)
def zf_X9_planValue (MNow : Nat → Int64) (MLev : Nat → Int64) (MFst : Int32) (k : Int32) (t : Int32) : Int64 × Int32 × (Nat → Int64) × Int32 := (if (zf_X9_within k.toInt64 (0 : Int64) (3 : Int64)) = true then (if (zf_X9_isPart t) = true then (if k ≤ 0 then (if k = (0 : Int32) then ((zf_X9_partOf ((zf_X9_plan_0 MNow MLev).1) ((zf_X9_tens 0) * (zf_X9_weights MNow)) t), (zf_X9_refused_0), ((zf_X9_plan_0 MNow MLev).2.1), ((zf_X9_plan_0 MNow MLev).2.2)) else (if k = (1 : Int32) then ((zf_X9_partOf ((zf_X9_plan_1 MNow MLev).1) ((zf_X9_tens 1) * (zf_X9_weights MNow)) t), (zf_X9_refused_0), ((zf_X9_plan_1 MNow MLev).2.1), ((zf_X9_plan_1 MNow MLev).2.2)) else (if k = (2 : Int32) then ((zf_X9_partOf ((zf_X9_plan_2 MNow MLev).1) ((zf_X9_tens 2) * (zf_X9_weights MNow)) t), (zf_X9_refused_0), ((zf_X9_plan_2 MNow MLev).2.1), ((zf_X9_plan_2 MNow MLev).2.2)) else ((zf_X9_partOf ((zf_X9_plan_3 MNow MLev).1) ((zf_X9_tens 3) * (zf_X9_weights MNow)) t), (zf_X9_refused_0), ((zf_X9_plan_3 MNow MLev).2.1), ((zf_X9_plan_3 MNow MLev).2.2))))) else (if (zc (MNow 43)) = 0 then ((0 : Int64), (zf_X9_refused_2), MLev, MFst) else (if k = (0 : Int32) then ((zf_X9_partOf ((zf_X9_plan_0 MNow MLev).1) ((zf_X9_tens 0) * (zf_X9_weights MNow)) t), (zf_X9_refused_0), ((zf_X9_plan_0 MNow MLev).2.1), ((zf_X9_plan_0 MNow MLev).2.2)) else (if k = (1 : Int32) then ((zf_X9_partOf ((zf_X9_plan_1 MNow MLev).1) ((zf_X9_tens 1) * (zf_X9_weights MNow)) t), (zf_X9_refused_0), ((zf_X9_plan_1 MNow MLev).2.1), ((zf_X9_plan_1 MNow MLev).2.2)) else (if k = (2 : Int32) then ((zf_X9_partOf ((zf_X9_plan_2 MNow MLev).1) ((zf_X9_tens 2) * (zf_X9_weights MNow)) t), (zf_X9_refused_0), ((zf_X9_plan_2 MNow MLev).2.1), ((zf_X9_plan_2 MNow MLev).2.2)) else ((zf_X9_partOf ((zf_X9_plan_3 MNow MLev).1) ((zf_X9_tens 3) * (zf_X9_weights MNow)) t), (zf_X9_refused_0), ((zf_X9_plan_3 MNow MLev).2.1), ((zf_X9_plan_3 MNow MLev).2.2))))))) else ((0 : Int64), (zf_X9_refused_1), MLev, MFst)) else ((0 : Int64), (zf_X9_refused_1), MLev, MFst))
theorem zf_X9_planValue_e (MNow : Nat → Int64) (MLev : Nat → Int64) (MFst : Int32) (k : Int32) (t : Int32) : zf_X9_planValue MNow MLev MFst k t = (if (zf_X9_within k.toInt64 (0 : Int64) (3 : Int64)) = true then (if (zf_X9_isPart t) = true then (if k ≤ 0 then (if k = (0 : Int32) then ((zf_X9_partOf ((zf_X9_plan_0 MNow MLev).1) ((zf_X9_tens 0) * (zf_X9_weights MNow)) t), (zf_X9_refused_0), ((zf_X9_plan_0 MNow MLev).2.1), ((zf_X9_plan_0 MNow MLev).2.2)) else (if k = (1 : Int32) then ((zf_X9_partOf ((zf_X9_plan_1 MNow MLev).1) ((zf_X9_tens 1) * (zf_X9_weights MNow)) t), (zf_X9_refused_0), ((zf_X9_plan_1 MNow MLev).2.1), ((zf_X9_plan_1 MNow MLev).2.2)) else (if k = (2 : Int32) then ((zf_X9_partOf ((zf_X9_plan_2 MNow MLev).1) ((zf_X9_tens 2) * (zf_X9_weights MNow)) t), (zf_X9_refused_0), ((zf_X9_plan_2 MNow MLev).2.1), ((zf_X9_plan_2 MNow MLev).2.2)) else ((zf_X9_partOf ((zf_X9_plan_3 MNow MLev).1) ((zf_X9_tens 3) * (zf_X9_weights MNow)) t), (zf_X9_refused_0), ((zf_X9_plan_3 MNow MLev).2.1), ((zf_X9_plan_3 MNow MLev).2.2))))) else (if (zc (MNow 43)) = 0 then ((0 : Int64), (zf_X9_refused_2), MLev, MFst) else (if k = (0 : Int32) then ((zf_X9_partOf ((zf_X9_plan_0 MNow MLev).1) ((zf_X9_tens 0) * (zf_X9_weights MNow)) t), (zf_X9_refused_0), ((zf_X9_plan_0 MNow MLev).2.1), ((zf_X9_plan_0 MNow MLev).2.2)) else (if k = (1 : Int32) then ((zf_X9_partOf ((zf_X9_plan_1 MNow MLev).1) ((zf_X9_tens 1) * (zf_X9_weights MNow)) t), (zf_X9_refused_0), ((zf_X9_plan_1 MNow MLev).2.1), ((zf_X9_plan_1 MNow MLev).2.2)) else (if k = (2 : Int32) then ((zf_X9_partOf ((zf_X9_plan_2 MNow MLev).1) ((zf_X9_tens 2) * (zf_X9_weights MNow)) t), (zf_X9_refused_0), ((zf_X9_plan_2 MNow MLev).2.1), ((zf_X9_plan_2 MNow MLev).2.2)) else ((zf_X9_partOf ((zf_X9_plan_3 MNow MLev).1) ((zf_X9_tens 3) * (zf_X9_weights MNow)) t), (zf_X9_refused_0), ((zf_X9_plan_3 MNow MLev).2.1), ((zf_X9_plan_3 MNow MLev).2.2))))))) else ((0 : Int64), (zf_X9_refused_1), MLev, MFst)) else ((0 : Int64), (zf_X9_refused_1), MLev, MFst)) := rfl
set_option maxHeartbeats 4000000 in
set_option maxRecDepth 100000 in
theorem zc_X9_planValue (l : Launch) (g : zG) (B : Nat) (md : Nat → Nat) (MNow : Nat → Int64) (MPast : Nat → Int64) (MSav : Nat) (MRef : Int32) (MThen : Nat → Int64) (MLev : Nat → Int64) (MFst : Int32) (MWay : Nat → Int64) (MMost : Nat → Int32) (MHash : Int64) (k : Int32) (t : Int32) (hN : zNow MNow) (hw0 : ∀ k, k ≤ 3 → ¬ (zf_X9_tens k) * (zf_X9_weights MNow) = -9223372036854775808) (hp0 : zNM ((zf_X9_plan_0 MNow MLev).1)) (hq0 : ¬ zf_X9_divisor ((zf_X9_plan_0 MNow MLev).1) ((zf_X9_tens 0) * (zf_X9_weights MNow)) = 0) (hp1 : zNM ((zf_X9_plan_1 MNow MLev).1)) (hq1 : ¬ zf_X9_divisor ((zf_X9_plan_1 MNow MLev).1) ((zf_X9_tens 1) * (zf_X9_weights MNow)) = 0) (hp2 : zNM ((zf_X9_plan_2 MNow MLev).1)) (hq2 : ¬ zf_X9_divisor ((zf_X9_plan_2 MNow MLev).1) ((zf_X9_tens 2) * (zf_X9_weights MNow)) = 0) (hp3 : zNM ((zf_X9_plan_3 MNow MLev).1)) (hq3 : ¬ zf_X9_divisor ((zf_X9_plan_3 MNow MLev).1) ((zf_X9_tens 3) * (zf_X9_weights MNow)) = 0) : zMet l g B yX9_planValue cX9_planValue 3 (some .long) 8 300 0 0 [.ref (md 0), .int k, .int t] [wMod g md MNow MPast MSav MRef MThen MLev MFst MWay MMost MHash] (zDet (some (.long ((zf_X9_planValue MNow MLev MFst k t).1))) [wMod g md MNow MPast MSav ((zf_X9_planValue MNow MLev MFst k t).2.1) MThen ((zf_X9_planValue MNow MLev MFst k t).2.2.1) ((zf_X9_planValue MNow MLev MFst k t).2.2.2) MWay MMost MHash]) := by
  refine z_in (plainFor_of_name (by decide)) (Nat.le_of_ble_eq_true rfl) (fun p e R s m args below meth c A Q hRf hRl hRc hRs X Z hnm E ls hl => ?_)
  have hx := X.1
  have hb := X.2.1
  have hown := X.2.2.2.1
  have hts := X.2.2.2.2.1
  have hl : lv_has ls 3 [(0, .ref (md 0)), (1, .int k), (2, .int t)] := hl
  have hN2 := hN; obtain ⟨he9, hb9, he34, hb34, he43, hb43, he284, hb284, he301, hb301⟩ := hN2
  refine lv_aload_n hx hb dX9_planValue_0 rfl (lv_at hl 0 rfl) ?_
  refine lv_iload_n hx hb dX9_planValue_1 rfl (lv_at hl 1 rfl) ?_
  refine lv_i2l hx hb dX9_planValue_2 rfl ?_
  refine lv_lconst (v := (0 : Int64)) hx hb dX9_planValue_3 (by decide) ?_
  refine lv_ldc2 (v := (3 : Int64)) hx hb hown (hts _ wL_X9_169) dX9_planValue_4 ?_
  refine z_callS (mc := 0) (ms := 0) (As := [.long k.toInt64, .long (0 : Int64), .long (3 : Int64)]) (rest := [.ref (md 0)]) (st2 := [.int (zB (zf_X9_within k.toInt64 (0 : Int64) (3 : Int64))), .ref (md 0)]) (cs2 := [wMod g md MNow MPast MSav MRef MThen MLev MFst MWay MMost MHash]) X Z [] [0] [0] (zc_X9_within l g B k.toInt64 (0 : Int64) (3 : Int64)) wM_X9_44 wS_X9_within wK_X9_within wZ_X9 3 1 1 rfl (by decide +kernel) rfl (by decide) rfl rfl rfl (by decide) rfl hl.1 rfl rfl (by rw [hRf, hRl]; exact ⟨Nat.le_of_ble_eq_true rfl, Nat.le_of_ble_eq_true rfl⟩) (Nat.le_of_ble_eq_true rfl) ⟨Nat.zero_le _, Nat.zero_le _⟩ dX9_planValue_7 (fun H locs Z => ?_)
  refine z_ifeqB (b := (zf_X9_within k.toInt64 (0 : Int64) (3 : Int64))) (tgt := 20) X dX9_planValue_10 (by decide) (fun c_1 => ?_) (fun c_1 => ?_)
  · refine lv_iconst (v := (1 : Int32)) hx hb dX9_planValue_20 (by decide) ?_
    refine lv_goto (tgt := 42) hx hb dX9_planValue_21 (by decide) ?_
    refine z_callV (mc := 0) (ms := 0) (As := [.int (1 : Int32)]) (rest := []) (st2 := [.int (1 : Int32)]) (cs2 := [wMod g md MNow MPast MSav (zf_X9_refused_1) MThen MLev MFst MWay MMost MHash]) X Z [0] [] [0] 0 7 (zc_X9_refused_1 l g B md MNow MPast MSav MRef MThen MLev MFst MWay MMost MHash) wM_X9_55 wS_X9_refused wV_X9_refused wK_X9_refused wZ_X9 1 1 1 rfl (by decide +kernel) rfl (by decide) rfl rfl rfl (by decide) rfl rfl (rfl : zCl[7]? = some (RX9, TX9, 10)) hl.1 rfl rfl (by rw [hRf, hRl]; exact ⟨Nat.le_of_ble_eq_true rfl, Nat.le_of_ble_eq_true rfl⟩) (Nat.le_of_ble_eq_true rfl) ⟨Nat.zero_le _, Nat.zero_le _⟩ dX9_planValue_42 (fun H locs Z => ?_)
    refine lv_if_eq (tgt := 50) hx hb dX9_planValue_45 (by decide) (fun c_2 => ?_) (fun c_2 => ?_)
    · (exact absurd c_2 (by decide))
    · refine lv_lconst (v := (0 : Int64)) hx hb dX9_planValue_48 (by decide) ?_
      exact z_rl (v := (0 : Int64)) E Z (by rw [zf_X9_planValue_e, if_neg (zBf c_1)]; dsimp only; exact ⟨rfl, rfl⟩) dX9_planValue_49 (Nat.zero_le _) (Nat.zero_le _)
  · refine lv_iload_n hx hb dX9_planValue_13 rfl (lv_at hl 2 rfl) ?_
    refine z_callS (mc := 0) (ms := 0) (As := [.int t]) (rest := [.ref (md 0)]) (st2 := [.int (zB (zf_X9_isPart t)), .ref (md 0)]) (cs2 := [wMod g md MNow MPast MSav MRef MThen MLev MFst MWay MMost MHash]) X Z [] [0] [0] (zc_X9_isPart l g B t) wM_X9_92 wS_X9_isPart wK_X9_isPart wZ_X9 1 1 1 rfl (by decide +kernel) rfl (by decide) rfl rfl rfl (by decide) rfl hl.1 rfl rfl (by rw [hRf, hRl]; exact ⟨Nat.le_of_ble_eq_true rfl, Nat.le_of_ble_eq_true rfl⟩) (Nat.le_of_ble_eq_true rfl) ⟨Nat.zero_le _, Nat.zero_le _⟩ dX9_planValue_14 (fun H locs Z => ?_)
    refine z_ifneB (b := (zf_X9_isPart t)) (tgt := 24) X dX9_planValue_17 (by decide) (fun c_3 => ?_) (fun c_3 => ?_)
    · refine lv_iload_n hx hb dX9_planValue_24 rfl (lv_at hl 1 rfl) ?_
      refine lv_if_le (tgt := 41) hx hb dX9_planValue_25 (by decide) (fun c_4 => ?_) (fun c_4 => ?_)
      · refine lv_iconst (v := (0 : Int32)) hx hb dX9_planValue_41 (by decide) ?_
        refine z_callV (mc := 0) (ms := 0) (As := [.int (0 : Int32)]) (rest := []) (st2 := [.int (0 : Int32)]) (cs2 := [wMod g md MNow MPast MSav (zf_X9_refused_0) MThen MLev MFst MWay MMost MHash]) X Z [0] [] [0] 0 7 (zc_X9_refused_0 l g B md MNow MPast MSav MRef MThen MLev MFst MWay MMost MHash) wM_X9_55 wS_X9_refused wV_X9_refused wK_X9_refused wZ_X9 1 1 1 rfl (by decide +kernel) rfl (by decide) rfl rfl rfl (by decide) rfl rfl (rfl : zCl[7]? = some (RX9, TX9, 10)) hl.1 rfl rfl (by rw [hRf, hRl]; exact ⟨Nat.le_of_ble_eq_true rfl, Nat.le_of_ble_eq_true rfl⟩) (Nat.le_of_ble_eq_true rfl) ⟨Nat.zero_le _, Nat.zero_le _⟩ dX9_planValue_42 (fun H locs Z => ?_)
        refine lv_if_eq (tgt := 50) hx hb dX9_planValue_45 (by decide) (fun c_5 => ?_) (fun c_5 => ?_)
        · by_cases c_6 : k = (0 : Int32)
          · have hl : lv_has ls 3 [(0, .ref (md 0)), (1, .int (0 : Int32)), (2, .int t)] := by rw [← c_6]; exact hl
            refine lv_aload_n hx hb dX9_planValue_50 rfl (lv_at hl 0 rfl) ?_
            refine lv_iload_n hx hb dX9_planValue_51 rfl (lv_at hl 1 rfl) ?_
            refine z_callV (mc := 0) (ms := 0) (As := [.int (0 : Int32)]) (rest := []) (st2 := [.long ((zf_X9_plan_0 MNow MLev).1)]) (cs2 := [wMod g md MNow MPast MSav (zf_X9_refused_0) MThen ((zf_X9_plan_0 MNow MLev).2.1) ((zf_X9_plan_0 MNow MLev).2.2) MWay MMost MHash]) X Z [0] [] [0] 0 7 (zc_X9_plan_0 l g B md MNow MPast MSav (zf_X9_refused_0) MThen MLev MFst MWay MMost MHash (by first | assumption | omega | decide)) wM_X9_171 wS_X9_plan wV_X9_plan wK_X9_plan wZ_X9 1 1 1 rfl (by decide +kernel) rfl (by decide) rfl rfl rfl (by decide) rfl rfl (rfl : zCl[7]? = some (RX9, TX9, 10)) hl.1 rfl rfl (by rw [hRf, hRl]; exact ⟨Nat.le_of_ble_eq_true rfl, Nat.le_of_ble_eq_true rfl⟩) (Nat.le_of_ble_eq_true rfl) ⟨Nat.zero_le _, Nat.zero_le _⟩ dX9_planValue_52 (fun H locs Z => ?_)
            refine lv_iload_n hx hb dX9_planValue_55 rfl (lv_at hl 1 rfl) ?_
            refine z_callS (mc := 0) (ms := 0) (As := [.int (0 : Int32)]) (rest := [.long ((zf_X9_plan_0 MNow MLev).1)]) (st2 := [.long (zf_X9_tens 0), .long ((zf_X9_plan_0 MNow MLev).1)]) (cs2 := [wMod g md MNow MPast MSav (zf_X9_refused_0) MThen ((zf_X9_plan_0 MNow MLev).2.1) ((zf_X9_plan_0 MNow MLev).2.2) MWay MMost MHash]) X Z [] [0] [0] (zc_X9_tens l g B 0 (by first | assumption | omega | decide)) wM_X9_174 wS_X9_tens wK_X9_tens wZ_X9 1 1 1 rfl (by decide +kernel) rfl (by decide) rfl rfl rfl (by decide) rfl hl.1 rfl rfl (by rw [hRf, hRl]; exact ⟨Nat.le_of_ble_eq_true rfl, Nat.le_of_ble_eq_true rfl⟩) (Nat.le_of_ble_eq_true rfl) ⟨Nat.zero_le _, Nat.zero_le _⟩ dX9_planValue_56 (fun H locs Z => ?_)
            refine lv_aload_n hx hb dX9_planValue_59 rfl (lv_at hl 0 rfl) ?_
            refine z_callV (mc := 0) (ms := 0) (As := []) (rest := [.long (zf_X9_tens 0), .long ((zf_X9_plan_0 MNow MLev).1)]) (st2 := [.long (zf_X9_weights MNow), .long (zf_X9_tens 0), .long ((zf_X9_plan_0 MNow MLev).1)]) (cs2 := [wMod g md MNow MPast MSav (zf_X9_refused_0) MThen ((zf_X9_plan_0 MNow MLev).2.1) ((zf_X9_plan_0 MNow MLev).2.2) MWay MMost MHash]) X Z [0] [] [0] 0 7 (zc_X9_weights l g B md MNow MPast MSav (zf_X9_refused_0) MThen ((zf_X9_plan_0 MNow MLev).2.1) ((zf_X9_plan_0 MNow MLev).2.2) MWay MMost MHash) wM_X9_136 wS_X9_weights wV_X9_weights wK_X9_weights wZ_X9 0 1 1 rfl (by decide +kernel) rfl (by decide) rfl rfl rfl (by decide) rfl rfl (rfl : zCl[7]? = some (RX9, TX9, 10)) hl.1 rfl rfl (by rw [hRf, hRl]; exact ⟨Nat.le_of_ble_eq_true rfl, Nat.le_of_ble_eq_true rfl⟩) (Nat.le_of_ble_eq_true rfl) ⟨Nat.zero_le _, Nat.zero_le _⟩ dX9_planValue_60 (fun H locs Z => ?_)
            refine lv_lmul hx hb dX9_planValue_63 ?_
            refine lv_iload_n hx hb dX9_planValue_64 rfl (lv_at hl 2 rfl) ?_
            refine z_callS (mc := 0) (ms := 0) (As := [.long ((zf_X9_plan_0 MNow MLev).1), .long ((zf_X9_tens 0) * (zf_X9_weights MNow)), .int t]) (rest := []) (st2 := [.long (zf_X9_partOf ((zf_X9_plan_0 MNow MLev).1) ((zf_X9_tens 0) * (zf_X9_weights MNow)) t)]) (cs2 := [wMod g md MNow MPast MSav (zf_X9_refused_0) MThen ((zf_X9_plan_0 MNow MLev).2.1) ((zf_X9_plan_0 MNow MLev).2.2) MWay MMost MHash]) X Z [] [0] [0] (zc_X9_partOf l g B ((zf_X9_plan_0 MNow MLev).1) ((zf_X9_tens 0) * (zf_X9_weights MNow)) t hp0 (hw0 _ (by omega)) hq0) wM_X9_101 wS_X9_partOf wK_X9_partOf wZ_X9 3 1 1 rfl (by decide +kernel) rfl (by decide) rfl rfl rfl (by decide) rfl hl.1 rfl rfl (by rw [hRf, hRl]; exact ⟨Nat.le_of_ble_eq_true rfl, Nat.le_of_ble_eq_true rfl⟩) (Nat.le_of_ble_eq_true rfl) ⟨Nat.zero_le _, Nat.zero_le _⟩ dX9_planValue_65 (fun H locs Z => ?_)
            exact z_rl (v := (zf_X9_partOf ((zf_X9_plan_0 MNow MLev).1) ((zf_X9_tens 0) * (zf_X9_weights MNow)) t)) E Z (by rw [zf_X9_planValue_e, if_pos c_1, if_pos c_3, if_pos c_4, if_pos c_6]; dsimp only; exact ⟨rfl, rfl⟩) dX9_planValue_68 (Nat.zero_le _) (Nat.zero_le _)
          · by_cases c_7 : k = (1 : Int32)
            · have hl : lv_has ls 3 [(0, .ref (md 0)), (1, .int (1 : Int32)), (2, .int t)] := by rw [← c_7]; exact hl
              refine lv_aload_n hx hb dX9_planValue_50 rfl (lv_at hl 0 rfl) ?_
              refine lv_iload_n hx hb dX9_planValue_51 rfl (lv_at hl 1 rfl) ?_
              refine z_callV (mc := 0) (ms := 0) (As := [.int (1 : Int32)]) (rest := []) (st2 := [.long ((zf_X9_plan_1 MNow MLev).1)]) (cs2 := [wMod g md MNow MPast MSav (zf_X9_refused_0) MThen ((zf_X9_plan_1 MNow MLev).2.1) ((zf_X9_plan_1 MNow MLev).2.2) MWay MMost MHash]) X Z [0] [] [0] 0 7 (zc_X9_plan_1 l g B md MNow MPast MSav (zf_X9_refused_0) MThen MLev MFst MWay MMost MHash (by first | assumption | omega | decide)) wM_X9_171 wS_X9_plan wV_X9_plan wK_X9_plan wZ_X9 1 1 1 rfl (by decide +kernel) rfl (by decide) rfl rfl rfl (by decide) rfl rfl (rfl : zCl[7]? = some (RX9, TX9, 10)) hl.1 rfl rfl (by rw [hRf, hRl]; exact ⟨Nat.le_of_ble_eq_true rfl, Nat.le_of_ble_eq_true rfl⟩) (Nat.le_of_ble_eq_true rfl) ⟨Nat.zero_le _, Nat.zero_le _⟩ dX9_planValue_52 (fun H locs Z => ?_)
              refine lv_iload_n hx hb dX9_planValue_55 rfl (lv_at hl 1 rfl) ?_
              refine z_callS (mc := 0) (ms := 0) (As := [.int (1 : Int32)]) (rest := [.long ((zf_X9_plan_1 MNow MLev).1)]) (st2 := [.long (zf_X9_tens 1), .long ((zf_X9_plan_1 MNow MLev).1)]) (cs2 := [wMod g md MNow MPast MSav (zf_X9_refused_0) MThen ((zf_X9_plan_1 MNow MLev).2.1) ((zf_X9_plan_1 MNow MLev).2.2) MWay MMost MHash]) X Z [] [0] [0] (zc_X9_tens l g B 1 (by first | assumption | omega | decide)) wM_X9_174 wS_X9_tens wK_X9_tens wZ_X9 1 1 1 rfl (by decide +kernel) rfl (by decide) rfl rfl rfl (by decide) rfl hl.1 rfl rfl (by rw [hRf, hRl]; exact ⟨Nat.le_of_ble_eq_true rfl, Nat.le_of_ble_eq_true rfl⟩) (Nat.le_of_ble_eq_true rfl) ⟨Nat.zero_le _, Nat.zero_le _⟩ dX9_planValue_56 (fun H locs Z => ?_)
              refine lv_aload_n hx hb dX9_planValue_59 rfl (lv_at hl 0 rfl) ?_
              refine z_callV (mc := 0) (ms := 0) (As := []) (rest := [.long (zf_X9_tens 1), .long ((zf_X9_plan_1 MNow MLev).1)]) (st2 := [.long (zf_X9_weights MNow), .long (zf_X9_tens 1), .long ((zf_X9_plan_1 MNow MLev).1)]) (cs2 := [wMod g md MNow MPast MSav (zf_X9_refused_0) MThen ((zf_X9_plan_1 MNow MLev).2.1) ((zf_X9_plan_1 MNow MLev).2.2) MWay MMost MHash]) X Z [0] [] [0] 0 7 (zc_X9_weights l g B md MNow MPast MSav (zf_X9_refused_0) MThen ((zf_X9_plan_1 MNow MLev).2.1) ((zf_X9_plan_1 MNow MLev).2.2) MWay MMost MHash) wM_X9_136 wS_X9_weights wV_X9_weights wK_X9_weights wZ_X9 0 1 1 rfl (by decide +kernel) rfl (by decide) rfl rfl rfl (by decide) rfl rfl (rfl : zCl[7]? = some (RX9, TX9, 10)) hl.1 rfl rfl (by rw [hRf, hRl]; exact ⟨Nat.le_of_ble_eq_true rfl, Nat.le_of_ble_eq_true rfl⟩) (Nat.le_of_ble_eq_true rfl) ⟨Nat.zero_le _, Nat.zero_le _⟩ dX9_planValue_60 (fun H locs Z => ?_)
              refine lv_lmul hx hb dX9_planValue_63 ?_
              refine lv_iload_n hx hb dX9_planValue_64 rfl (lv_at hl 2 rfl) ?_
              refine z_callS (mc := 0) (ms := 0) (As := [.long ((zf_X9_plan_1 MNow MLev).1), .long ((zf_X9_tens 1) * (zf_X9_weights MNow)), .int t]) (rest := []) (st2 := [.long (zf_X9_partOf ((zf_X9_plan_1 MNow MLev).1) ((zf_X9_tens 1) * (zf_X9_weights MNow)) t)]) (cs2 := [wMod g md MNow MPast MSav (zf_X9_refused_0) MThen ((zf_X9_plan_1 MNow MLev).2.1) ((zf_X9_plan_1 MNow MLev).2.2) MWay MMost MHash]) X Z [] [0] [0] (zc_X9_partOf l g B ((zf_X9_plan_1 MNow MLev).1) ((zf_X9_tens 1) * (zf_X9_weights MNow)) t hp1 (hw0 _ (by omega)) hq1) wM_X9_101 wS_X9_partOf wK_X9_partOf wZ_X9 3 1 1 rfl (by decide +kernel) rfl (by decide) rfl rfl rfl (by decide) rfl hl.1 rfl rfl (by rw [hRf, hRl]; exact ⟨Nat.le_of_ble_eq_true rfl, Nat.le_of_ble_eq_true rfl⟩) (Nat.le_of_ble_eq_true rfl) ⟨Nat.zero_le _, Nat.zero_le _⟩ dX9_planValue_65 (fun H locs Z => ?_)
              exact z_rl (v := (zf_X9_partOf ((zf_X9_plan_1 MNow MLev).1) ((zf_X9_tens 1) * (zf_X9_weights MNow)) t)) E Z (by rw [zf_X9_planValue_e, if_pos c_1, if_pos c_3, if_pos c_4, if_neg c_6, if_pos c_7]; dsimp only; exact ⟨rfl, rfl⟩) dX9_planValue_68 (Nat.zero_le _) (Nat.zero_le _)
            · by_cases c_8 : k = (2 : Int32)
              · have hl : lv_has ls 3 [(0, .ref (md 0)), (1, .int (2 : Int32)), (2, .int t)] := by rw [← c_8]; exact hl
                refine lv_aload_n hx hb dX9_planValue_50 rfl (lv_at hl 0 rfl) ?_
                refine lv_iload_n hx hb dX9_planValue_51 rfl (lv_at hl 1 rfl) ?_
                refine z_callV (mc := 0) (ms := 0) (As := [.int (2 : Int32)]) (rest := []) (st2 := [.long ((zf_X9_plan_2 MNow MLev).1)]) (cs2 := [wMod g md MNow MPast MSav (zf_X9_refused_0) MThen ((zf_X9_plan_2 MNow MLev).2.1) ((zf_X9_plan_2 MNow MLev).2.2) MWay MMost MHash]) X Z [0] [] [0] 0 7 (zc_X9_plan_2 l g B md MNow MPast MSav (zf_X9_refused_0) MThen MLev MFst MWay MMost MHash (by first | assumption | omega | decide)) wM_X9_171 wS_X9_plan wV_X9_plan wK_X9_plan wZ_X9 1 1 1 rfl (by decide +kernel) rfl (by decide) rfl rfl rfl (by decide) rfl rfl (rfl : zCl[7]? = some (RX9, TX9, 10)) hl.1 rfl rfl (by rw [hRf, hRl]; exact ⟨Nat.le_of_ble_eq_true rfl, Nat.le_of_ble_eq_true rfl⟩) (Nat.le_of_ble_eq_true rfl) ⟨Nat.zero_le _, Nat.zero_le _⟩ dX9_planValue_52 (fun H locs Z => ?_)
                refine lv_iload_n hx hb dX9_planValue_55 rfl (lv_at hl 1 rfl) ?_
                refine z_callS (mc := 0) (ms := 0) (As := [.int (2 : Int32)]) (rest := [.long ((zf_X9_plan_2 MNow MLev).1)]) (st2 := [.long (zf_X9_tens 2), .long ((zf_X9_plan_2 MNow MLev).1)]) (cs2 := [wMod g md MNow MPast MSav (zf_X9_refused_0) MThen ((zf_X9_plan_2 MNow MLev).2.1) ((zf_X9_plan_2 MNow MLev).2.2) MWay MMost MHash]) X Z [] [0] [0] (zc_X9_tens l g B 2 (by first | assumption | omega | decide)) wM_X9_174 wS_X9_tens wK_X9_tens wZ_X9 1 1 1 rfl (by decide +kernel) rfl (by decide) rfl rfl rfl (by decide) rfl hl.1 rfl rfl (by rw [hRf, hRl]; exact ⟨Nat.le_of_ble_eq_true rfl, Nat.le_of_ble_eq_true rfl⟩) (Nat.le_of_ble_eq_true rfl) ⟨Nat.zero_le _, Nat.zero_le _⟩ dX9_planValue_56 (fun H locs Z => ?_)
                refine lv_aload_n hx hb dX9_planValue_59 rfl (lv_at hl 0 rfl) ?_
                refine z_callV (mc := 0) (ms := 0) (As := []) (rest := [.long (zf_X9_tens 2), .long ((zf_X9_plan_2 MNow MLev).1)]) (st2 := [.long (zf_X9_weights MNow), .long (zf_X9_tens 2), .long ((zf_X9_plan_2 MNow MLev).1)]) (cs2 := [wMod g md MNow MPast MSav (zf_X9_refused_0) MThen ((zf_X9_plan_2 MNow MLev).2.1) ((zf_X9_plan_2 MNow MLev).2.2) MWay MMost MHash]) X Z [0] [] [0] 0 7 (zc_X9_weights l g B md MNow MPast MSav (zf_X9_refused_0) MThen ((zf_X9_plan_2 MNow MLev).2.1) ((zf_X9_plan_2 MNow MLev).2.2) MWay MMost MHash) wM_X9_136 wS_X9_weights wV_X9_weights wK_X9_weights wZ_X9 0 1 1 rfl (by decide +kernel) rfl (by decide) rfl rfl rfl (by decide) rfl rfl (rfl : zCl[7]? = some (RX9, TX9, 10)) hl.1 rfl rfl (by rw [hRf, hRl]; exact ⟨Nat.le_of_ble_eq_true rfl, Nat.le_of_ble_eq_true rfl⟩) (Nat.le_of_ble_eq_true rfl) ⟨Nat.zero_le _, Nat.zero_le _⟩ dX9_planValue_60 (fun H locs Z => ?_)
                refine lv_lmul hx hb dX9_planValue_63 ?_
                refine lv_iload_n hx hb dX9_planValue_64 rfl (lv_at hl 2 rfl) ?_
                refine z_callS (mc := 0) (ms := 0) (As := [.long ((zf_X9_plan_2 MNow MLev).1), .long ((zf_X9_tens 2) * (zf_X9_weights MNow)), .int t]) (rest := []) (st2 := [.long (zf_X9_partOf ((zf_X9_plan_2 MNow MLev).1) ((zf_X9_tens 2) * (zf_X9_weights MNow)) t)]) (cs2 := [wMod g md MNow MPast MSav (zf_X9_refused_0) MThen ((zf_X9_plan_2 MNow MLev).2.1) ((zf_X9_plan_2 MNow MLev).2.2) MWay MMost MHash]) X Z [] [0] [0] (zc_X9_partOf l g B ((zf_X9_plan_2 MNow MLev).1) ((zf_X9_tens 2) * (zf_X9_weights MNow)) t hp2 (hw0 _ (by omega)) hq2) wM_X9_101 wS_X9_partOf wK_X9_partOf wZ_X9 3 1 1 rfl (by decide +kernel) rfl (by decide) rfl rfl rfl (by decide) rfl hl.1 rfl rfl (by rw [hRf, hRl]; exact ⟨Nat.le_of_ble_eq_true rfl, Nat.le_of_ble_eq_true rfl⟩) (Nat.le_of_ble_eq_true rfl) ⟨Nat.zero_le _, Nat.zero_le _⟩ dX9_planValue_65 (fun H locs Z => ?_)
                exact z_rl (v := (zf_X9_partOf ((zf_X9_plan_2 MNow MLev).1) ((zf_X9_tens 2) * (zf_X9_weights MNow)) t)) E Z (by rw [zf_X9_planValue_e, if_pos c_1, if_pos c_3, if_pos c_4, if_neg c_6, if_neg c_7, if_pos c_8]; dsimp only; exact ⟨rfl, rfl⟩) dX9_planValue_68 (Nat.zero_le _) (Nat.zero_le _)
              · by_cases c_9 : k = (3 : Int32)
                · have hl : lv_has ls 3 [(0, .ref (md 0)), (1, .int (3 : Int32)), (2, .int t)] := by rw [← c_9]; exact hl
                  refine lv_aload_n hx hb dX9_planValue_50 rfl (lv_at hl 0 rfl) ?_
                  refine lv_iload_n hx hb dX9_planValue_51 rfl (lv_at hl 1 rfl) ?_
                  refine z_callV (mc := 0) (ms := 0) (As := [.int (3 : Int32)]) (rest := []) (st2 := [.long ((zf_X9_plan_3 MNow MLev).1)]) (cs2 := [wMod g md MNow MPast MSav (zf_X9_refused_0) MThen ((zf_X9_plan_3 MNow MLev).2.1) ((zf_X9_plan_3 MNow MLev).2.2) MWay MMost MHash]) X Z [0] [] [0] 0 7 (zc_X9_plan_3 l g B md MNow MPast MSav (zf_X9_refused_0) MThen MLev MFst MWay MMost MHash (by first | assumption | omega | decide)) wM_X9_171 wS_X9_plan wV_X9_plan wK_X9_plan wZ_X9 1 1 1 rfl (by decide +kernel) rfl (by decide) rfl rfl rfl (by decide) rfl rfl (rfl : zCl[7]? = some (RX9, TX9, 10)) hl.1 rfl rfl (by rw [hRf, hRl]; exact ⟨Nat.le_of_ble_eq_true rfl, Nat.le_of_ble_eq_true rfl⟩) (Nat.le_of_ble_eq_true rfl) ⟨Nat.zero_le _, Nat.zero_le _⟩ dX9_planValue_52 (fun H locs Z => ?_)
                  refine lv_iload_n hx hb dX9_planValue_55 rfl (lv_at hl 1 rfl) ?_
                  refine z_callS (mc := 0) (ms := 0) (As := [.int (3 : Int32)]) (rest := [.long ((zf_X9_plan_3 MNow MLev).1)]) (st2 := [.long (zf_X9_tens 3), .long ((zf_X9_plan_3 MNow MLev).1)]) (cs2 := [wMod g md MNow MPast MSav (zf_X9_refused_0) MThen ((zf_X9_plan_3 MNow MLev).2.1) ((zf_X9_plan_3 MNow MLev).2.2) MWay MMost MHash]) X Z [] [0] [0] (zc_X9_tens l g B 3 (by first | assumption | omega | decide)) wM_X9_174 wS_X9_tens wK_X9_tens wZ_X9 1 1 1 rfl (by decide +kernel) rfl (by decide) rfl rfl rfl (by decide) rfl hl.1 rfl rfl (by rw [hRf, hRl]; exact ⟨Nat.le_of_ble_eq_true rfl, Nat.le_of_ble_eq_true rfl⟩) (Nat.le_of_ble_eq_true rfl) ⟨Nat.zero_le _, Nat.zero_le _⟩ dX9_planValue_56 (fun H locs Z => ?_)
                  refine lv_aload_n hx hb dX9_planValue_59 rfl (lv_at hl 0 rfl) ?_
                  refine z_callV (mc := 0) (ms := 0) (As := []) (rest := [.long (zf_X9_tens 3), .long ((zf_X9_plan_3 MNow MLev).1)]) (st2 := [.long (zf_X9_weights MNow), .long (zf_X9_tens 3), .long ((zf_X9_plan_3 MNow MLev).1)]) (cs2 := [wMod g md MNow MPast MSav (zf_X9_refused_0) MThen ((zf_X9_plan_3 MNow MLev).2.1) ((zf_X9_plan_3 MNow MLev).2.2) MWay MMost MHash]) X Z [0] [] [0] 0 7 (zc_X9_weights l g B md MNow MPast MSav (zf_X9_refused_0) MThen ((zf_X9_plan_3 MNow MLev).2.1) ((zf_X9_plan_3 MNow MLev).2.2) MWay MMost MHash) wM_X9_136 wS_X9_weights wV_X9_weights wK_X9_weights wZ_X9 0 1 1 rfl (by decide +kernel) rfl (by decide) rfl rfl rfl (by decide) rfl rfl (rfl : zCl[7]? = some (RX9, TX9, 10)) hl.1 rfl rfl (by rw [hRf, hRl]; exact ⟨Nat.le_of_ble_eq_true rfl, Nat.le_of_ble_eq_true rfl⟩) (Nat.le_of_ble_eq_true rfl) ⟨Nat.zero_le _, Nat.zero_le _⟩ dX9_planValue_60 (fun H locs Z => ?_)
                  refine lv_lmul hx hb dX9_planValue_63 ?_
                  refine lv_iload_n hx hb dX9_planValue_64 rfl (lv_at hl 2 rfl) ?_
                  refine z_callS (mc := 0) (ms := 0) (As := [.long ((zf_X9_plan_3 MNow MLev).1), .long ((zf_X9_tens 3) * (zf_X9_weights MNow)), .int t]) (rest := []) (st2 := [.long (zf_X9_partOf ((zf_X9_plan_3 MNow MLev).1) ((zf_X9_tens 3) * (zf_X9_weights MNow)) t)]) (cs2 := [wMod g md MNow MPast MSav (zf_X9_refused_0) MThen ((zf_X9_plan_3 MNow MLev).2.1) ((zf_X9_plan_3 MNow MLev).2.2) MWay MMost MHash]) X Z [] [0] [0] (zc_X9_partOf l g B ((zf_X9_plan_3 MNow MLev).1) ((zf_X9_tens 3) * (zf_X9_weights MNow)) t hp3 (hw0 _ (by omega)) hq3) wM_X9_101 wS_X9_partOf wK_X9_partOf wZ_X9 3 1 1 rfl (by decide +kernel) rfl (by decide) rfl rfl rfl (by decide) rfl hl.1 rfl rfl (by rw [hRf, hRl]; exact ⟨Nat.le_of_ble_eq_true rfl, Nat.le_of_ble_eq_true rfl⟩) (Nat.le_of_ble_eq_true rfl) ⟨Nat.zero_le _, Nat.zero_le _⟩ dX9_planValue_65 (fun H locs Z => ?_)
                  exact z_rl (v := (zf_X9_partOf ((zf_X9_plan_3 MNow MLev).1) ((zf_X9_tens 3) * (zf_X9_weights MNow)) t)) E Z (by rw [zf_X9_planValue_e, if_pos c_1, if_pos c_3, if_pos c_4, if_neg c_6, if_neg c_7, if_neg c_8]; dsimp only; exact ⟨rfl, rfl⟩) dX9_planValue_68 (Nat.zero_le _) (Nat.zero_le _)
                · exact (zk03 (by assumption) (by assumption) (by assumption) (by assumption) (by assumption)).elim
        · (exact absurd c_5 (by decide))
      · refine lv_aload_n hx hb dX9_planValue_28 rfl (lv_at hl 0 rfl) ?_
        refine lv_bipush (v := (43 : Int32)) hx hb dX9_planValue_29 (by decide) ?_
        refine z_callV (mc := 0) (ms := 0) (As := [.int (43 : Int32)]) (rest := [.ref (md 0)]) (st2 := [.int (nI (zc (MNow 43))), .ref (md 0)]) (cs2 := [wMod g md MNow MPast MSav MRef MThen MLev MFst MWay MMost MHash]) X Z [0] [] [0] 0 7 (zc_X9_many l g B md MNow MPast MSav MRef MThen MLev MFst MWay MMost MHash 43 (zc (MNow 43)) (by first | assumption | omega | decide) (by first | assumption | omega | decide)) wM_X9_66 wS_X9_many wV_X9_many wK_X9_many wZ_X9 1 1 1 rfl (by decide +kernel) rfl (by decide) rfl rfl rfl (by decide) rfl rfl (rfl : zCl[7]? = some (RX9, TX9, 10)) hl.1 rfl rfl (by rw [hRf, hRl]; exact ⟨Nat.le_of_ble_eq_true rfl, Nat.le_of_ble_eq_true rfl⟩) (Nat.le_of_ble_eq_true rfl) ⟨Nat.zero_le _, Nat.zero_le _⟩ dX9_planValue_31 (fun H locs Z => ?_)
        refine z_ifneN (a := (zc (MNow 43))) (tgt := 41) X rfl (by omega) dX9_planValue_34 (by decide) (fun c_10 => ?_) (fun c_10 => ?_)
        · refine lv_iconst (v := (0 : Int32)) hx hb dX9_planValue_41 (by decide) ?_
          refine z_callV (mc := 0) (ms := 0) (As := [.int (0 : Int32)]) (rest := []) (st2 := [.int (0 : Int32)]) (cs2 := [wMod g md MNow MPast MSav (zf_X9_refused_0) MThen MLev MFst MWay MMost MHash]) X Z [0] [] [0] 0 7 (zc_X9_refused_0 l g B md MNow MPast MSav MRef MThen MLev MFst MWay MMost MHash) wM_X9_55 wS_X9_refused wV_X9_refused wK_X9_refused wZ_X9 1 1 1 rfl (by decide +kernel) rfl (by decide) rfl rfl rfl (by decide) rfl rfl (rfl : zCl[7]? = some (RX9, TX9, 10)) hl.1 rfl rfl (by rw [hRf, hRl]; exact ⟨Nat.le_of_ble_eq_true rfl, Nat.le_of_ble_eq_true rfl⟩) (Nat.le_of_ble_eq_true rfl) ⟨Nat.zero_le _, Nat.zero_le _⟩ dX9_planValue_42 (fun H locs Z => ?_)
          refine lv_if_eq (tgt := 50) hx hb dX9_planValue_45 (by decide) (fun c_11 => ?_) (fun c_11 => ?_)
          · by_cases c_12 : k = (0 : Int32)
            · have hl : lv_has ls 3 [(0, .ref (md 0)), (1, .int (0 : Int32)), (2, .int t)] := by rw [← c_12]; exact hl
              refine lv_aload_n hx hb dX9_planValue_50 rfl (lv_at hl 0 rfl) ?_
              refine lv_iload_n hx hb dX9_planValue_51 rfl (lv_at hl 1 rfl) ?_
              refine z_callV (mc := 0) (ms := 0) (As := [.int (0 : Int32)]) (rest := []) (st2 := [.long ((zf_X9_plan_0 MNow MLev).1)]) (cs2 := [wMod g md MNow MPast MSav (zf_X9_refused_0) MThen ((zf_X9_plan_0 MNow MLev).2.1) ((zf_X9_plan_0 MNow MLev).2.2) MWay MMost MHash]) X Z [0] [] [0] 0 7 (zc_X9_plan_0 l g B md MNow MPast MSav (zf_X9_refused_0) MThen MLev MFst MWay MMost MHash (by first | assumption | omega | decide)) wM_X9_171 wS_X9_plan wV_X9_plan wK_X9_plan wZ_X9 1 1 1 rfl (by decide +kernel) rfl (by decide) rfl rfl rfl (by decide) rfl rfl (rfl : zCl[7]? = some (RX9, TX9, 10)) hl.1 rfl rfl (by rw [hRf, hRl]; exact ⟨Nat.le_of_ble_eq_true rfl, Nat.le_of_ble_eq_true rfl⟩) (Nat.le_of_ble_eq_true rfl) ⟨Nat.zero_le _, Nat.zero_le _⟩ dX9_planValue_52 (fun H locs Z => ?_)
              refine lv_iload_n hx hb dX9_planValue_55 rfl (lv_at hl 1 rfl) ?_
              refine z_callS (mc := 0) (ms := 0) (As := [.int (0 : Int32)]) (rest := [.long ((zf_X9_plan_0 MNow MLev).1)]) (st2 := [.long (zf_X9_tens 0), .long ((zf_X9_plan_0 MNow MLev).1)]) (cs2 := [wMod g md MNow MPast MSav (zf_X9_refused_0) MThen ((zf_X9_plan_0 MNow MLev).2.1) ((zf_X9_plan_0 MNow MLev).2.2) MWay MMost MHash]) X Z [] [0] [0] (zc_X9_tens l g B 0 (by first | assumption | omega | decide)) wM_X9_174 wS_X9_tens wK_X9_tens wZ_X9 1 1 1 rfl (by decide +kernel) rfl (by decide) rfl rfl rfl (by decide) rfl hl.1 rfl rfl (by rw [hRf, hRl]; exact ⟨Nat.le_of_ble_eq_true rfl, Nat.le_of_ble_eq_true rfl⟩) (Nat.le_of_ble_eq_true rfl) ⟨Nat.zero_le _, Nat.zero_le _⟩ dX9_planValue_56 (fun H locs Z => ?_)
              refine lv_aload_n hx hb dX9_planValue_59 rfl (lv_at hl 0 rfl) ?_
              refine z_callV (mc := 0) (ms := 0) (As := []) (rest := [.long (zf_X9_tens 0), .long ((zf_X9_plan_0 MNow MLev).1)]) (st2 := [.long (zf_X9_weights MNow), .long (zf_X9_tens 0), .long ((zf_X9_plan_0 MNow MLev).1)]) (cs2 := [wMod g md MNow MPast MSav (zf_X9_refused_0) MThen ((zf_X9_plan_0 MNow MLev).2.1) ((zf_X9_plan_0 MNow MLev).2.2) MWay MMost MHash]) X Z [0] [] [0] 0 7 (zc_X9_weights l g B md MNow MPast MSav (zf_X9_refused_0) MThen ((zf_X9_plan_0 MNow MLev).2.1) ((zf_X9_plan_0 MNow MLev).2.2) MWay MMost MHash) wM_X9_136 wS_X9_weights wV_X9_weights wK_X9_weights wZ_X9 0 1 1 rfl (by decide +kernel) rfl (by decide) rfl rfl rfl (by decide) rfl rfl (rfl : zCl[7]? = some (RX9, TX9, 10)) hl.1 rfl rfl (by rw [hRf, hRl]; exact ⟨Nat.le_of_ble_eq_true rfl, Nat.le_of_ble_eq_true rfl⟩) (Nat.le_of_ble_eq_true rfl) ⟨Nat.zero_le _, Nat.zero_le _⟩ dX9_planValue_60 (fun H locs Z => ?_)
              refine lv_lmul hx hb dX9_planValue_63 ?_
              refine lv_iload_n hx hb dX9_planValue_64 rfl (lv_at hl 2 rfl) ?_
              refine z_callS (mc := 0) (ms := 0) (As := [.long ((zf_X9_plan_0 MNow MLev).1), .long ((zf_X9_tens 0) * (zf_X9_weights MNow)), .int t]) (rest := []) (st2 := [.long (zf_X9_partOf ((zf_X9_plan_0 MNow MLev).1) ((zf_X9_tens 0) * (zf_X9_weights MNow)) t)]) (cs2 := [wMod g md MNow MPast MSav (zf_X9_refused_0) MThen ((zf_X9_plan_0 MNow MLev).2.1) ((zf_X9_plan_0 MNow MLev).2.2) MWay MMost MHash]) X Z [] [0] [0] (zc_X9_partOf l g B ((zf_X9_plan_0 MNow MLev).1) ((zf_X9_tens 0) * (zf_X9_weights MNow)) t hp0 (hw0 _ (by omega)) hq0) wM_X9_101 wS_X9_partOf wK_X9_partOf wZ_X9 3 1 1 rfl (by decide +kernel) rfl (by decide) rfl rfl rfl (by decide) rfl hl.1 rfl rfl (by rw [hRf, hRl]; exact ⟨Nat.le_of_ble_eq_true rfl, Nat.le_of_ble_eq_true rfl⟩) (Nat.le_of_ble_eq_true rfl) ⟨Nat.zero_le _, Nat.zero_le _⟩ dX9_planValue_65 (fun H locs Z => ?_)
              exact z_rl (v := (zf_X9_partOf ((zf_X9_plan_0 MNow MLev).1) ((zf_X9_tens 0) * (zf_X9_weights MNow)) t)) E Z (by rw [zf_X9_planValue_e, if_pos c_1, if_pos c_3, if_neg c_4, if_neg c_10, if_pos c_12]; dsimp only; exact ⟨rfl, rfl⟩) dX9_planValue_68 (Nat.zero_le _) (Nat.zero_le _)
            · by_cases c_13 : k = (1 : Int32)
              · have hl : lv_has ls 3 [(0, .ref (md 0)), (1, .int (1 : Int32)), (2, .int t)] := by rw [← c_13]; exact hl
                refine lv_aload_n hx hb dX9_planValue_50 rfl (lv_at hl 0 rfl) ?_
                refine lv_iload_n hx hb dX9_planValue_51 rfl (lv_at hl 1 rfl) ?_
                refine z_callV (mc := 0) (ms := 0) (As := [.int (1 : Int32)]) (rest := []) (st2 := [.long ((zf_X9_plan_1 MNow MLev).1)]) (cs2 := [wMod g md MNow MPast MSav (zf_X9_refused_0) MThen ((zf_X9_plan_1 MNow MLev).2.1) ((zf_X9_plan_1 MNow MLev).2.2) MWay MMost MHash]) X Z [0] [] [0] 0 7 (zc_X9_plan_1 l g B md MNow MPast MSav (zf_X9_refused_0) MThen MLev MFst MWay MMost MHash (by first | assumption | omega | decide)) wM_X9_171 wS_X9_plan wV_X9_plan wK_X9_plan wZ_X9 1 1 1 rfl (by decide +kernel) rfl (by decide) rfl rfl rfl (by decide) rfl rfl (rfl : zCl[7]? = some (RX9, TX9, 10)) hl.1 rfl rfl (by rw [hRf, hRl]; exact ⟨Nat.le_of_ble_eq_true rfl, Nat.le_of_ble_eq_true rfl⟩) (Nat.le_of_ble_eq_true rfl) ⟨Nat.zero_le _, Nat.zero_le _⟩ dX9_planValue_52 (fun H locs Z => ?_)
                refine lv_iload_n hx hb dX9_planValue_55 rfl (lv_at hl 1 rfl) ?_
                refine z_callS (mc := 0) (ms := 0) (As := [.int (1 : Int32)]) (rest := [.long ((zf_X9_plan_1 MNow MLev).1)]) (st2 := [.long (zf_X9_tens 1), .long ((zf_X9_plan_1 MNow MLev).1)]) (cs2 := [wMod g md MNow MPast MSav (zf_X9_refused_0) MThen ((zf_X9_plan_1 MNow MLev).2.1) ((zf_X9_plan_1 MNow MLev).2.2) MWay MMost MHash]) X Z [] [0] [0] (zc_X9_tens l g B 1 (by first | assumption | omega | decide)) wM_X9_174 wS_X9_tens wK_X9_tens wZ_X9 1 1 1 rfl (by decide +kernel) rfl (by decide) rfl rfl rfl (by decide) rfl hl.1 rfl rfl (by rw [hRf, hRl]; exact ⟨Nat.le_of_ble_eq_true rfl, Nat.le_of_ble_eq_true rfl⟩) (Nat.le_of_ble_eq_true rfl) ⟨Nat.zero_le _, Nat.zero_le _⟩ dX9_planValue_56 (fun H locs Z => ?_)
                refine lv_aload_n hx hb dX9_planValue_59 rfl (lv_at hl 0 rfl) ?_
                refine z_callV (mc := 0) (ms := 0) (As := []) (rest := [.long (zf_X9_tens 1), .long ((zf_X9_plan_1 MNow MLev).1)]) (st2 := [.long (zf_X9_weights MNow), .long (zf_X9_tens 1), .long ((zf_X9_plan_1 MNow MLev).1)]) (cs2 := [wMod g md MNow MPast MSav (zf_X9_refused_0) MThen ((zf_X9_plan_1 MNow MLev).2.1) ((zf_X9_plan_1 MNow MLev).2.2) MWay MMost MHash]) X Z [0] [] [0] 0 7 (zc_X9_weights l g B md MNow MPast MSav (zf_X9_refused_0) MThen ((zf_X9_plan_1 MNow MLev).2.1) ((zf_X9_plan_1 MNow MLev).2.2) MWay MMost MHash) wM_X9_136 wS_X9_weights wV_X9_weights wK_X9_weights wZ_X9 0 1 1 rfl (by decide +kernel) rfl (by decide) rfl rfl rfl (by decide) rfl rfl (rfl : zCl[7]? = some (RX9, TX9, 10)) hl.1 rfl rfl (by rw [hRf, hRl]; exact ⟨Nat.le_of_ble_eq_true rfl, Nat.le_of_ble_eq_true rfl⟩) (Nat.le_of_ble_eq_true rfl) ⟨Nat.zero_le _, Nat.zero_le _⟩ dX9_planValue_60 (fun H locs Z => ?_)
                refine lv_lmul hx hb dX9_planValue_63 ?_
                refine lv_iload_n hx hb dX9_planValue_64 rfl (lv_at hl 2 rfl) ?_
                refine z_callS (mc := 0) (ms := 0) (As := [.long ((zf_X9_plan_1 MNow MLev).1), .long ((zf_X9_tens 1) * (zf_X9_weights MNow)), .int t]) (rest := []) (st2 := [.long (zf_X9_partOf ((zf_X9_plan_1 MNow MLev).1) ((zf_X9_tens 1) * (zf_X9_weights MNow)) t)]) (cs2 := [wMod g md MNow MPast MSav (zf_X9_refused_0) MThen ((zf_X9_plan_1 MNow MLev).2.1) ((zf_X9_plan_1 MNow MLev).2.2) MWay MMost MHash]) X Z [] [0] [0] (zc_X9_partOf l g B ((zf_X9_plan_1 MNow MLev).1) ((zf_X9_tens 1) * (zf_X9_weights MNow)) t hp1 (hw0 _ (by omega)) hq1) wM_X9_101 wS_X9_partOf wK_X9_partOf wZ_X9 3 1 1 rfl (by decide +kernel) rfl (by decide) rfl rfl rfl (by decide) rfl hl.1 rfl rfl (by rw [hRf, hRl]; exact ⟨Nat.le_of_ble_eq_true rfl, Nat.le_of_ble_eq_true rfl⟩) (Nat.le_of_ble_eq_true rfl) ⟨Nat.zero_le _, Nat.zero_le _⟩ dX9_planValue_65 (fun H locs Z => ?_)
                exact z_rl (v := (zf_X9_partOf ((zf_X9_plan_1 MNow MLev).1) ((zf_X9_tens 1) * (zf_X9_weights MNow)) t)) E Z (by rw [zf_X9_planValue_e, if_pos c_1, if_pos c_3, if_neg c_4, if_neg c_10, if_neg c_12, if_pos c_13]; dsimp only; exact ⟨rfl, rfl⟩) dX9_planValue_68 (Nat.zero_le _) (Nat.zero_le _)
              · by_cases c_14 : k = (2 : Int32)
                · have hl : lv_has ls 3 [(0, .ref (md 0)), (1, .int (2 : Int32)), (2, .int t)] := by rw [← c_14]; exact hl
                  refine lv_aload_n hx hb dX9_planValue_50 rfl (lv_at hl 0 rfl) ?_
                  refine lv_iload_n hx hb dX9_planValue_51 rfl (lv_at hl 1 rfl) ?_
                  refine z_callV (mc := 0) (ms := 0) (As := [.int (2 : Int32)]) (rest := []) (st2 := [.long ((zf_X9_plan_2 MNow MLev).1)]) (cs2 := [wMod g md MNow MPast MSav (zf_X9_refused_0) MThen ((zf_X9_plan_2 MNow MLev).2.1) ((zf_X9_plan_2 MNow MLev).2.2) MWay MMost MHash]) X Z [0] [] [0] 0 7 (zc_X9_plan_2 l g B md MNow MPast MSav (zf_X9_refused_0) MThen MLev MFst MWay MMost MHash (by first | assumption | omega | decide)) wM_X9_171 wS_X9_plan wV_X9_plan wK_X9_plan wZ_X9 1 1 1 rfl (by decide +kernel) rfl (by decide) rfl rfl rfl (by decide) rfl rfl (rfl : zCl[7]? = some (RX9, TX9, 10)) hl.1 rfl rfl (by rw [hRf, hRl]; exact ⟨Nat.le_of_ble_eq_true rfl, Nat.le_of_ble_eq_true rfl⟩) (Nat.le_of_ble_eq_true rfl) ⟨Nat.zero_le _, Nat.zero_le _⟩ dX9_planValue_52 (fun H locs Z => ?_)
                  refine lv_iload_n hx hb dX9_planValue_55 rfl (lv_at hl 1 rfl) ?_
                  refine z_callS (mc := 0) (ms := 0) (As := [.int (2 : Int32)]) (rest := [.long ((zf_X9_plan_2 MNow MLev).1)]) (st2 := [.long (zf_X9_tens 2), .long ((zf_X9_plan_2 MNow MLev).1)]) (cs2 := [wMod g md MNow MPast MSav (zf_X9_refused_0) MThen ((zf_X9_plan_2 MNow MLev).2.1) ((zf_X9_plan_2 MNow MLev).2.2) MWay MMost MHash]) X Z [] [0] [0] (zc_X9_tens l g B 2 (by first | assumption | omega | decide)) wM_X9_174 wS_X9_tens wK_X9_tens wZ_X9 1 1 1 rfl (by decide +kernel) rfl (by decide) rfl rfl rfl (by decide) rfl hl.1 rfl rfl (by rw [hRf, hRl]; exact ⟨Nat.le_of_ble_eq_true rfl, Nat.le_of_ble_eq_true rfl⟩) (Nat.le_of_ble_eq_true rfl) ⟨Nat.zero_le _, Nat.zero_le _⟩ dX9_planValue_56 (fun H locs Z => ?_)
                  refine lv_aload_n hx hb dX9_planValue_59 rfl (lv_at hl 0 rfl) ?_
                  refine z_callV (mc := 0) (ms := 0) (As := []) (rest := [.long (zf_X9_tens 2), .long ((zf_X9_plan_2 MNow MLev).1)]) (st2 := [.long (zf_X9_weights MNow), .long (zf_X9_tens 2), .long ((zf_X9_plan_2 MNow MLev).1)]) (cs2 := [wMod g md MNow MPast MSav (zf_X9_refused_0) MThen ((zf_X9_plan_2 MNow MLev).2.1) ((zf_X9_plan_2 MNow MLev).2.2) MWay MMost MHash]) X Z [0] [] [0] 0 7 (zc_X9_weights l g B md MNow MPast MSav (zf_X9_refused_0) MThen ((zf_X9_plan_2 MNow MLev).2.1) ((zf_X9_plan_2 MNow MLev).2.2) MWay MMost MHash) wM_X9_136 wS_X9_weights wV_X9_weights wK_X9_weights wZ_X9 0 1 1 rfl (by decide +kernel) rfl (by decide) rfl rfl rfl (by decide) rfl rfl (rfl : zCl[7]? = some (RX9, TX9, 10)) hl.1 rfl rfl (by rw [hRf, hRl]; exact ⟨Nat.le_of_ble_eq_true rfl, Nat.le_of_ble_eq_true rfl⟩) (Nat.le_of_ble_eq_true rfl) ⟨Nat.zero_le _, Nat.zero_le _⟩ dX9_planValue_60 (fun H locs Z => ?_)
                  refine lv_lmul hx hb dX9_planValue_63 ?_
                  refine lv_iload_n hx hb dX9_planValue_64 rfl (lv_at hl 2 rfl) ?_
                  refine z_callS (mc := 0) (ms := 0) (As := [.long ((zf_X9_plan_2 MNow MLev).1), .long ((zf_X9_tens 2) * (zf_X9_weights MNow)), .int t]) (rest := []) (st2 := [.long (zf_X9_partOf ((zf_X9_plan_2 MNow MLev).1) ((zf_X9_tens 2) * (zf_X9_weights MNow)) t)]) (cs2 := [wMod g md MNow MPast MSav (zf_X9_refused_0) MThen ((zf_X9_plan_2 MNow MLev).2.1) ((zf_X9_plan_2 MNow MLev).2.2) MWay MMost MHash]) X Z [] [0] [0] (zc_X9_partOf l g B ((zf_X9_plan_2 MNow MLev).1) ((zf_X9_tens 2) * (zf_X9_weights MNow)) t hp2 (hw0 _ (by omega)) hq2) wM_X9_101 wS_X9_partOf wK_X9_partOf wZ_X9 3 1 1 rfl (by decide +kernel) rfl (by decide) rfl rfl rfl (by decide) rfl hl.1 rfl rfl (by rw [hRf, hRl]; exact ⟨Nat.le_of_ble_eq_true rfl, Nat.le_of_ble_eq_true rfl⟩) (Nat.le_of_ble_eq_true rfl) ⟨Nat.zero_le _, Nat.zero_le _⟩ dX9_planValue_65 (fun H locs Z => ?_)
                  exact z_rl (v := (zf_X9_partOf ((zf_X9_plan_2 MNow MLev).1) ((zf_X9_tens 2) * (zf_X9_weights MNow)) t)) E Z (by rw [zf_X9_planValue_e, if_pos c_1, if_pos c_3, if_neg c_4, if_neg c_10, if_neg c_12, if_neg c_13, if_pos c_14]; dsimp only; exact ⟨rfl, rfl⟩) dX9_planValue_68 (Nat.zero_le _) (Nat.zero_le _)
                · by_cases c_15 : k = (3 : Int32)
                  · have hl : lv_has ls 3 [(0, .ref (md 0)), (1, .int (3 : Int32)), (2, .int t)] := by rw [← c_15]; exact hl
                    refine lv_aload_n hx hb dX9_planValue_50 rfl (lv_at hl 0 rfl) ?_
                    refine lv_iload_n hx hb dX9_planValue_51 rfl (lv_at hl 1 rfl) ?_
                    refine z_callV (mc := 0) (ms := 0) (As := [.int (3 : Int32)]) (rest := []) (st2 := [.long ((zf_X9_plan_3 MNow MLev).1)]) (cs2 := [wMod g md MNow MPast MSav (zf_X9_refused_0) MThen ((zf_X9_plan_3 MNow MLev).2.1) ((zf_X9_plan_3 MNow MLev).2.2) MWay MMost MHash]) X Z [0] [] [0] 0 7 (zc_X9_plan_3 l g B md MNow MPast MSav (zf_X9_refused_0) MThen MLev MFst MWay MMost MHash (by first | assumption | omega | decide)) wM_X9_171 wS_X9_plan wV_X9_plan wK_X9_plan wZ_X9 1 1 1 rfl (by decide +kernel) rfl (by decide) rfl rfl rfl (by decide) rfl rfl (rfl : zCl[7]? = some (RX9, TX9, 10)) hl.1 rfl rfl (by rw [hRf, hRl]; exact ⟨Nat.le_of_ble_eq_true rfl, Nat.le_of_ble_eq_true rfl⟩) (Nat.le_of_ble_eq_true rfl) ⟨Nat.zero_le _, Nat.zero_le _⟩ dX9_planValue_52 (fun H locs Z => ?_)
                    refine lv_iload_n hx hb dX9_planValue_55 rfl (lv_at hl 1 rfl) ?_
                    refine z_callS (mc := 0) (ms := 0) (As := [.int (3 : Int32)]) (rest := [.long ((zf_X9_plan_3 MNow MLev).1)]) (st2 := [.long (zf_X9_tens 3), .long ((zf_X9_plan_3 MNow MLev).1)]) (cs2 := [wMod g md MNow MPast MSav (zf_X9_refused_0) MThen ((zf_X9_plan_3 MNow MLev).2.1) ((zf_X9_plan_3 MNow MLev).2.2) MWay MMost MHash]) X Z [] [0] [0] (zc_X9_tens l g B 3 (by first | assumption | omega | decide)) wM_X9_174 wS_X9_tens wK_X9_tens wZ_X9 1 1 1 rfl (by decide +kernel) rfl (by decide) rfl rfl rfl (by decide) rfl hl.1 rfl rfl (by rw [hRf, hRl]; exact ⟨Nat.le_of_ble_eq_true rfl, Nat.le_of_ble_eq_true rfl⟩) (Nat.le_of_ble_eq_true rfl) ⟨Nat.zero_le _, Nat.zero_le _⟩ dX9_planValue_56 (fun H locs Z => ?_)
                    refine lv_aload_n hx hb dX9_planValue_59 rfl (lv_at hl 0 rfl) ?_
                    refine z_callV (mc := 0) (ms := 0) (As := []) (rest := [.long (zf_X9_tens 3), .long ((zf_X9_plan_3 MNow MLev).1)]) (st2 := [.long (zf_X9_weights MNow), .long (zf_X9_tens 3), .long ((zf_X9_plan_3 MNow MLev).1)]) (cs2 := [wMod g md MNow MPast MSav (zf_X9_refused_0) MThen ((zf_X9_plan_3 MNow MLev).2.1) ((zf_X9_plan_3 MNow MLev).2.2) MWay MMost MHash]) X Z [0] [] [0] 0 7 (zc_X9_weights l g B md MNow MPast MSav (zf_X9_refused_0) MThen ((zf_X9_plan_3 MNow MLev).2.1) ((zf_X9_plan_3 MNow MLev).2.2) MWay MMost MHash) wM_X9_136 wS_X9_weights wV_X9_weights wK_X9_weights wZ_X9 0 1 1 rfl (by decide +kernel) rfl (by decide) rfl rfl rfl (by decide) rfl rfl (rfl : zCl[7]? = some (RX9, TX9, 10)) hl.1 rfl rfl (by rw [hRf, hRl]; exact ⟨Nat.le_of_ble_eq_true rfl, Nat.le_of_ble_eq_true rfl⟩) (Nat.le_of_ble_eq_true rfl) ⟨Nat.zero_le _, Nat.zero_le _⟩ dX9_planValue_60 (fun H locs Z => ?_)
                    refine lv_lmul hx hb dX9_planValue_63 ?_
                    refine lv_iload_n hx hb dX9_planValue_64 rfl (lv_at hl 2 rfl) ?_
                    refine z_callS (mc := 0) (ms := 0) (As := [.long ((zf_X9_plan_3 MNow MLev).1), .long ((zf_X9_tens 3) * (zf_X9_weights MNow)), .int t]) (rest := []) (st2 := [.long (zf_X9_partOf ((zf_X9_plan_3 MNow MLev).1) ((zf_X9_tens 3) * (zf_X9_weights MNow)) t)]) (cs2 := [wMod g md MNow MPast MSav (zf_X9_refused_0) MThen ((zf_X9_plan_3 MNow MLev).2.1) ((zf_X9_plan_3 MNow MLev).2.2) MWay MMost MHash]) X Z [] [0] [0] (zc_X9_partOf l g B ((zf_X9_plan_3 MNow MLev).1) ((zf_X9_tens 3) * (zf_X9_weights MNow)) t hp3 (hw0 _ (by omega)) hq3) wM_X9_101 wS_X9_partOf wK_X9_partOf wZ_X9 3 1 1 rfl (by decide +kernel) rfl (by decide) rfl rfl rfl (by decide) rfl hl.1 rfl rfl (by rw [hRf, hRl]; exact ⟨Nat.le_of_ble_eq_true rfl, Nat.le_of_ble_eq_true rfl⟩) (Nat.le_of_ble_eq_true rfl) ⟨Nat.zero_le _, Nat.zero_le _⟩ dX9_planValue_65 (fun H locs Z => ?_)
                    exact z_rl (v := (zf_X9_partOf ((zf_X9_plan_3 MNow MLev).1) ((zf_X9_tens 3) * (zf_X9_weights MNow)) t)) E Z (by rw [zf_X9_planValue_e, if_pos c_1, if_pos c_3, if_neg c_4, if_neg c_10, if_neg c_12, if_neg c_13, if_neg c_14]; dsimp only; exact ⟨rfl, rfl⟩) dX9_planValue_68 (Nat.zero_le _) (Nat.zero_le _)
                  · exact (zk03 (by assumption) (by assumption) (by assumption) (by assumption) (by assumption)).elim
          · (exact absurd c_11 (by decide))
        · refine lv_iconst (v := (2 : Int32)) hx hb dX9_planValue_37 (by decide) ?_
          refine lv_goto (tgt := 42) hx hb dX9_planValue_38 (by decide) ?_
          refine z_callV (mc := 0) (ms := 0) (As := [.int (2 : Int32)]) (rest := []) (st2 := [.int (1 : Int32)]) (cs2 := [wMod g md MNow MPast MSav (zf_X9_refused_2) MThen MLev MFst MWay MMost MHash]) X Z [0] [] [0] 0 7 (zc_X9_refused_2 l g B md MNow MPast MSav MRef MThen MLev MFst MWay MMost MHash) wM_X9_55 wS_X9_refused wV_X9_refused wK_X9_refused wZ_X9 1 1 1 rfl (by decide +kernel) rfl (by decide) rfl rfl rfl (by decide) rfl rfl (rfl : zCl[7]? = some (RX9, TX9, 10)) hl.1 rfl rfl (by rw [hRf, hRl]; exact ⟨Nat.le_of_ble_eq_true rfl, Nat.le_of_ble_eq_true rfl⟩) (Nat.le_of_ble_eq_true rfl) ⟨Nat.zero_le _, Nat.zero_le _⟩ dX9_planValue_42 (fun H locs Z => ?_)
          refine lv_if_eq (tgt := 50) hx hb dX9_planValue_45 (by decide) (fun c_16 => ?_) (fun c_16 => ?_)
          · (exact absurd c_16 (by decide))
          · refine lv_lconst (v := (0 : Int64)) hx hb dX9_planValue_48 (by decide) ?_
            exact z_rl (v := (0 : Int64)) E Z (by rw [zf_X9_planValue_e, if_pos c_1, if_pos c_3, if_neg c_4, if_pos c_10]; dsimp only; exact ⟨rfl, rfl⟩) dX9_planValue_49 (Nat.zero_le _) (Nat.zero_le _)
    · refine lv_iconst (v := (1 : Int32)) hx hb dX9_planValue_20 (by decide) ?_
      refine lv_goto (tgt := 42) hx hb dX9_planValue_21 (by decide) ?_
      refine z_callV (mc := 0) (ms := 0) (As := [.int (1 : Int32)]) (rest := []) (st2 := [.int (1 : Int32)]) (cs2 := [wMod g md MNow MPast MSav (zf_X9_refused_1) MThen MLev MFst MWay MMost MHash]) X Z [0] [] [0] 0 7 (zc_X9_refused_1 l g B md MNow MPast MSav MRef MThen MLev MFst MWay MMost MHash) wM_X9_55 wS_X9_refused wV_X9_refused wK_X9_refused wZ_X9 1 1 1 rfl (by decide +kernel) rfl (by decide) rfl rfl rfl (by decide) rfl rfl (rfl : zCl[7]? = some (RX9, TX9, 10)) hl.1 rfl rfl (by rw [hRf, hRl]; exact ⟨Nat.le_of_ble_eq_true rfl, Nat.le_of_ble_eq_true rfl⟩) (Nat.le_of_ble_eq_true rfl) ⟨Nat.zero_le _, Nat.zero_le _⟩ dX9_planValue_42 (fun H locs Z => ?_)
      refine lv_if_eq (tgt := 50) hx hb dX9_planValue_45 (by decide) (fun c_17 => ?_) (fun c_17 => ?_)
      · (exact absurd c_17 (by decide))
      · refine lv_lconst (v := (0 : Int64)) hx hb dX9_planValue_48 (by decide) ?_
        exact z_rl (v := (0 : Int64)) E Z (by rw [zf_X9_planValue_e, if_pos c_1, if_neg (zBf c_3)]; dsimp only; exact ⟨rfl, rfl⟩) dX9_planValue_49 (Nat.zero_le _) (Nat.zero_le _)
def zf_X9_planFirst (MNow : Nat → Int64) (MLev : Nat → Int64) (MFst : Int32) (k : Int32) : Int32 × Int32 × (Nat → Int64) × Int32 := (if (zf_X9_within k.toInt64 (1 : Int64) (3 : Int64)) = true then (if (zc (MNow 43)) = 0 then ((0 : Int32), (zf_X9_refused_2), MLev, MFst) else (if k = (1 : Int32) then (((zf_X9_plan_1 MNow MLev).2.2), (zf_X9_refused_0), ((zf_X9_plan_1 MNow MLev).2.1), ((zf_X9_plan_1 MNow MLev).2.2)) else (if k = (2 : Int32) then (((zf_X9_plan_2 MNow MLev).2.2), (zf_X9_refused_0), ((zf_X9_plan_2 MNow MLev).2.1), ((zf_X9_plan_2 MNow MLev).2.2)) else (((zf_X9_plan_3 MNow MLev).2.2), (zf_X9_refused_0), ((zf_X9_plan_3 MNow MLev).2.1), ((zf_X9_plan_3 MNow MLev).2.2))))) else ((0 : Int32), (zf_X9_refused_1), MLev, MFst))
theorem zf_X9_planFirst_e (MNow : Nat → Int64) (MLev : Nat → Int64) (MFst : Int32) (k : Int32) : zf_X9_planFirst MNow MLev MFst k = (if (zf_X9_within k.toInt64 (1 : Int64) (3 : Int64)) = true then (if (zc (MNow 43)) = 0 then ((0 : Int32), (zf_X9_refused_2), MLev, MFst) else (if k = (1 : Int32) then (((zf_X9_plan_1 MNow MLev).2.2), (zf_X9_refused_0), ((zf_X9_plan_1 MNow MLev).2.1), ((zf_X9_plan_1 MNow MLev).2.2)) else (if k = (2 : Int32) then (((zf_X9_plan_2 MNow MLev).2.2), (zf_X9_refused_0), ((zf_X9_plan_2 MNow MLev).2.1), ((zf_X9_plan_2 MNow MLev).2.2)) else (((zf_X9_plan_3 MNow MLev).2.2), (zf_X9_refused_0), ((zf_X9_plan_3 MNow MLev).2.1), ((zf_X9_plan_3 MNow MLev).2.2))))) else ((0 : Int32), (zf_X9_refused_1), MLev, MFst)) := rfl
set_option maxHeartbeats 4000000 in
set_option maxRecDepth 100000 in
theorem zc_X9_planFirst (l : Launch) (g : zG) (B : Nat) (md : Nat → Nat) (MNow : Nat → Int64) (MPast : Nat → Int64) (MSav : Nat) (MRef : Int32) (MThen : Nat → Int64) (MLev : Nat → Int64) (MFst : Int32) (MWay : Nat → Int64) (MMost : Nat → Int32) (MHash : Int64) (k : Int32) (hN : zNow MNow) : zMet l g B yX9_planFirst cX9_planFirst 2 (some .int) 8 300 0 0 [.ref (md 0), .int k] [wMod g md MNow MPast MSav MRef MThen MLev MFst MWay MMost MHash] (zDet (some (.int ((zf_X9_planFirst MNow MLev MFst k).1))) [wMod g md MNow MPast MSav ((zf_X9_planFirst MNow MLev MFst k).2.1) MThen ((zf_X9_planFirst MNow MLev MFst k).2.2.1) ((zf_X9_planFirst MNow MLev MFst k).2.2.2) MWay MMost MHash]) := by
  refine z_in (plainFor_of_name (by decide)) (Nat.le_of_ble_eq_true rfl) (fun p e R s m args below meth c A Q hRf hRl hRc hRs X Z hnm E ls hl => ?_)
  have hx := X.1
  have hb := X.2.1
  have hown := X.2.2.2.1
  have hts := X.2.2.2.2.1
  have hl : lv_has ls 2 [(0, .ref (md 0)), (1, .int k)] := hl
  have hN2 := hN; obtain ⟨he9, hb9, he34, hb34, he43, hb43, he284, hb284, he301, hb301⟩ := hN2
  refine lv_aload_n hx hb dX9_planFirst_0 rfl (lv_at hl 0 rfl) ?_
  refine lv_iload_n hx hb dX9_planFirst_1 rfl (lv_at hl 1 rfl) ?_
  refine lv_i2l hx hb dX9_planFirst_2 rfl ?_
  refine lv_lconst (v := (1 : Int64)) hx hb dX9_planFirst_3 (by decide) ?_
  refine lv_ldc2 (v := (3 : Int64)) hx hb hown (hts _ wL_X9_169) dX9_planFirst_4 ?_
  refine z_callS (mc := 0) (ms := 0) (As := [.long k.toInt64, .long (1 : Int64), .long (3 : Int64)]) (rest := [.ref (md 0)]) (st2 := [.int (zB (zf_X9_within k.toInt64 (1 : Int64) (3 : Int64))), .ref (md 0)]) (cs2 := [wMod g md MNow MPast MSav MRef MThen MLev MFst MWay MMost MHash]) X Z [] [0] [0] (zc_X9_within l g B k.toInt64 (1 : Int64) (3 : Int64)) wM_X9_44 wS_X9_within wK_X9_within wZ_X9 3 1 1 rfl (by decide +kernel) rfl (by decide) rfl rfl rfl (by decide) rfl hl.1 rfl rfl (by rw [hRf, hRl]; exact ⟨Nat.le_of_ble_eq_true rfl, Nat.le_of_ble_eq_true rfl⟩) (Nat.le_of_ble_eq_true rfl) ⟨Nat.zero_le _, Nat.zero_le _⟩ dX9_planFirst_7 (fun H locs Z => ?_)
  refine z_ifneB (b := (zf_X9_within k.toInt64 (1 : Int64) (3 : Int64))) (tgt := 17) X dX9_planFirst_10 (by decide) (fun c_1 => ?_) (fun c_1 => ?_)
  · refine lv_aload_n hx hb dX9_planFirst_17 rfl (lv_at hl 0 rfl) ?_
    refine lv_bipush (v := (43 : Int32)) hx hb dX9_planFirst_18 (by decide) ?_
    refine z_callV (mc := 0) (ms := 0) (As := [.int (43 : Int32)]) (rest := [.ref (md 0)]) (st2 := [.int (nI (zc (MNow 43))), .ref (md 0)]) (cs2 := [wMod g md MNow MPast MSav MRef MThen MLev MFst MWay MMost MHash]) X Z [0] [] [0] 0 7 (zc_X9_many l g B md MNow MPast MSav MRef MThen MLev MFst MWay MMost MHash 43 (zc (MNow 43)) (by first | assumption | omega | decide) (by first | assumption | omega | decide)) wM_X9_66 wS_X9_many wV_X9_many wK_X9_many wZ_X9 1 1 1 rfl (by decide +kernel) rfl (by decide) rfl rfl rfl (by decide) rfl rfl (rfl : zCl[7]? = some (RX9, TX9, 10)) hl.1 rfl rfl (by rw [hRf, hRl]; exact ⟨Nat.le_of_ble_eq_true rfl, Nat.le_of_ble_eq_true rfl⟩) (Nat.le_of_ble_eq_true rfl) ⟨Nat.zero_le _, Nat.zero_le _⟩ dX9_planFirst_20 (fun H locs Z => ?_)
    refine z_ifneN (a := (zc (MNow 43))) (tgt := 30) X rfl (by omega) dX9_planFirst_23 (by decide) (fun c_2 => ?_) (fun c_2 => ?_)
    · refine lv_iconst (v := (0 : Int32)) hx hb dX9_planFirst_30 (by decide) ?_
      refine z_callV (mc := 0) (ms := 0) (As := [.int (0 : Int32)]) (rest := []) (st2 := [.int (0 : Int32)]) (cs2 := [wMod g md MNow MPast MSav (zf_X9_refused_0) MThen MLev MFst MWay MMost MHash]) X Z [0] [] [0] 0 7 (zc_X9_refused_0 l g B md MNow MPast MSav MRef MThen MLev MFst MWay MMost MHash) wM_X9_55 wS_X9_refused wV_X9_refused wK_X9_refused wZ_X9 1 1 1 rfl (by decide +kernel) rfl (by decide) rfl rfl rfl (by decide) rfl rfl (rfl : zCl[7]? = some (RX9, TX9, 10)) hl.1 rfl rfl (by rw [hRf, hRl]; exact ⟨Nat.le_of_ble_eq_true rfl, Nat.le_of_ble_eq_true rfl⟩) (Nat.le_of_ble_eq_true rfl) ⟨Nat.zero_le _, Nat.zero_le _⟩ dX9_planFirst_31 (fun H locs Z => ?_)
      refine lv_if_eq (tgt := 39) hx hb dX9_planFirst_34 (by decide) (fun c_3 => ?_) (fun c_3 => ?_)
      · by_cases c_4 : k = (1 : Int32)
        · have hl : lv_has ls 2 [(0, .ref (md 0)), (1, .int (1 : Int32))] := by rw [← c_4]; exact hl
          refine lv_aload_n hx hb dX9_planFirst_39 rfl (lv_at hl 0 rfl) ?_
          refine lv_iload_n hx hb dX9_planFirst_40 rfl (lv_at hl 1 rfl) ?_
          refine z_callV (mc := 0) (ms := 0) (As := [.int (1 : Int32)]) (rest := []) (st2 := [.long ((zf_X9_plan_1 MNow MLev).1)]) (cs2 := [wMod g md MNow MPast MSav (zf_X9_refused_0) MThen ((zf_X9_plan_1 MNow MLev).2.1) ((zf_X9_plan_1 MNow MLev).2.2) MWay MMost MHash]) X Z [0] [] [0] 0 7 (zc_X9_plan_1 l g B md MNow MPast MSav (zf_X9_refused_0) MThen MLev MFst MWay MMost MHash (by first | assumption | omega | decide)) wM_X9_171 wS_X9_plan wV_X9_plan wK_X9_plan wZ_X9 1 1 1 rfl (by decide +kernel) rfl (by decide) rfl rfl rfl (by decide) rfl rfl (rfl : zCl[7]? = some (RX9, TX9, 10)) hl.1 rfl rfl (by rw [hRf, hRl]; exact ⟨Nat.le_of_ble_eq_true rfl, Nat.le_of_ble_eq_true rfl⟩) (Nat.le_of_ble_eq_true rfl) ⟨Nat.zero_le _, Nat.zero_le _⟩ dX9_planFirst_41 (fun H locs Z => ?_)
          refine lv_pop2_2 hx hb dX9_planFirst_44 rfl ?_
          refine lv_aload_n hx hb dX9_planFirst_45 rfl (lv_at hl 0 rfl) ?_
          refine z_get X Z 0 rfl (rfl : zCl[7]? = some (RX9, TX9, 10)) zU_X9 6 (by decide) wF_X9_157 rfl rfl dX9_planFirst_46 ?_
          exact z_ri (v := ((zf_X9_plan_1 MNow MLev).2.2)) E Z rfl (by rw [zf_X9_planFirst_e, if_pos c_1, if_neg c_2, if_pos c_4]; dsimp only; exact ⟨rfl, rfl⟩) dX9_planFirst_49 (Nat.zero_le _) (Nat.zero_le _)
        · by_cases c_5 : k = (2 : Int32)
          · have hl : lv_has ls 2 [(0, .ref (md 0)), (1, .int (2 : Int32))] := by rw [← c_5]; exact hl
            refine lv_aload_n hx hb dX9_planFirst_39 rfl (lv_at hl 0 rfl) ?_
            refine lv_iload_n hx hb dX9_planFirst_40 rfl (lv_at hl 1 rfl) ?_
            refine z_callV (mc := 0) (ms := 0) (As := [.int (2 : Int32)]) (rest := []) (st2 := [.long ((zf_X9_plan_2 MNow MLev).1)]) (cs2 := [wMod g md MNow MPast MSav (zf_X9_refused_0) MThen ((zf_X9_plan_2 MNow MLev).2.1) ((zf_X9_plan_2 MNow MLev).2.2) MWay MMost MHash]) X Z [0] [] [0] 0 7 (zc_X9_plan_2 l g B md MNow MPast MSav (zf_X9_refused_0) MThen MLev MFst MWay MMost MHash (by first | assumption | omega | decide)) wM_X9_171 wS_X9_plan wV_X9_plan wK_X9_plan wZ_X9 1 1 1 rfl (by decide +kernel) rfl (by decide) rfl rfl rfl (by decide) rfl rfl (rfl : zCl[7]? = some (RX9, TX9, 10)) hl.1 rfl rfl (by rw [hRf, hRl]; exact ⟨Nat.le_of_ble_eq_true rfl, Nat.le_of_ble_eq_true rfl⟩) (Nat.le_of_ble_eq_true rfl) ⟨Nat.zero_le _, Nat.zero_le _⟩ dX9_planFirst_41 (fun H locs Z => ?_)
            refine lv_pop2_2 hx hb dX9_planFirst_44 rfl ?_
            refine lv_aload_n hx hb dX9_planFirst_45 rfl (lv_at hl 0 rfl) ?_
            refine z_get X Z 0 rfl (rfl : zCl[7]? = some (RX9, TX9, 10)) zU_X9 6 (by decide) wF_X9_157 rfl rfl dX9_planFirst_46 ?_
            exact z_ri (v := ((zf_X9_plan_2 MNow MLev).2.2)) E Z rfl (by rw [zf_X9_planFirst_e, if_pos c_1, if_neg c_2, if_neg c_4, if_pos c_5]; dsimp only; exact ⟨rfl, rfl⟩) dX9_planFirst_49 (Nat.zero_le _) (Nat.zero_le _)
          · by_cases c_6 : k = (3 : Int32)
            · have hl : lv_has ls 2 [(0, .ref (md 0)), (1, .int (3 : Int32))] := by rw [← c_6]; exact hl
              refine lv_aload_n hx hb dX9_planFirst_39 rfl (lv_at hl 0 rfl) ?_
              refine lv_iload_n hx hb dX9_planFirst_40 rfl (lv_at hl 1 rfl) ?_
              refine z_callV (mc := 0) (ms := 0) (As := [.int (3 : Int32)]) (rest := []) (st2 := [.long ((zf_X9_plan_3 MNow MLev).1)]) (cs2 := [wMod g md MNow MPast MSav (zf_X9_refused_0) MThen ((zf_X9_plan_3 MNow MLev).2.1) ((zf_X9_plan_3 MNow MLev).2.2) MWay MMost MHash]) X Z [0] [] [0] 0 7 (zc_X9_plan_3 l g B md MNow MPast MSav (zf_X9_refused_0) MThen MLev MFst MWay MMost MHash (by first | assumption | omega | decide)) wM_X9_171 wS_X9_plan wV_X9_plan wK_X9_plan wZ_X9 1 1 1 rfl (by decide +kernel) rfl (by decide) rfl rfl rfl (by decide) rfl rfl (rfl : zCl[7]? = some (RX9, TX9, 10)) hl.1 rfl rfl (by rw [hRf, hRl]; exact ⟨Nat.le_of_ble_eq_true rfl, Nat.le_of_ble_eq_true rfl⟩) (Nat.le_of_ble_eq_true rfl) ⟨Nat.zero_le _, Nat.zero_le _⟩ dX9_planFirst_41 (fun H locs Z => ?_)
              refine lv_pop2_2 hx hb dX9_planFirst_44 rfl ?_
              refine lv_aload_n hx hb dX9_planFirst_45 rfl (lv_at hl 0 rfl) ?_
              refine z_get X Z 0 rfl (rfl : zCl[7]? = some (RX9, TX9, 10)) zU_X9 6 (by decide) wF_X9_157 rfl rfl dX9_planFirst_46 ?_
              exact z_ri (v := ((zf_X9_plan_3 MNow MLev).2.2)) E Z rfl (by rw [zf_X9_planFirst_e, if_pos c_1, if_neg c_2, if_neg c_4, if_neg c_5]; dsimp only; exact ⟨rfl, rfl⟩) dX9_planFirst_49 (Nat.zero_le _) (Nat.zero_le _)
            · exact (zk13 (by assumption) (by assumption) (by assumption) (by assumption)).elim
      · (exact absurd c_3 (by decide))
    · refine lv_iconst (v := (2 : Int32)) hx hb dX9_planFirst_26 (by decide) ?_
      refine lv_goto (tgt := 31) hx hb dX9_planFirst_27 (by decide) ?_
      refine z_callV (mc := 0) (ms := 0) (As := [.int (2 : Int32)]) (rest := []) (st2 := [.int (1 : Int32)]) (cs2 := [wMod g md MNow MPast MSav (zf_X9_refused_2) MThen MLev MFst MWay MMost MHash]) X Z [0] [] [0] 0 7 (zc_X9_refused_2 l g B md MNow MPast MSav MRef MThen MLev MFst MWay MMost MHash) wM_X9_55 wS_X9_refused wV_X9_refused wK_X9_refused wZ_X9 1 1 1 rfl (by decide +kernel) rfl (by decide) rfl rfl rfl (by decide) rfl rfl (rfl : zCl[7]? = some (RX9, TX9, 10)) hl.1 rfl rfl (by rw [hRf, hRl]; exact ⟨Nat.le_of_ble_eq_true rfl, Nat.le_of_ble_eq_true rfl⟩) (Nat.le_of_ble_eq_true rfl) ⟨Nat.zero_le _, Nat.zero_le _⟩ dX9_planFirst_31 (fun H locs Z => ?_)
      refine lv_if_eq (tgt := 39) hx hb dX9_planFirst_34 (by decide) (fun c_7 => ?_) (fun c_7 => ?_)
      · (exact absurd c_7 (by decide))
      · refine lv_iconst (v := (0 : Int32)) hx hb dX9_planFirst_37 (by decide) ?_
        exact z_ri (v := (0 : Int32)) E Z rfl (by rw [zf_X9_planFirst_e, if_pos c_1, if_pos c_2]; dsimp only; exact ⟨rfl, rfl⟩) dX9_planFirst_38 (Nat.zero_le _) (Nat.zero_le _)
  · refine lv_iconst (v := (1 : Int32)) hx hb dX9_planFirst_13 (by decide) ?_
    refine lv_goto (tgt := 31) hx hb dX9_planFirst_14 (by decide) ?_
    refine z_callV (mc := 0) (ms := 0) (As := [.int (1 : Int32)]) (rest := []) (st2 := [.int (1 : Int32)]) (cs2 := [wMod g md MNow MPast MSav (zf_X9_refused_1) MThen MLev MFst MWay MMost MHash]) X Z [0] [] [0] 0 7 (zc_X9_refused_1 l g B md MNow MPast MSav MRef MThen MLev MFst MWay MMost MHash) wM_X9_55 wS_X9_refused wV_X9_refused wK_X9_refused wZ_X9 1 1 1 rfl (by decide +kernel) rfl (by decide) rfl rfl rfl (by decide) rfl rfl (rfl : zCl[7]? = some (RX9, TX9, 10)) hl.1 rfl rfl (by rw [hRf, hRl]; exact ⟨Nat.le_of_ble_eq_true rfl, Nat.le_of_ble_eq_true rfl⟩) (Nat.le_of_ble_eq_true rfl) ⟨Nat.zero_le _, Nat.zero_le _⟩ dX9_planFirst_31 (fun H locs Z => ?_)
    refine lv_if_eq (tgt := 39) hx hb dX9_planFirst_34 (by decide) (fun c_8 => ?_) (fun c_8 => ?_)
    · (exact absurd c_8 (by decide))
    · refine lv_iconst (v := (0 : Int32)) hx hb dX9_planFirst_37 (by decide) ?_
      exact z_ri (v := (0 : Int32)) E Z rfl (by rw [zf_X9_planFirst_e, if_neg (zBf c_1)]; dsimp only; exact ⟨rfl, rfl⟩) dX9_planFirst_38 (Nat.zero_le _) (Nat.zero_le _)
def zf_X9_tail (MWay : Nat → Int64) (t : Int32) (k : Int32) (u : Int32) : Int64 × Int32 × (Nat → Int64) := (if (zf_X9_within t.toInt64 (0 : Int64) (15 : Int64)) = true then (if (zf_X9_within k.toInt64 (0 : Int64) (16 : Int64)) = true then (if (zf_X9_isChance u) = true then (((zf_X9_tailOf MWay (zi t) (zi k) (zi u)).1), (zf_X9_refused_0), ((zf_X9_tailOf MWay (zi t) (zi k) (zi u)).2)) else ((0 : Int64), (zf_X9_refused_1), MWay)) else ((0 : Int64), (zf_X9_refused_1), MWay)) else ((0 : Int64), (zf_X9_refused_1), MWay))
theorem zf_X9_tail_e (MWay : Nat → Int64) (t : Int32) (k : Int32) (u : Int32) : zf_X9_tail MWay t k u = (if (zf_X9_within t.toInt64 (0 : Int64) (15 : Int64)) = true then (if (zf_X9_within k.toInt64 (0 : Int64) (16 : Int64)) = true then (if (zf_X9_isChance u) = true then (((zf_X9_tailOf MWay (zi t) (zi k) (zi u)).1), (zf_X9_refused_0), ((zf_X9_tailOf MWay (zi t) (zi k) (zi u)).2)) else ((0 : Int64), (zf_X9_refused_1), MWay)) else ((0 : Int64), (zf_X9_refused_1), MWay)) else ((0 : Int64), (zf_X9_refused_1), MWay)) := rfl
set_option maxHeartbeats 4000000 in
set_option maxRecDepth 100000 in
theorem zc_X9_tail (l : Launch) (g : zG) (B : Nat) (md : Nat → Nat) (MNow : Nat → Int64) (MPast : Nat → Int64) (MSav : Nat) (MRef : Int32) (MThen : Nat → Int64) (MLev : Nat → Int64) (MFst : Int32) (MWay : Nat → Int64) (MMost : Nat → Int32) (MHash : Int64) (t : Int32) (k : Int32) (u : Int32) : zMet l g B yX9_tail cX9_tail 4 (some .long) 4 140 0 0 [.ref (md 0), .int t, .int k, .int u] [wMod g md MNow MPast MSav MRef MThen MLev MFst MWay MMost MHash] (zDet (some (.long ((zf_X9_tail MWay t k u).1))) [wMod g md MNow MPast MSav ((zf_X9_tail MWay t k u).2.1) MThen MLev MFst ((zf_X9_tail MWay t k u).2.2) MMost MHash]) := by
  refine z_in (plainFor_of_name (by decide)) (Nat.le_of_ble_eq_true rfl) (fun p e R s m args below meth c A Q hRf hRl hRc hRs X Z hnm E ls hl => ?_)
  have hx := X.1
  have hb := X.2.1
  have hown := X.2.2.2.1
  have hts := X.2.2.2.2.1
  have hl : lv_has ls 4 [(0, .ref (md 0)), (1, .int t), (2, .int k), (3, .int u)] := hl
  refine lv_aload_n hx hb dX9_tail_0 rfl (lv_at hl 0 rfl) ?_
  refine lv_iload_n hx hb dX9_tail_1 rfl (lv_at hl 1 rfl) ?_
  refine lv_i2l hx hb dX9_tail_2 rfl ?_
  refine lv_lconst (v := (0 : Int64)) hx hb dX9_tail_3 (by decide) ?_
  refine lv_ldc2 (v := (15 : Int64)) hx hb hown (hts _ wL_X9_181) dX9_tail_4 ?_
  refine z_callS (mc := 0) (ms := 0) (As := [.long t.toInt64, .long (0 : Int64), .long (15 : Int64)]) (rest := [.ref (md 0)]) (st2 := [.int (zB (zf_X9_within t.toInt64 (0 : Int64) (15 : Int64))), .ref (md 0)]) (cs2 := [wMod g md MNow MPast MSav MRef MThen MLev MFst MWay MMost MHash]) X Z [] [0] [0] (zc_X9_within l g B t.toInt64 (0 : Int64) (15 : Int64)) wM_X9_44 wS_X9_within wK_X9_within wZ_X9 3 1 1 rfl (by decide +kernel) rfl (by decide) rfl rfl rfl (by decide) rfl hl.1 rfl rfl (by rw [hRf, hRl]; exact ⟨Nat.le_of_ble_eq_true rfl, Nat.le_of_ble_eq_true rfl⟩) (Nat.le_of_ble_eq_true rfl) ⟨Nat.zero_le _, Nat.zero_le _⟩ dX9_tail_7 (fun H locs Z => ?_)
  refine z_ifeqB (b := (zf_X9_within t.toInt64 (0 : Int64) (15 : Int64))) (tgt := 36) X dX9_tail_10 (by decide) (fun c_1 => ?_) (fun c_1 => ?_)
  · refine lv_iconst (v := (1 : Int32)) hx hb dX9_tail_36 (by decide) ?_
    refine z_callV (mc := 0) (ms := 0) (As := [.int (1 : Int32)]) (rest := []) (st2 := [.int (1 : Int32)]) (cs2 := [wMod g md MNow MPast MSav (zf_X9_refused_1) MThen MLev MFst MWay MMost MHash]) X Z [0] [] [0] 0 7 (zc_X9_refused_1 l g B md MNow MPast MSav MRef MThen MLev MFst MWay MMost MHash) wM_X9_55 wS_X9_refused wV_X9_refused wK_X9_refused wZ_X9 1 1 1 rfl (by decide +kernel) rfl (by decide) rfl rfl rfl (by decide) rfl rfl (rfl : zCl[7]? = some (RX9, TX9, 10)) hl.1 rfl rfl (by rw [hRf, hRl]; exact ⟨Nat.le_of_ble_eq_true rfl, Nat.le_of_ble_eq_true rfl⟩) (Nat.le_of_ble_eq_true rfl) ⟨Nat.zero_le _, Nat.zero_le _⟩ dX9_tail_37 (fun H locs Z => ?_)
    refine lv_if_eq (tgt := 45) hx hb dX9_tail_40 (by decide) (fun c_2 => ?_) (fun c_2 => ?_)
    · (exact absurd c_2 (by decide))
    · refine lv_lconst (v := (0 : Int64)) hx hb dX9_tail_43 (by decide) ?_
      exact z_rl (v := (0 : Int64)) E Z (by rw [zf_X9_tail_e, if_neg (zBf c_1)]; dsimp only; exact ⟨rfl, rfl⟩) dX9_tail_44 (Nat.zero_le _) (Nat.zero_le _)
  · refine lv_iload_n hx hb dX9_tail_13 rfl (lv_at hl 2 rfl) ?_
    refine lv_i2l hx hb dX9_tail_14 rfl ?_
    refine lv_lconst (v := (0 : Int64)) hx hb dX9_tail_15 (by decide) ?_
    refine lv_ldc2 (v := (16 : Int64)) hx hb hown (hts _ wL_X9_183) dX9_tail_16 ?_
    refine z_callS (mc := 0) (ms := 0) (As := [.long k.toInt64, .long (0 : Int64), .long (16 : Int64)]) (rest := [.ref (md 0)]) (st2 := [.int (zB (zf_X9_within k.toInt64 (0 : Int64) (16 : Int64))), .ref (md 0)]) (cs2 := [wMod g md MNow MPast MSav MRef MThen MLev MFst MWay MMost MHash]) X Z [] [0] [0] (zc_X9_within l g B k.toInt64 (0 : Int64) (16 : Int64)) wM_X9_44 wS_X9_within wK_X9_within wZ_X9 3 1 1 rfl (by decide +kernel) rfl (by decide) rfl rfl rfl (by decide) rfl hl.1 rfl rfl (by rw [hRf, hRl]; exact ⟨Nat.le_of_ble_eq_true rfl, Nat.le_of_ble_eq_true rfl⟩) (Nat.le_of_ble_eq_true rfl) ⟨Nat.zero_le _, Nat.zero_le _⟩ dX9_tail_19 (fun H locs Z => ?_)
    refine z_ifeqB (b := (zf_X9_within k.toInt64 (0 : Int64) (16 : Int64))) (tgt := 36) X dX9_tail_22 (by decide) (fun c_3 => ?_) (fun c_3 => ?_)
    · refine lv_iconst (v := (1 : Int32)) hx hb dX9_tail_36 (by decide) ?_
      refine z_callV (mc := 0) (ms := 0) (As := [.int (1 : Int32)]) (rest := []) (st2 := [.int (1 : Int32)]) (cs2 := [wMod g md MNow MPast MSav (zf_X9_refused_1) MThen MLev MFst MWay MMost MHash]) X Z [0] [] [0] 0 7 (zc_X9_refused_1 l g B md MNow MPast MSav MRef MThen MLev MFst MWay MMost MHash) wM_X9_55 wS_X9_refused wV_X9_refused wK_X9_refused wZ_X9 1 1 1 rfl (by decide +kernel) rfl (by decide) rfl rfl rfl (by decide) rfl rfl (rfl : zCl[7]? = some (RX9, TX9, 10)) hl.1 rfl rfl (by rw [hRf, hRl]; exact ⟨Nat.le_of_ble_eq_true rfl, Nat.le_of_ble_eq_true rfl⟩) (Nat.le_of_ble_eq_true rfl) ⟨Nat.zero_le _, Nat.zero_le _⟩ dX9_tail_37 (fun H locs Z => ?_)
      refine lv_if_eq (tgt := 45) hx hb dX9_tail_40 (by decide) (fun c_4 => ?_) (fun c_4 => ?_)
      · (exact absurd c_4 (by decide))
      · refine lv_lconst (v := (0 : Int64)) hx hb dX9_tail_43 (by decide) ?_
        exact z_rl (v := (0 : Int64)) E Z (by rw [zf_X9_tail_e, if_pos c_1, if_neg (zBf c_3)]; dsimp only; exact ⟨rfl, rfl⟩) dX9_tail_44 (Nat.zero_le _) (Nat.zero_le _)
    · refine lv_iload_n hx hb dX9_tail_25 rfl (lv_at hl 3 rfl) ?_
      refine z_callS (mc := 0) (ms := 0) (As := [.int u]) (rest := [.ref (md 0)]) (st2 := [.int (zB (zf_X9_isChance u)), .ref (md 0)]) (cs2 := [wMod g md MNow MPast MSav MRef MThen MLev MFst MWay MMost MHash]) X Z [] [0] [0] (zc_X9_isChance l g B u) wM_X9_185 wS_X9_isChance wK_X9_isChance wZ_X9 1 1 1 rfl (by decide +kernel) rfl (by decide) rfl rfl rfl (by decide) rfl hl.1 rfl rfl (by rw [hRf, hRl]; exact ⟨Nat.le_of_ble_eq_true rfl, Nat.le_of_ble_eq_true rfl⟩) (Nat.le_of_ble_eq_true rfl) ⟨Nat.zero_le _, Nat.zero_le _⟩ dX9_tail_26 (fun H locs Z => ?_)
      refine z_ifeqB (b := (zf_X9_isChance u)) (tgt := 36) X dX9_tail_29 (by decide) (fun c_5 => ?_) (fun c_5 => ?_)
      · refine lv_iconst (v := (1 : Int32)) hx hb dX9_tail_36 (by decide) ?_
        refine z_callV (mc := 0) (ms := 0) (As := [.int (1 : Int32)]) (rest := []) (st2 := [.int (1 : Int32)]) (cs2 := [wMod g md MNow MPast MSav (zf_X9_refused_1) MThen MLev MFst MWay MMost MHash]) X Z [0] [] [0] 0 7 (zc_X9_refused_1 l g B md MNow MPast MSav MRef MThen MLev MFst MWay MMost MHash) wM_X9_55 wS_X9_refused wV_X9_refused wK_X9_refused wZ_X9 1 1 1 rfl (by decide +kernel) rfl (by decide) rfl rfl rfl (by decide) rfl rfl (rfl : zCl[7]? = some (RX9, TX9, 10)) hl.1 rfl rfl (by rw [hRf, hRl]; exact ⟨Nat.le_of_ble_eq_true rfl, Nat.le_of_ble_eq_true rfl⟩) (Nat.le_of_ble_eq_true rfl) ⟨Nat.zero_le _, Nat.zero_le _⟩ dX9_tail_37 (fun H locs Z => ?_)
        refine lv_if_eq (tgt := 45) hx hb dX9_tail_40 (by decide) (fun c_6 => ?_) (fun c_6 => ?_)
        · (exact absurd c_6 (by decide))
        · refine lv_lconst (v := (0 : Int64)) hx hb dX9_tail_43 (by decide) ?_
          exact z_rl (v := (0 : Int64)) E Z (by rw [zf_X9_tail_e, if_pos c_1, if_pos c_3, if_neg (zBf c_5)]; dsimp only; exact ⟨rfl, rfl⟩) dX9_tail_44 (Nat.zero_le _) (Nat.zero_le _)
      · refine lv_iconst (v := (0 : Int32)) hx hb dX9_tail_32 (by decide) ?_
        refine lv_goto (tgt := 37) hx hb dX9_tail_33 (by decide) ?_
        refine z_callV (mc := 0) (ms := 0) (As := [.int (0 : Int32)]) (rest := []) (st2 := [.int (0 : Int32)]) (cs2 := [wMod g md MNow MPast MSav (zf_X9_refused_0) MThen MLev MFst MWay MMost MHash]) X Z [0] [] [0] 0 7 (zc_X9_refused_0 l g B md MNow MPast MSav MRef MThen MLev MFst MWay MMost MHash) wM_X9_55 wS_X9_refused wV_X9_refused wK_X9_refused wZ_X9 1 1 1 rfl (by decide +kernel) rfl (by decide) rfl rfl rfl (by decide) rfl rfl (rfl : zCl[7]? = some (RX9, TX9, 10)) hl.1 rfl rfl (by rw [hRf, hRl]; exact ⟨Nat.le_of_ble_eq_true rfl, Nat.le_of_ble_eq_true rfl⟩) (Nat.le_of_ble_eq_true rfl) ⟨Nat.zero_le _, Nat.zero_le _⟩ dX9_tail_37 (fun H locs Z => ?_)
        refine lv_if_eq (tgt := 45) hx hb dX9_tail_40 (by decide) (fun c_7 => ?_) (fun c_7 => ?_)
        · obtain ⟨ek1, hk1⟩ := (zok_w2 (u := 0) (v := 15) rfl rfl (by assumption) (by decide) (by decide) : t = nI (zi t) ∧ _)
          have hl : lv_has ls 4 [(0, .ref (md 0)), (1, .int (nI (zi t))), (2, .int k), (3, .int u)] := by rw [← ek1]; exact hl
          obtain ⟨ek2, hk2⟩ := (zok_w2 (u := 0) (v := 16) rfl rfl (by assumption) (by decide) (by decide) : k = nI (zi k) ∧ _)
          have hl : lv_has ls 4 [(0, .ref (md 0)), (1, .int (nI (zi t))), (2, .int (nI (zi k))), (3, .int u)] := by rw [← ek2]; exact hl
          obtain ⟨ek3, hk3⟩ := (zok_chance (by assumption) : u = nI (zi u) ∧ _)
          have hl : lv_has ls 4 [(0, .ref (md 0)), (1, .int (nI (zi t))), (2, .int (nI (zi k))), (3, .int (nI (zi u)))] := by rw [← ek3]; exact hl
          refine lv_aload_n hx hb dX9_tail_45 rfl (lv_at hl 0 rfl) ?_
          refine lv_iload_n hx hb dX9_tail_46 rfl (lv_at hl 1 rfl) ?_
          refine lv_iload_n hx hb dX9_tail_47 rfl (lv_at hl 2 rfl) ?_
          refine lv_iload_n hx hb dX9_tail_48 rfl (lv_at hl 3 rfl) ?_
          refine z_callV (mc := 0) (ms := 0) (As := [.int (nI (zi t)), .int (nI (zi k)), .int (nI (zi u))]) (rest := []) (st2 := [.long ((zf_X9_tailOf MWay (zi t) (zi k) (zi u)).1)]) (cs2 := [wMod g md MNow MPast MSav (zf_X9_refused_0) MThen MLev MFst ((zf_X9_tailOf MWay (zi t) (zi k) (zi u)).2) MMost MHash]) X Z [0] [] [0] 0 7 (zc_X9_tailOf l g B md MNow MPast MSav (zf_X9_refused_0) MThen MLev MFst MWay MMost MHash (zi t) (zi k) (zi u) (by first | assumption | omega | decide) (by first | assumption | omega | decide) (by first | assumption | omega | decide)) wM_X9_188 wS_X9_tailOf wV_X9_tailOf wK_X9_tailOf wZ_X9 3 1 1 rfl (by decide +kernel) rfl (by decide) rfl rfl rfl (by decide) rfl rfl (rfl : zCl[7]? = some (RX9, TX9, 10)) hl.1 rfl rfl (by rw [hRf, hRl]; exact ⟨Nat.le_of_ble_eq_true rfl, Nat.le_of_ble_eq_true rfl⟩) (Nat.le_of_ble_eq_true rfl) ⟨Nat.zero_le _, Nat.zero_le _⟩ dX9_tail_49 (fun H locs Z => ?_)
          exact z_rl (v := ((zf_X9_tailOf MWay (zi t) (zi k) (zi u)).1)) E Z (by rw [zf_X9_tail_e, if_pos c_1, if_pos c_3, if_pos c_5]; dsimp only; exact ⟨rfl, rfl⟩) dX9_tail_52 (Nat.zero_le _) (Nat.zero_le _)
        · (exact absurd c_7 (by decide))
def zl_X9_fewestTrials_53 (u : Int32) (v : Int32) (w : Int32) (j43 : Nat) (K9 : (Nat → Int64) → (Int32 × Int32 × (Nat → Int64))) : Nat → Nat → (Nat → Int64) → Int32 × Int32 × (Nat → Int64)
  | 0, j53, v2 => K9 v2
  | n53 + 1, j53, v2 => (if (zf_X9_tens j43) < ((lN (zi w)) * ((zf_X9_tailOf v2 j43 j53 (zi u)).1)) then zl_X9_fewestTrials_53 u v w j43 K9 n53 (j53 + 1) ((zf_X9_tailOf v2 j43 j53 (zi u)).2) else (if (zf_X9_tens j43) < ((lN (zi w)) * ((zf_X9_tens j43) - ((zf_X9_tailOf ((zf_X9_tailOf v2 j43 j53 (zi u)).2) j43 j53 (zi v)).1))) then zl_X9_fewestTrials_53 u v w j43 K9 n53 (j53 + 1) ((zf_X9_tailOf ((zf_X9_tailOf v2 j43 j53 (zi u)).2) j43 j53 (zi v)).2) else ((nI ((100 * j43) + j53)), (zf_X9_refused_0), ((zf_X9_tailOf ((zf_X9_tailOf v2 j43 j53 (zi u)).2) j43 j53 (zi v)).2))))
theorem zl_X9_fewestTrials_53_s (u : Int32) (v : Int32) (w : Int32) (j43 : Nat) (K9 : (Nat → Int64) → (Int32 × Int32 × (Nat → Int64))) (n53 : Nat) (j53 : Nat) (v2 : Nat → Int64) : zl_X9_fewestTrials_53 u v w j43 K9 (n53 + 1) j53 v2 = (if (zf_X9_tens j43) < ((lN (zi w)) * ((zf_X9_tailOf v2 j43 j53 (zi u)).1)) then zl_X9_fewestTrials_53 u v w j43 K9 n53 (j53 + 1) ((zf_X9_tailOf v2 j43 j53 (zi u)).2) else (if (zf_X9_tens j43) < ((lN (zi w)) * ((zf_X9_tens j43) - ((zf_X9_tailOf ((zf_X9_tailOf v2 j43 j53 (zi u)).2) j43 j53 (zi v)).1))) then zl_X9_fewestTrials_53 u v w j43 K9 n53 (j53 + 1) ((zf_X9_tailOf ((zf_X9_tailOf v2 j43 j53 (zi u)).2) j43 j53 (zi v)).2) else ((nI ((100 * j43) + j53)), (zf_X9_refused_0), ((zf_X9_tailOf ((zf_X9_tailOf v2 j43 j53 (zi u)).2) j43 j53 (zi v)).2)))) := rfl
theorem zl_X9_fewestTrials_53_z (u : Int32) (v : Int32) (w : Int32) (j43 : Nat) (K9 : (Nat → Int64) → (Int32 × Int32 × (Nat → Int64))) (j53 : Nat) (v2 : Nat → Int64) : zl_X9_fewestTrials_53 u v w j43 K9 0 j53 v2 = K9 v2 := rfl
def zl_X9_fewestTrials_43 (u : Int32) (v : Int32) (w : Int32) : Nat → Nat → (Nat → Int64) → Int32 × Int32 × (Nat → Int64)
  | 0, j43, v1 => ((-1 : Int32), (zf_X9_refused_0), v1)
  | n43 + 1, j43, v1 => (zl_X9_fewestTrials_53 u v w j43 (fun v2 => zl_X9_fewestTrials_43 u v w n43 (j43 + 1) v2) (j43 + 2) 0 v1)
theorem zl_X9_fewestTrials_43_s (u : Int32) (v : Int32) (w : Int32) (n43 : Nat) (j43 : Nat) (v1 : Nat → Int64) : zl_X9_fewestTrials_43 u v w (n43 + 1) j43 v1 = (zl_X9_fewestTrials_53 u v w j43 (fun v2 => zl_X9_fewestTrials_43 u v w n43 (j43 + 1) v2) (j43 + 2) 0 v1) := rfl
theorem zl_X9_fewestTrials_43_z (u : Int32) (v : Int32) (w : Int32) (j43 : Nat) (v1 : Nat → Int64) : zl_X9_fewestTrials_43 u v w 0 j43 v1 = ((-1 : Int32), (zf_X9_refused_0), v1) := rfl
def zf_X9_fewestTrials (MWay : Nat → Int64) (u : Int32) (v : Int32) (w : Int32) : Int32 × Int32 × (Nat → Int64) := (if (zf_X9_isChance u) = true then (if (zf_X9_isChance v) = true then (if (zf_X9_within w.toInt64 (1 : Int64) (1000 : Int64)) = true then (zl_X9_fewestTrials_43 u v w 16 0 MWay) else ((0 : Int32), (zf_X9_refused_1), MWay)) else ((0 : Int32), (zf_X9_refused_1), MWay)) else ((0 : Int32), (zf_X9_refused_1), MWay))
theorem zf_X9_fewestTrials_e (MWay : Nat → Int64) (u : Int32) (v : Int32) (w : Int32) : zf_X9_fewestTrials MWay u v w = (if (zf_X9_isChance u) = true then (if (zf_X9_isChance v) = true then (if (zf_X9_within w.toInt64 (1 : Int64) (1000 : Int64)) = true then (zl_X9_fewestTrials_43 u v w 16 0 MWay) else ((0 : Int32), (zf_X9_refused_1), MWay)) else ((0 : Int32), (zf_X9_refused_1), MWay)) else ((0 : Int32), (zf_X9_refused_1), MWay)) := rfl
set_option maxHeartbeats 4000000 in
set_option maxRecDepth 100000 in
theorem zc_X9_fewestTrials (l : Launch) (g : zG) (B : Nat) (md : Nat → Nat) (MNow : Nat → Int64) (MPast : Nat → Int64) (MSav : Nat) (MRef : Int32) (MThen : Nat → Int64) (MLev : Nat → Int64) (MFst : Int32) (MWay : Nat → Int64) (MMost : Nat → Int32) (MHash : Int64) (u : Int32) (v : Int32) (w : Int32) : zMet l g B yX9_fewestTrials cX9_fewestTrials 6 (some .int) 4 140 0 0 [.ref (md 0), .int u, .int v, .int w] [wMod g md MNow MPast MSav MRef MThen MLev MFst MWay MMost MHash] (zDet (some (.int ((zf_X9_fewestTrials MWay u v w).1))) [wMod g md MNow MPast MSav ((zf_X9_fewestTrials MWay u v w).2.1) MThen MLev MFst ((zf_X9_fewestTrials MWay u v w).2.2) MMost MHash]) := by
  refine z_in (plainFor_of_name (by decide)) (Nat.le_of_ble_eq_true rfl) (fun p e R s m args below meth c A Q hRf hRl hRc hRs X Z hnm E ls hl => ?_)
  have hx := X.1
  have hb := X.2.1
  have hown := X.2.2.2.1
  have hts := X.2.2.2.2.1
  have hl : lv_has ls 6 [(0, .ref (md 0)), (1, .int u), (2, .int v), (3, .int w)] := hl
  refine lv_aload_n hx hb dX9_fewestTrials_0 rfl (lv_at hl 0 rfl) ?_
  refine lv_iload_n hx hb dX9_fewestTrials_1 rfl (lv_at hl 1 rfl) ?_
  refine z_callS (mc := 0) (ms := 0) (As := [.int u]) (rest := [.ref (md 0)]) (st2 := [.int (zB (zf_X9_isChance u)), .ref (md 0)]) (cs2 := [wMod g md MNow MPast MSav MRef MThen MLev MFst MWay MMost MHash]) X Z [] [0] [0] (zc_X9_isChance l g B u) wM_X9_185 wS_X9_isChance wK_X9_isChance wZ_X9 1 1 1 rfl (by decide +kernel) rfl (by decide) rfl rfl rfl (by decide) rfl hl.1 rfl rfl (by rw [hRf, hRl]; exact ⟨Nat.le_of_ble_eq_true rfl, Nat.le_of_ble_eq_true rfl⟩) (Nat.le_of_ble_eq_true rfl) ⟨Nat.zero_le _, Nat.zero_le _⟩ dX9_fewestTrials_2 (fun H locs Z => ?_)
  refine z_ifeqB (b := (zf_X9_isChance u)) (tgt := 31) X dX9_fewestTrials_5 (by decide) (fun c_1 => ?_) (fun c_1 => ?_)
  · refine lv_iconst (v := (1 : Int32)) hx hb dX9_fewestTrials_31 (by decide) ?_
    refine z_callV (mc := 0) (ms := 0) (As := [.int (1 : Int32)]) (rest := []) (st2 := [.int (1 : Int32)]) (cs2 := [wMod g md MNow MPast MSav (zf_X9_refused_1) MThen MLev MFst MWay MMost MHash]) X Z [0] [] [0] 0 7 (zc_X9_refused_1 l g B md MNow MPast MSav MRef MThen MLev MFst MWay MMost MHash) wM_X9_55 wS_X9_refused wV_X9_refused wK_X9_refused wZ_X9 1 1 1 rfl (by decide +kernel) rfl (by decide) rfl rfl rfl (by decide) rfl rfl (rfl : zCl[7]? = some (RX9, TX9, 10)) hl.1 rfl rfl (by rw [hRf, hRl]; exact ⟨Nat.le_of_ble_eq_true rfl, Nat.le_of_ble_eq_true rfl⟩) (Nat.le_of_ble_eq_true rfl) ⟨Nat.zero_le _, Nat.zero_le _⟩ dX9_fewestTrials_32 (fun H locs Z => ?_)
    refine lv_if_eq (tgt := 40) hx hb dX9_fewestTrials_35 (by decide) (fun c_2 => ?_) (fun c_2 => ?_)
    · (exact absurd c_2 (by decide))
    · refine lv_iconst (v := (0 : Int32)) hx hb dX9_fewestTrials_38 (by decide) ?_
      exact z_ri (v := (0 : Int32)) E Z rfl (by rw [zf_X9_fewestTrials_e, if_neg (zBf c_1)]; dsimp only; exact ⟨rfl, rfl⟩) dX9_fewestTrials_39 (Nat.zero_le _) (Nat.zero_le _)
  · refine lv_iload_n hx hb dX9_fewestTrials_8 rfl (lv_at hl 2 rfl) ?_
    refine z_callS (mc := 0) (ms := 0) (As := [.int v]) (rest := [.ref (md 0)]) (st2 := [.int (zB (zf_X9_isChance v)), .ref (md 0)]) (cs2 := [wMod g md MNow MPast MSav MRef MThen MLev MFst MWay MMost MHash]) X Z [] [0] [0] (zc_X9_isChance l g B v) wM_X9_185 wS_X9_isChance wK_X9_isChance wZ_X9 1 1 1 rfl (by decide +kernel) rfl (by decide) rfl rfl rfl (by decide) rfl hl.1 rfl rfl (by rw [hRf, hRl]; exact ⟨Nat.le_of_ble_eq_true rfl, Nat.le_of_ble_eq_true rfl⟩) (Nat.le_of_ble_eq_true rfl) ⟨Nat.zero_le _, Nat.zero_le _⟩ dX9_fewestTrials_9 (fun H locs Z => ?_)
    refine z_ifeqB (b := (zf_X9_isChance v)) (tgt := 31) X dX9_fewestTrials_12 (by decide) (fun c_3 => ?_) (fun c_3 => ?_)
    · refine lv_iconst (v := (1 : Int32)) hx hb dX9_fewestTrials_31 (by decide) ?_
      refine z_callV (mc := 0) (ms := 0) (As := [.int (1 : Int32)]) (rest := []) (st2 := [.int (1 : Int32)]) (cs2 := [wMod g md MNow MPast MSav (zf_X9_refused_1) MThen MLev MFst MWay MMost MHash]) X Z [0] [] [0] 0 7 (zc_X9_refused_1 l g B md MNow MPast MSav MRef MThen MLev MFst MWay MMost MHash) wM_X9_55 wS_X9_refused wV_X9_refused wK_X9_refused wZ_X9 1 1 1 rfl (by decide +kernel) rfl (by decide) rfl rfl rfl (by decide) rfl rfl (rfl : zCl[7]? = some (RX9, TX9, 10)) hl.1 rfl rfl (by rw [hRf, hRl]; exact ⟨Nat.le_of_ble_eq_true rfl, Nat.le_of_ble_eq_true rfl⟩) (Nat.le_of_ble_eq_true rfl) ⟨Nat.zero_le _, Nat.zero_le _⟩ dX9_fewestTrials_32 (fun H locs Z => ?_)
      refine lv_if_eq (tgt := 40) hx hb dX9_fewestTrials_35 (by decide) (fun c_4 => ?_) (fun c_4 => ?_)
      · (exact absurd c_4 (by decide))
      · refine lv_iconst (v := (0 : Int32)) hx hb dX9_fewestTrials_38 (by decide) ?_
        exact z_ri (v := (0 : Int32)) E Z rfl (by rw [zf_X9_fewestTrials_e, if_pos c_1, if_neg (zBf c_3)]; dsimp only; exact ⟨rfl, rfl⟩) dX9_fewestTrials_39 (Nat.zero_le _) (Nat.zero_le _)
    · refine lv_iload_n hx hb dX9_fewestTrials_15 rfl (lv_at hl 3 rfl) ?_
      refine lv_i2l hx hb dX9_fewestTrials_16 rfl ?_
      refine lv_lconst (v := (1 : Int64)) hx hb dX9_fewestTrials_17 (by decide) ?_
      refine lv_ldc2 (v := (1000 : Int64)) hx hb hown (hts _ wL_X9_90) dX9_fewestTrials_18 ?_
      refine z_callS (mc := 0) (ms := 0) (As := [.long w.toInt64, .long (1 : Int64), .long (1000 : Int64)]) (rest := [.ref (md 0)]) (st2 := [.int (zB (zf_X9_within w.toInt64 (1 : Int64) (1000 : Int64))), .ref (md 0)]) (cs2 := [wMod g md MNow MPast MSav MRef MThen MLev MFst MWay MMost MHash]) X Z [] [0] [0] (zc_X9_within l g B w.toInt64 (1 : Int64) (1000 : Int64)) wM_X9_44 wS_X9_within wK_X9_within wZ_X9 3 1 1 rfl (by decide +kernel) rfl (by decide) rfl rfl rfl (by decide) rfl hl.1 rfl rfl (by rw [hRf, hRl]; exact ⟨Nat.le_of_ble_eq_true rfl, Nat.le_of_ble_eq_true rfl⟩) (Nat.le_of_ble_eq_true rfl) ⟨Nat.zero_le _, Nat.zero_le _⟩ dX9_fewestTrials_21 (fun H locs Z => ?_)
      refine z_ifeqB (b := (zf_X9_within w.toInt64 (1 : Int64) (1000 : Int64))) (tgt := 31) X dX9_fewestTrials_24 (by decide) (fun c_5 => ?_) (fun c_5 => ?_)
      · refine lv_iconst (v := (1 : Int32)) hx hb dX9_fewestTrials_31 (by decide) ?_
        refine z_callV (mc := 0) (ms := 0) (As := [.int (1 : Int32)]) (rest := []) (st2 := [.int (1 : Int32)]) (cs2 := [wMod g md MNow MPast MSav (zf_X9_refused_1) MThen MLev MFst MWay MMost MHash]) X Z [0] [] [0] 0 7 (zc_X9_refused_1 l g B md MNow MPast MSav MRef MThen MLev MFst MWay MMost MHash) wM_X9_55 wS_X9_refused wV_X9_refused wK_X9_refused wZ_X9 1 1 1 rfl (by decide +kernel) rfl (by decide) rfl rfl rfl (by decide) rfl rfl (rfl : zCl[7]? = some (RX9, TX9, 10)) hl.1 rfl rfl (by rw [hRf, hRl]; exact ⟨Nat.le_of_ble_eq_true rfl, Nat.le_of_ble_eq_true rfl⟩) (Nat.le_of_ble_eq_true rfl) ⟨Nat.zero_le _, Nat.zero_le _⟩ dX9_fewestTrials_32 (fun H locs Z => ?_)
        refine lv_if_eq (tgt := 40) hx hb dX9_fewestTrials_35 (by decide) (fun c_6 => ?_) (fun c_6 => ?_)
        · (exact absurd c_6 (by decide))
        · refine lv_iconst (v := (0 : Int32)) hx hb dX9_fewestTrials_38 (by decide) ?_
          exact z_ri (v := (0 : Int32)) E Z rfl (by rw [zf_X9_fewestTrials_e, if_pos c_1, if_pos c_3, if_neg (zBf c_5)]; dsimp only; exact ⟨rfl, rfl⟩) dX9_fewestTrials_39 (Nat.zero_le _) (Nat.zero_le _)
      · refine lv_iconst (v := (0 : Int32)) hx hb dX9_fewestTrials_27 (by decide) ?_
        refine lv_goto (tgt := 32) hx hb dX9_fewestTrials_28 (by decide) ?_
        refine z_callV (mc := 0) (ms := 0) (As := [.int (0 : Int32)]) (rest := []) (st2 := [.int (0 : Int32)]) (cs2 := [wMod g md MNow MPast MSav (zf_X9_refused_0) MThen MLev MFst MWay MMost MHash]) X Z [0] [] [0] 0 7 (zc_X9_refused_0 l g B md MNow MPast MSav MRef MThen MLev MFst MWay MMost MHash) wM_X9_55 wS_X9_refused wV_X9_refused wK_X9_refused wZ_X9 1 1 1 rfl (by decide +kernel) rfl (by decide) rfl rfl rfl (by decide) rfl rfl (rfl : zCl[7]? = some (RX9, TX9, 10)) hl.1 rfl rfl (by rw [hRf, hRl]; exact ⟨Nat.le_of_ble_eq_true rfl, Nat.le_of_ble_eq_true rfl⟩) (Nat.le_of_ble_eq_true rfl) ⟨Nat.zero_le _, Nat.zero_le _⟩ dX9_fewestTrials_32 (fun H locs Z => ?_)
        refine lv_if_eq (tgt := 40) hx hb dX9_fewestTrials_35 (by decide) (fun c_7 => ?_) (fun c_7 => ?_)
        · obtain ⟨ek1, hk1⟩ := (zok_chance (by assumption) : u = nI (zi u) ∧ _)
          have hl : lv_has ls 6 [(0, .ref (md 0)), (1, .int (nI (zi u))), (2, .int v), (3, .int w)] := by rw [← ek1]; exact hl
          obtain ⟨ek2, hk2⟩ := (zok_chance (by assumption) : v = nI (zi v) ∧ _)
          have hl : lv_has ls 6 [(0, .ref (md 0)), (1, .int (nI (zi u))), (2, .int (nI (zi v))), (3, .int w)] := by rw [← ek2]; exact hl
          obtain ⟨ek3, hk3⟩ := (zok_w2 (u := 1) (v := 1000) rfl rfl (by assumption) (by decide) (by decide) : w = nI (zi w) ∧ _)
          have hl : lv_has ls 6 [(0, .ref (md 0)), (1, .int (nI (zi u))), (2, .int (nI (zi v))), (3, .int (nI (zi w)))] := by rw [← ek3]; exact hl
          refine lv_iconst (v := (0 : Int32)) hx hb dX9_fewestTrials_40 (by decide) ?_
          refine lv_istore (lv' := [(4, .int (0 : Int32)), (0, .ref (md 0)), (1, .int (nI (zi u))), (2, .int (nI (zi v))), (3, .int (nI (zi w)))]) hx hb dX9_fewestTrials_41 hl (by decide) rfl (fun ls hl => ?_)
          have loop_43 : ∀ (n43 j43 : Nat) (v1 : Nat → Int64), j43 + n43 = 16 → zl_X9_fewestTrials_43 u v w n43 j43 v1 = (zf_X9_fewestTrials MWay u v w) → ∀ (H : Heap) (locs : List Loc), zM g B A s [wMod g md MNow MPast MSav (zf_X9_refused_0) MThen MLev MFst v1 MMost MHash] H locs → ∀ ls : Array Slot, lv_has ls 6 [(4, .int (nI j43)), (0, .ref (md 0)), (1, .int (nI (zi u))), (2, .int (nI (zi v))), (3, .int (nI (zi w)))] → W p l e R s m args below meth c H locs 0 0 Q (F0 m 43 ls []) := by
            intro n43
            induction n43 with
            | zero =>
              intro j43 v1 hin43 hR43 H locs Z ls hl
              refine lv_iload hx hb dX9_fewestTrials_43 (lv_at hl 0 rfl) ?_
              refine lv_bipush (v := (15 : Int32)) hx hb dX9_fewestTrials_45 (by decide) ?_
              refine z_icmp_gt (a := j43) (b := 15) (tgt := 131) X rfl rfl (by omega) (by omega) dX9_fewestTrials_47 (by decide) (fun c_8 => ?_) (fun c_8 => ?_)
              · refine lv_iconst (v := (-1 : Int32)) hx hb dX9_fewestTrials_131 (by decide) ?_
                exact z_ri (v := (-1 : Int32)) E Z rfl (by rw [← hR43, zl_X9_fewestTrials_43_z]; dsimp only; exact ⟨rfl, rfl⟩) dX9_fewestTrials_132 (Nat.zero_le _) (Nat.zero_le _)
              · (exfalso; omega)
            | succ n43 ih43 =>
              intro j43 v1 hin43 hR43 H locs Z ls hl
              refine lv_iload hx hb dX9_fewestTrials_43 (lv_at hl 0 rfl) ?_
              refine lv_bipush (v := (15 : Int32)) hx hb dX9_fewestTrials_45 (by decide) ?_
              refine z_icmp_gt (a := j43) (b := 15) (tgt := 131) X rfl rfl (by omega) (by omega) dX9_fewestTrials_47 (by decide) (fun c_9 => ?_) (fun c_9 => ?_)
              · (exfalso; omega)
              · refine lv_iconst (v := (0 : Int32)) hx hb dX9_fewestTrials_50 (by decide) ?_
                refine lv_istore (lv' := [(5, .int (0 : Int32)), (4, .int (nI j43)), (0, .ref (md 0)), (1, .int (nI (zi u))), (2, .int (nI (zi v))), (3, .int (nI (zi w)))]) hx hb dX9_fewestTrials_51 hl (by decide) rfl (fun ls hl => ?_)
                have loop_53 : ∀ (n53 j53 : Nat) (v2 : Nat → Int64), j53 + n53 = (j43 + 2) → zl_X9_fewestTrials_53 u v w j43 (fun v2 => zl_X9_fewestTrials_43 u v w n43 (j43 + 1) v2) n53 j53 v2 = (zf_X9_fewestTrials MWay u v w) → ∀ (H : Heap) (locs : List Loc), zM g B A s [wMod g md MNow MPast MSav (zf_X9_refused_0) MThen MLev MFst v2 MMost MHash] H locs → ∀ ls : Array Slot, lv_has ls 6 [(5, .int (nI j53)), (4, .int (nI j43)), (0, .ref (md 0)), (1, .int (nI (zi u))), (2, .int (nI (zi v))), (3, .int (nI (zi w)))] → W p l e R s m args below meth c H locs 0 0 Q (F0 m 53 ls []) := by
                  intro n53
                  induction n53 with
                  | zero =>
                    intro j53 v2 hin53 hR53 H locs Z ls hl
                    refine lv_iload hx hb dX9_fewestTrials_53 (lv_at hl 0 rfl) ?_
                    refine lv_iload hx hb dX9_fewestTrials_55 (lv_at hl 1 rfl) ?_
                    refine lv_iconst (v := (1 : Int32)) hx hb dX9_fewestTrials_57 (by decide) ?_
                    refine z_iadd (a := j43) (b := 1) X rfl rfl dX9_fewestTrials_58 ?_
                    refine z_icmp_gt (a := j53) (b := (j43 + 1)) (tgt := 125) X rfl rfl (by omega) (by omega) dX9_fewestTrials_59 (by decide) (fun c_10 => ?_) (fun c_10 => ?_)
                    · refine z_iinc (b := (j43 + 1)) (st := 1) (lv' := [(4, .int (nI (j43 + 1))), (5, .int (nI j53)), (0, .ref (md 0)), (1, .int (nI (zi u))), (2, .int (nI (zi v))), (3, .int (nI (zi w)))]) X dX9_fewestTrials_125 hl (k := 1) rfl rfl (by decide) (by omega) (by decide) rfl (fun ls hl => ?_)
                      refine lv_goto (tgt := 43) hx hb dX9_fewestTrials_128 (by decide) ?_
                      exact ih43 (j43 + 1) v2 (by omega) (by have h9 := hR53; rw [zl_X9_fewestTrials_53_z] at h9; exact h9) _ _ Z ls (lv_sub hl [0, 2, 3, 4, 5] rfl)
                    · (exfalso; omega)
                  | succ n53 ih53 =>
                    intro j53 v2 hin53 hR53 H locs Z ls hl
                    refine lv_iload hx hb dX9_fewestTrials_53 (lv_at hl 0 rfl) ?_
                    refine lv_iload hx hb dX9_fewestTrials_55 (lv_at hl 1 rfl) ?_
                    refine lv_iconst (v := (1 : Int32)) hx hb dX9_fewestTrials_57 (by decide) ?_
                    refine z_iadd (a := j43) (b := 1) X rfl rfl dX9_fewestTrials_58 ?_
                    refine z_icmp_gt (a := j53) (b := (j43 + 1)) (tgt := 125) X rfl rfl (by omega) (by omega) dX9_fewestTrials_59 (by decide) (fun c_11 => ?_) (fun c_11 => ?_)
                    · (exfalso; omega)
                    · refine lv_iload_n hx hb dX9_fewestTrials_62 rfl (lv_at hl 5 rfl) ?_
                      refine z_i2l (a := (zi w)) X rfl (by omega) dX9_fewestTrials_63 ?_
                      refine lv_aload_n hx hb dX9_fewestTrials_64 rfl (lv_at hl 2 rfl) ?_
                      refine lv_iload hx hb dX9_fewestTrials_65 (lv_at hl 1 rfl) ?_
                      refine lv_iload hx hb dX9_fewestTrials_67 (lv_at hl 0 rfl) ?_
                      refine lv_iload_n hx hb dX9_fewestTrials_69 rfl (lv_at hl 3 rfl) ?_
                      refine z_callV (mc := 0) (ms := 0) (As := [.int (nI j43), .int (nI j53), .int (nI (zi u))]) (rest := [.long (lN (zi w))]) (st2 := [.long ((zf_X9_tailOf v2 j43 j53 (zi u)).1), .long (lN (zi w))]) (cs2 := [wMod g md MNow MPast MSav (zf_X9_refused_0) MThen MLev MFst ((zf_X9_tailOf v2 j43 j53 (zi u)).2) MMost MHash]) X Z [0] [] [0] 0 7 (zc_X9_tailOf l g B md MNow MPast MSav (zf_X9_refused_0) MThen MLev MFst v2 MMost MHash j43 j53 (zi u) (by first | assumption | omega | decide) (by first | assumption | omega | decide) (by first | assumption | omega | decide)) wM_X9_188 wS_X9_tailOf wV_X9_tailOf wK_X9_tailOf wZ_X9 3 1 1 rfl (by decide +kernel) rfl (by decide) rfl rfl rfl (by decide) rfl rfl (rfl : zCl[7]? = some (RX9, TX9, 10)) hl.1 rfl rfl (by rw [hRf, hRl]; exact ⟨Nat.le_of_ble_eq_true rfl, Nat.le_of_ble_eq_true rfl⟩) (Nat.le_of_ble_eq_true rfl) ⟨Nat.zero_le _, Nat.zero_le _⟩ dX9_fewestTrials_70 (fun H locs Z => ?_)
                      refine lv_lmul hx hb dX9_fewestTrials_73 ?_
                      refine lv_iload hx hb dX9_fewestTrials_74 (lv_at hl 1 rfl) ?_
                      refine z_callS (mc := 0) (ms := 0) (As := [.int (nI j43)]) (rest := [.long ((lN (zi w)) * ((zf_X9_tailOf v2 j43 j53 (zi u)).1))]) (st2 := [.long (zf_X9_tens j43), .long ((lN (zi w)) * ((zf_X9_tailOf v2 j43 j53 (zi u)).1))]) (cs2 := [wMod g md MNow MPast MSav (zf_X9_refused_0) MThen MLev MFst ((zf_X9_tailOf v2 j43 j53 (zi u)).2) MMost MHash]) X Z [] [0] [0] (zc_X9_tens l g B j43 (by first | assumption | omega | decide)) wM_X9_174 wS_X9_tens wK_X9_tens wZ_X9 1 1 1 rfl (by decide +kernel) rfl (by decide) rfl rfl rfl (by decide) rfl hl.1 rfl rfl (by rw [hRf, hRl]; exact ⟨Nat.le_of_ble_eq_true rfl, Nat.le_of_ble_eq_true rfl⟩) (Nat.le_of_ble_eq_true rfl) ⟨Nat.zero_le _, Nat.zero_le _⟩ dX9_fewestTrials_76 (fun H locs Z => ?_)
                      refine z_lc_gt (tgt := 119) X dX9_fewestTrials_79 dX9_fewestTrials_80 (by decide) (fun c_12 => ?_) (fun c_12 => ?_)
                      · refine z_iinc (b := (j53 + 1)) (st := 1) (lv' := [(5, .int (nI (j53 + 1))), (4, .int (nI j43)), (0, .ref (md 0)), (1, .int (nI (zi u))), (2, .int (nI (zi v))), (3, .int (nI (zi w)))]) X dX9_fewestTrials_119 hl (k := 0) rfl rfl (by decide) (by omega) (by decide) rfl (fun ls hl => ?_)
                        refine lv_goto (tgt := 53) hx hb dX9_fewestTrials_122 (by decide) ?_
                        exact ih53 (j53 + 1) ((zf_X9_tailOf v2 j43 j53 (zi u)).2) (by omega) (by have h9 := hR53; rw [zl_X9_fewestTrials_53_s, if_pos c_12] at h9; exact h9) _ _ Z ls (lv_sub hl [0, 1, 2, 3, 4, 5] rfl)
                      · refine lv_iload_n hx hb dX9_fewestTrials_83 rfl (lv_at hl 5 rfl) ?_
                        refine z_i2l (a := (zi w)) X rfl (by omega) dX9_fewestTrials_84 ?_
                        refine lv_iload hx hb dX9_fewestTrials_85 (lv_at hl 1 rfl) ?_
                        refine z_callS (mc := 0) (ms := 0) (As := [.int (nI j43)]) (rest := [.long (lN (zi w))]) (st2 := [.long (zf_X9_tens j43), .long (lN (zi w))]) (cs2 := [wMod g md MNow MPast MSav (zf_X9_refused_0) MThen MLev MFst ((zf_X9_tailOf v2 j43 j53 (zi u)).2) MMost MHash]) X Z [] [0] [0] (zc_X9_tens l g B j43 (by first | assumption | omega | decide)) wM_X9_174 wS_X9_tens wK_X9_tens wZ_X9 1 1 1 rfl (by decide +kernel) rfl (by decide) rfl rfl rfl (by decide) rfl hl.1 rfl rfl (by rw [hRf, hRl]; exact ⟨Nat.le_of_ble_eq_true rfl, Nat.le_of_ble_eq_true rfl⟩) (Nat.le_of_ble_eq_true rfl) ⟨Nat.zero_le _, Nat.zero_le _⟩ dX9_fewestTrials_87 (fun H locs Z => ?_)
                        refine lv_aload_n hx hb dX9_fewestTrials_90 rfl (lv_at hl 2 rfl) ?_
                        refine lv_iload hx hb dX9_fewestTrials_91 (lv_at hl 1 rfl) ?_
                        refine lv_iload hx hb dX9_fewestTrials_93 (lv_at hl 0 rfl) ?_
                        refine lv_iload_n hx hb dX9_fewestTrials_95 rfl (lv_at hl 4 rfl) ?_
                        refine z_callV (mc := 0) (ms := 0) (As := [.int (nI j43), .int (nI j53), .int (nI (zi v))]) (rest := [.long (zf_X9_tens j43), .long (lN (zi w))]) (st2 := [.long ((zf_X9_tailOf ((zf_X9_tailOf v2 j43 j53 (zi u)).2) j43 j53 (zi v)).1), .long (zf_X9_tens j43), .long (lN (zi w))]) (cs2 := [wMod g md MNow MPast MSav (zf_X9_refused_0) MThen MLev MFst ((zf_X9_tailOf ((zf_X9_tailOf v2 j43 j53 (zi u)).2) j43 j53 (zi v)).2) MMost MHash]) X Z [0] [] [0] 0 7 (zc_X9_tailOf l g B md MNow MPast MSav (zf_X9_refused_0) MThen MLev MFst ((zf_X9_tailOf v2 j43 j53 (zi u)).2) MMost MHash j43 j53 (zi v) (by first | assumption | omega | decide) (by first | assumption | omega | decide) (by first | assumption | omega | decide)) wM_X9_188 wS_X9_tailOf wV_X9_tailOf wK_X9_tailOf wZ_X9 3 1 1 rfl (by decide +kernel) rfl (by decide) rfl rfl rfl (by decide) rfl rfl (rfl : zCl[7]? = some (RX9, TX9, 10)) hl.1 rfl rfl (by rw [hRf, hRl]; exact ⟨Nat.le_of_ble_eq_true rfl, Nat.le_of_ble_eq_true rfl⟩) (Nat.le_of_ble_eq_true rfl) ⟨Nat.zero_le _, Nat.zero_le _⟩ dX9_fewestTrials_96 (fun H locs Z => ?_)
                        refine lv_lsub hx hb dX9_fewestTrials_99 ?_
                        refine lv_lmul hx hb dX9_fewestTrials_100 ?_
                        refine lv_iload hx hb dX9_fewestTrials_101 (lv_at hl 1 rfl) ?_
                        refine z_callS (mc := 0) (ms := 0) (As := [.int (nI j43)]) (rest := [.long ((lN (zi w)) * ((zf_X9_tens j43) - ((zf_X9_tailOf ((zf_X9_tailOf v2 j43 j53 (zi u)).2) j43 j53 (zi v)).1)))]) (st2 := [.long (zf_X9_tens j43), .long ((lN (zi w)) * ((zf_X9_tens j43) - ((zf_X9_tailOf ((zf_X9_tailOf v2 j43 j53 (zi u)).2) j43 j53 (zi v)).1)))]) (cs2 := [wMod g md MNow MPast MSav (zf_X9_refused_0) MThen MLev MFst ((zf_X9_tailOf ((zf_X9_tailOf v2 j43 j53 (zi u)).2) j43 j53 (zi v)).2) MMost MHash]) X Z [] [0] [0] (zc_X9_tens l g B j43 (by first | assumption | omega | decide)) wM_X9_174 wS_X9_tens wK_X9_tens wZ_X9 1 1 1 rfl (by decide +kernel) rfl (by decide) rfl rfl rfl (by decide) rfl hl.1 rfl rfl (by rw [hRf, hRl]; exact ⟨Nat.le_of_ble_eq_true rfl, Nat.le_of_ble_eq_true rfl⟩) (Nat.le_of_ble_eq_true rfl) ⟨Nat.zero_le _, Nat.zero_le _⟩ dX9_fewestTrials_103 (fun H locs Z => ?_)
                        refine z_lc_gt (tgt := 119) X dX9_fewestTrials_106 dX9_fewestTrials_107 (by decide) (fun c_13 => ?_) (fun c_13 => ?_)
                        · refine z_iinc (b := (j53 + 1)) (st := 1) (lv' := [(5, .int (nI (j53 + 1))), (4, .int (nI j43)), (0, .ref (md 0)), (1, .int (nI (zi u))), (2, .int (nI (zi v))), (3, .int (nI (zi w)))]) X dX9_fewestTrials_119 hl (k := 0) rfl rfl (by decide) (by omega) (by decide) rfl (fun ls hl => ?_)
                          refine lv_goto (tgt := 53) hx hb dX9_fewestTrials_122 (by decide) ?_
                          exact ih53 (j53 + 1) ((zf_X9_tailOf ((zf_X9_tailOf v2 j43 j53 (zi u)).2) j43 j53 (zi v)).2) (by omega) (by have h9 := hR53; rw [zl_X9_fewestTrials_53_s, if_neg c_12, if_pos c_13] at h9; exact h9) _ _ Z ls (lv_sub hl [0, 1, 2, 3, 4, 5] rfl)
                        · refine lv_bipush (v := (100 : Int32)) hx hb dX9_fewestTrials_110 (by decide) ?_
                          refine lv_iload hx hb dX9_fewestTrials_112 (lv_at hl 1 rfl) ?_
                          refine z_imul (a := 100) (b := j43) X rfl rfl dX9_fewestTrials_114 ?_
                          refine lv_iload hx hb dX9_fewestTrials_115 (lv_at hl 0 rfl) ?_
                          refine z_iadd (a := (100 * j43)) (b := j53) X rfl rfl dX9_fewestTrials_117 ?_
                          exact z_ri (v := (nI ((100 * j43) + j53))) E Z rfl (by rw [← hR53, zl_X9_fewestTrials_53_s, if_neg c_12, if_neg c_13]; dsimp only; exact ⟨rfl, rfl⟩) dX9_fewestTrials_118 (Nat.zero_le _) (Nat.zero_le _)
                exact loop_53 (j43 + 2) 0 v1 (by omega) (by rw [← hR43, zl_X9_fewestTrials_43_s]) _ _ Z ls (lv_sub hl [0, 1, 2, 3, 4, 5] rfl)
          exact loop_43 16 0 MWay (by omega) (by rw [zf_X9_fewestTrials_e, if_pos c_1, if_pos c_3, if_pos c_5]) _ _ Z ls (lv_sub hl [0, 1, 2, 3, 4] rfl)
        · (exact absurd c_7 (by decide))
def zf_X9_adds_284 (MNow : Nat → Int64) (MPast : Nat → Int64) (MSav : Nat) (x : Int32) (y : Int32) : Nat × (Nat → Int64) × (Nat → Int64) × Nat := (((zc (MNow 284) + 1) - 1), (vp_updL (vp_updL (vp_updL MNow (285 + (2 * (zc (MNow 284)))) x.toInt64) ((285 + (2 * (zc (MNow 284)))) + 1) y.toInt64) 284 (((vp_updL (vp_updL MNow (285 + (2 * (zc (MNow 284)))) x.toInt64) ((285 + (2 * (zc (MNow 284)))) + 1) y.toInt64) 284) + (1 : Int64))), ((zf_X9_saves MNow MPast MSav).1), ((zf_X9_saves MNow MPast MSav).2))
theorem zf_X9_adds_284_e (MNow : Nat → Int64) (MPast : Nat → Int64) (MSav : Nat) (x : Int32) (y : Int32) : zf_X9_adds_284 MNow MPast MSav x y = (((zc (MNow 284) + 1) - 1), (vp_updL (vp_updL (vp_updL MNow (285 + (2 * (zc (MNow 284)))) x.toInt64) ((285 + (2 * (zc (MNow 284)))) + 1) y.toInt64) 284 (((vp_updL (vp_updL MNow (285 + (2 * (zc (MNow 284)))) x.toInt64) ((285 + (2 * (zc (MNow 284)))) + 1) y.toInt64) 284) + (1 : Int64))), ((zf_X9_saves MNow MPast MSav).1), ((zf_X9_saves MNow MPast MSav).2)) := rfl
set_option maxHeartbeats 4000000 in
set_option maxRecDepth 100000 in
theorem zc_X9_adds_284 (l : Launch) (g : zG) (B : Nat) (md : Nat → Nat) (MNow : Nat → Int64) (MPast : Nat → Int64) (MSav : Nat) (MRef : Int32) (MThen : Nat → Int64) (MLev : Nat → Int64) (MFst : Int32) (MWay : Nat → Int64) (MMost : Nat → Int32) (MHash : Int64) (x : Int32) (y : Int32) (hN : zNow MNow) (hs : MSav ≤ 4) (hlt : zc (MNow 284) < 8) : zMet l g B yX9_adds cX9_adds 5 (some .int) 2 100 0 0 [.ref (md 0), .int (284 : Int32), .int x, .int y] [wMod g md MNow MPast MSav MRef MThen MLev MFst MWay MMost MHash] (zDet (some (.int (nI ((zf_X9_adds_284 MNow MPast MSav x y).1)))) [wMod g md ((zf_X9_adds_284 MNow MPast MSav x y).2.1) ((zf_X9_adds_284 MNow MPast MSav x y).2.2.1) ((zf_X9_adds_284 MNow MPast MSav x y).2.2.2) MRef MThen MLev MFst MWay MMost MHash]) := by
  refine z_in (plainFor_of_name (by decide)) (Nat.le_of_ble_eq_true rfl) (fun p e R s m args below meth c A Q hRf hRl hRc hRs X Z hnm E ls hl => ?_)
  have hx := X.1
  have hb := X.2.1
  have hown := X.2.2.2.1
  have hts := X.2.2.2.2.1
  have hl : lv_has ls 5 [(0, .ref (md 0)), (1, .int (284 : Int32)), (2, .int x), (3, .int y)] := hl
  have hN2 := hN; obtain ⟨he9, hb9, he34, hb34, he43, hb43, he284, hb284, he301, hb301⟩ := hN2
  refine lv_aload_n hx hb dX9_adds_0 rfl (lv_at hl 0 rfl) ?_
  refine z_callV (mc := 0) (ms := 0) (As := []) (rest := []) (st2 := []) (cs2 := [wMod g md MNow ((zf_X9_saves MNow MPast MSav).1) ((zf_X9_saves MNow MPast MSav).2) MRef MThen MLev MFst MWay MMost MHash]) X Z [0] [] [0] 0 7 (zc_X9_saves l g B md MNow MPast MSav MRef MThen MLev MFst MWay MMost MHash (by first | assumption | omega | decide)) wM_X9_87 wS_X9_saves wV_X9_saves wK_X9_saves wZ_X9 0 1 1 rfl (by decide +kernel) rfl (by decide) rfl rfl rfl (by decide) rfl rfl (rfl : zCl[7]? = some (RX9, TX9, 10)) hl.1 rfl rfl (by rw [hRf, hRl]; exact ⟨Nat.le_of_ble_eq_true rfl, Nat.le_of_ble_eq_true rfl⟩) (Nat.le_of_ble_eq_true rfl) ⟨Nat.zero_le _, Nat.zero_le _⟩ dX9_adds_1 (fun H locs Z => ?_)
  refine lv_iload_n hx hb dX9_adds_4 rfl (lv_at hl 1 rfl) ?_
  refine lv_iconst (v := (1 : Int32)) hx hb dX9_adds_5 (by decide) ?_
  refine z_iadd (a := 284) (b := 1) X rfl rfl dX9_adds_6 ?_
  refine lv_iconst (v := (2 : Int32)) hx hb dX9_adds_7 (by decide) ?_
  refine lv_aload_n hx hb dX9_adds_8 rfl (lv_at hl 0 rfl) ?_
  refine lv_iload_n hx hb dX9_adds_9 rfl (lv_at hl 1 rfl) ?_
  refine z_callV (mc := 0) (ms := 0) (As := [.int (284 : Int32)]) (rest := [.int (2 : Int32), .int (285 : Int32)]) (st2 := [.int (nI (zc (MNow 284))), .int (2 : Int32), .int (285 : Int32)]) (cs2 := [wMod g md MNow ((zf_X9_saves MNow MPast MSav).1) ((zf_X9_saves MNow MPast MSav).2) MRef MThen MLev MFst MWay MMost MHash]) X Z [0] [] [0] 0 7 (zc_X9_many l g B md MNow ((zf_X9_saves MNow MPast MSav).1) ((zf_X9_saves MNow MPast MSav).2) MRef MThen MLev MFst MWay MMost MHash 284 (zc (MNow 284)) (by first | assumption | omega | decide) (by first | assumption | omega | decide)) wM_X9_66 wS_X9_many wV_X9_many wK_X9_many wZ_X9 1 1 1 rfl (by decide +kernel) rfl (by decide) rfl rfl rfl (by decide) rfl rfl (rfl : zCl[7]? = some (RX9, TX9, 10)) hl.1 rfl rfl (by rw [hRf, hRl]; exact ⟨Nat.le_of_ble_eq_true rfl, Nat.le_of_ble_eq_true rfl⟩) (Nat.le_of_ble_eq_true rfl) ⟨Nat.zero_le _, Nat.zero_le _⟩ dX9_adds_10 (fun H locs Z => ?_)
  refine z_imul (a := 2) (b := (zc (MNow 284))) X rfl rfl dX9_adds_13 ?_
  refine z_iadd (a := 285) (b := (2 * (zc (MNow 284)))) X rfl rfl dX9_adds_14 ?_
  refine lv_istore (lv' := [(4, .int (nI (285 + (2 * (zc (MNow 284)))))), (0, .ref (md 0)), (1, .int (284 : Int32)), (2, .int x), (3, .int y)]) hx hb dX9_adds_15 hl (by decide) rfl (fun ls hl => ?_)
  refine lv_aload_n hx hb dX9_adds_17 rfl (lv_at hl 1 rfl) ?_
  refine z_get X Z 0 rfl (rfl : zCl[7]? = some (RX9, TX9, 10)) zU_X9 0 (by decide) wF_X9_7 rfl rfl dX9_adds_18 ?_
  refine lv_iload hx hb dX9_adds_21 (lv_at hl 0 rfl) ?_
  refine lv_iload_n hx hb dX9_adds_23 rfl (lv_at hl 3 rfl) ?_
  refine lv_i2l hx hb dX9_adds_24 rfl ?_
  refine z_last (cs2 := [wMod g md (vp_updL MNow (285 + (2 * (zc (MNow 284)))) x.toInt64) ((zf_X9_saves MNow MPast MSav).1) ((zf_X9_saves MNow MPast MSav).2) MRef MThen MLev MFst MWay MMost MHash]) (j := (285 + (2 * (zc (MNow 284))))) (x := x.toInt64) X Z 1 rfl rfl (by omega) (by decide) rfl dX9_adds_25 (fun H locs Z => ?_)
  refine lv_aload_n hx hb dX9_adds_26 rfl (lv_at hl 1 rfl) ?_
  refine z_get X Z 0 rfl (rfl : zCl[7]? = some (RX9, TX9, 10)) zU_X9 0 (by decide) wF_X9_7 rfl rfl dX9_adds_27 ?_
  refine lv_iload hx hb dX9_adds_30 (lv_at hl 0 rfl) ?_
  refine lv_iconst (v := (1 : Int32)) hx hb dX9_adds_32 (by decide) ?_
  refine z_iadd (a := (285 + (2 * (zc (MNow 284))))) (b := 1) X rfl rfl dX9_adds_33 ?_
  refine lv_iload_n hx hb dX9_adds_34 rfl (lv_at hl 4 rfl) ?_
  refine lv_i2l hx hb dX9_adds_35 rfl ?_
  refine z_last (cs2 := [wMod g md (vp_updL (vp_updL MNow (285 + (2 * (zc (MNow 284)))) x.toInt64) ((285 + (2 * (zc (MNow 284)))) + 1) y.toInt64) ((zf_X9_saves MNow MPast MSav).1) ((zf_X9_saves MNow MPast MSav).2) MRef MThen MLev MFst MWay MMost MHash]) (j := ((285 + (2 * (zc (MNow 284)))) + 1)) (x := y.toInt64) X Z 1 rfl rfl (by omega) (by decide) rfl dX9_adds_36 (fun H locs Z => ?_)
  refine lv_aload_n hx hb dX9_adds_37 rfl (lv_at hl 1 rfl) ?_
  refine z_get X Z 0 rfl (rfl : zCl[7]? = some (RX9, TX9, 10)) zU_X9 0 (by decide) wF_X9_7 rfl rfl dX9_adds_38 ?_
  refine lv_iload_n hx hb dX9_adds_41 rfl (lv_at hl 2 rfl) ?_
  refine lv_dup2_11 hx hb dX9_adds_42 rfl rfl ?_
  refine z_lald (j := 284) X Z 1 rfl rfl (by omega) (by decide) dX9_adds_43 ?_
  refine lv_lconst (v := (1 : Int64)) hx hb dX9_adds_44 (by decide) ?_
  refine lv_ladd hx hb dX9_adds_45 ?_
  refine z_last (cs2 := [wMod g md (vp_updL (vp_updL (vp_updL MNow (285 + (2 * (zc (MNow 284)))) x.toInt64) ((285 + (2 * (zc (MNow 284)))) + 1) y.toInt64) 284 (((vp_updL (vp_updL MNow (285 + (2 * (zc (MNow 284)))) x.toInt64) ((285 + (2 * (zc (MNow 284)))) + 1) y.toInt64) 284) + (1 : Int64))) ((zf_X9_saves MNow MPast MSav).1) ((zf_X9_saves MNow MPast MSav).2) MRef MThen MLev MFst MWay MMost MHash]) (j := 284) (x := (((vp_updL (vp_updL MNow (285 + (2 * (zc (MNow 284)))) x.toInt64) ((285 + (2 * (zc (MNow 284)))) + 1) y.toInt64) 284) + (1 : Int64))) X Z 1 rfl rfl (by omega) (by decide) rfl dX9_adds_46 (fun H locs Z => ?_)
  refine lv_aload_n hx hb dX9_adds_47 rfl (lv_at hl 1 rfl) ?_
  refine lv_iload_n hx hb dX9_adds_48 rfl (lv_at hl 2 rfl) ?_
  refine z_callV (mc := 0) (ms := 0) (As := [.int (284 : Int32)]) (rest := []) (st2 := [.int (nI (zc (MNow 284) + 1))]) (cs2 := [wMod g md (vp_updL (vp_updL (vp_updL MNow (285 + (2 * (zc (MNow 284)))) x.toInt64) ((285 + (2 * (zc (MNow 284)))) + 1) y.toInt64) 284 (((vp_updL (vp_updL MNow (285 + (2 * (zc (MNow 284)))) x.toInt64) ((285 + (2 * (zc (MNow 284)))) + 1) y.toInt64) 284) + (1 : Int64))) ((zf_X9_saves MNow MPast MSav).1) ((zf_X9_saves MNow MPast MSav).2) MRef MThen MLev MFst MWay MMost MHash]) X Z [0] [] [0] 0 7 (zc_X9_many l g B md (vp_updL (vp_updL (vp_updL MNow (285 + (2 * (zc (MNow 284)))) x.toInt64) ((285 + (2 * (zc (MNow 284)))) + 1) y.toInt64) 284 (((vp_updL (vp_updL MNow (285 + (2 * (zc (MNow 284)))) x.toInt64) ((285 + (2 * (zc (MNow 284)))) + 1) y.toInt64) 284) + (1 : Int64))) ((zf_X9_saves MNow MPast MSav).1) ((zf_X9_saves MNow MPast MSav).2) MRef MThen MLev MFst MWay MMost MHash 284 (zc (MNow 284) + 1) (by first | assumption | omega | decide) (zmany1 (n := zc (MNow 284)) (by rw [zuL_ne (by omega), zuL_ne (by omega)]; exact he284))) wM_X9_66 wS_X9_many wV_X9_many wK_X9_many wZ_X9 1 1 1 rfl (by decide +kernel) rfl (by decide) rfl rfl rfl (by decide) rfl rfl (rfl : zCl[7]? = some (RX9, TX9, 10)) hl.1 rfl rfl (by rw [hRf, hRl]; exact ⟨Nat.le_of_ble_eq_true rfl, Nat.le_of_ble_eq_true rfl⟩) (Nat.le_of_ble_eq_true rfl) ⟨Nat.zero_le _, Nat.zero_le _⟩ dX9_adds_49 (fun H locs Z => ?_)
  refine lv_iconst (v := (1 : Int32)) hx hb dX9_adds_52 (by decide) ?_
  refine z_isub (a := (zc (MNow 284) + 1)) (b := 1) X rfl rfl (by omega) dX9_adds_53 ?_
  exact z_ri (v := nI ((zc (MNow 284) + 1) - 1)) E Z rfl (by rw [zf_X9_adds_284_e]; dsimp only; exact ⟨rfl, rfl⟩) dX9_adds_54 (Nat.zero_le _) (Nat.zero_le _)
def zf_X9_adds_301 (MNow : Nat → Int64) (MPast : Nat → Int64) (MSav : Nat) (x : Int32) (y : Int32) : Nat × (Nat → Int64) × (Nat → Int64) × Nat := (((zc (MNow 301) + 1) - 1), (vp_updL (vp_updL (vp_updL MNow (302 + (2 * (zc (MNow 301)))) x.toInt64) ((302 + (2 * (zc (MNow 301)))) + 1) y.toInt64) 301 (((vp_updL (vp_updL MNow (302 + (2 * (zc (MNow 301)))) x.toInt64) ((302 + (2 * (zc (MNow 301)))) + 1) y.toInt64) 301) + (1 : Int64))), ((zf_X9_saves MNow MPast MSav).1), ((zf_X9_saves MNow MPast MSav).2))
theorem zf_X9_adds_301_e (MNow : Nat → Int64) (MPast : Nat → Int64) (MSav : Nat) (x : Int32) (y : Int32) : zf_X9_adds_301 MNow MPast MSav x y = (((zc (MNow 301) + 1) - 1), (vp_updL (vp_updL (vp_updL MNow (302 + (2 * (zc (MNow 301)))) x.toInt64) ((302 + (2 * (zc (MNow 301)))) + 1) y.toInt64) 301 (((vp_updL (vp_updL MNow (302 + (2 * (zc (MNow 301)))) x.toInt64) ((302 + (2 * (zc (MNow 301)))) + 1) y.toInt64) 301) + (1 : Int64))), ((zf_X9_saves MNow MPast MSav).1), ((zf_X9_saves MNow MPast MSav).2)) := rfl
set_option maxHeartbeats 4000000 in
set_option maxRecDepth 100000 in
theorem zc_X9_adds_301 (l : Launch) (g : zG) (B : Nat) (md : Nat → Nat) (MNow : Nat → Int64) (MPast : Nat → Int64) (MSav : Nat) (MRef : Int32) (MThen : Nat → Int64) (MLev : Nat → Int64) (MFst : Int32) (MWay : Nat → Int64) (MMost : Nat → Int32) (MHash : Int64) (x : Int32) (y : Int32) (hN : zNow MNow) (hs : MSav ≤ 4) (hlt : zc (MNow 301) < 8) : zMet l g B yX9_adds cX9_adds 5 (some .int) 2 100 0 0 [.ref (md 0), .int (301 : Int32), .int x, .int y] [wMod g md MNow MPast MSav MRef MThen MLev MFst MWay MMost MHash] (zDet (some (.int (nI ((zf_X9_adds_301 MNow MPast MSav x y).1)))) [wMod g md ((zf_X9_adds_301 MNow MPast MSav x y).2.1) ((zf_X9_adds_301 MNow MPast MSav x y).2.2.1) ((zf_X9_adds_301 MNow MPast MSav x y).2.2.2) MRef MThen MLev MFst MWay MMost MHash]) := by
  refine z_in (plainFor_of_name (by decide)) (Nat.le_of_ble_eq_true rfl) (fun p e R s m args below meth c A Q hRf hRl hRc hRs X Z hnm E ls hl => ?_)
  have hx := X.1
  have hb := X.2.1
  have hown := X.2.2.2.1
  have hts := X.2.2.2.2.1
  have hl : lv_has ls 5 [(0, .ref (md 0)), (1, .int (301 : Int32)), (2, .int x), (3, .int y)] := hl
  have hN2 := hN; obtain ⟨he9, hb9, he34, hb34, he43, hb43, he284, hb284, he301, hb301⟩ := hN2
  refine lv_aload_n hx hb dX9_adds_0 rfl (lv_at hl 0 rfl) ?_
  refine z_callV (mc := 0) (ms := 0) (As := []) (rest := []) (st2 := []) (cs2 := [wMod g md MNow ((zf_X9_saves MNow MPast MSav).1) ((zf_X9_saves MNow MPast MSav).2) MRef MThen MLev MFst MWay MMost MHash]) X Z [0] [] [0] 0 7 (zc_X9_saves l g B md MNow MPast MSav MRef MThen MLev MFst MWay MMost MHash (by first | assumption | omega | decide)) wM_X9_87 wS_X9_saves wV_X9_saves wK_X9_saves wZ_X9 0 1 1 rfl (by decide +kernel) rfl (by decide) rfl rfl rfl (by decide) rfl rfl (rfl : zCl[7]? = some (RX9, TX9, 10)) hl.1 rfl rfl (by rw [hRf, hRl]; exact ⟨Nat.le_of_ble_eq_true rfl, Nat.le_of_ble_eq_true rfl⟩) (Nat.le_of_ble_eq_true rfl) ⟨Nat.zero_le _, Nat.zero_le _⟩ dX9_adds_1 (fun H locs Z => ?_)
  refine lv_iload_n hx hb dX9_adds_4 rfl (lv_at hl 1 rfl) ?_
  refine lv_iconst (v := (1 : Int32)) hx hb dX9_adds_5 (by decide) ?_
  refine z_iadd (a := 301) (b := 1) X rfl rfl dX9_adds_6 ?_
  refine lv_iconst (v := (2 : Int32)) hx hb dX9_adds_7 (by decide) ?_
  refine lv_aload_n hx hb dX9_adds_8 rfl (lv_at hl 0 rfl) ?_
  refine lv_iload_n hx hb dX9_adds_9 rfl (lv_at hl 1 rfl) ?_
  refine z_callV (mc := 0) (ms := 0) (As := [.int (301 : Int32)]) (rest := [.int (2 : Int32), .int (302 : Int32)]) (st2 := [.int (nI (zc (MNow 301))), .int (2 : Int32), .int (302 : Int32)]) (cs2 := [wMod g md MNow ((zf_X9_saves MNow MPast MSav).1) ((zf_X9_saves MNow MPast MSav).2) MRef MThen MLev MFst MWay MMost MHash]) X Z [0] [] [0] 0 7 (zc_X9_many l g B md MNow ((zf_X9_saves MNow MPast MSav).1) ((zf_X9_saves MNow MPast MSav).2) MRef MThen MLev MFst MWay MMost MHash 301 (zc (MNow 301)) (by first | assumption | omega | decide) (by first | assumption | omega | decide)) wM_X9_66 wS_X9_many wV_X9_many wK_X9_many wZ_X9 1 1 1 rfl (by decide +kernel) rfl (by decide) rfl rfl rfl (by decide) rfl rfl (rfl : zCl[7]? = some (RX9, TX9, 10)) hl.1 rfl rfl (by rw [hRf, hRl]; exact ⟨Nat.le_of_ble_eq_true rfl, Nat.le_of_ble_eq_true rfl⟩) (Nat.le_of_ble_eq_true rfl) ⟨Nat.zero_le _, Nat.zero_le _⟩ dX9_adds_10 (fun H locs Z => ?_)
  refine z_imul (a := 2) (b := (zc (MNow 301))) X rfl rfl dX9_adds_13 ?_
  refine z_iadd (a := 302) (b := (2 * (zc (MNow 301)))) X rfl rfl dX9_adds_14 ?_
  refine lv_istore (lv' := [(4, .int (nI (302 + (2 * (zc (MNow 301)))))), (0, .ref (md 0)), (1, .int (301 : Int32)), (2, .int x), (3, .int y)]) hx hb dX9_adds_15 hl (by decide) rfl (fun ls hl => ?_)
  refine lv_aload_n hx hb dX9_adds_17 rfl (lv_at hl 1 rfl) ?_
  refine z_get X Z 0 rfl (rfl : zCl[7]? = some (RX9, TX9, 10)) zU_X9 0 (by decide) wF_X9_7 rfl rfl dX9_adds_18 ?_
  refine lv_iload hx hb dX9_adds_21 (lv_at hl 0 rfl) ?_
  refine lv_iload_n hx hb dX9_adds_23 rfl (lv_at hl 3 rfl) ?_
  refine lv_i2l hx hb dX9_adds_24 rfl ?_
  refine z_last (cs2 := [wMod g md (vp_updL MNow (302 + (2 * (zc (MNow 301)))) x.toInt64) ((zf_X9_saves MNow MPast MSav).1) ((zf_X9_saves MNow MPast MSav).2) MRef MThen MLev MFst MWay MMost MHash]) (j := (302 + (2 * (zc (MNow 301))))) (x := x.toInt64) X Z 1 rfl rfl (by omega) (by decide) rfl dX9_adds_25 (fun H locs Z => ?_)
  refine lv_aload_n hx hb dX9_adds_26 rfl (lv_at hl 1 rfl) ?_
  refine z_get X Z 0 rfl (rfl : zCl[7]? = some (RX9, TX9, 10)) zU_X9 0 (by decide) wF_X9_7 rfl rfl dX9_adds_27 ?_
  refine lv_iload hx hb dX9_adds_30 (lv_at hl 0 rfl) ?_
  refine lv_iconst (v := (1 : Int32)) hx hb dX9_adds_32 (by decide) ?_
  refine z_iadd (a := (302 + (2 * (zc (MNow 301))))) (b := 1) X rfl rfl dX9_adds_33 ?_
  refine lv_iload_n hx hb dX9_adds_34 rfl (lv_at hl 4 rfl) ?_
  refine lv_i2l hx hb dX9_adds_35 rfl ?_
  refine z_last (cs2 := [wMod g md (vp_updL (vp_updL MNow (302 + (2 * (zc (MNow 301)))) x.toInt64) ((302 + (2 * (zc (MNow 301)))) + 1) y.toInt64) ((zf_X9_saves MNow MPast MSav).1) ((zf_X9_saves MNow MPast MSav).2) MRef MThen MLev MFst MWay MMost MHash]) (j := ((302 + (2 * (zc (MNow 301)))) + 1)) (x := y.toInt64) X Z 1 rfl rfl (by omega) (by decide) rfl dX9_adds_36 (fun H locs Z => ?_)
  refine lv_aload_n hx hb dX9_adds_37 rfl (lv_at hl 1 rfl) ?_
  refine z_get X Z 0 rfl (rfl : zCl[7]? = some (RX9, TX9, 10)) zU_X9 0 (by decide) wF_X9_7 rfl rfl dX9_adds_38 ?_
  refine lv_iload_n hx hb dX9_adds_41 rfl (lv_at hl 2 rfl) ?_
  refine lv_dup2_11 hx hb dX9_adds_42 rfl rfl ?_
  refine z_lald (j := 301) X Z 1 rfl rfl (by omega) (by decide) dX9_adds_43 ?_
  refine lv_lconst (v := (1 : Int64)) hx hb dX9_adds_44 (by decide) ?_
  refine lv_ladd hx hb dX9_adds_45 ?_
  refine z_last (cs2 := [wMod g md (vp_updL (vp_updL (vp_updL MNow (302 + (2 * (zc (MNow 301)))) x.toInt64) ((302 + (2 * (zc (MNow 301)))) + 1) y.toInt64) 301 (((vp_updL (vp_updL MNow (302 + (2 * (zc (MNow 301)))) x.toInt64) ((302 + (2 * (zc (MNow 301)))) + 1) y.toInt64) 301) + (1 : Int64))) ((zf_X9_saves MNow MPast MSav).1) ((zf_X9_saves MNow MPast MSav).2) MRef MThen MLev MFst MWay MMost MHash]) (j := 301) (x := (((vp_updL (vp_updL MNow (302 + (2 * (zc (MNow 301)))) x.toInt64) ((302 + (2 * (zc (MNow 301)))) + 1) y.toInt64) 301) + (1 : Int64))) X Z 1 rfl rfl (by omega) (by decide) rfl dX9_adds_46 (fun H locs Z => ?_)
  refine lv_aload_n hx hb dX9_adds_47 rfl (lv_at hl 1 rfl) ?_
  refine lv_iload_n hx hb dX9_adds_48 rfl (lv_at hl 2 rfl) ?_
  refine z_callV (mc := 0) (ms := 0) (As := [.int (301 : Int32)]) (rest := []) (st2 := [.int (nI (zc (MNow 301) + 1))]) (cs2 := [wMod g md (vp_updL (vp_updL (vp_updL MNow (302 + (2 * (zc (MNow 301)))) x.toInt64) ((302 + (2 * (zc (MNow 301)))) + 1) y.toInt64) 301 (((vp_updL (vp_updL MNow (302 + (2 * (zc (MNow 301)))) x.toInt64) ((302 + (2 * (zc (MNow 301)))) + 1) y.toInt64) 301) + (1 : Int64))) ((zf_X9_saves MNow MPast MSav).1) ((zf_X9_saves MNow MPast MSav).2) MRef MThen MLev MFst MWay MMost MHash]) X Z [0] [] [0] 0 7 (zc_X9_many l g B md (vp_updL (vp_updL (vp_updL MNow (302 + (2 * (zc (MNow 301)))) x.toInt64) ((302 + (2 * (zc (MNow 301)))) + 1) y.toInt64) 301 (((vp_updL (vp_updL MNow (302 + (2 * (zc (MNow 301)))) x.toInt64) ((302 + (2 * (zc (MNow 301)))) + 1) y.toInt64) 301) + (1 : Int64))) ((zf_X9_saves MNow MPast MSav).1) ((zf_X9_saves MNow MPast MSav).2) MRef MThen MLev MFst MWay MMost MHash 301 (zc (MNow 301) + 1) (by first | assumption | omega | decide) (zmany1 (n := zc (MNow 301)) (by rw [zuL_ne (by omega), zuL_ne (by omega)]; exact he301))) wM_X9_66 wS_X9_many wV_X9_many wK_X9_many wZ_X9 1 1 1 rfl (by decide +kernel) rfl (by decide) rfl rfl rfl (by decide) rfl rfl (rfl : zCl[7]? = some (RX9, TX9, 10)) hl.1 rfl rfl (by rw [hRf, hRl]; exact ⟨Nat.le_of_ble_eq_true rfl, Nat.le_of_ble_eq_true rfl⟩) (Nat.le_of_ble_eq_true rfl) ⟨Nat.zero_le _, Nat.zero_le _⟩ dX9_adds_49 (fun H locs Z => ?_)
  refine lv_iconst (v := (1 : Int32)) hx hb dX9_adds_52 (by decide) ?_
  refine z_isub (a := (zc (MNow 301) + 1)) (b := 1) X rfl rfl (by omega) dX9_adds_53 ?_
  exact z_ri (v := nI ((zc (MNow 301) + 1) - 1)) E Z rfl (by rw [zf_X9_adds_301_e]; dsimp only; exact ⟨rfl, rfl⟩) dX9_adds_54 (Nat.zero_le _) (Nat.zero_le _)
def zf_X9_addSupporter (MNow : Nat → Int64) (MPast : Nat → Int64) (MSav : Nat) (x : Int32) (y : Int32) : Nat × Int32 × (Nat → Int64) × (Nat → Int64) × Nat := (if (zf_X9_within x.toInt64 (1 : Int64) (100000 : Int64)) = true then (if (zf_X9_within y.toInt64 (0 : Int64) (16777215 : Int64)) = true then (if (zc (MNow 284)) = 8 then (0, (zf_X9_refused_2), MNow, MPast, MSav) else (((zf_X9_adds_284 MNow MPast MSav x y).1), (zf_X9_refused_0), ((zf_X9_adds_284 MNow MPast MSav x y).2.1), ((zf_X9_adds_284 MNow MPast MSav x y).2.2.1), ((zf_X9_adds_284 MNow MPast MSav x y).2.2.2))) else (0, (zf_X9_refused_1), MNow, MPast, MSav)) else (0, (zf_X9_refused_1), MNow, MPast, MSav))
theorem zf_X9_addSupporter_e (MNow : Nat → Int64) (MPast : Nat → Int64) (MSav : Nat) (x : Int32) (y : Int32) : zf_X9_addSupporter MNow MPast MSav x y = (if (zf_X9_within x.toInt64 (1 : Int64) (100000 : Int64)) = true then (if (zf_X9_within y.toInt64 (0 : Int64) (16777215 : Int64)) = true then (if (zc (MNow 284)) = 8 then (0, (zf_X9_refused_2), MNow, MPast, MSav) else (((zf_X9_adds_284 MNow MPast MSav x y).1), (zf_X9_refused_0), ((zf_X9_adds_284 MNow MPast MSav x y).2.1), ((zf_X9_adds_284 MNow MPast MSav x y).2.2.1), ((zf_X9_adds_284 MNow MPast MSav x y).2.2.2))) else (0, (zf_X9_refused_1), MNow, MPast, MSav)) else (0, (zf_X9_refused_1), MNow, MPast, MSav)) := rfl
set_option maxHeartbeats 4000000 in
set_option maxRecDepth 100000 in
theorem zc_X9_addSupporter (l : Launch) (g : zG) (B : Nat) (md : Nat → Nat) (MNow : Nat → Int64) (MPast : Nat → Int64) (MSav : Nat) (MRef : Int32) (MThen : Nat → Int64) (MLev : Nat → Int64) (MFst : Int32) (MWay : Nat → Int64) (MMost : Nat → Int32) (MHash : Int64) (x : Int32) (y : Int32) (hN : zNow MNow) (hs : MSav ≤ 4) : zMet l g B yX9_addSupporter cX9_addSupporter 4 (some .int) 3 140 0 0 [.ref (md 0), .int x, .int y] [wMod g md MNow MPast MSav MRef MThen MLev MFst MWay MMost MHash] (zDet (some (.int (nI ((zf_X9_addSupporter MNow MPast MSav x y).1)))) [wMod g md ((zf_X9_addSupporter MNow MPast MSav x y).2.2.1) ((zf_X9_addSupporter MNow MPast MSav x y).2.2.2.1) ((zf_X9_addSupporter MNow MPast MSav x y).2.2.2.2) ((zf_X9_addSupporter MNow MPast MSav x y).2.1) MThen MLev MFst MWay MMost MHash]) := by
  refine z_in (plainFor_of_name (by decide)) (Nat.le_of_ble_eq_true rfl) (fun p e R s m args below meth c A Q hRf hRl hRc hRs X Z hnm E ls hl => ?_)
  have hx := X.1
  have hb := X.2.1
  have hown := X.2.2.2.1
  have hts := X.2.2.2.2.1
  have hl : lv_has ls 4 [(0, .ref (md 0)), (1, .int x), (2, .int y)] := hl
  have hN2 := hN; obtain ⟨he9, hb9, he34, hb34, he43, hb43, he284, hb284, he301, hb301⟩ := hN2
  refine lv_iload_n hx hb dX9_addSupporter_0 rfl (lv_at hl 1 rfl) ?_
  refine lv_i2l hx hb dX9_addSupporter_1 rfl ?_
  refine lv_lconst (v := (1 : Int64)) hx hb dX9_addSupporter_2 (by decide) ?_
  refine lv_ldc2 (v := (100000 : Int64)) hx hb hown (hts _ wL_X9_85) dX9_addSupporter_3 ?_
  refine z_callS (mc := 0) (ms := 0) (As := [.long x.toInt64, .long (1 : Int64), .long (100000 : Int64)]) (rest := []) (st2 := [.int (zB (zf_X9_within x.toInt64 (1 : Int64) (100000 : Int64)))]) (cs2 := [wMod g md MNow MPast MSav MRef MThen MLev MFst MWay MMost MHash]) X Z [] [0] [0] (zc_X9_within l g B x.toInt64 (1 : Int64) (100000 : Int64)) wM_X9_44 wS_X9_within wK_X9_within wZ_X9 3 1 1 rfl (by decide +kernel) rfl (by decide) rfl rfl rfl (by decide) rfl hl.1 rfl rfl (by rw [hRf, hRl]; exact ⟨Nat.le_of_ble_eq_true rfl, Nat.le_of_ble_eq_true rfl⟩) (Nat.le_of_ble_eq_true rfl) ⟨Nat.zero_le _, Nat.zero_le _⟩ dX9_addSupporter_6 (fun H locs Z => ?_)
  refine z_ifeqB (b := (zf_X9_within x.toInt64 (1 : Int64) (100000 : Int64))) (tgt := 28) X dX9_addSupporter_9 (by decide) (fun c_1 => ?_) (fun c_1 => ?_)
  · refine lv_iconst (v := (0 : Int32)) hx hb dX9_addSupporter_28 (by decide) ?_
    refine lv_istore_n (lv' := [(3, .int (0 : Int32)), (0, .ref (md 0)), (1, .int x), (2, .int y)]) hx hb dX9_addSupporter_29 rfl hl (by decide) rfl (fun ls hl => ?_)
    refine lv_aload_n hx hb dX9_addSupporter_30 rfl (lv_at hl 1 rfl) ?_
    refine lv_iload_n hx hb dX9_addSupporter_31 rfl (lv_at hl 0 rfl) ?_
    refine lv_if_ne (tgt := 39) hx hb dX9_addSupporter_32 (by decide) (fun c_2 => ?_) (fun c_2 => ?_)
    · (exact absurd c_2 (by decide))
    · refine lv_iconst (v := (1 : Int32)) hx hb dX9_addSupporter_35 (by decide) ?_
      refine lv_goto (tgt := 56) hx hb dX9_addSupporter_36 (by decide) ?_
      refine z_callV (mc := 0) (ms := 0) (As := [.int (1 : Int32)]) (rest := []) (st2 := [.int (1 : Int32)]) (cs2 := [wMod g md MNow MPast MSav (zf_X9_refused_1) MThen MLev MFst MWay MMost MHash]) X Z [0] [] [0] 0 7 (zc_X9_refused_1 l g B md MNow MPast MSav MRef MThen MLev MFst MWay MMost MHash) wM_X9_55 wS_X9_refused wV_X9_refused wK_X9_refused wZ_X9 1 1 1 rfl (by decide +kernel) rfl (by decide) rfl rfl rfl (by decide) rfl rfl (rfl : zCl[7]? = some (RX9, TX9, 10)) hl.1 rfl rfl (by rw [hRf, hRl]; exact ⟨Nat.le_of_ble_eq_true rfl, Nat.le_of_ble_eq_true rfl⟩) (Nat.le_of_ble_eq_true rfl) ⟨Nat.zero_le _, Nat.zero_le _⟩ dX9_addSupporter_56 (fun H locs Z => ?_)
      refine lv_if_eq (tgt := 66) hx hb dX9_addSupporter_59 (by decide) (fun c_3 => ?_) (fun c_3 => ?_)
      · (exact absurd c_3 (by decide))
      · refine lv_iconst (v := (0 : Int32)) hx hb dX9_addSupporter_62 (by decide) ?_
        refine lv_goto (tgt := 75) hx hb dX9_addSupporter_63 (by decide) ?_
        exact z_ri (v := nI 0) E Z rfl (by rw [zf_X9_addSupporter_e, if_neg (zBf c_1)]; dsimp only; exact ⟨rfl, rfl⟩) dX9_addSupporter_75 (Nat.zero_le _) (Nat.zero_le _)
  · refine lv_iload_n hx hb dX9_addSupporter_12 rfl (lv_at hl 2 rfl) ?_
    refine lv_i2l hx hb dX9_addSupporter_13 rfl ?_
    refine lv_lconst (v := (0 : Int64)) hx hb dX9_addSupporter_14 (by decide) ?_
    refine lv_ldc2 (v := (16777215 : Int64)) hx hb hown (hts _ wL_X9_192) dX9_addSupporter_15 ?_
    refine z_callS (mc := 0) (ms := 0) (As := [.long y.toInt64, .long (0 : Int64), .long (16777215 : Int64)]) (rest := []) (st2 := [.int (zB (zf_X9_within y.toInt64 (0 : Int64) (16777215 : Int64)))]) (cs2 := [wMod g md MNow MPast MSav MRef MThen MLev MFst MWay MMost MHash]) X Z [] [0] [0] (zc_X9_within l g B y.toInt64 (0 : Int64) (16777215 : Int64)) wM_X9_44 wS_X9_within wK_X9_within wZ_X9 3 1 1 rfl (by decide +kernel) rfl (by decide) rfl rfl rfl (by decide) rfl hl.1 rfl rfl (by rw [hRf, hRl]; exact ⟨Nat.le_of_ble_eq_true rfl, Nat.le_of_ble_eq_true rfl⟩) (Nat.le_of_ble_eq_true rfl) ⟨Nat.zero_le _, Nat.zero_le _⟩ dX9_addSupporter_18 (fun H locs Z => ?_)
    refine z_ifeqB (b := (zf_X9_within y.toInt64 (0 : Int64) (16777215 : Int64))) (tgt := 28) X dX9_addSupporter_21 (by decide) (fun c_4 => ?_) (fun c_4 => ?_)
    · refine lv_iconst (v := (0 : Int32)) hx hb dX9_addSupporter_28 (by decide) ?_
      refine lv_istore_n (lv' := [(3, .int (0 : Int32)), (0, .ref (md 0)), (1, .int x), (2, .int y)]) hx hb dX9_addSupporter_29 rfl hl (by decide) rfl (fun ls hl => ?_)
      refine lv_aload_n hx hb dX9_addSupporter_30 rfl (lv_at hl 1 rfl) ?_
      refine lv_iload_n hx hb dX9_addSupporter_31 rfl (lv_at hl 0 rfl) ?_
      refine lv_if_ne (tgt := 39) hx hb dX9_addSupporter_32 (by decide) (fun c_5 => ?_) (fun c_5 => ?_)
      · (exact absurd c_5 (by decide))
      · refine lv_iconst (v := (1 : Int32)) hx hb dX9_addSupporter_35 (by decide) ?_
        refine lv_goto (tgt := 56) hx hb dX9_addSupporter_36 (by decide) ?_
        refine z_callV (mc := 0) (ms := 0) (As := [.int (1 : Int32)]) (rest := []) (st2 := [.int (1 : Int32)]) (cs2 := [wMod g md MNow MPast MSav (zf_X9_refused_1) MThen MLev MFst MWay MMost MHash]) X Z [0] [] [0] 0 7 (zc_X9_refused_1 l g B md MNow MPast MSav MRef MThen MLev MFst MWay MMost MHash) wM_X9_55 wS_X9_refused wV_X9_refused wK_X9_refused wZ_X9 1 1 1 rfl (by decide +kernel) rfl (by decide) rfl rfl rfl (by decide) rfl rfl (rfl : zCl[7]? = some (RX9, TX9, 10)) hl.1 rfl rfl (by rw [hRf, hRl]; exact ⟨Nat.le_of_ble_eq_true rfl, Nat.le_of_ble_eq_true rfl⟩) (Nat.le_of_ble_eq_true rfl) ⟨Nat.zero_le _, Nat.zero_le _⟩ dX9_addSupporter_56 (fun H locs Z => ?_)
        refine lv_if_eq (tgt := 66) hx hb dX9_addSupporter_59 (by decide) (fun c_6 => ?_) (fun c_6 => ?_)
        · (exact absurd c_6 (by decide))
        · refine lv_iconst (v := (0 : Int32)) hx hb dX9_addSupporter_62 (by decide) ?_
          refine lv_goto (tgt := 75) hx hb dX9_addSupporter_63 (by decide) ?_
          exact z_ri (v := nI 0) E Z rfl (by rw [zf_X9_addSupporter_e, if_pos c_1, if_neg (zBf c_4)]; dsimp only; exact ⟨rfl, rfl⟩) dX9_addSupporter_75 (Nat.zero_le _) (Nat.zero_le _)
    · refine lv_iconst (v := (1 : Int32)) hx hb dX9_addSupporter_24 (by decide) ?_
      refine lv_goto (tgt := 29) hx hb dX9_addSupporter_25 (by decide) ?_
      refine lv_istore_n (lv' := [(3, .int (1 : Int32)), (0, .ref (md 0)), (1, .int x), (2, .int y)]) hx hb dX9_addSupporter_29 rfl hl (by decide) rfl (fun ls hl => ?_)
      refine lv_aload_n hx hb dX9_addSupporter_30 rfl (lv_at hl 1 rfl) ?_
      refine lv_iload_n hx hb dX9_addSupporter_31 rfl (lv_at hl 0 rfl) ?_
      refine lv_if_ne (tgt := 39) hx hb dX9_addSupporter_32 (by decide) (fun c_7 => ?_) (fun c_7 => ?_)
      · refine lv_aload_n hx hb dX9_addSupporter_39 rfl (lv_at hl 1 rfl) ?_
        refine lv_sipush (v := (284 : Int32)) hx hb dX9_addSupporter_40 (by decide) ?_
        refine z_callV (mc := 0) (ms := 0) (As := [.int (284 : Int32)]) (rest := [.ref (md 0)]) (st2 := [.int (nI (zc (MNow 284))), .ref (md 0)]) (cs2 := [wMod g md MNow MPast MSav MRef MThen MLev MFst MWay MMost MHash]) X Z [0] [] [0] 0 7 (zc_X9_many l g B md MNow MPast MSav MRef MThen MLev MFst MWay MMost MHash 284 (zc (MNow 284)) (by first | assumption | omega | decide) (by first | assumption | omega | decide)) wM_X9_66 wS_X9_many wV_X9_many wK_X9_many wZ_X9 1 1 1 rfl (by decide +kernel) rfl (by decide) rfl rfl rfl (by decide) rfl rfl (rfl : zCl[7]? = some (RX9, TX9, 10)) hl.1 rfl rfl (by rw [hRf, hRl]; exact ⟨Nat.le_of_ble_eq_true rfl, Nat.le_of_ble_eq_true rfl⟩) (Nat.le_of_ble_eq_true rfl) ⟨Nat.zero_le _, Nat.zero_le _⟩ dX9_addSupporter_43 (fun H locs Z => ?_)
        refine lv_bipush (v := (8 : Int32)) hx hb dX9_addSupporter_46 (by decide) ?_
        refine z_icmp_ne (a := (zc (MNow 284))) (b := 8) (tgt := 55) X rfl rfl (by omega) (by omega) dX9_addSupporter_48 (by decide) (fun c_8 => ?_) (fun c_8 => ?_)
        · refine lv_iconst (v := (0 : Int32)) hx hb dX9_addSupporter_55 (by decide) ?_
          refine z_callV (mc := 0) (ms := 0) (As := [.int (0 : Int32)]) (rest := []) (st2 := [.int (0 : Int32)]) (cs2 := [wMod g md MNow MPast MSav (zf_X9_refused_0) MThen MLev MFst MWay MMost MHash]) X Z [0] [] [0] 0 7 (zc_X9_refused_0 l g B md MNow MPast MSav MRef MThen MLev MFst MWay MMost MHash) wM_X9_55 wS_X9_refused wV_X9_refused wK_X9_refused wZ_X9 1 1 1 rfl (by decide +kernel) rfl (by decide) rfl rfl rfl (by decide) rfl rfl (rfl : zCl[7]? = some (RX9, TX9, 10)) hl.1 rfl rfl (by rw [hRf, hRl]; exact ⟨Nat.le_of_ble_eq_true rfl, Nat.le_of_ble_eq_true rfl⟩) (Nat.le_of_ble_eq_true rfl) ⟨Nat.zero_le _, Nat.zero_le _⟩ dX9_addSupporter_56 (fun H locs Z => ?_)
          refine lv_if_eq (tgt := 66) hx hb dX9_addSupporter_59 (by decide) (fun c_9 => ?_) (fun c_9 => ?_)
          · refine lv_aload_n hx hb dX9_addSupporter_66 rfl (lv_at hl 1 rfl) ?_
            refine lv_sipush (v := (284 : Int32)) hx hb dX9_addSupporter_67 (by decide) ?_
            refine lv_iload_n hx hb dX9_addSupporter_70 rfl (lv_at hl 2 rfl) ?_
            refine lv_iload_n hx hb dX9_addSupporter_71 rfl (lv_at hl 3 rfl) ?_
            refine z_callV (mc := 0) (ms := 0) (As := [.int (284 : Int32), .int x, .int y]) (rest := []) (st2 := [.int (nI ((zf_X9_adds_284 MNow MPast MSav x y).1))]) (cs2 := [wMod g md ((zf_X9_adds_284 MNow MPast MSav x y).2.1) ((zf_X9_adds_284 MNow MPast MSav x y).2.2.1) ((zf_X9_adds_284 MNow MPast MSav x y).2.2.2) (zf_X9_refused_0) MThen MLev MFst MWay MMost MHash]) X Z [0] [] [0] 0 7 (zc_X9_adds_284 l g B md MNow MPast MSav (zf_X9_refused_0) MThen MLev MFst MWay MMost MHash x y (by first | assumption | omega | decide) (by first | assumption | omega | decide) (by first | assumption | omega | decide)) wM_X9_194 wS_X9_adds wV_X9_adds wK_X9_adds wZ_X9 3 1 1 rfl (by decide +kernel) rfl (by decide) rfl rfl rfl (by decide) rfl rfl (rfl : zCl[7]? = some (RX9, TX9, 10)) hl.1 rfl rfl (by rw [hRf, hRl]; exact ⟨Nat.le_of_ble_eq_true rfl, Nat.le_of_ble_eq_true rfl⟩) (Nat.le_of_ble_eq_true rfl) ⟨Nat.zero_le _, Nat.zero_le _⟩ dX9_addSupporter_72 (fun H locs Z => ?_)
            exact z_ri (v := nI ((zf_X9_adds_284 MNow MPast MSav x y).1)) E Z rfl (by rw [zf_X9_addSupporter_e, if_pos c_1, if_pos c_4, if_neg c_8]; dsimp only; exact ⟨rfl, rfl⟩) dX9_addSupporter_75 (Nat.zero_le _) (Nat.zero_le _)
          · (exact absurd c_9 (by decide))
        · refine lv_iconst (v := (2 : Int32)) hx hb dX9_addSupporter_51 (by decide) ?_
          refine lv_goto (tgt := 56) hx hb dX9_addSupporter_52 (by decide) ?_
          refine z_callV (mc := 0) (ms := 0) (As := [.int (2 : Int32)]) (rest := []) (st2 := [.int (1 : Int32)]) (cs2 := [wMod g md MNow MPast MSav (zf_X9_refused_2) MThen MLev MFst MWay MMost MHash]) X Z [0] [] [0] 0 7 (zc_X9_refused_2 l g B md MNow MPast MSav MRef MThen MLev MFst MWay MMost MHash) wM_X9_55 wS_X9_refused wV_X9_refused wK_X9_refused wZ_X9 1 1 1 rfl (by decide +kernel) rfl (by decide) rfl rfl rfl (by decide) rfl rfl (rfl : zCl[7]? = some (RX9, TX9, 10)) hl.1 rfl rfl (by rw [hRf, hRl]; exact ⟨Nat.le_of_ble_eq_true rfl, Nat.le_of_ble_eq_true rfl⟩) (Nat.le_of_ble_eq_true rfl) ⟨Nat.zero_le _, Nat.zero_le _⟩ dX9_addSupporter_56 (fun H locs Z => ?_)
          refine lv_if_eq (tgt := 66) hx hb dX9_addSupporter_59 (by decide) (fun c_10 => ?_) (fun c_10 => ?_)
          · (exact absurd c_10 (by decide))
          · refine lv_iconst (v := (0 : Int32)) hx hb dX9_addSupporter_62 (by decide) ?_
            refine lv_goto (tgt := 75) hx hb dX9_addSupporter_63 (by decide) ?_
            exact z_ri (v := nI 0) E Z rfl (by rw [zf_X9_addSupporter_e, if_pos c_1, if_pos c_4, if_pos c_8]; dsimp only; exact ⟨rfl, rfl⟩) dX9_addSupporter_75 (Nat.zero_le _) (Nat.zero_le _)
      · (exact absurd c_7 (by decide))
def zf_X9_addSession (MNow : Nat → Int64) (MPast : Nat → Int64) (MSav : Nat) (x : Int32) (y : Int32) : Nat × Int32 × (Nat → Int64) × (Nat → Int64) × Nat := (if (zf_X9_within x.toInt64 (1 : Int64) (100000 : Int64)) = true then (if (zf_X9_within y.toInt64 (0 : Int64) (23 : Int64)) = true then (if (zc (MNow 301)) = 8 then (0, (zf_X9_refused_2), MNow, MPast, MSav) else (((zf_X9_adds_301 MNow MPast MSav x y).1), (zf_X9_refused_0), ((zf_X9_adds_301 MNow MPast MSav x y).2.1), ((zf_X9_adds_301 MNow MPast MSav x y).2.2.1), ((zf_X9_adds_301 MNow MPast MSav x y).2.2.2))) else (0, (zf_X9_refused_1), MNow, MPast, MSav)) else (0, (zf_X9_refused_1), MNow, MPast, MSav))
theorem zf_X9_addSession_e (MNow : Nat → Int64) (MPast : Nat → Int64) (MSav : Nat) (x : Int32) (y : Int32) : zf_X9_addSession MNow MPast MSav x y = (if (zf_X9_within x.toInt64 (1 : Int64) (100000 : Int64)) = true then (if (zf_X9_within y.toInt64 (0 : Int64) (23 : Int64)) = true then (if (zc (MNow 301)) = 8 then (0, (zf_X9_refused_2), MNow, MPast, MSav) else (((zf_X9_adds_301 MNow MPast MSav x y).1), (zf_X9_refused_0), ((zf_X9_adds_301 MNow MPast MSav x y).2.1), ((zf_X9_adds_301 MNow MPast MSav x y).2.2.1), ((zf_X9_adds_301 MNow MPast MSav x y).2.2.2))) else (0, (zf_X9_refused_1), MNow, MPast, MSav)) else (0, (zf_X9_refused_1), MNow, MPast, MSav)) := rfl
set_option maxHeartbeats 4000000 in
set_option maxRecDepth 100000 in
theorem zc_X9_addSession (l : Launch) (g : zG) (B : Nat) (md : Nat → Nat) (MNow : Nat → Int64) (MPast : Nat → Int64) (MSav : Nat) (MRef : Int32) (MThen : Nat → Int64) (MLev : Nat → Int64) (MFst : Int32) (MWay : Nat → Int64) (MMost : Nat → Int32) (MHash : Int64) (x : Int32) (y : Int32) (hN : zNow MNow) (hs : MSav ≤ 4) : zMet l g B yX9_addSession cX9_addSession 4 (some .int) 3 140 0 0 [.ref (md 0), .int x, .int y] [wMod g md MNow MPast MSav MRef MThen MLev MFst MWay MMost MHash] (zDet (some (.int (nI ((zf_X9_addSession MNow MPast MSav x y).1)))) [wMod g md ((zf_X9_addSession MNow MPast MSav x y).2.2.1) ((zf_X9_addSession MNow MPast MSav x y).2.2.2.1) ((zf_X9_addSession MNow MPast MSav x y).2.2.2.2) ((zf_X9_addSession MNow MPast MSav x y).2.1) MThen MLev MFst MWay MMost MHash]) := by
  refine z_in (plainFor_of_name (by decide)) (Nat.le_of_ble_eq_true rfl) (fun p e R s m args below meth c A Q hRf hRl hRc hRs X Z hnm E ls hl => ?_)
  have hx := X.1
  have hb := X.2.1
  have hown := X.2.2.2.1
  have hts := X.2.2.2.2.1
  have hl : lv_has ls 4 [(0, .ref (md 0)), (1, .int x), (2, .int y)] := hl
  have hN2 := hN; obtain ⟨he9, hb9, he34, hb34, he43, hb43, he284, hb284, he301, hb301⟩ := hN2
  refine lv_iload_n hx hb dX9_addSession_0 rfl (lv_at hl 1 rfl) ?_
  refine lv_i2l hx hb dX9_addSession_1 rfl ?_
  refine lv_lconst (v := (1 : Int64)) hx hb dX9_addSession_2 (by decide) ?_
  refine lv_ldc2 (v := (100000 : Int64)) hx hb hown (hts _ wL_X9_85) dX9_addSession_3 ?_
  refine z_callS (mc := 0) (ms := 0) (As := [.long x.toInt64, .long (1 : Int64), .long (100000 : Int64)]) (rest := []) (st2 := [.int (zB (zf_X9_within x.toInt64 (1 : Int64) (100000 : Int64)))]) (cs2 := [wMod g md MNow MPast MSav MRef MThen MLev MFst MWay MMost MHash]) X Z [] [0] [0] (zc_X9_within l g B x.toInt64 (1 : Int64) (100000 : Int64)) wM_X9_44 wS_X9_within wK_X9_within wZ_X9 3 1 1 rfl (by decide +kernel) rfl (by decide) rfl rfl rfl (by decide) rfl hl.1 rfl rfl (by rw [hRf, hRl]; exact ⟨Nat.le_of_ble_eq_true rfl, Nat.le_of_ble_eq_true rfl⟩) (Nat.le_of_ble_eq_true rfl) ⟨Nat.zero_le _, Nat.zero_le _⟩ dX9_addSession_6 (fun H locs Z => ?_)
  refine z_ifeqB (b := (zf_X9_within x.toInt64 (1 : Int64) (100000 : Int64))) (tgt := 28) X dX9_addSession_9 (by decide) (fun c_1 => ?_) (fun c_1 => ?_)
  · refine lv_iconst (v := (0 : Int32)) hx hb dX9_addSession_28 (by decide) ?_
    refine lv_istore_n (lv' := [(3, .int (0 : Int32)), (0, .ref (md 0)), (1, .int x), (2, .int y)]) hx hb dX9_addSession_29 rfl hl (by decide) rfl (fun ls hl => ?_)
    refine lv_aload_n hx hb dX9_addSession_30 rfl (lv_at hl 1 rfl) ?_
    refine lv_iload_n hx hb dX9_addSession_31 rfl (lv_at hl 0 rfl) ?_
    refine lv_if_ne (tgt := 39) hx hb dX9_addSession_32 (by decide) (fun c_2 => ?_) (fun c_2 => ?_)
    · (exact absurd c_2 (by decide))
    · refine lv_iconst (v := (1 : Int32)) hx hb dX9_addSession_35 (by decide) ?_
      refine lv_goto (tgt := 56) hx hb dX9_addSession_36 (by decide) ?_
      refine z_callV (mc := 0) (ms := 0) (As := [.int (1 : Int32)]) (rest := []) (st2 := [.int (1 : Int32)]) (cs2 := [wMod g md MNow MPast MSav (zf_X9_refused_1) MThen MLev MFst MWay MMost MHash]) X Z [0] [] [0] 0 7 (zc_X9_refused_1 l g B md MNow MPast MSav MRef MThen MLev MFst MWay MMost MHash) wM_X9_55 wS_X9_refused wV_X9_refused wK_X9_refused wZ_X9 1 1 1 rfl (by decide +kernel) rfl (by decide) rfl rfl rfl (by decide) rfl rfl (rfl : zCl[7]? = some (RX9, TX9, 10)) hl.1 rfl rfl (by rw [hRf, hRl]; exact ⟨Nat.le_of_ble_eq_true rfl, Nat.le_of_ble_eq_true rfl⟩) (Nat.le_of_ble_eq_true rfl) ⟨Nat.zero_le _, Nat.zero_le _⟩ dX9_addSession_56 (fun H locs Z => ?_)
      refine lv_if_eq (tgt := 66) hx hb dX9_addSession_59 (by decide) (fun c_3 => ?_) (fun c_3 => ?_)
      · (exact absurd c_3 (by decide))
      · refine lv_iconst (v := (0 : Int32)) hx hb dX9_addSession_62 (by decide) ?_
        refine lv_goto (tgt := 75) hx hb dX9_addSession_63 (by decide) ?_
        exact z_ri (v := nI 0) E Z rfl (by rw [zf_X9_addSession_e, if_neg (zBf c_1)]; dsimp only; exact ⟨rfl, rfl⟩) dX9_addSession_75 (Nat.zero_le _) (Nat.zero_le _)
  · refine lv_iload_n hx hb dX9_addSession_12 rfl (lv_at hl 2 rfl) ?_
    refine lv_i2l hx hb dX9_addSession_13 rfl ?_
    refine lv_lconst (v := (0 : Int64)) hx hb dX9_addSession_14 (by decide) ?_
    refine lv_ldc2 (v := (23 : Int64)) hx hb hown (hts _ wL_X9_198) dX9_addSession_15 ?_
    refine z_callS (mc := 0) (ms := 0) (As := [.long y.toInt64, .long (0 : Int64), .long (23 : Int64)]) (rest := []) (st2 := [.int (zB (zf_X9_within y.toInt64 (0 : Int64) (23 : Int64)))]) (cs2 := [wMod g md MNow MPast MSav MRef MThen MLev MFst MWay MMost MHash]) X Z [] [0] [0] (zc_X9_within l g B y.toInt64 (0 : Int64) (23 : Int64)) wM_X9_44 wS_X9_within wK_X9_within wZ_X9 3 1 1 rfl (by decide +kernel) rfl (by decide) rfl rfl rfl (by decide) rfl hl.1 rfl rfl (by rw [hRf, hRl]; exact ⟨Nat.le_of_ble_eq_true rfl, Nat.le_of_ble_eq_true rfl⟩) (Nat.le_of_ble_eq_true rfl) ⟨Nat.zero_le _, Nat.zero_le _⟩ dX9_addSession_18 (fun H locs Z => ?_)
    refine z_ifeqB (b := (zf_X9_within y.toInt64 (0 : Int64) (23 : Int64))) (tgt := 28) X dX9_addSession_21 (by decide) (fun c_4 => ?_) (fun c_4 => ?_)
    · refine lv_iconst (v := (0 : Int32)) hx hb dX9_addSession_28 (by decide) ?_
      refine lv_istore_n (lv' := [(3, .int (0 : Int32)), (0, .ref (md 0)), (1, .int x), (2, .int y)]) hx hb dX9_addSession_29 rfl hl (by decide) rfl (fun ls hl => ?_)
      refine lv_aload_n hx hb dX9_addSession_30 rfl (lv_at hl 1 rfl) ?_
      refine lv_iload_n hx hb dX9_addSession_31 rfl (lv_at hl 0 rfl) ?_
      refine lv_if_ne (tgt := 39) hx hb dX9_addSession_32 (by decide) (fun c_5 => ?_) (fun c_5 => ?_)
      · (exact absurd c_5 (by decide))
      · refine lv_iconst (v := (1 : Int32)) hx hb dX9_addSession_35 (by decide) ?_
        refine lv_goto (tgt := 56) hx hb dX9_addSession_36 (by decide) ?_
        refine z_callV (mc := 0) (ms := 0) (As := [.int (1 : Int32)]) (rest := []) (st2 := [.int (1 : Int32)]) (cs2 := [wMod g md MNow MPast MSav (zf_X9_refused_1) MThen MLev MFst MWay MMost MHash]) X Z [0] [] [0] 0 7 (zc_X9_refused_1 l g B md MNow MPast MSav MRef MThen MLev MFst MWay MMost MHash) wM_X9_55 wS_X9_refused wV_X9_refused wK_X9_refused wZ_X9 1 1 1 rfl (by decide +kernel) rfl (by decide) rfl rfl rfl (by decide) rfl rfl (rfl : zCl[7]? = some (RX9, TX9, 10)) hl.1 rfl rfl (by rw [hRf, hRl]; exact ⟨Nat.le_of_ble_eq_true rfl, Nat.le_of_ble_eq_true rfl⟩) (Nat.le_of_ble_eq_true rfl) ⟨Nat.zero_le _, Nat.zero_le _⟩ dX9_addSession_56 (fun H locs Z => ?_)
        refine lv_if_eq (tgt := 66) hx hb dX9_addSession_59 (by decide) (fun c_6 => ?_) (fun c_6 => ?_)
        · (exact absurd c_6 (by decide))
        · refine lv_iconst (v := (0 : Int32)) hx hb dX9_addSession_62 (by decide) ?_
          refine lv_goto (tgt := 75) hx hb dX9_addSession_63 (by decide) ?_
          exact z_ri (v := nI 0) E Z rfl (by rw [zf_X9_addSession_e, if_pos c_1, if_neg (zBf c_4)]; dsimp only; exact ⟨rfl, rfl⟩) dX9_addSession_75 (Nat.zero_le _) (Nat.zero_le _)
    · refine lv_iconst (v := (1 : Int32)) hx hb dX9_addSession_24 (by decide) ?_
      refine lv_goto (tgt := 29) hx hb dX9_addSession_25 (by decide) ?_
      refine lv_istore_n (lv' := [(3, .int (1 : Int32)), (0, .ref (md 0)), (1, .int x), (2, .int y)]) hx hb dX9_addSession_29 rfl hl (by decide) rfl (fun ls hl => ?_)
      refine lv_aload_n hx hb dX9_addSession_30 rfl (lv_at hl 1 rfl) ?_
      refine lv_iload_n hx hb dX9_addSession_31 rfl (lv_at hl 0 rfl) ?_
      refine lv_if_ne (tgt := 39) hx hb dX9_addSession_32 (by decide) (fun c_7 => ?_) (fun c_7 => ?_)
      · refine lv_aload_n hx hb dX9_addSession_39 rfl (lv_at hl 1 rfl) ?_
        refine lv_sipush (v := (301 : Int32)) hx hb dX9_addSession_40 (by decide) ?_
        refine z_callV (mc := 0) (ms := 0) (As := [.int (301 : Int32)]) (rest := [.ref (md 0)]) (st2 := [.int (nI (zc (MNow 301))), .ref (md 0)]) (cs2 := [wMod g md MNow MPast MSav MRef MThen MLev MFst MWay MMost MHash]) X Z [0] [] [0] 0 7 (zc_X9_many l g B md MNow MPast MSav MRef MThen MLev MFst MWay MMost MHash 301 (zc (MNow 301)) (by first | assumption | omega | decide) (by first | assumption | omega | decide)) wM_X9_66 wS_X9_many wV_X9_many wK_X9_many wZ_X9 1 1 1 rfl (by decide +kernel) rfl (by decide) rfl rfl rfl (by decide) rfl rfl (rfl : zCl[7]? = some (RX9, TX9, 10)) hl.1 rfl rfl (by rw [hRf, hRl]; exact ⟨Nat.le_of_ble_eq_true rfl, Nat.le_of_ble_eq_true rfl⟩) (Nat.le_of_ble_eq_true rfl) ⟨Nat.zero_le _, Nat.zero_le _⟩ dX9_addSession_43 (fun H locs Z => ?_)
        refine lv_bipush (v := (8 : Int32)) hx hb dX9_addSession_46 (by decide) ?_
        refine z_icmp_ne (a := (zc (MNow 301))) (b := 8) (tgt := 55) X rfl rfl (by omega) (by omega) dX9_addSession_48 (by decide) (fun c_8 => ?_) (fun c_8 => ?_)
        · refine lv_iconst (v := (0 : Int32)) hx hb dX9_addSession_55 (by decide) ?_
          refine z_callV (mc := 0) (ms := 0) (As := [.int (0 : Int32)]) (rest := []) (st2 := [.int (0 : Int32)]) (cs2 := [wMod g md MNow MPast MSav (zf_X9_refused_0) MThen MLev MFst MWay MMost MHash]) X Z [0] [] [0] 0 7 (zc_X9_refused_0 l g B md MNow MPast MSav MRef MThen MLev MFst MWay MMost MHash) wM_X9_55 wS_X9_refused wV_X9_refused wK_X9_refused wZ_X9 1 1 1 rfl (by decide +kernel) rfl (by decide) rfl rfl rfl (by decide) rfl rfl (rfl : zCl[7]? = some (RX9, TX9, 10)) hl.1 rfl rfl (by rw [hRf, hRl]; exact ⟨Nat.le_of_ble_eq_true rfl, Nat.le_of_ble_eq_true rfl⟩) (Nat.le_of_ble_eq_true rfl) ⟨Nat.zero_le _, Nat.zero_le _⟩ dX9_addSession_56 (fun H locs Z => ?_)
          refine lv_if_eq (tgt := 66) hx hb dX9_addSession_59 (by decide) (fun c_9 => ?_) (fun c_9 => ?_)
          · refine lv_aload_n hx hb dX9_addSession_66 rfl (lv_at hl 1 rfl) ?_
            refine lv_sipush (v := (301 : Int32)) hx hb dX9_addSession_67 (by decide) ?_
            refine lv_iload_n hx hb dX9_addSession_70 rfl (lv_at hl 2 rfl) ?_
            refine lv_iload_n hx hb dX9_addSession_71 rfl (lv_at hl 3 rfl) ?_
            refine z_callV (mc := 0) (ms := 0) (As := [.int (301 : Int32), .int x, .int y]) (rest := []) (st2 := [.int (nI ((zf_X9_adds_301 MNow MPast MSav x y).1))]) (cs2 := [wMod g md ((zf_X9_adds_301 MNow MPast MSav x y).2.1) ((zf_X9_adds_301 MNow MPast MSav x y).2.2.1) ((zf_X9_adds_301 MNow MPast MSav x y).2.2.2) (zf_X9_refused_0) MThen MLev MFst MWay MMost MHash]) X Z [0] [] [0] 0 7 (zc_X9_adds_301 l g B md MNow MPast MSav (zf_X9_refused_0) MThen MLev MFst MWay MMost MHash x y (by first | assumption | omega | decide) (by first | assumption | omega | decide) (by first | assumption | omega | decide)) wM_X9_194 wS_X9_adds wV_X9_adds wK_X9_adds wZ_X9 3 1 1 rfl (by decide +kernel) rfl (by decide) rfl rfl rfl (by decide) rfl rfl (rfl : zCl[7]? = some (RX9, TX9, 10)) hl.1 rfl rfl (by rw [hRf, hRl]; exact ⟨Nat.le_of_ble_eq_true rfl, Nat.le_of_ble_eq_true rfl⟩) (Nat.le_of_ble_eq_true rfl) ⟨Nat.zero_le _, Nat.zero_le _⟩ dX9_addSession_72 (fun H locs Z => ?_)
            exact z_ri (v := nI ((zf_X9_adds_301 MNow MPast MSav x y).1)) E Z rfl (by rw [zf_X9_addSession_e, if_pos c_1, if_pos c_4, if_neg c_8]; dsimp only; exact ⟨rfl, rfl⟩) dX9_addSession_75 (Nat.zero_le _) (Nat.zero_le _)
          · (exact absurd c_9 (by decide))
        · refine lv_iconst (v := (2 : Int32)) hx hb dX9_addSession_51 (by decide) ?_
          refine lv_goto (tgt := 56) hx hb dX9_addSession_52 (by decide) ?_
          refine z_callV (mc := 0) (ms := 0) (As := [.int (2 : Int32)]) (rest := []) (st2 := [.int (1 : Int32)]) (cs2 := [wMod g md MNow MPast MSav (zf_X9_refused_2) MThen MLev MFst MWay MMost MHash]) X Z [0] [] [0] 0 7 (zc_X9_refused_2 l g B md MNow MPast MSav MRef MThen MLev MFst MWay MMost MHash) wM_X9_55 wS_X9_refused wV_X9_refused wK_X9_refused wZ_X9 1 1 1 rfl (by decide +kernel) rfl (by decide) rfl rfl rfl (by decide) rfl rfl (rfl : zCl[7]? = some (RX9, TX9, 10)) hl.1 rfl rfl (by rw [hRf, hRl]; exact ⟨Nat.le_of_ble_eq_true rfl, Nat.le_of_ble_eq_true rfl⟩) (Nat.le_of_ble_eq_true rfl) ⟨Nat.zero_le _, Nat.zero_le _⟩ dX9_addSession_56 (fun H locs Z => ?_)
          refine lv_if_eq (tgt := 66) hx hb dX9_addSession_59 (by decide) (fun c_10 => ?_) (fun c_10 => ?_)
          · (exact absurd c_10 (by decide))
          · refine lv_iconst (v := (0 : Int32)) hx hb dX9_addSession_62 (by decide) ?_
            refine lv_goto (tgt := 75) hx hb dX9_addSession_63 (by decide) ?_
            exact z_ri (v := nI 0) E Z rfl (by rw [zf_X9_addSession_e, if_pos c_1, if_pos c_4, if_pos c_8]; dsimp only; exact ⟨rfl, rfl⟩) dX9_addSession_75 (Nat.zero_le _) (Nat.zero_le _)
      · (exact absurd c_7 (by decide))
def zf_X9_clearSessions (MNow : Nat → Int64) (MPast : Nat → Int64) (MSav : Nat) : Nat × Int32 × (Nat → Int64) × (Nat → Int64) × Nat := (((zc (MNow 284)) + (zc (MNow 301))), (0 : Int32), (vp_updL (vp_updL MNow 284 (0 : Int64)) 301 (0 : Int64)), ((zf_X9_saves MNow MPast MSav).1), ((zf_X9_saves MNow MPast MSav).2))
theorem zf_X9_clearSessions_e (MNow : Nat → Int64) (MPast : Nat → Int64) (MSav : Nat) : zf_X9_clearSessions MNow MPast MSav = (((zc (MNow 284)) + (zc (MNow 301))), (0 : Int32), (vp_updL (vp_updL MNow 284 (0 : Int64)) 301 (0 : Int64)), ((zf_X9_saves MNow MPast MSav).1), ((zf_X9_saves MNow MPast MSav).2)) := rfl
set_option maxHeartbeats 4000000 in
set_option maxRecDepth 100000 in
theorem zc_X9_clearSessions (l : Launch) (g : zG) (B : Nat) (md : Nat → Nat) (MNow : Nat → Int64) (MPast : Nat → Int64) (MSav : Nat) (MRef : Int32) (MThen : Nat → Int64) (MLev : Nat → Int64) (MFst : Int32) (MWay : Nat → Int64) (MMost : Nat → Int32) (MHash : Int64) (hN : zNow MNow) (hs : MSav ≤ 4) : zMet l g B yX9_clearSessions cX9_clearSessions 2 (some .int) 2 100 0 0 [.ref (md 0)] [wMod g md MNow MPast MSav MRef MThen MLev MFst MWay MMost MHash] (zDet (some (.int (nI ((zf_X9_clearSessions MNow MPast MSav).1)))) [wMod g md ((zf_X9_clearSessions MNow MPast MSav).2.2.1) ((zf_X9_clearSessions MNow MPast MSav).2.2.2.1) ((zf_X9_clearSessions MNow MPast MSav).2.2.2.2) ((zf_X9_clearSessions MNow MPast MSav).2.1) MThen MLev MFst MWay MMost MHash]) := by
  refine z_in (plainFor_of_name (by decide)) (Nat.le_of_ble_eq_true rfl) (fun p e R s m args below meth c A Q hRf hRl hRc hRs X Z hnm E ls hl => ?_)
  have hx := X.1
  have hb := X.2.1
  have hown := X.2.2.2.1
  have hts := X.2.2.2.2.1
  have hl : lv_has ls 2 [(0, .ref (md 0))] := hl
  have hN2 := hN; obtain ⟨he9, hb9, he34, hb34, he43, hb43, he284, hb284, he301, hb301⟩ := hN2
  refine lv_aload_n hx hb dX9_clearSessions_0 rfl (lv_at hl 0 rfl) ?_
  refine lv_iconst (v := (0 : Int32)) hx hb dX9_clearSessions_1 (by decide) ?_
  refine z_put (cs2 := [wMod g md MNow MPast MSav (0 : Int32) MThen MLev MFst MWay MMost MHash]) (v := .int (0 : Int32)) X Z 0 rfl (rfl : zCl[7]? = some (RX9, TX9, 10)) zU_X9 tyX9 tyX9_ok nmX9 3 (by decide) wF_X9_38 rfl rfl rfl rfl (Nat.le_of_ble_eq_true rfl) rfl dX9_clearSessions_2 (fun H locs Z => ?_)
  refine lv_aload_n hx hb dX9_clearSessions_5 rfl (lv_at hl 0 rfl) ?_
  refine z_callV (mc := 0) (ms := 0) (As := []) (rest := []) (st2 := []) (cs2 := [wMod g md MNow ((zf_X9_saves MNow MPast MSav).1) ((zf_X9_saves MNow MPast MSav).2) (0 : Int32) MThen MLev MFst MWay MMost MHash]) X Z [0] [] [0] 0 7 (zc_X9_saves l g B md MNow MPast MSav (0 : Int32) MThen MLev MFst MWay MMost MHash (by first | assumption | omega | decide)) wM_X9_87 wS_X9_saves wV_X9_saves wK_X9_saves wZ_X9 0 1 1 rfl (by decide +kernel) rfl (by decide) rfl rfl rfl (by decide) rfl rfl (rfl : zCl[7]? = some (RX9, TX9, 10)) hl.1 rfl rfl (by rw [hRf, hRl]; exact ⟨Nat.le_of_ble_eq_true rfl, Nat.le_of_ble_eq_true rfl⟩) (Nat.le_of_ble_eq_true rfl) ⟨Nat.zero_le _, Nat.zero_le _⟩ dX9_clearSessions_6 (fun H locs Z => ?_)
  refine lv_aload_n hx hb dX9_clearSessions_9 rfl (lv_at hl 0 rfl) ?_
  refine lv_sipush (v := (284 : Int32)) hx hb dX9_clearSessions_10 (by decide) ?_
  refine z_callV (mc := 0) (ms := 0) (As := [.int (284 : Int32)]) (rest := []) (st2 := [.int (nI (zc (MNow 284)))]) (cs2 := [wMod g md MNow ((zf_X9_saves MNow MPast MSav).1) ((zf_X9_saves MNow MPast MSav).2) (0 : Int32) MThen MLev MFst MWay MMost MHash]) X Z [0] [] [0] 0 7 (zc_X9_many l g B md MNow ((zf_X9_saves MNow MPast MSav).1) ((zf_X9_saves MNow MPast MSav).2) (0 : Int32) MThen MLev MFst MWay MMost MHash 284 (zc (MNow 284)) (by first | assumption | omega | decide) (by first | assumption | omega | decide)) wM_X9_66 wS_X9_many wV_X9_many wK_X9_many wZ_X9 1 1 1 rfl (by decide +kernel) rfl (by decide) rfl rfl rfl (by decide) rfl rfl (rfl : zCl[7]? = some (RX9, TX9, 10)) hl.1 rfl rfl (by rw [hRf, hRl]; exact ⟨Nat.le_of_ble_eq_true rfl, Nat.le_of_ble_eq_true rfl⟩) (Nat.le_of_ble_eq_true rfl) ⟨Nat.zero_le _, Nat.zero_le _⟩ dX9_clearSessions_13 (fun H locs Z => ?_)
  refine lv_aload_n hx hb dX9_clearSessions_16 rfl (lv_at hl 0 rfl) ?_
  refine lv_sipush (v := (301 : Int32)) hx hb dX9_clearSessions_17 (by decide) ?_
  refine z_callV (mc := 0) (ms := 0) (As := [.int (301 : Int32)]) (rest := [.int (nI (zc (MNow 284)))]) (st2 := [.int (nI (zc (MNow 301))), .int (nI (zc (MNow 284)))]) (cs2 := [wMod g md MNow ((zf_X9_saves MNow MPast MSav).1) ((zf_X9_saves MNow MPast MSav).2) (0 : Int32) MThen MLev MFst MWay MMost MHash]) X Z [0] [] [0] 0 7 (zc_X9_many l g B md MNow ((zf_X9_saves MNow MPast MSav).1) ((zf_X9_saves MNow MPast MSav).2) (0 : Int32) MThen MLev MFst MWay MMost MHash 301 (zc (MNow 301)) (by first | assumption | omega | decide) (by first | assumption | omega | decide)) wM_X9_66 wS_X9_many wV_X9_many wK_X9_many wZ_X9 1 1 1 rfl (by decide +kernel) rfl (by decide) rfl rfl rfl (by decide) rfl rfl (rfl : zCl[7]? = some (RX9, TX9, 10)) hl.1 rfl rfl (by rw [hRf, hRl]; exact ⟨Nat.le_of_ble_eq_true rfl, Nat.le_of_ble_eq_true rfl⟩) (Nat.le_of_ble_eq_true rfl) ⟨Nat.zero_le _, Nat.zero_le _⟩ dX9_clearSessions_20 (fun H locs Z => ?_)
  refine z_iadd (a := (zc (MNow 284))) (b := (zc (MNow 301))) X rfl rfl dX9_clearSessions_23 ?_
  refine lv_istore_n (lv' := [(1, .int (nI ((zc (MNow 284)) + (zc (MNow 301))))), (0, .ref (md 0))]) hx hb dX9_clearSessions_24 rfl hl (by decide) rfl (fun ls hl => ?_)
  refine lv_aload_n hx hb dX9_clearSessions_25 rfl (lv_at hl 1 rfl) ?_
  refine z_get X Z 0 rfl (rfl : zCl[7]? = some (RX9, TX9, 10)) zU_X9 0 (by decide) wF_X9_7 rfl rfl dX9_clearSessions_26 ?_
  refine lv_sipush (v := (284 : Int32)) hx hb dX9_clearSessions_29 (by decide) ?_
  refine lv_lconst (v := (0 : Int64)) hx hb dX9_clearSessions_32 (by decide) ?_
  refine z_last (cs2 := [wMod g md (vp_updL MNow 284 (0 : Int64)) ((zf_X9_saves MNow MPast MSav).1) ((zf_X9_saves MNow MPast MSav).2) (0 : Int32) MThen MLev MFst MWay MMost MHash]) (j := 284) (x := (0 : Int64)) X Z 1 rfl rfl (by omega) (by decide) rfl dX9_clearSessions_33 (fun H locs Z => ?_)
  refine lv_aload_n hx hb dX9_clearSessions_34 rfl (lv_at hl 1 rfl) ?_
  refine z_get X Z 0 rfl (rfl : zCl[7]? = some (RX9, TX9, 10)) zU_X9 0 (by decide) wF_X9_7 rfl rfl dX9_clearSessions_35 ?_
  refine lv_sipush (v := (301 : Int32)) hx hb dX9_clearSessions_38 (by decide) ?_
  refine lv_lconst (v := (0 : Int64)) hx hb dX9_clearSessions_41 (by decide) ?_
  refine z_last (cs2 := [wMod g md (vp_updL (vp_updL MNow 284 (0 : Int64)) 301 (0 : Int64)) ((zf_X9_saves MNow MPast MSav).1) ((zf_X9_saves MNow MPast MSav).2) (0 : Int32) MThen MLev MFst MWay MMost MHash]) (j := 301) (x := (0 : Int64)) X Z 1 rfl rfl (by omega) (by decide) rfl dX9_clearSessions_42 (fun H locs Z => ?_)
  refine lv_iload_n hx hb dX9_clearSessions_43 rfl (lv_at hl 0 rfl) ?_
  exact z_ri (v := nI ((zc (MNow 284)) + (zc (MNow 301)))) E Z rfl (by rw [zf_X9_clearSessions_e]; dsimp only; exact ⟨rfl, rfl⟩) dX9_clearSessions_44 (Nat.zero_le _) (Nat.zero_le _)
def zl_X9_laysMost_75 (MNow : Nat → Int64) (n44 : Nat) (j50 : Nat) (m3 : Nat → Int32) : Nat → Nat → Int32 → Int32
  | 0, _, x3 => x3
  | n75 + 1, j75, x3 => (if (((nI j50) >>> ((nI j75) &&& 31)) &&& (1 : Int32)) = (1 : Int32) then (if (zf_X9_canTake MNow j75 n44) = true then (if ((1 : Int32) + (m3 ((256 * (n44 + 1)) + (j50 ^^^ (2 ^ j75))))) ≤ x3 then zl_X9_laysMost_75 MNow n44 j50 m3 n75 (j75 + 1) x3 else zl_X9_laysMost_75 MNow n44 j50 m3 n75 (j75 + 1) ((1 : Int32) + (m3 ((256 * (n44 + 1)) + (j50 ^^^ (2 ^ j75)))))) else (if (0 : Int32) ≤ x3 then zl_X9_laysMost_75 MNow n44 j50 m3 n75 (j75 + 1) x3 else zl_X9_laysMost_75 MNow n44 j50 m3 n75 (j75 + 1) (0 : Int32))) else (if (0 : Int32) ≤ x3 then zl_X9_laysMost_75 MNow n44 j50 m3 n75 (j75 + 1) x3 else zl_X9_laysMost_75 MNow n44 j50 m3 n75 (j75 + 1) (0 : Int32)))
theorem zl_X9_laysMost_75_s (MNow : Nat → Int64) (n44 : Nat) (j50 : Nat) (m3 : Nat → Int32) (n75 : Nat) (j75 : Nat) (x3 : Int32) : zl_X9_laysMost_75 MNow n44 j50 m3 (n75 + 1) j75 x3 = (if (((nI j50) >>> ((nI j75) &&& 31)) &&& (1 : Int32)) = (1 : Int32) then (if (zf_X9_canTake MNow j75 n44) = true then (if ((1 : Int32) + (m3 ((256 * (n44 + 1)) + (j50 ^^^ (2 ^ j75))))) ≤ x3 then zl_X9_laysMost_75 MNow n44 j50 m3 n75 (j75 + 1) x3 else zl_X9_laysMost_75 MNow n44 j50 m3 n75 (j75 + 1) ((1 : Int32) + (m3 ((256 * (n44 + 1)) + (j50 ^^^ (2 ^ j75)))))) else (if (0 : Int32) ≤ x3 then zl_X9_laysMost_75 MNow n44 j50 m3 n75 (j75 + 1) x3 else zl_X9_laysMost_75 MNow n44 j50 m3 n75 (j75 + 1) (0 : Int32))) else (if (0 : Int32) ≤ x3 then zl_X9_laysMost_75 MNow n44 j50 m3 n75 (j75 + 1) x3 else zl_X9_laysMost_75 MNow n44 j50 m3 n75 (j75 + 1) (0 : Int32))) := rfl
def zl_X9_laysMost_50 (MNow : Nat → Int64) (n44 : Nat) : Nat → Nat → (Nat → Int32) → (Nat → Int32)
  | 0, _, m3 => m3
  | n50 + 1, j50, m3 => zl_X9_laysMost_50 MNow n44 n50 (j50 + 1) (upd m3 ((256 * n44) + j50) (zl_X9_laysMost_75 MNow n44 j50 m3 (zc (MNow 284)) 0 (m3 ((256 * (n44 + 1)) + j50))))
theorem zl_X9_laysMost_50_s (MNow : Nat → Int64) (n44 : Nat) (n50 : Nat) (j50 : Nat) (m3 : Nat → Int32) : zl_X9_laysMost_50 MNow n44 (n50 + 1) j50 m3 = zl_X9_laysMost_50 MNow n44 n50 (j50 + 1) (upd m3 ((256 * n44) + j50) (zl_X9_laysMost_75 MNow n44 j50 m3 (zc (MNow 284)) 0 (m3 ((256 * (n44 + 1)) + j50)))) := rfl
def zl_X9_laysMost_44 (MNow : Nat → Int64) : Nat → (Nat → Int32) → (Nat → Int32)
  | 0, m2 => m2
  | n44 + 1, m2 => zl_X9_laysMost_44 MNow n44 (zl_X9_laysMost_50 MNow n44 256 0 m2)
theorem zl_X9_laysMost_44_s (MNow : Nat → Int64) (n44 : Nat) (m2 : Nat → Int32) : zl_X9_laysMost_44 MNow (n44 + 1) m2 = zl_X9_laysMost_44 MNow n44 (zl_X9_laysMost_50 MNow n44 256 0 m2) := rfl
def zl_X9_laysMost_2 (MNow : Nat → Int64) : Nat → Nat → (Nat → Int32) → (Nat → Int32)
  | 0, _, m1 => m1
  | n2 + 1, j2, m1 => zl_X9_laysMost_2 MNow n2 (j2 + 1) (upd m1 ((256 * (zc (MNow 301))) + j2) (0 : Int32))
theorem zl_X9_laysMost_2_s (MNow : Nat → Int64) (n2 : Nat) (j2 : Nat) (m1 : Nat → Int32) : zl_X9_laysMost_2 MNow (n2 + 1) j2 m1 = zl_X9_laysMost_2 MNow n2 (j2 + 1) (upd m1 ((256 * (zc (MNow 301))) + j2) (0 : Int32)) := rfl
def zf_X9_laysMost (MNow : Nat → Int64) (MMost : Nat → Int32) : (Nat → Int32) := (zl_X9_laysMost_44 MNow (zc (MNow 301)) (zl_X9_laysMost_2 MNow 256 0 MMost))
theorem zf_X9_laysMost_e (MNow : Nat → Int64) (MMost : Nat → Int32) : zf_X9_laysMost MNow MMost = (zl_X9_laysMost_44 MNow (zc (MNow 301)) (zl_X9_laysMost_2 MNow 256 0 MMost)) := rfl
set_option maxHeartbeats 4000000 in
set_option maxRecDepth 100000 in
theorem zc_X9_laysMost (l : Launch) (g : zG) (B : Nat) (md : Nat → Nat) (MNow : Nat → Int64) (MPast : Nat → Int64) (MSav : Nat) (MRef : Int32) (MThen : Nat → Int64) (MLev : Nat → Int64) (MFst : Int32) (MWay : Nat → Int64) (MMost : Nat → Int32) (MHash : Int64) (hN : zNow MNow) : zMet l g B yX9_laysMost cX9_laysMost 6 none 2 100 0 0 [.ref (md 0)] [wMod g md MNow MPast MSav MRef MThen MLev MFst MWay MMost MHash] (zDet (none) [wMod g md MNow MPast MSav MRef MThen MLev MFst MWay (zf_X9_laysMost MNow MMost) MHash]) := by
  refine z_in (plainFor_of_name (by decide)) (Nat.le_of_ble_eq_true rfl) (fun p e R s m args below meth c A Q hRf hRl hRc hRs X Z hnm E ls hl => ?_)
  have hx := X.1
  have hb := X.2.1
  have hown := X.2.2.2.1
  have hts := X.2.2.2.2.1
  have hl : lv_has ls 6 [(0, .ref (md 0))] := hl
  have hN2 := hN; obtain ⟨he9, hb9, he34, hb34, he43, hb43, he284, hb284, he301, hb301⟩ := hN2
  refine lv_iconst (v := (0 : Int32)) hx hb dX9_laysMost_0 (by decide) ?_
  refine lv_istore_n (lv' := [(1, .int (0 : Int32)), (0, .ref (md 0))]) hx hb dX9_laysMost_1 rfl hl (by decide) rfl (fun ls hl => ?_)
  have loop_2 : ∀ (n2 j2 : Nat) (m1 : Nat → Int32), j2 + n2 = 256 → zl_X9_laysMost_2 MNow n2 j2 m1 = (zl_X9_laysMost_2 MNow 256 0 MMost) → ∀ (H : Heap) (locs : List Loc), zM g B A s [wMod g md MNow MPast MSav MRef MThen MLev MFst MWay m1 MHash] H locs → ∀ ls : Array Slot, lv_has ls 6 [(1, .int (nI j2)), (0, .ref (md 0))] → W p l e R s m args below meth c H locs 0 0 Q (F0 m 2 ls []) := by
    intro n2
    induction n2 with
    | zero =>
      intro j2 m1 hin2 hR2 H locs Z ls hl
      have e_m1 : (zl_X9_laysMost_2 MNow 256 0 MMost) = m1 := hR2.symm
      subst e_m1
      refine lv_iload_n hx hb dX9_laysMost_2 rfl (lv_at hl 0 rfl) ?_
      refine lv_sipush (v := (256 : Int32)) hx hb dX9_laysMost_3 (by decide) ?_
      refine z_icmp_ge (a := j2) (b := 256) (tgt := 34) X rfl rfl (by omega) (by omega) dX9_laysMost_6 (by decide) (fun c_1 => ?_) (fun c_1 => ?_)
      · refine lv_aload_n hx hb dX9_laysMost_34 rfl (lv_at hl 1 rfl) ?_
        refine lv_sipush (v := (301 : Int32)) hx hb dX9_laysMost_35 (by decide) ?_
        refine z_callV (mc := 0) (ms := 0) (As := [.int (301 : Int32)]) (rest := []) (st2 := [.int (nI (zc (MNow 301)))]) (cs2 := [wMod g md MNow MPast MSav MRef MThen MLev MFst MWay (zl_X9_laysMost_2 MNow 256 0 MMost) MHash]) X Z [0] [] [0] 0 7 (zc_X9_many l g B md MNow MPast MSav MRef MThen MLev MFst MWay (zl_X9_laysMost_2 MNow 256 0 MMost) MHash 301 (zc (MNow 301)) (by first | assumption | omega | decide) (by first | assumption | omega | decide)) wM_X9_66 wS_X9_many wV_X9_many wK_X9_many wZ_X9 1 1 1 rfl (by decide +kernel) rfl (by decide) rfl rfl rfl (by decide) rfl rfl (rfl : zCl[7]? = some (RX9, TX9, 10)) hl.1 rfl rfl (by rw [hRf, hRl]; exact ⟨Nat.le_of_ble_eq_true rfl, Nat.le_of_ble_eq_true rfl⟩) (Nat.le_of_ble_eq_true rfl) ⟨Nat.zero_le _, Nat.zero_le _⟩ dX9_laysMost_38 (fun H locs Z => ?_)
        refine lv_iconst (v := (1 : Int32)) hx hb dX9_laysMost_41 (by decide) ?_
        refine lv_isub hx hb dX9_laysMost_42 ?_
        refine lv_istore_n (lv' := [(1, .int ((nI (zc (MNow 301))) - (1 : Int32))), (0, .ref (md 0))]) hx hb dX9_laysMost_43 rfl hl (by decide) rfl (fun ls hl => ?_)
        have loop_44 : ∀ (n44 : Nat) (m2 : Nat → Int32), n44 ≤ (zc (MNow 301)) → zl_X9_laysMost_44 MNow n44 m2 = (zl_X9_laysMost_44 MNow (zc (MNow 301)) (zl_X9_laysMost_2 MNow 256 0 MMost)) → ∀ (H : Heap) (locs : List Loc), zM g B A s [wMod g md MNow MPast MSav MRef MThen MLev MFst MWay m2 MHash] H locs → ∀ ls : Array Slot, lv_has ls 6 [(1, .int (nI n44 - 1)), (0, .ref (md 0))] → W p l e R s m args below meth c H locs 0 0 Q (F0 m 44 ls []) := by
          intro n44
          induction n44 with
          | zero =>
            intro m2 hin44 hR44 H locs Z ls hl
            have e_m2 : (zl_X9_laysMost_44 MNow (zc (MNow 301)) (zl_X9_laysMost_2 MNow 256 0 MMost)) = m2 := hR44.symm
            subst e_m2
            have hl : lv_has ls 6 [(1, .int (-1 : Int32)), (0, .ref (md 0))] := hl
            refine lv_iload_n hx hb dX9_laysMost_44 rfl (lv_at hl 0 rfl) ?_
            refine lv_if_lt (tgt := 178) hx hb dX9_laysMost_45 (by decide) (fun c_2 => ?_) (fun c_2 => ?_)
            · exact z_rv E Z (by rw [zf_X9_laysMost_e]; exact ⟨rfl, rfl⟩) dX9_laysMost_178 (Nat.zero_le _) (Nat.zero_le _)
            · (exact absurd c_2 (by decide))
          | succ n44 ih44 =>
            intro m2 hin44 hR44 H locs Z ls hl
            rw [nI_pred] at hl
            refine lv_iload_n hx hb dX9_laysMost_44 rfl (lv_at hl 0 rfl) ?_
            refine z_ifltN (a := n44) (tgt := 178) X rfl (by omega) dX9_laysMost_45 (by decide) (fun c_3 => ?_) (fun c_3 => ?_)
            · exact (c_3).elim
            · refine lv_iconst (v := (0 : Int32)) hx hb dX9_laysMost_48 (by decide) ?_
              refine lv_istore_n (lv' := [(2, .int (0 : Int32)), (1, .int (nI n44)), (0, .ref (md 0))]) hx hb dX9_laysMost_49 rfl hl (by decide) rfl (fun ls hl => ?_)
              have loop_50 : ∀ (n50 j50 : Nat) (m3 : Nat → Int32), j50 + n50 = 256 → zl_X9_laysMost_50 MNow n44 n50 j50 m3 = (zl_X9_laysMost_50 MNow n44 256 0 m2) → ∀ (H : Heap) (locs : List Loc), zM g B A s [wMod g md MNow MPast MSav MRef MThen MLev MFst MWay m3 MHash] H locs → ∀ ls : Array Slot, lv_has ls 6 [(2, .int (nI j50)), (1, .int (nI n44)), (0, .ref (md 0))] → W p l e R s m args below meth c H locs 0 0 Q (F0 m 50 ls []) := by
                intro n50
                induction n50 with
                | zero =>
                  intro j50 m3 hin50 hR50 H locs Z ls hl
                  have e_m3 : (zl_X9_laysMost_50 MNow n44 256 0 m2) = m3 := hR50.symm
                  subst e_m3
                  refine lv_iload_n hx hb dX9_laysMost_50 rfl (lv_at hl 0 rfl) ?_
                  refine lv_sipush (v := (256 : Int32)) hx hb dX9_laysMost_51 (by decide) ?_
                  refine z_icmp_ge (a := j50) (b := 256) (tgt := 172) X rfl rfl (by omega) (by omega) dX9_laysMost_54 (by decide) (fun c_4 => ?_) (fun c_4 => ?_)
                  · refine lv_iinc (v := (nI n44 - 1)) (lv' := [(1, .int (nI n44 - 1)), (2, .int (nI j50)), (0, .ref (md 0))]) hx hb dX9_laysMost_172 hl (k := 1) rfl (zdn _) (by decide) rfl (fun ls hl => ?_)
                    refine lv_goto (tgt := 44) hx hb dX9_laysMost_175 (by decide) ?_
                    exact ih44 (zl_X9_laysMost_50 MNow n44 256 0 m2) (by omega) (by have h9 := hR44; rw [zl_X9_laysMost_44_s] at h9; exact h9) _ _ Z ls (lv_sub hl [0, 2] rfl)
                  · (exfalso; omega)
                | succ n50 ih50 =>
                  intro j50 m3 hin50 hR50 H locs Z ls hl
                  refine lv_iload_n hx hb dX9_laysMost_50 rfl (lv_at hl 0 rfl) ?_
                  refine lv_sipush (v := (256 : Int32)) hx hb dX9_laysMost_51 (by decide) ?_
                  refine z_icmp_ge (a := j50) (b := 256) (tgt := 172) X rfl rfl (by omega) (by omega) dX9_laysMost_54 (by decide) (fun c_5 => ?_) (fun c_5 => ?_)
                  · (exfalso; omega)
                  · refine lv_aload_n hx hb dX9_laysMost_57 rfl (lv_at hl 2 rfl) ?_
                    refine z_get X Z 0 rfl (rfl : zCl[7]? = some (RX9, TX9, 10)) zU_X9 8 (by decide) wF_X9_25 rfl rfl dX9_laysMost_58 ?_
                    refine lv_sipush (v := (256 : Int32)) hx hb dX9_laysMost_61 (by decide) ?_
                    refine lv_iload_n hx hb dX9_laysMost_64 rfl (lv_at hl 1 rfl) ?_
                    refine lv_iconst (v := (1 : Int32)) hx hb dX9_laysMost_65 (by decide) ?_
                    refine z_iadd (a := n44) (b := 1) X rfl rfl dX9_laysMost_66 ?_
                    refine z_imul (a := 256) (b := (n44 + 1)) X rfl rfl dX9_laysMost_67 ?_
                    refine lv_iload_n hx hb dX9_laysMost_68 rfl (lv_at hl 0 rfl) ?_
                    refine z_iadd (a := (256 * (n44 + 1))) (b := j50) X rfl rfl dX9_laysMost_69 ?_
                    refine z_iald (j := ((256 * (n44 + 1)) + j50)) X Z 6 rfl rfl (by omega) (by decide) dX9_laysMost_70 ?_
                    refine lv_istore_n (lv' := [(3, .int (m3 ((256 * (n44 + 1)) + j50))), (2, .int (nI j50)), (1, .int (nI n44)), (0, .ref (md 0))]) hx hb dX9_laysMost_71 rfl hl (by decide) rfl (fun ls hl => ?_)
                    refine lv_iconst (v := (0 : Int32)) hx hb dX9_laysMost_72 (by decide) ?_
                    refine lv_istore (lv' := [(4, .int (0 : Int32)), (3, .int (m3 ((256 * (n44 + 1)) + j50))), (2, .int (nI j50)), (1, .int (nI n44)), (0, .ref (md 0))]) hx hb dX9_laysMost_73 hl (by decide) rfl (fun ls hl => ?_)
                    have loop_75 : ∀ (n75 j75 : Nat) (x3 : Int32), j75 + n75 = (zc (MNow 284)) → zl_X9_laysMost_75 MNow n44 j50 m3 n75 j75 x3 = (zl_X9_laysMost_75 MNow n44 j50 m3 (zc (MNow 284)) 0 (m3 ((256 * (n44 + 1)) + j50))) → ∀ (H : Heap) (locs : List Loc), zM g B A s [wMod g md MNow MPast MSav MRef MThen MLev MFst MWay m3 MHash] H locs → ∀ ls : Array Slot, lv_has ls 6 [(4, .int (nI j75)), (3, .int x3), (2, .int (nI j50)), (1, .int (nI n44)), (0, .ref (md 0))] → W p l e R s m args below meth c H locs 0 0 Q (F0 m 75 ls []) := by
                      intro n75
                      induction n75 with
                      | zero =>
                        intro j75 x3 hin75 hR75 H locs Z ls hl
                        have e_x3 : (zl_X9_laysMost_75 MNow n44 j50 m3 (zc (MNow 284)) 0 (m3 ((256 * (n44 + 1)) + j50))) = x3 := hR75.symm
                        subst e_x3
                        refine lv_iload hx hb dX9_laysMost_75 (lv_at hl 0 rfl) ?_
                        refine lv_aload_n hx hb dX9_laysMost_77 rfl (lv_at hl 4 rfl) ?_
                        refine lv_sipush (v := (284 : Int32)) hx hb dX9_laysMost_78 (by decide) ?_
                        refine z_callV (mc := 0) (ms := 0) (As := [.int (284 : Int32)]) (rest := [.int (nI j75)]) (st2 := [.int (nI (zc (MNow 284))), .int (nI j75)]) (cs2 := [wMod g md MNow MPast MSav MRef MThen MLev MFst MWay m3 MHash]) X Z [0] [] [0] 0 7 (zc_X9_many l g B md MNow MPast MSav MRef MThen MLev MFst MWay m3 MHash 284 (zc (MNow 284)) (by first | assumption | omega | decide) (by first | assumption | omega | decide)) wM_X9_66 wS_X9_many wV_X9_many wK_X9_many wZ_X9 1 1 1 rfl (by decide +kernel) rfl (by decide) rfl rfl rfl (by decide) rfl rfl (rfl : zCl[7]? = some (RX9, TX9, 10)) hl.1 rfl rfl (by rw [hRf, hRl]; exact ⟨Nat.le_of_ble_eq_true rfl, Nat.le_of_ble_eq_true rfl⟩) (Nat.le_of_ble_eq_true rfl) ⟨Nat.zero_le _, Nat.zero_le _⟩ dX9_laysMost_81 (fun H locs Z => ?_)
                        refine z_icmp_ge (a := j75) (b := (zc (MNow 284))) (tgt := 153) X rfl rfl (by omega) (by omega) dX9_laysMost_84 (by decide) (fun c_6 => ?_) (fun c_6 => ?_)
                        · refine lv_aload_n hx hb dX9_laysMost_153 rfl (lv_at hl 4 rfl) ?_
                          refine z_get X Z 0 rfl (rfl : zCl[7]? = some (RX9, TX9, 10)) zU_X9 8 (by decide) wF_X9_25 rfl rfl dX9_laysMost_154 ?_
                          refine lv_sipush (v := (256 : Int32)) hx hb dX9_laysMost_157 (by decide) ?_
                          refine lv_iload_n hx hb dX9_laysMost_160 rfl (lv_at hl 3 rfl) ?_
                          refine z_imul (a := 256) (b := n44) X rfl rfl dX9_laysMost_161 ?_
                          refine lv_iload_n hx hb dX9_laysMost_162 rfl (lv_at hl 2 rfl) ?_
                          refine z_iadd (a := (256 * n44)) (b := j50) X rfl rfl dX9_laysMost_163 ?_
                          refine lv_iload_n hx hb dX9_laysMost_164 rfl (lv_at hl 1 rfl) ?_
                          refine z_iast (cs2 := [wMod g md MNow MPast MSav MRef MThen MLev MFst MWay (upd m3 ((256 * n44) + j50) (zl_X9_laysMost_75 MNow n44 j50 m3 (zc (MNow 284)) 0 (m3 ((256 * (n44 + 1)) + j50)))) MHash]) (j := ((256 * n44) + j50)) (x := (zl_X9_laysMost_75 MNow n44 j50 m3 (zc (MNow 284)) 0 (m3 ((256 * (n44 + 1)) + j50)))) X Z 6 rfl rfl (by omega) (by decide) rfl dX9_laysMost_165 (fun H locs Z => ?_)
                          refine z_iinc (b := (j50 + 1)) (st := 1) (lv' := [(2, .int (nI (j50 + 1))), (4, .int (nI j75)), (3, .int (zl_X9_laysMost_75 MNow n44 j50 m3 (zc (MNow 284)) 0 (m3 ((256 * (n44 + 1)) + j50)))), (1, .int (nI n44)), (0, .ref (md 0))]) X dX9_laysMost_166 hl (k := 2) rfl rfl (by decide) (by omega) (by decide) rfl (fun ls hl => ?_)
                          refine lv_goto (tgt := 50) hx hb dX9_laysMost_169 (by decide) ?_
                          exact ih50 (j50 + 1) (upd m3 ((256 * n44) + j50) (zl_X9_laysMost_75 MNow n44 j50 m3 (zc (MNow 284)) 0 (m3 ((256 * (n44 + 1)) + j50)))) (by omega) (by have h9 := hR50; rw [zl_X9_laysMost_50_s] at h9; exact h9) _ _ Z ls (lv_sub hl [0, 3, 4] rfl)
                        · (exfalso; omega)
                      | succ n75 ih75 =>
                        intro j75 x3 hin75 hR75 H locs Z ls hl
                        refine lv_iload hx hb dX9_laysMost_75 (lv_at hl 0 rfl) ?_
                        refine lv_aload_n hx hb dX9_laysMost_77 rfl (lv_at hl 4 rfl) ?_
                        refine lv_sipush (v := (284 : Int32)) hx hb dX9_laysMost_78 (by decide) ?_
                        refine z_callV (mc := 0) (ms := 0) (As := [.int (284 : Int32)]) (rest := [.int (nI j75)]) (st2 := [.int (nI (zc (MNow 284))), .int (nI j75)]) (cs2 := [wMod g md MNow MPast MSav MRef MThen MLev MFst MWay m3 MHash]) X Z [0] [] [0] 0 7 (zc_X9_many l g B md MNow MPast MSav MRef MThen MLev MFst MWay m3 MHash 284 (zc (MNow 284)) (by first | assumption | omega | decide) (by first | assumption | omega | decide)) wM_X9_66 wS_X9_many wV_X9_many wK_X9_many wZ_X9 1 1 1 rfl (by decide +kernel) rfl (by decide) rfl rfl rfl (by decide) rfl rfl (rfl : zCl[7]? = some (RX9, TX9, 10)) hl.1 rfl rfl (by rw [hRf, hRl]; exact ⟨Nat.le_of_ble_eq_true rfl, Nat.le_of_ble_eq_true rfl⟩) (Nat.le_of_ble_eq_true rfl) ⟨Nat.zero_le _, Nat.zero_le _⟩ dX9_laysMost_81 (fun H locs Z => ?_)
                        refine z_icmp_ge (a := j75) (b := (zc (MNow 284))) (tgt := 153) X rfl rfl (by omega) (by omega) dX9_laysMost_84 (by decide) (fun c_7 => ?_) (fun c_7 => ?_)
                        · (exfalso; omega)
                        · refine lv_iload_n hx hb dX9_laysMost_87 rfl (lv_at hl 2 rfl) ?_
                          refine lv_iload hx hb dX9_laysMost_88 (lv_at hl 0 rfl) ?_
                          refine lv_ishr hx hb dX9_laysMost_90 ?_
                          refine lv_iconst (v := (1 : Int32)) hx hb dX9_laysMost_91 (by decide) ?_
                          refine lv_iand hx hb dX9_laysMost_92 ?_
                          refine lv_iconst (v := (1 : Int32)) hx hb dX9_laysMost_93 (by decide) ?_
                          refine lv_icmp_ne (tgt := 131) hx hb dX9_laysMost_94 (by decide) (fun c_8 => ?_) (fun c_8 => ?_)
                          · refine lv_iconst (v := (0 : Int32)) hx hb dX9_laysMost_131 (by decide) ?_
                            refine lv_istore (lv' := [(5, .int (0 : Int32)), (4, .int (nI j75)), (3, .int x3), (2, .int (nI j50)), (1, .int (nI n44)), (0, .ref (md 0))]) hx hb dX9_laysMost_132 hl (by decide) rfl (fun ls hl => ?_)
                            refine lv_iload hx hb dX9_laysMost_134 (lv_at hl 0 rfl) ?_
                            refine lv_iload_n hx hb dX9_laysMost_136 rfl (lv_at hl 2 rfl) ?_
                            refine lv_icmp_le (tgt := 145) hx hb dX9_laysMost_137 (by decide) (fun c_9 => ?_) (fun c_9 => ?_)
                            · refine lv_iload_n hx hb dX9_laysMost_145 rfl (lv_at hl 2 rfl) ?_
                              refine lv_istore_n (lv' := [(3, .int x3), (5, .int (0 : Int32)), (4, .int (nI j75)), (2, .int (nI j50)), (1, .int (nI n44)), (0, .ref (md 0))]) hx hb dX9_laysMost_146 rfl hl (by decide) rfl (fun ls hl => ?_)
                              refine z_iinc (b := (j75 + 1)) (st := 1) (lv' := [(4, .int (nI (j75 + 1))), (3, .int x3), (5, .int (0 : Int32)), (2, .int (nI j50)), (1, .int (nI n44)), (0, .ref (md 0))]) X dX9_laysMost_147 hl (k := 2) rfl rfl (by decide) (by omega) (by decide) rfl (fun ls hl => ?_)
                              refine lv_goto (tgt := 75) hx hb dX9_laysMost_150 (by decide) ?_
                              exact ih75 (j75 + 1) x3 (by omega) (by have h9 := hR75; rw [zl_X9_laysMost_75_s, if_neg c_8, if_pos c_9] at h9; exact h9) _ _ Z ls (lv_sub hl [0, 1, 3, 4, 5] rfl)
                            · refine lv_iload hx hb dX9_laysMost_140 (lv_at hl 0 rfl) ?_
                              refine lv_goto (tgt := 146) hx hb dX9_laysMost_142 (by decide) ?_
                              refine lv_istore_n (lv' := [(3, .int (0 : Int32)), (5, .int (0 : Int32)), (4, .int (nI j75)), (2, .int (nI j50)), (1, .int (nI n44)), (0, .ref (md 0))]) hx hb dX9_laysMost_146 rfl hl (by decide) rfl (fun ls hl => ?_)
                              refine z_iinc (b := (j75 + 1)) (st := 1) (lv' := [(4, .int (nI (j75 + 1))), (3, .int (0 : Int32)), (5, .int (0 : Int32)), (2, .int (nI j50)), (1, .int (nI n44)), (0, .ref (md 0))]) X dX9_laysMost_147 hl (k := 2) rfl rfl (by decide) (by omega) (by decide) rfl (fun ls hl => ?_)
                              refine lv_goto (tgt := 75) hx hb dX9_laysMost_150 (by decide) ?_
                              exact ih75 (j75 + 1) (0 : Int32) (by omega) (by have h9 := hR75; rw [zl_X9_laysMost_75_s, if_neg c_8, if_neg c_9] at h9; exact h9) _ _ Z ls (lv_sub hl [0, 1, 3, 4, 5] rfl)
                          · refine lv_aload_n hx hb dX9_laysMost_97 rfl (lv_at hl 4 rfl) ?_
                            refine lv_iload hx hb dX9_laysMost_98 (lv_at hl 0 rfl) ?_
                            refine lv_iload_n hx hb dX9_laysMost_100 rfl (lv_at hl 3 rfl) ?_
                            refine z_callV (mc := 0) (ms := 0) (As := [.int (nI j75), .int (nI n44)]) (rest := []) (st2 := [.int (zB (zf_X9_canTake MNow j75 n44))]) (cs2 := [wMod g md MNow MPast MSav MRef MThen MLev MFst MWay m3 MHash]) X Z [0] [] [0] 0 7 (zc_X9_canTake l g B md MNow MPast MSav MRef MThen MLev MFst MWay m3 MHash j75 n44 (by first | assumption | omega | decide) (by first | assumption | omega | decide)) wM_X9_200 wS_X9_canTake wV_X9_canTake wK_X9_canTake wZ_X9 2 1 1 rfl (by decide +kernel) rfl (by decide) rfl rfl rfl (by decide) rfl rfl (rfl : zCl[7]? = some (RX9, TX9, 10)) hl.1 rfl rfl (by rw [hRf, hRl]; exact ⟨Nat.le_of_ble_eq_true rfl, Nat.le_of_ble_eq_true rfl⟩) (Nat.le_of_ble_eq_true rfl) ⟨Nat.zero_le _, Nat.zero_le _⟩ dX9_laysMost_101 (fun H locs Z => ?_)
                            refine z_ifeqB (b := (zf_X9_canTake MNow j75 n44)) (tgt := 131) X dX9_laysMost_104 (by decide) (fun c_10 => ?_) (fun c_10 => ?_)
                            · refine lv_iconst (v := (0 : Int32)) hx hb dX9_laysMost_131 (by decide) ?_
                              refine lv_istore (lv' := [(5, .int (0 : Int32)), (4, .int (nI j75)), (3, .int x3), (2, .int (nI j50)), (1, .int (nI n44)), (0, .ref (md 0))]) hx hb dX9_laysMost_132 hl (by decide) rfl (fun ls hl => ?_)
                              refine lv_iload hx hb dX9_laysMost_134 (lv_at hl 0 rfl) ?_
                              refine lv_iload_n hx hb dX9_laysMost_136 rfl (lv_at hl 2 rfl) ?_
                              refine lv_icmp_le (tgt := 145) hx hb dX9_laysMost_137 (by decide) (fun c_11 => ?_) (fun c_11 => ?_)
                              · refine lv_iload_n hx hb dX9_laysMost_145 rfl (lv_at hl 2 rfl) ?_
                                refine lv_istore_n (lv' := [(3, .int x3), (5, .int (0 : Int32)), (4, .int (nI j75)), (2, .int (nI j50)), (1, .int (nI n44)), (0, .ref (md 0))]) hx hb dX9_laysMost_146 rfl hl (by decide) rfl (fun ls hl => ?_)
                                refine z_iinc (b := (j75 + 1)) (st := 1) (lv' := [(4, .int (nI (j75 + 1))), (3, .int x3), (5, .int (0 : Int32)), (2, .int (nI j50)), (1, .int (nI n44)), (0, .ref (md 0))]) X dX9_laysMost_147 hl (k := 2) rfl rfl (by decide) (by omega) (by decide) rfl (fun ls hl => ?_)
                                refine lv_goto (tgt := 75) hx hb dX9_laysMost_150 (by decide) ?_
                                exact ih75 (j75 + 1) x3 (by omega) (by have h9 := hR75; rw [zl_X9_laysMost_75_s, if_pos c_8, if_neg (zBf c_10), if_pos c_11] at h9; exact h9) _ _ Z ls (lv_sub hl [0, 1, 3, 4, 5] rfl)
                              · refine lv_iload hx hb dX9_laysMost_140 (lv_at hl 0 rfl) ?_
                                refine lv_goto (tgt := 146) hx hb dX9_laysMost_142 (by decide) ?_
                                refine lv_istore_n (lv' := [(3, .int (0 : Int32)), (5, .int (0 : Int32)), (4, .int (nI j75)), (2, .int (nI j50)), (1, .int (nI n44)), (0, .ref (md 0))]) hx hb dX9_laysMost_146 rfl hl (by decide) rfl (fun ls hl => ?_)
                                refine z_iinc (b := (j75 + 1)) (st := 1) (lv' := [(4, .int (nI (j75 + 1))), (3, .int (0 : Int32)), (5, .int (0 : Int32)), (2, .int (nI j50)), (1, .int (nI n44)), (0, .ref (md 0))]) X dX9_laysMost_147 hl (k := 2) rfl rfl (by decide) (by omega) (by decide) rfl (fun ls hl => ?_)
                                refine lv_goto (tgt := 75) hx hb dX9_laysMost_150 (by decide) ?_
                                exact ih75 (j75 + 1) (0 : Int32) (by omega) (by have h9 := hR75; rw [zl_X9_laysMost_75_s, if_pos c_8, if_neg (zBf c_10), if_neg c_11] at h9; exact h9) _ _ Z ls (lv_sub hl [0, 1, 3, 4, 5] rfl)
                            · refine lv_iconst (v := (1 : Int32)) hx hb dX9_laysMost_107 (by decide) ?_
                              refine lv_aload_n hx hb dX9_laysMost_108 rfl (lv_at hl 4 rfl) ?_
                              refine z_get X Z 0 rfl (rfl : zCl[7]? = some (RX9, TX9, 10)) zU_X9 8 (by decide) wF_X9_25 rfl rfl dX9_laysMost_109 ?_
                              refine lv_sipush (v := (256 : Int32)) hx hb dX9_laysMost_112 (by decide) ?_
                              refine lv_iload_n hx hb dX9_laysMost_115 rfl (lv_at hl 3 rfl) ?_
                              refine lv_iconst (v := (1 : Int32)) hx hb dX9_laysMost_116 (by decide) ?_
                              refine z_iadd (a := n44) (b := 1) X rfl rfl dX9_laysMost_117 ?_
                              refine z_imul (a := 256) (b := (n44 + 1)) X rfl rfl dX9_laysMost_118 ?_
                              refine lv_iload_n hx hb dX9_laysMost_119 rfl (lv_at hl 2 rfl) ?_
                              refine lv_iconst (v := (1 : Int32)) hx hb dX9_laysMost_120 (by decide) ?_
                              refine lv_iload hx hb dX9_laysMost_121 (lv_at hl 0 rfl) ?_
                              refine lv_ishl hx hb dX9_laysMost_123 ?_
                              refine lv_topi (fun z9 e9 => ?_)
                              have e9 : z9 = (nI (2 ^ j75)) := e9.trans (zshl (by omega))
                              subst e9
                              refine lv_ixor hx hb dX9_laysMost_124 ?_
                              refine lv_topi (fun z9 e9 => ?_)
                              have e9 : z9 = (nI (j50 ^^^ (2 ^ j75))) := e9.trans (zxor _ _)
                              subst e9
                              refine z_iadd (a := (256 * (n44 + 1))) (b := (j50 ^^^ (2 ^ j75))) X rfl rfl dX9_laysMost_125 ?_
                              refine z_iald (j := ((256 * (n44 + 1)) + (j50 ^^^ (2 ^ j75)))) X Z 6 rfl rfl (by have := zxorlt (u := j50) (a := j75) (by omega) (by omega); omega) (by decide) dX9_laysMost_126 ?_
                              refine lv_iadd hx hb dX9_laysMost_127 ?_
                              refine lv_goto (tgt := 132) hx hb dX9_laysMost_128 (by decide) ?_
                              refine lv_istore (lv' := [(5, .int ((1 : Int32) + (m3 ((256 * (n44 + 1)) + (j50 ^^^ (2 ^ j75)))))), (4, .int (nI j75)), (3, .int x3), (2, .int (nI j50)), (1, .int (nI n44)), (0, .ref (md 0))]) hx hb dX9_laysMost_132 hl (by decide) rfl (fun ls hl => ?_)
                              refine lv_iload hx hb dX9_laysMost_134 (lv_at hl 0 rfl) ?_
                              refine lv_iload_n hx hb dX9_laysMost_136 rfl (lv_at hl 2 rfl) ?_
                              refine lv_icmp_le (tgt := 145) hx hb dX9_laysMost_137 (by decide) (fun c_12 => ?_) (fun c_12 => ?_)
                              · refine lv_iload_n hx hb dX9_laysMost_145 rfl (lv_at hl 2 rfl) ?_
                                refine lv_istore_n (lv' := [(3, .int x3), (5, .int ((1 : Int32) + (m3 ((256 * (n44 + 1)) + (j50 ^^^ (2 ^ j75)))))), (4, .int (nI j75)), (2, .int (nI j50)), (1, .int (nI n44)), (0, .ref (md 0))]) hx hb dX9_laysMost_146 rfl hl (by decide) rfl (fun ls hl => ?_)
                                refine z_iinc (b := (j75 + 1)) (st := 1) (lv' := [(4, .int (nI (j75 + 1))), (3, .int x3), (5, .int ((1 : Int32) + (m3 ((256 * (n44 + 1)) + (j50 ^^^ (2 ^ j75)))))), (2, .int (nI j50)), (1, .int (nI n44)), (0, .ref (md 0))]) X dX9_laysMost_147 hl (k := 2) rfl rfl (by decide) (by omega) (by decide) rfl (fun ls hl => ?_)
                                refine lv_goto (tgt := 75) hx hb dX9_laysMost_150 (by decide) ?_
                                exact ih75 (j75 + 1) x3 (by omega) (by have h9 := hR75; rw [zl_X9_laysMost_75_s, if_pos c_8, if_pos c_10, if_pos c_12] at h9; exact h9) _ _ Z ls (lv_sub hl [0, 1, 3, 4, 5] rfl)
                              · refine lv_iload hx hb dX9_laysMost_140 (lv_at hl 0 rfl) ?_
                                refine lv_goto (tgt := 146) hx hb dX9_laysMost_142 (by decide) ?_
                                refine lv_istore_n (lv' := [(3, .int ((1 : Int32) + (m3 ((256 * (n44 + 1)) + (j50 ^^^ (2 ^ j75)))))), (5, .int ((1 : Int32) + (m3 ((256 * (n44 + 1)) + (j50 ^^^ (2 ^ j75)))))), (4, .int (nI j75)), (2, .int (nI j50)), (1, .int (nI n44)), (0, .ref (md 0))]) hx hb dX9_laysMost_146 rfl hl (by decide) rfl (fun ls hl => ?_)
                                refine z_iinc (b := (j75 + 1)) (st := 1) (lv' := [(4, .int (nI (j75 + 1))), (3, .int ((1 : Int32) + (m3 ((256 * (n44 + 1)) + (j50 ^^^ (2 ^ j75)))))), (5, .int ((1 : Int32) + (m3 ((256 * (n44 + 1)) + (j50 ^^^ (2 ^ j75)))))), (2, .int (nI j50)), (1, .int (nI n44)), (0, .ref (md 0))]) X dX9_laysMost_147 hl (k := 2) rfl rfl (by decide) (by omega) (by decide) rfl (fun ls hl => ?_)
                                refine lv_goto (tgt := 75) hx hb dX9_laysMost_150 (by decide) ?_
                                exact ih75 (j75 + 1) ((1 : Int32) + (m3 ((256 * (n44 + 1)) + (j50 ^^^ (2 ^ j75))))) (by omega) (by have h9 := hR75; rw [zl_X9_laysMost_75_s, if_pos c_8, if_pos c_10, if_neg c_12] at h9; exact h9) _ _ Z ls (lv_sub hl [0, 1, 3, 4, 5] rfl)
                    exact loop_75 (zc (MNow 284)) 0 (m3 ((256 * (n44 + 1)) + j50)) (by omega) rfl _ _ Z ls (lv_sub hl [0, 1, 2, 3, 4] rfl)
              exact loop_50 256 0 m2 (by omega) rfl _ _ Z ls (lv_sub hl [0, 1, 2] rfl)
        exact loop_44 (zc (MNow 301)) (zl_X9_laysMost_2 MNow 256 0 MMost) (Nat.le_refl _) rfl _ _ Z ls (lv_sub hl [0, 1] rfl)
      · (exfalso; omega)
    | succ n2 ih2 =>
      intro j2 m1 hin2 hR2 H locs Z ls hl
      refine lv_iload_n hx hb dX9_laysMost_2 rfl (lv_at hl 0 rfl) ?_
      refine lv_sipush (v := (256 : Int32)) hx hb dX9_laysMost_3 (by decide) ?_
      refine z_icmp_ge (a := j2) (b := 256) (tgt := 34) X rfl rfl (by omega) (by omega) dX9_laysMost_6 (by decide) (fun c_13 => ?_) (fun c_13 => ?_)
      · (exfalso; omega)
      · refine lv_aload_n hx hb dX9_laysMost_9 rfl (lv_at hl 1 rfl) ?_
        refine z_get X Z 0 rfl (rfl : zCl[7]? = some (RX9, TX9, 10)) zU_X9 8 (by decide) wF_X9_25 rfl rfl dX9_laysMost_10 ?_
        refine lv_sipush (v := (256 : Int32)) hx hb dX9_laysMost_13 (by decide) ?_
        refine lv_aload_n hx hb dX9_laysMost_16 rfl (lv_at hl 1 rfl) ?_
        refine lv_sipush (v := (301 : Int32)) hx hb dX9_laysMost_17 (by decide) ?_
        refine z_callV (mc := 0) (ms := 0) (As := [.int (301 : Int32)]) (rest := [.int (256 : Int32), .ref (md 6)]) (st2 := [.int (nI (zc (MNow 301))), .int (256 : Int32), .ref (md 6)]) (cs2 := [wMod g md MNow MPast MSav MRef MThen MLev MFst MWay m1 MHash]) X Z [0] [] [0] 0 7 (zc_X9_many l g B md MNow MPast MSav MRef MThen MLev MFst MWay m1 MHash 301 (zc (MNow 301)) (by first | assumption | omega | decide) (by first | assumption | omega | decide)) wM_X9_66 wS_X9_many wV_X9_many wK_X9_many wZ_X9 1 1 1 rfl (by decide +kernel) rfl (by decide) rfl rfl rfl (by decide) rfl rfl (rfl : zCl[7]? = some (RX9, TX9, 10)) hl.1 rfl rfl (by rw [hRf, hRl]; exact ⟨Nat.le_of_ble_eq_true rfl, Nat.le_of_ble_eq_true rfl⟩) (Nat.le_of_ble_eq_true rfl) ⟨Nat.zero_le _, Nat.zero_le _⟩ dX9_laysMost_20 (fun H locs Z => ?_)
        refine z_imul (a := 256) (b := (zc (MNow 301))) X rfl rfl dX9_laysMost_23 ?_
        refine lv_iload_n hx hb dX9_laysMost_24 rfl (lv_at hl 0 rfl) ?_
        refine z_iadd (a := (256 * (zc (MNow 301)))) (b := j2) X rfl rfl dX9_laysMost_25 ?_
        refine lv_iconst (v := (0 : Int32)) hx hb dX9_laysMost_26 (by decide) ?_
        refine z_iast (cs2 := [wMod g md MNow MPast MSav MRef MThen MLev MFst MWay (upd m1 ((256 * (zc (MNow 301))) + j2) (0 : Int32)) MHash]) (j := ((256 * (zc (MNow 301))) + j2)) (x := (0 : Int32)) X Z 6 rfl rfl (by omega) (by decide) rfl dX9_laysMost_27 (fun H locs Z => ?_)
        refine z_iinc (b := (j2 + 1)) (st := 1) (lv' := [(1, .int (nI (j2 + 1))), (0, .ref (md 0))]) X dX9_laysMost_28 hl (k := 0) rfl rfl (by decide) (by omega) (by decide) rfl (fun ls hl => ?_)
        refine lv_goto (tgt := 2) hx hb dX9_laysMost_31 (by decide) ?_
        exact ih2 (j2 + 1) (upd m1 ((256 * (zc (MNow 301))) + j2) (0 : Int32)) (by omega) (by have h9 := hR2; rw [zl_X9_laysMost_2_s] at h9; exact h9) _ _ Z ls (lv_sub hl [0, 1] rfl)
  exact loop_2 256 0 MMost (by omega) rfl _ _ Z ls (lv_sub hl [0, 1] rfl)
def zf_X9_covered (MNow : Nat → Int64) (MMost : Nat → Int32) : Int32 × Int32 × (Nat → Int32) := (((zf_X9_laysMost MNow MMost) 255), (0 : Int32), (zf_X9_laysMost MNow MMost))
theorem zf_X9_covered_e (MNow : Nat → Int64) (MMost : Nat → Int32) : zf_X9_covered MNow MMost = (((zf_X9_laysMost MNow MMost) 255), (0 : Int32), (zf_X9_laysMost MNow MMost)) := rfl
set_option maxHeartbeats 4000000 in
set_option maxRecDepth 100000 in
theorem zc_X9_covered (l : Launch) (g : zG) (B : Nat) (md : Nat → Nat) (MNow : Nat → Int64) (MPast : Nat → Int64) (MSav : Nat) (MRef : Int32) (MThen : Nat → Int64) (MLev : Nat → Int64) (MFst : Int32) (MWay : Nat → Int64) (MMost : Nat → Int32) (MHash : Int64) (hN : zNow MNow) : zMet l g B yX9_covered cX9_covered 1 (some .int) 3 140 0 0 [.ref (md 0)] [wMod g md MNow MPast MSav MRef MThen MLev MFst MWay MMost MHash] (zDet (some (.int ((zf_X9_covered MNow MMost).1))) [wMod g md MNow MPast MSav ((zf_X9_covered MNow MMost).2.1) MThen MLev MFst MWay ((zf_X9_covered MNow MMost).2.2) MHash]) := by
  refine z_in (plainFor_of_name (by decide)) (Nat.le_of_ble_eq_true rfl) (fun p e R s m args below meth c A Q hRf hRl hRc hRs X Z hnm E ls hl => ?_)
  have hx := X.1
  have hb := X.2.1
  have hown := X.2.2.2.1
  have hts := X.2.2.2.2.1
  have hl : lv_has ls 1 [(0, .ref (md 0))] := hl
  have hN2 := hN; obtain ⟨he9, hb9, he34, hb34, he43, hb43, he284, hb284, he301, hb301⟩ := hN2
  refine lv_aload_n hx hb dX9_covered_0 rfl (lv_at hl 0 rfl) ?_
  refine lv_iconst (v := (0 : Int32)) hx hb dX9_covered_1 (by decide) ?_
  refine z_put (cs2 := [wMod g md MNow MPast MSav (0 : Int32) MThen MLev MFst MWay MMost MHash]) (v := .int (0 : Int32)) X Z 0 rfl (rfl : zCl[7]? = some (RX9, TX9, 10)) zU_X9 tyX9 tyX9_ok nmX9 3 (by decide) wF_X9_38 rfl rfl rfl rfl (Nat.le_of_ble_eq_true rfl) rfl dX9_covered_2 (fun H locs Z => ?_)
  refine lv_aload_n hx hb dX9_covered_5 rfl (lv_at hl 0 rfl) ?_
  refine z_callV (mc := 0) (ms := 0) (As := []) (rest := []) (st2 := []) (cs2 := [wMod g md MNow MPast MSav (0 : Int32) MThen MLev MFst MWay (zf_X9_laysMost MNow MMost) MHash]) X Z [0] [] [0] 0 7 (zc_X9_laysMost l g B md MNow MPast MSav (0 : Int32) MThen MLev MFst MWay MMost MHash (by first | assumption | omega | decide)) wM_X9_203 wS_X9_laysMost wV_X9_laysMost wK_X9_laysMost wZ_X9 0 1 1 rfl (by decide +kernel) rfl (by decide) rfl rfl rfl (by decide) rfl rfl (rfl : zCl[7]? = some (RX9, TX9, 10)) hl.1 rfl rfl (by rw [hRf, hRl]; exact ⟨Nat.le_of_ble_eq_true rfl, Nat.le_of_ble_eq_true rfl⟩) (Nat.le_of_ble_eq_true rfl) ⟨Nat.zero_le _, Nat.zero_le _⟩ dX9_covered_6 (fun H locs Z => ?_)
  refine lv_aload_n hx hb dX9_covered_9 rfl (lv_at hl 0 rfl) ?_
  refine z_get X Z 0 rfl (rfl : zCl[7]? = some (RX9, TX9, 10)) zU_X9 8 (by decide) wF_X9_25 rfl rfl dX9_covered_10 ?_
  refine lv_sipush (v := (255 : Int32)) hx hb dX9_covered_13 (by decide) ?_
  refine z_iald (j := 255) X Z 6 rfl rfl (by omega) (by decide) dX9_covered_16 ?_
  exact z_ri (v := ((zf_X9_laysMost MNow MMost) 255)) E Z rfl (by rw [zf_X9_covered_e]; dsimp only; exact ⟨rfl, rfl⟩) dX9_covered_17 (Nat.zero_le _) (Nat.zero_le _)
def zl_X9_taker_32 (MNow : Nat → Int64) (MMost : Nat → Int32) (j13 : Nat) (x2 : Nat) : Nat → Nat → Nat
  | 0, y3 => y3
  | n32 + 1, y3 => (if (((nI x2) >>> ((nI n32) &&& 31)) &&& (1 : Int32)) = (1 : Int32) then (if (zf_X9_canTake MNow n32 j13) = true then (if ((1 : Int32) + ((zf_X9_laysMost MNow MMost) ((256 * (j13 + 1)) + (x2 ^^^ (2 ^ n32))))) = ((zf_X9_laysMost MNow MMost) ((256 * j13) + x2)) then zl_X9_taker_32 MNow MMost j13 x2 n32 (n32 + 1) else zl_X9_taker_32 MNow MMost j13 x2 n32 y3) else zl_X9_taker_32 MNow MMost j13 x2 n32 y3) else zl_X9_taker_32 MNow MMost j13 x2 n32 y3)
theorem zl_X9_taker_32_s (MNow : Nat → Int64) (MMost : Nat → Int32) (j13 : Nat) (x2 : Nat) (n32 : Nat) (y3 : Nat) : zl_X9_taker_32 MNow MMost j13 x2 (n32 + 1) y3 = (if (((nI x2) >>> ((nI n32) &&& 31)) &&& (1 : Int32)) = (1 : Int32) then (if (zf_X9_canTake MNow n32 j13) = true then (if ((1 : Int32) + ((zf_X9_laysMost MNow MMost) ((256 * (j13 + 1)) + (x2 ^^^ (2 ^ n32))))) = ((zf_X9_laysMost MNow MMost) ((256 * j13) + x2)) then zl_X9_taker_32 MNow MMost j13 x2 n32 (n32 + 1) else zl_X9_taker_32 MNow MMost j13 x2 n32 y3) else zl_X9_taker_32 MNow MMost j13 x2 n32 y3) else zl_X9_taker_32 MNow MMost j13 x2 n32 y3) := rfl
def zl_X9_taker_13 (MNow : Nat → Int64) (MMost : Nat → Int32) : Nat → Nat → Nat → Nat → Nat × Nat
  | 0, _, x2, x3 => (x2, x3)
  | n13 + 1, j13, x2, x3 => (if (nI (zl_X9_taker_32 MNow MMost j13 x2 (zc (MNow 284)) 0) - 1) = (-1 : Int32) then zl_X9_taker_13 MNow MMost n13 (j13 + 1) x2 (zl_X9_taker_32 MNow MMost j13 x2 (zc (MNow 284)) 0) else zl_X9_taker_13 MNow MMost n13 (j13 + 1) (x2 ^^^ (2 ^ ((zl_X9_taker_32 MNow MMost j13 x2 (zc (MNow 284)) 0) - 1))) (zl_X9_taker_32 MNow MMost j13 x2 (zc (MNow 284)) 0))
theorem zl_X9_taker_13_s (MNow : Nat → Int64) (MMost : Nat → Int32) (n13 : Nat) (j13 : Nat) (x2 : Nat) (x3 : Nat) : zl_X9_taker_13 MNow MMost (n13 + 1) j13 x2 x3 = (if (nI (zl_X9_taker_32 MNow MMost j13 x2 (zc (MNow 284)) 0) - 1) = (-1 : Int32) then zl_X9_taker_13 MNow MMost n13 (j13 + 1) x2 (zl_X9_taker_32 MNow MMost j13 x2 (zc (MNow 284)) 0) else zl_X9_taker_13 MNow MMost n13 (j13 + 1) (x2 ^^^ (2 ^ ((zl_X9_taker_32 MNow MMost j13 x2 (zc (MNow 284)) 0) - 1))) (zl_X9_taker_32 MNow MMost j13 x2 (zc (MNow 284)) 0)) := rfl
def zf_X9_taker (MNow : Nat → Int64) (MMost : Nat → Int32) (k : Nat) : Int32 × (Nat → Int32) := ((nI ((zl_X9_taker_13 MNow MMost (k + 1) 0 255 0).2) - 1), (zf_X9_laysMost MNow MMost))
theorem zf_X9_taker_e (MNow : Nat → Int64) (MMost : Nat → Int32) (k : Nat) : zf_X9_taker MNow MMost k = ((nI ((zl_X9_taker_13 MNow MMost (k + 1) 0 255 0).2) - 1), (zf_X9_laysMost MNow MMost)) := rfl
set_option maxHeartbeats 4000000 in
set_option maxRecDepth 100000 in
theorem zc_X9_taker (l : Launch) (g : zG) (B : Nat) (md : Nat → Nat) (MNow : Nat → Int64) (MPast : Nat → Int64) (MSav : Nat) (MRef : Int32) (MThen : Nat → Int64) (MLev : Nat → Int64) (MFst : Int32) (MWay : Nat → Int64) (MMost : Nat → Int32) (MHash : Int64) (k : Nat) (hN : zNow MNow) (hk : k < zc (MNow 301)) : zMet l g B yX9_taker cX9_taker 7 (some .int) 3 140 0 0 [.ref (md 0), .int (nI k)] [wMod g md MNow MPast MSav MRef MThen MLev MFst MWay MMost MHash] (zDet (some (.int ((zf_X9_taker MNow MMost k).1))) [wMod g md MNow MPast MSav MRef MThen MLev MFst MWay ((zf_X9_taker MNow MMost k).2) MHash]) := by
  refine z_in (plainFor_of_name (by decide)) (Nat.le_of_ble_eq_true rfl) (fun p e R s m args below meth c A Q hRf hRl hRc hRs X Z hnm E ls hl => ?_)
  have hx := X.1
  have hb := X.2.1
  have hown := X.2.2.2.1
  have hts := X.2.2.2.2.1
  have hl : lv_has ls 7 [(0, .ref (md 0)), (1, .int (nI k))] := hl
  have hN2 := hN; obtain ⟨he9, hb9, he34, hb34, he43, hb43, he284, hb284, he301, hb301⟩ := hN2
  refine lv_aload_n hx hb dX9_taker_0 rfl (lv_at hl 0 rfl) ?_
  refine z_callV (mc := 0) (ms := 0) (As := []) (rest := []) (st2 := []) (cs2 := [wMod g md MNow MPast MSav MRef MThen MLev MFst MWay (zf_X9_laysMost MNow MMost) MHash]) X Z [0] [] [0] 0 7 (zc_X9_laysMost l g B md MNow MPast MSav MRef MThen MLev MFst MWay MMost MHash (by first | assumption | omega | decide)) wM_X9_203 wS_X9_laysMost wV_X9_laysMost wK_X9_laysMost wZ_X9 0 1 1 rfl (by decide +kernel) rfl (by decide) rfl rfl rfl (by decide) rfl rfl (rfl : zCl[7]? = some (RX9, TX9, 10)) hl.1 rfl rfl (by rw [hRf, hRl]; exact ⟨Nat.le_of_ble_eq_true rfl, Nat.le_of_ble_eq_true rfl⟩) (Nat.le_of_ble_eq_true rfl) ⟨Nat.zero_le _, Nat.zero_le _⟩ dX9_taker_1 (fun H locs Z => ?_)
  refine lv_sipush (v := (255 : Int32)) hx hb dX9_taker_4 (by decide) ?_
  refine lv_istore_n (lv' := [(2, .int (255 : Int32)), (0, .ref (md 0)), (1, .int (nI k))]) hx hb dX9_taker_7 rfl hl (by decide) rfl (fun ls hl => ?_)
  refine lv_iconst (v := (-1 : Int32)) hx hb dX9_taker_8 (by decide) ?_
  refine lv_istore_n (lv' := [(3, .int (-1 : Int32)), (2, .int (255 : Int32)), (0, .ref (md 0)), (1, .int (nI k))]) hx hb dX9_taker_9 rfl hl (by decide) rfl (fun ls hl => ?_)
  refine lv_iconst (v := (0 : Int32)) hx hb dX9_taker_10 (by decide) ?_
  refine lv_istore (lv' := [(4, .int (0 : Int32)), (3, .int (-1 : Int32)), (2, .int (255 : Int32)), (0, .ref (md 0)), (1, .int (nI k))]) hx hb dX9_taker_11 hl (by decide) rfl (fun ls hl => ?_)
  have loop_13 : ∀ (n13 j13 : Nat) (x2 : Nat) (x3 : Nat), j13 + n13 = (k + 1) → zl_X9_taker_13 MNow MMost n13 j13 x2 x3 = (zl_X9_taker_13 MNow MMost (k + 1) 0 255 0) → (x2 < 256) → ∀ (H : Heap) (locs : List Loc), zM g B A s [wMod g md MNow MPast MSav MRef MThen MLev MFst MWay (zf_X9_laysMost MNow MMost) MHash] H locs → ∀ ls : Array Slot, lv_has ls 7 [(4, .int (nI j13)), (3, .int (nI x3 - 1)), (2, .int (nI x2)), (0, .ref (md 0)), (1, .int (nI k))] → W p l e R s m args below meth c H locs 0 0 Q (F0 m 13 ls []) := by
    intro n13
    induction n13 with
    | zero =>
      intro j13 x2 x3 hin13 hR13 i1 H locs Z ls hl
      have e_x2 : (zl_X9_taker_13 MNow MMost (k + 1) 0 255 0).1 = x2 := (by rw [← hR13]; rfl)
      have e_x3 : (zl_X9_taker_13 MNow MMost (k + 1) 0 255 0).2 = x3 := (by rw [← hR13]; rfl)
      subst e_x2
      subst e_x3
      refine lv_iload hx hb dX9_taker_13 (lv_at hl 0 rfl) ?_
      refine lv_iload_n hx hb dX9_taker_15 rfl (lv_at hl 4 rfl) ?_
      refine z_icmp_gt (a := j13) (b := k) (tgt := 142) X rfl rfl (by omega) (by omega) dX9_taker_16 (by decide) (fun c_1 => ?_) (fun c_1 => ?_)
      · refine lv_iload_n hx hb dX9_taker_142 rfl (lv_at hl 1 rfl) ?_
        exact z_ri (v := (nI ((zl_X9_taker_13 MNow MMost (k + 1) 0 255 0).2) - 1)) E Z rfl (by rw [zf_X9_taker_e]; dsimp only; exact ⟨rfl, rfl⟩) dX9_taker_143 (Nat.zero_le _) (Nat.zero_le _)
      · (exfalso; omega)
    | succ n13 ih13 =>
      intro j13 x2 x3 hin13 hR13 i1 H locs Z ls hl
      refine lv_iload hx hb dX9_taker_13 (lv_at hl 0 rfl) ?_
      refine lv_iload_n hx hb dX9_taker_15 rfl (lv_at hl 4 rfl) ?_
      refine z_icmp_gt (a := j13) (b := k) (tgt := 142) X rfl rfl (by omega) (by omega) dX9_taker_16 (by decide) (fun c_2 => ?_) (fun c_2 => ?_)
      · (exfalso; omega)
      · refine lv_iconst (v := (-1 : Int32)) hx hb dX9_taker_19 (by decide) ?_
        refine lv_istore_n (lv' := [(3, .int (-1 : Int32)), (4, .int (nI j13)), (2, .int (nI x2)), (0, .ref (md 0)), (1, .int (nI k))]) hx hb dX9_taker_20 rfl hl (by decide) rfl (fun ls hl => ?_)
        refine lv_aload_n hx hb dX9_taker_21 rfl (lv_at hl 3 rfl) ?_
        refine lv_sipush (v := (284 : Int32)) hx hb dX9_taker_22 (by decide) ?_
        refine z_callV (mc := 0) (ms := 0) (As := [.int (284 : Int32)]) (rest := []) (st2 := [.int (nI (zc (MNow 284)))]) (cs2 := [wMod g md MNow MPast MSav MRef MThen MLev MFst MWay (zf_X9_laysMost MNow MMost) MHash]) X Z [0] [] [0] 0 7 (zc_X9_many l g B md MNow MPast MSav MRef MThen MLev MFst MWay (zf_X9_laysMost MNow MMost) MHash 284 (zc (MNow 284)) (by first | assumption | omega | decide) (by first | assumption | omega | decide)) wM_X9_66 wS_X9_many wV_X9_many wK_X9_many wZ_X9 1 1 1 rfl (by decide +kernel) rfl (by decide) rfl rfl rfl (by decide) rfl rfl (rfl : zCl[7]? = some (RX9, TX9, 10)) hl.1 rfl rfl (by rw [hRf, hRl]; exact ⟨Nat.le_of_ble_eq_true rfl, Nat.le_of_ble_eq_true rfl⟩) (Nat.le_of_ble_eq_true rfl) ⟨Nat.zero_le _, Nat.zero_le _⟩ dX9_taker_25 (fun H locs Z => ?_)
        refine lv_iconst (v := (1 : Int32)) hx hb dX9_taker_28 (by decide) ?_
        refine lv_isub hx hb dX9_taker_29 ?_
        refine lv_istore (lv' := [(5, .int ((nI (zc (MNow 284))) - (1 : Int32))), (3, .int (-1 : Int32)), (4, .int (nI j13)), (2, .int (nI x2)), (0, .ref (md 0)), (1, .int (nI k))]) hx hb dX9_taker_30 hl (by decide) rfl (fun ls hl => ?_)
        have loop_32 : ∀ (n32 : Nat) (y3 : Nat), n32 ≤ (zc (MNow 284)) → zl_X9_taker_32 MNow MMost j13 x2 n32 y3 = (zl_X9_taker_32 MNow MMost j13 x2 (zc (MNow 284)) 0) → (y3 ≤ 8) → ∀ (H : Heap) (locs : List Loc), zM g B A s [wMod g md MNow MPast MSav MRef MThen MLev MFst MWay (zf_X9_laysMost MNow MMost) MHash] H locs → ∀ ls : Array Slot, lv_has ls 7 [(5, .int (nI n32 - 1)), (3, .int (nI y3 - 1)), (4, .int (nI j13)), (2, .int (nI x2)), (0, .ref (md 0)), (1, .int (nI k))] → W p l e R s m args below meth c H locs 0 0 Q (F0 m 32 ls []) := by
          intro n32
          induction n32 with
          | zero =>
            intro y3 hin32 hR32 i3 H locs Z ls hl
            have e_y3 : (zl_X9_taker_32 MNow MMost j13 x2 (zc (MNow 284)) 0) = y3 := hR32.symm
            subst e_y3
            have hl : lv_has ls 7 [(5, .int (-1 : Int32)), (3, .int (nI (zl_X9_taker_32 MNow MMost j13 x2 (zc (MNow 284)) 0) - 1)), (4, .int (nI j13)), (2, .int (nI x2)), (0, .ref (md 0)), (1, .int (nI k))] := hl
            refine lv_iload hx hb dX9_taker_32 (lv_at hl 0 rfl) ?_
            refine lv_if_lt (tgt := 121) hx hb dX9_taker_34 (by decide) (fun c_3 => ?_) (fun c_3 => ?_)
            · refine lv_iload_n hx hb dX9_taker_121 rfl (lv_at hl 3 rfl) ?_
              refine lv_iload_n hx hb dX9_taker_122 rfl (lv_at hl 1 rfl) ?_
              refine lv_iconst (v := (-1 : Int32)) hx hb dX9_taker_123 (by decide) ?_
              refine lv_icmp_ne (tgt := 131) hx hb dX9_taker_124 (by decide) (fun c_4 => ?_) (fun c_4 => ?_)
              · refine lv_iconst (v := (1 : Int32)) hx hb dX9_taker_131 (by decide) ?_
                refine lv_iload_n hx hb dX9_taker_132 rfl (lv_at hl 1 rfl) ?_
                refine lv_ishl hx hb dX9_taker_133 ?_
                refine lv_topi (fun z9 e9 => ?_)
                have e9 : z9 = (nI (2 ^ ((zl_X9_taker_32 MNow MMost j13 x2 (zc (MNow 284)) 0) - 1))) := e9.trans (zshlD (zDne (by assumption)) (by omega))
                subst e9
                refine lv_ixor hx hb dX9_taker_134 ?_
                refine lv_topi (fun z9 e9 => ?_)
                have e9 : z9 = (nI (x2 ^^^ (2 ^ ((zl_X9_taker_32 MNow MMost j13 x2 (zc (MNow 284)) 0) - 1)))) := e9.trans (zxor _ _)
                subst e9
                refine lv_istore_n (lv' := [(2, .int (nI (x2 ^^^ (2 ^ ((zl_X9_taker_32 MNow MMost j13 x2 (zc (MNow 284)) 0) - 1))))), (5, .int (-1 : Int32)), (3, .int (nI (zl_X9_taker_32 MNow MMost j13 x2 (zc (MNow 284)) 0) - 1)), (4, .int (nI j13)), (0, .ref (md 0)), (1, .int (nI k))]) hx hb dX9_taker_135 rfl hl (by decide) rfl (fun ls hl => ?_)
                refine z_iinc (b := (j13 + 1)) (st := 1) (lv' := [(4, .int (nI (j13 + 1))), (2, .int (nI (x2 ^^^ (2 ^ ((zl_X9_taker_32 MNow MMost j13 x2 (zc (MNow 284)) 0) - 1))))), (5, .int (-1 : Int32)), (3, .int (nI (zl_X9_taker_32 MNow MMost j13 x2 (zc (MNow 284)) 0) - 1)), (0, .ref (md 0)), (1, .int (nI k))]) X dX9_taker_136 hl (k := 3) rfl rfl (by decide) (by omega) (by decide) rfl (fun ls hl => ?_)
                refine lv_goto (tgt := 13) hx hb dX9_taker_139 (by decide) ?_
                exact ih13 (j13 + 1) (x2 ^^^ (2 ^ ((zl_X9_taker_32 MNow MMost j13 x2 (zc (MNow 284)) 0) - 1))) (zl_X9_taker_32 MNow MMost j13 x2 (zc (MNow 284)) 0) (by omega) (by have h9 := hR13; rw [zl_X9_taker_13_s, if_neg c_4] at h9; exact h9) (by first | assumption | (have h0 := zDne (by assumption); exact zxorlt (by omega) (by omega))) _ _ Z ls (lv_sub hl [0, 3, 1, 4, 5] rfl)
              · refine lv_iconst (v := (0 : Int32)) hx hb dX9_taker_127 (by decide) ?_
                refine lv_goto (tgt := 134) hx hb dX9_taker_128 (by decide) ?_
                refine lv_ixor hx hb dX9_taker_134 ?_
                refine lv_topi (fun z9 e9 => ?_)
                have e9 : z9 = (nI x2) := e9.trans (zxor0 _)
                subst e9
                refine lv_istore_n (lv' := [(2, .int (nI x2)), (5, .int (-1 : Int32)), (3, .int (nI (zl_X9_taker_32 MNow MMost j13 x2 (zc (MNow 284)) 0) - 1)), (4, .int (nI j13)), (0, .ref (md 0)), (1, .int (nI k))]) hx hb dX9_taker_135 rfl hl (by decide) rfl (fun ls hl => ?_)
                refine z_iinc (b := (j13 + 1)) (st := 1) (lv' := [(4, .int (nI (j13 + 1))), (2, .int (nI x2)), (5, .int (-1 : Int32)), (3, .int (nI (zl_X9_taker_32 MNow MMost j13 x2 (zc (MNow 284)) 0) - 1)), (0, .ref (md 0)), (1, .int (nI k))]) X dX9_taker_136 hl (k := 3) rfl rfl (by decide) (by omega) (by decide) rfl (fun ls hl => ?_)
                refine lv_goto (tgt := 13) hx hb dX9_taker_139 (by decide) ?_
                exact ih13 (j13 + 1) x2 (zl_X9_taker_32 MNow MMost j13 x2 (zc (MNow 284)) 0) (by omega) (by have h9 := hR13; rw [zl_X9_taker_13_s, if_pos c_4] at h9; exact h9) (by first | assumption | (have h0 := zDne (by assumption); exact zxorlt (by omega) (by omega))) _ _ Z ls (lv_sub hl [0, 3, 1, 4, 5] rfl)
            · (exact absurd c_3 (by decide))
          | succ n32 ih32 =>
            intro y3 hin32 hR32 i3 H locs Z ls hl
            rw [nI_pred] at hl
            refine lv_iload hx hb dX9_taker_32 (lv_at hl 0 rfl) ?_
            refine z_ifltN (a := n32) (tgt := 121) X rfl (by omega) dX9_taker_34 (by decide) (fun c_5 => ?_) (fun c_5 => ?_)
            · exact (c_5).elim
            · refine lv_iload_n hx hb dX9_taker_37 rfl (lv_at hl 3 rfl) ?_
              refine lv_iload hx hb dX9_taker_38 (lv_at hl 0 rfl) ?_
              refine lv_ishr hx hb dX9_taker_40 ?_
              refine lv_iconst (v := (1 : Int32)) hx hb dX9_taker_41 (by decide) ?_
              refine lv_iand hx hb dX9_taker_42 ?_
              refine lv_iconst (v := (1 : Int32)) hx hb dX9_taker_43 (by decide) ?_
              refine lv_icmp_ne (tgt := 100) hx hb dX9_taker_44 (by decide) (fun c_6 => ?_) (fun c_6 => ?_)
              · refine lv_iconst (v := (0 : Int32)) hx hb dX9_taker_100 (by decide) ?_
                refine lv_istore (lv' := [(6, .int (0 : Int32)), (5, .int (nI n32)), (3, .int (nI y3 - 1)), (4, .int (nI j13)), (2, .int (nI x2)), (0, .ref (md 0)), (1, .int (nI k))]) hx hb dX9_taker_101 hl (by decide) rfl (fun ls hl => ?_)
                refine lv_iload hx hb dX9_taker_103 (lv_at hl 0 rfl) ?_
                refine lv_if_eq (tgt := 113) hx hb dX9_taker_105 (by decide) (fun c_7 => ?_) (fun c_7 => ?_)
                · refine lv_iload_n hx hb dX9_taker_113 rfl (lv_at hl 2 rfl) ?_
                  refine lv_istore_n (lv' := [(3, .int (nI y3 - 1)), (6, .int (0 : Int32)), (5, .int (nI n32)), (4, .int (nI j13)), (2, .int (nI x2)), (0, .ref (md 0)), (1, .int (nI k))]) hx hb dX9_taker_114 rfl hl (by decide) rfl (fun ls hl => ?_)
                  refine lv_iinc (v := (nI n32 - 1)) (lv' := [(5, .int (nI n32 - 1)), (3, .int (nI y3 - 1)), (6, .int (0 : Int32)), (4, .int (nI j13)), (2, .int (nI x2)), (0, .ref (md 0)), (1, .int (nI k))]) hx hb dX9_taker_115 hl (k := 2) rfl (zdn _) (by decide) rfl (fun ls hl => ?_)
                  refine lv_goto (tgt := 32) hx hb dX9_taker_118 (by decide) ?_
                  exact ih32 y3 (by omega) (by have h9 := hR32; rw [zl_X9_taker_32_s, if_neg c_6] at h9; exact h9) (by omega) _ _ Z ls (lv_sub hl [0, 1, 3, 4, 5, 6] rfl)
                · (exact absurd c_7 (by decide))
              · refine lv_aload_n hx hb dX9_taker_47 rfl (lv_at hl 4 rfl) ?_
                refine lv_iload hx hb dX9_taker_48 (lv_at hl 0 rfl) ?_
                refine lv_iload hx hb dX9_taker_50 (lv_at hl 2 rfl) ?_
                refine z_callV (mc := 0) (ms := 0) (As := [.int (nI n32), .int (nI j13)]) (rest := []) (st2 := [.int (zB (zf_X9_canTake MNow n32 j13))]) (cs2 := [wMod g md MNow MPast MSav MRef MThen MLev MFst MWay (zf_X9_laysMost MNow MMost) MHash]) X Z [0] [] [0] 0 7 (zc_X9_canTake l g B md MNow MPast MSav MRef MThen MLev MFst MWay (zf_X9_laysMost MNow MMost) MHash n32 j13 (by first | assumption | omega | decide) (by first | assumption | omega | decide)) wM_X9_200 wS_X9_canTake wV_X9_canTake wK_X9_canTake wZ_X9 2 1 1 rfl (by decide +kernel) rfl (by decide) rfl rfl rfl (by decide) rfl rfl (rfl : zCl[7]? = some (RX9, TX9, 10)) hl.1 rfl rfl (by rw [hRf, hRl]; exact ⟨Nat.le_of_ble_eq_true rfl, Nat.le_of_ble_eq_true rfl⟩) (Nat.le_of_ble_eq_true rfl) ⟨Nat.zero_le _, Nat.zero_le _⟩ dX9_taker_52 (fun H locs Z => ?_)
                refine z_ifeqB (b := (zf_X9_canTake MNow n32 j13)) (tgt := 100) X dX9_taker_55 (by decide) (fun c_8 => ?_) (fun c_8 => ?_)
                · refine lv_iconst (v := (0 : Int32)) hx hb dX9_taker_100 (by decide) ?_
                  refine lv_istore (lv' := [(6, .int (0 : Int32)), (5, .int (nI n32)), (3, .int (nI y3 - 1)), (4, .int (nI j13)), (2, .int (nI x2)), (0, .ref (md 0)), (1, .int (nI k))]) hx hb dX9_taker_101 hl (by decide) rfl (fun ls hl => ?_)
                  refine lv_iload hx hb dX9_taker_103 (lv_at hl 0 rfl) ?_
                  refine lv_if_eq (tgt := 113) hx hb dX9_taker_105 (by decide) (fun c_9 => ?_) (fun c_9 => ?_)
                  · refine lv_iload_n hx hb dX9_taker_113 rfl (lv_at hl 2 rfl) ?_
                    refine lv_istore_n (lv' := [(3, .int (nI y3 - 1)), (6, .int (0 : Int32)), (5, .int (nI n32)), (4, .int (nI j13)), (2, .int (nI x2)), (0, .ref (md 0)), (1, .int (nI k))]) hx hb dX9_taker_114 rfl hl (by decide) rfl (fun ls hl => ?_)
                    refine lv_iinc (v := (nI n32 - 1)) (lv' := [(5, .int (nI n32 - 1)), (3, .int (nI y3 - 1)), (6, .int (0 : Int32)), (4, .int (nI j13)), (2, .int (nI x2)), (0, .ref (md 0)), (1, .int (nI k))]) hx hb dX9_taker_115 hl (k := 2) rfl (zdn _) (by decide) rfl (fun ls hl => ?_)
                    refine lv_goto (tgt := 32) hx hb dX9_taker_118 (by decide) ?_
                    exact ih32 y3 (by omega) (by have h9 := hR32; rw [zl_X9_taker_32_s, if_pos c_6, if_neg (zBf c_8)] at h9; exact h9) (by omega) _ _ Z ls (lv_sub hl [0, 1, 3, 4, 5, 6] rfl)
                  · (exact absurd c_9 (by decide))
                · refine lv_iconst (v := (1 : Int32)) hx hb dX9_taker_58 (by decide) ?_
                  refine lv_aload_n hx hb dX9_taker_59 rfl (lv_at hl 4 rfl) ?_
                  refine z_get X Z 0 rfl (rfl : zCl[7]? = some (RX9, TX9, 10)) zU_X9 8 (by decide) wF_X9_25 rfl rfl dX9_taker_60 ?_
                  refine lv_sipush (v := (256 : Int32)) hx hb dX9_taker_63 (by decide) ?_
                  refine lv_iload hx hb dX9_taker_66 (lv_at hl 2 rfl) ?_
                  refine lv_iconst (v := (1 : Int32)) hx hb dX9_taker_68 (by decide) ?_
                  refine z_iadd (a := j13) (b := 1) X rfl rfl dX9_taker_69 ?_
                  refine z_imul (a := 256) (b := (j13 + 1)) X rfl rfl dX9_taker_70 ?_
                  refine lv_iload_n hx hb dX9_taker_71 rfl (lv_at hl 3 rfl) ?_
                  refine lv_iconst (v := (1 : Int32)) hx hb dX9_taker_72 (by decide) ?_
                  refine lv_iload hx hb dX9_taker_73 (lv_at hl 0 rfl) ?_
                  refine lv_ishl hx hb dX9_taker_75 ?_
                  refine lv_topi (fun z9 e9 => ?_)
                  have e9 : z9 = (nI (2 ^ n32)) := e9.trans (zshl (by omega))
                  subst e9
                  refine lv_ixor hx hb dX9_taker_76 ?_
                  refine lv_topi (fun z9 e9 => ?_)
                  have e9 : z9 = (nI (x2 ^^^ (2 ^ n32))) := e9.trans (zxor _ _)
                  subst e9
                  refine z_iadd (a := (256 * (j13 + 1))) (b := (x2 ^^^ (2 ^ n32))) X rfl rfl dX9_taker_77 ?_
                  refine z_iald (j := ((256 * (j13 + 1)) + (x2 ^^^ (2 ^ n32)))) X Z 6 rfl rfl (by have := zxorlt (u := x2) (a := n32) (by omega) (by omega); omega) (by decide) dX9_taker_78 ?_
                  refine lv_iadd hx hb dX9_taker_79 ?_
                  refine lv_aload_n hx hb dX9_taker_80 rfl (lv_at hl 4 rfl) ?_
                  refine z_get X Z 0 rfl (rfl : zCl[7]? = some (RX9, TX9, 10)) zU_X9 8 (by decide) wF_X9_25 rfl rfl dX9_taker_81 ?_
                  refine lv_sipush (v := (256 : Int32)) hx hb dX9_taker_84 (by decide) ?_
                  refine lv_iload hx hb dX9_taker_87 (lv_at hl 2 rfl) ?_
                  refine z_imul (a := 256) (b := j13) X rfl rfl dX9_taker_89 ?_
                  refine lv_iload_n hx hb dX9_taker_90 rfl (lv_at hl 3 rfl) ?_
                  refine z_iadd (a := (256 * j13)) (b := x2) X rfl rfl dX9_taker_91 ?_
                  refine z_iald (j := ((256 * j13) + x2)) X Z 6 rfl rfl (by omega) (by decide) dX9_taker_92 ?_
                  refine lv_icmp_ne (tgt := 100) hx hb dX9_taker_93 (by decide) (fun c_10 => ?_) (fun c_10 => ?_)
                  · refine lv_iconst (v := (0 : Int32)) hx hb dX9_taker_100 (by decide) ?_
                    refine lv_istore (lv' := [(6, .int (0 : Int32)), (5, .int (nI n32)), (3, .int (nI y3 - 1)), (4, .int (nI j13)), (2, .int (nI x2)), (0, .ref (md 0)), (1, .int (nI k))]) hx hb dX9_taker_101 hl (by decide) rfl (fun ls hl => ?_)
                    refine lv_iload hx hb dX9_taker_103 (lv_at hl 0 rfl) ?_
                    refine lv_if_eq (tgt := 113) hx hb dX9_taker_105 (by decide) (fun c_11 => ?_) (fun c_11 => ?_)
                    · refine lv_iload_n hx hb dX9_taker_113 rfl (lv_at hl 2 rfl) ?_
                      refine lv_istore_n (lv' := [(3, .int (nI y3 - 1)), (6, .int (0 : Int32)), (5, .int (nI n32)), (4, .int (nI j13)), (2, .int (nI x2)), (0, .ref (md 0)), (1, .int (nI k))]) hx hb dX9_taker_114 rfl hl (by decide) rfl (fun ls hl => ?_)
                      refine lv_iinc (v := (nI n32 - 1)) (lv' := [(5, .int (nI n32 - 1)), (3, .int (nI y3 - 1)), (6, .int (0 : Int32)), (4, .int (nI j13)), (2, .int (nI x2)), (0, .ref (md 0)), (1, .int (nI k))]) hx hb dX9_taker_115 hl (k := 2) rfl (zdn _) (by decide) rfl (fun ls hl => ?_)
                      refine lv_goto (tgt := 32) hx hb dX9_taker_118 (by decide) ?_
                      exact ih32 y3 (by omega) (by have h9 := hR32; rw [zl_X9_taker_32_s, if_pos c_6, if_pos c_8, if_neg c_10] at h9; exact h9) (by omega) _ _ Z ls (lv_sub hl [0, 1, 3, 4, 5, 6] rfl)
                    · (exact absurd c_11 (by decide))
                  · refine lv_iconst (v := (1 : Int32)) hx hb dX9_taker_96 (by decide) ?_
                    refine lv_goto (tgt := 101) hx hb dX9_taker_97 (by decide) ?_
                    refine lv_istore (lv' := [(6, .int (1 : Int32)), (5, .int (nI n32)), (3, .int (nI y3 - 1)), (4, .int (nI j13)), (2, .int (nI x2)), (0, .ref (md 0)), (1, .int (nI k))]) hx hb dX9_taker_101 hl (by decide) rfl (fun ls hl => ?_)
                    refine lv_iload hx hb dX9_taker_103 (lv_at hl 0 rfl) ?_
                    refine lv_if_eq (tgt := 113) hx hb dX9_taker_105 (by decide) (fun c_12 => ?_) (fun c_12 => ?_)
                    · (exact absurd c_12 (by decide))
                    · refine lv_iload hx hb dX9_taker_108 (lv_at hl 1 rfl) ?_
                      refine lv_goto (tgt := 114) hx hb dX9_taker_110 (by decide) ?_
                      refine lv_istore_n (lv' := [(3, .int (nI n32)), (6, .int (1 : Int32)), (5, .int (nI n32)), (4, .int (nI j13)), (2, .int (nI x2)), (0, .ref (md 0)), (1, .int (nI k))]) hx hb dX9_taker_114 rfl hl (by decide) rfl (fun ls hl => ?_)
                      refine lv_iinc (v := (nI n32 - 1)) (lv' := [(5, .int (nI n32 - 1)), (3, .int (nI n32)), (6, .int (1 : Int32)), (4, .int (nI j13)), (2, .int (nI x2)), (0, .ref (md 0)), (1, .int (nI k))]) hx hb dX9_taker_115 hl (k := 2) rfl (zdn _) (by decide) rfl (fun ls hl => ?_)
                      refine lv_goto (tgt := 32) hx hb dX9_taker_118 (by decide) ?_
                      have hl : lv_has ls 7 [(5, .int (nI n32 - 1)), (3, .int (nI (n32 + 1) - 1)), (6, .int (1 : Int32)), (4, .int (nI j13)), (2, .int (nI x2)), (0, .ref (md 0)), (1, .int (nI k))] := by first | exact hl | (simp only [zDN, zDK]; exact hl)
                      exact ih32 (n32 + 1) (by omega) (by have h9 := hR32; rw [zl_X9_taker_32_s, if_pos c_6, if_pos c_8, if_pos c_10] at h9; exact h9) (by omega) _ _ Z ls (lv_sub hl [0, 1, 3, 4, 5, 6] rfl)
        have hl : lv_has ls 7 [(5, .int ((nI (zc (MNow 284))) - (1 : Int32))), (3, .int (nI 0 - 1)), (4, .int (nI j13)), (2, .int (nI x2)), (0, .ref (md 0)), (1, .int (nI k))] := by first | exact hl | (simp only [zDN, zDK]; exact hl)
        exact loop_32 (zc (MNow 284)) 0 (Nat.le_refl _) rfl (by omega) _ _ Z ls (lv_sub hl [0, 1, 2, 3, 4, 5] rfl)
  have hl : lv_has ls 7 [(4, .int (0 : Int32)), (3, .int (nI 0 - 1)), (2, .int (255 : Int32)), (0, .ref (md 0)), (1, .int (nI k))] := by first | exact hl | (simp only [zDN, zDK]; exact hl)
  exact loop_13 (k + 1) 0 255 0 (by omega) rfl (by decide) _ _ Z ls (lv_sub hl [0, 1, 2, 3, 4] rfl)
def zf_X9_supporterOf (MNow : Nat → Int64) (MMost : Nat → Int32) (k : Int32) : Int32 × Int32 × (Nat → Int32) := (if (zf_X9_within k.toInt64 (0 : Int64) (((nI (zc (MNow 301))) - (1 : Int32)).toInt64)) = true then (((zf_X9_taker MNow MMost (zi k)).1), (zf_X9_refused_0), ((zf_X9_taker MNow MMost (zi k)).2)) else ((0 : Int32), (zf_X9_refused_1), MMost))
theorem zf_X9_supporterOf_e (MNow : Nat → Int64) (MMost : Nat → Int32) (k : Int32) : zf_X9_supporterOf MNow MMost k = (if (zf_X9_within k.toInt64 (0 : Int64) (((nI (zc (MNow 301))) - (1 : Int32)).toInt64)) = true then (((zf_X9_taker MNow MMost (zi k)).1), (zf_X9_refused_0), ((zf_X9_taker MNow MMost (zi k)).2)) else ((0 : Int32), (zf_X9_refused_1), MMost)) := rfl
set_option maxHeartbeats 4000000 in
set_option maxRecDepth 100000 in
theorem zc_X9_supporterOf (l : Launch) (g : zG) (B : Nat) (md : Nat → Nat) (MNow : Nat → Int64) (MPast : Nat → Int64) (MSav : Nat) (MRef : Int32) (MThen : Nat → Int64) (MLev : Nat → Int64) (MFst : Int32) (MWay : Nat → Int64) (MMost : Nat → Int32) (MHash : Int64) (k : Int32) (hN : zNow MNow) : zMet l g B yX9_supporterOf cX9_supporterOf 2 (some .int) 4 200 0 0 [.ref (md 0), .int k] [wMod g md MNow MPast MSav MRef MThen MLev MFst MWay MMost MHash] (zDet (some (.int ((zf_X9_supporterOf MNow MMost k).1))) [wMod g md MNow MPast MSav ((zf_X9_supporterOf MNow MMost k).2.1) MThen MLev MFst MWay ((zf_X9_supporterOf MNow MMost k).2.2) MHash]) := by
  refine z_in (plainFor_of_name (by decide)) (Nat.le_of_ble_eq_true rfl) (fun p e R s m args below meth c A Q hRf hRl hRc hRs X Z hnm E ls hl => ?_)
  have hx := X.1
  have hb := X.2.1
  have hown := X.2.2.2.1
  have hts := X.2.2.2.2.1
  have hl : lv_has ls 2 [(0, .ref (md 0)), (1, .int k)] := hl
  have hN2 := hN; obtain ⟨he9, hb9, he34, hb34, he43, hb43, he284, hb284, he301, hb301⟩ := hN2
  refine lv_aload_n hx hb dX9_supporterOf_0 rfl (lv_at hl 0 rfl) ?_
  refine lv_iload_n hx hb dX9_supporterOf_1 rfl (lv_at hl 1 rfl) ?_
  refine lv_i2l hx hb dX9_supporterOf_2 rfl ?_
  refine lv_lconst (v := (0 : Int64)) hx hb dX9_supporterOf_3 (by decide) ?_
  refine lv_aload_n hx hb dX9_supporterOf_4 rfl (lv_at hl 0 rfl) ?_
  refine lv_sipush (v := (301 : Int32)) hx hb dX9_supporterOf_5 (by decide) ?_
  refine z_callV (mc := 0) (ms := 0) (As := [.int (301 : Int32)]) (rest := [.long (0 : Int64), .long k.toInt64, .ref (md 0)]) (st2 := [.int (nI (zc (MNow 301))), .long (0 : Int64), .long k.toInt64, .ref (md 0)]) (cs2 := [wMod g md MNow MPast MSav MRef MThen MLev MFst MWay MMost MHash]) X Z [0] [] [0] 0 7 (zc_X9_many l g B md MNow MPast MSav MRef MThen MLev MFst MWay MMost MHash 301 (zc (MNow 301)) (by first | assumption | omega | decide) (by first | assumption | omega | decide)) wM_X9_66 wS_X9_many wV_X9_many wK_X9_many wZ_X9 1 1 1 rfl (by decide +kernel) rfl (by decide) rfl rfl rfl (by decide) rfl rfl (rfl : zCl[7]? = some (RX9, TX9, 10)) hl.1 rfl rfl (by rw [hRf, hRl]; exact ⟨Nat.le_of_ble_eq_true rfl, Nat.le_of_ble_eq_true rfl⟩) (Nat.le_of_ble_eq_true rfl) ⟨Nat.zero_le _, Nat.zero_le _⟩ dX9_supporterOf_8 (fun H locs Z => ?_)
  refine lv_iconst (v := (1 : Int32)) hx hb dX9_supporterOf_11 (by decide) ?_
  refine lv_isub hx hb dX9_supporterOf_12 ?_
  refine lv_i2l hx hb dX9_supporterOf_13 rfl ?_
  refine z_callS (mc := 0) (ms := 0) (As := [.long k.toInt64, .long (0 : Int64), .long (((nI (zc (MNow 301))) - (1 : Int32)).toInt64)]) (rest := [.ref (md 0)]) (st2 := [.int (zB (zf_X9_within k.toInt64 (0 : Int64) (((nI (zc (MNow 301))) - (1 : Int32)).toInt64))), .ref (md 0)]) (cs2 := [wMod g md MNow MPast MSav MRef MThen MLev MFst MWay MMost MHash]) X Z [] [0] [0] (zc_X9_within l g B k.toInt64 (0 : Int64) (((nI (zc (MNow 301))) - (1 : Int32)).toInt64)) wM_X9_44 wS_X9_within wK_X9_within wZ_X9 3 1 1 rfl (by decide +kernel) rfl (by decide) rfl rfl rfl (by decide) rfl hl.1 rfl rfl (by rw [hRf, hRl]; exact ⟨Nat.le_of_ble_eq_true rfl, Nat.le_of_ble_eq_true rfl⟩) (Nat.le_of_ble_eq_true rfl) ⟨Nat.zero_le _, Nat.zero_le _⟩ dX9_supporterOf_14 (fun H locs Z => ?_)
  refine z_ifeqB (b := (zf_X9_within k.toInt64 (0 : Int64) (((nI (zc (MNow 301))) - (1 : Int32)).toInt64))) (tgt := 24) X dX9_supporterOf_17 (by decide) (fun c_1 => ?_) (fun c_1 => ?_)
  · refine lv_iconst (v := (1 : Int32)) hx hb dX9_supporterOf_24 (by decide) ?_
    refine z_callV (mc := 0) (ms := 0) (As := [.int (1 : Int32)]) (rest := []) (st2 := [.int (1 : Int32)]) (cs2 := [wMod g md MNow MPast MSav (zf_X9_refused_1) MThen MLev MFst MWay MMost MHash]) X Z [0] [] [0] 0 7 (zc_X9_refused_1 l g B md MNow MPast MSav MRef MThen MLev MFst MWay MMost MHash) wM_X9_55 wS_X9_refused wV_X9_refused wK_X9_refused wZ_X9 1 1 1 rfl (by decide +kernel) rfl (by decide) rfl rfl rfl (by decide) rfl rfl (rfl : zCl[7]? = some (RX9, TX9, 10)) hl.1 rfl rfl (by rw [hRf, hRl]; exact ⟨Nat.le_of_ble_eq_true rfl, Nat.le_of_ble_eq_true rfl⟩) (Nat.le_of_ble_eq_true rfl) ⟨Nat.zero_le _, Nat.zero_le _⟩ dX9_supporterOf_25 (fun H locs Z => ?_)
    refine lv_if_eq (tgt := 35) hx hb dX9_supporterOf_28 (by decide) (fun c_2 => ?_) (fun c_2 => ?_)
    · (exact absurd c_2 (by decide))
    · refine lv_iconst (v := (0 : Int32)) hx hb dX9_supporterOf_31 (by decide) ?_
      refine lv_goto (tgt := 40) hx hb dX9_supporterOf_32 (by decide) ?_
      exact z_ri (v := (0 : Int32)) E Z rfl (by rw [zf_X9_supporterOf_e, if_neg (zBf c_1)]; dsimp only; exact ⟨rfl, rfl⟩) dX9_supporterOf_40 (Nat.zero_le _) (Nat.zero_le _)
  · refine lv_iconst (v := (0 : Int32)) hx hb dX9_supporterOf_20 (by decide) ?_
    refine lv_goto (tgt := 25) hx hb dX9_supporterOf_21 (by decide) ?_
    refine z_callV (mc := 0) (ms := 0) (As := [.int (0 : Int32)]) (rest := []) (st2 := [.int (0 : Int32)]) (cs2 := [wMod g md MNow MPast MSav (zf_X9_refused_0) MThen MLev MFst MWay MMost MHash]) X Z [0] [] [0] 0 7 (zc_X9_refused_0 l g B md MNow MPast MSav MRef MThen MLev MFst MWay MMost MHash) wM_X9_55 wS_X9_refused wV_X9_refused wK_X9_refused wZ_X9 1 1 1 rfl (by decide +kernel) rfl (by decide) rfl rfl rfl (by decide) rfl rfl (rfl : zCl[7]? = some (RX9, TX9, 10)) hl.1 rfl rfl (by rw [hRf, hRl]; exact ⟨Nat.le_of_ble_eq_true rfl, Nat.le_of_ble_eq_true rfl⟩) (Nat.le_of_ble_eq_true rfl) ⟨Nat.zero_le _, Nat.zero_le _⟩ dX9_supporterOf_25 (fun H locs Z => ?_)
    refine lv_if_eq (tgt := 35) hx hb dX9_supporterOf_28 (by decide) (fun c_3 => ?_) (fun c_3 => ?_)
    · obtain ⟨ek1, hk1⟩ := (zok_lt (by assumption) (by omega) : k = nI (zi k) ∧ _)
      have hl : lv_has ls 2 [(0, .ref (md 0)), (1, .int (nI (zi k)))] := by rw [← ek1]; exact hl
      refine lv_aload_n hx hb dX9_supporterOf_35 rfl (lv_at hl 0 rfl) ?_
      refine lv_iload_n hx hb dX9_supporterOf_36 rfl (lv_at hl 1 rfl) ?_
      refine z_callV (mc := 0) (ms := 0) (As := [.int (nI (zi k))]) (rest := []) (st2 := [.int ((zf_X9_taker MNow MMost (zi k)).1)]) (cs2 := [wMod g md MNow MPast MSav (zf_X9_refused_0) MThen MLev MFst MWay ((zf_X9_taker MNow MMost (zi k)).2) MHash]) X Z [0] [] [0] 0 7 (zc_X9_taker l g B md MNow MPast MSav (zf_X9_refused_0) MThen MLev MFst MWay MMost MHash (zi k) (by first | assumption | omega | decide) (by first | assumption | omega | decide)) wM_X9_206 wS_X9_taker wV_X9_taker wK_X9_taker wZ_X9 1 1 1 rfl (by decide +kernel) rfl (by decide) rfl rfl rfl (by decide) rfl rfl (rfl : zCl[7]? = some (RX9, TX9, 10)) hl.1 rfl rfl (by rw [hRf, hRl]; exact ⟨Nat.le_of_ble_eq_true rfl, Nat.le_of_ble_eq_true rfl⟩) (Nat.le_of_ble_eq_true rfl) ⟨Nat.zero_le _, Nat.zero_le _⟩ dX9_supporterOf_37 (fun H locs Z => ?_)
      exact z_ri (v := ((zf_X9_taker MNow MMost (zi k)).1)) E Z rfl (by rw [zf_X9_supporterOf_e, if_pos c_1]; dsimp only; exact ⟨rfl, rfl⟩) dX9_supporterOf_40 (Nat.zero_le _) (Nat.zero_le _)
    · (exact absurd c_3 (by decide))
def zl_X9_digest_203 (MNow : Nat → Int64) : Nat → Nat → Int64 → (Nat → Int32) → Int64 × (Nat → Int32)
  | 0, _, h3, m3 => (h3, m3)
  | n203 + 1, j203, h3, m3 => zl_X9_digest_203 MNow n203 (j203 + 1) (zf_X9_mix (zf_X9_mixAll MNow h3 (302 + (2 * j203)) 2) (((zf_X9_taker MNow m3 j203).1).toInt64)) ((zf_X9_taker MNow m3 j203).2)
theorem zl_X9_digest_203_s (MNow : Nat → Int64) (n203 : Nat) (j203 : Nat) (h3 : Int64) (m3 : Nat → Int32) : zl_X9_digest_203 MNow (n203 + 1) j203 h3 m3 = zl_X9_digest_203 MNow n203 (j203 + 1) (zf_X9_mix (zf_X9_mixAll MNow h3 (302 + (2 * j203)) 2) (((zf_X9_taker MNow m3 j203).1).toInt64)) ((zf_X9_taker MNow m3 j203).2) := rfl
def zl_X9_digest_137 (MNow : Nat → Int64) : Nat → Nat → Int64 → Int64
  | 0, _, h2 => h2
  | n137 + 1, j137, h2 => zl_X9_digest_137 MNow n137 (j137 + 1) (zf_X9_mixAll MNow h2 (44 + 3 * (8 * j137 + 0)) (3 * (zc (MNow 34))))
theorem zl_X9_digest_137_s (MNow : Nat → Int64) (n137 : Nat) (j137 : Nat) (h2 : Int64) : zl_X9_digest_137 MNow (n137 + 1) j137 h2 = zl_X9_digest_137 MNow n137 (j137 + 1) (zf_X9_mixAll MNow h2 (44 + 3 * (8 * j137 + 0)) (3 * (zc (MNow 34)))) := rfl
def zl_X9_digest_14 (MNow : Nat → Int64) : Nat → Nat → Int64 → Int64
  | 0, _, h1 => h1
  | n14 + 1, j14, h1 => zl_X9_digest_14 MNow n14 (j14 + 1) (zf_X9_mix (zf_X9_mix (zf_X9_mixAll MNow h1 (0 + (3 * j14)) 3) (zf_X9_partOf (zf_X9_loadOf MNow j14) (zf_X9_size MNow) (0 : Int32))) (zf_X9_partOf (zf_X9_loadOf MNow j14) (zf_X9_size MNow) (1 : Int32)))
theorem zl_X9_digest_14_s (MNow : Nat → Int64) (n14 : Nat) (j14 : Nat) (h1 : Int64) : zl_X9_digest_14 MNow (n14 + 1) j14 h1 = zl_X9_digest_14 MNow n14 (j14 + 1) (zf_X9_mix (zf_X9_mix (zf_X9_mixAll MNow h1 (0 + (3 * j14)) 3) (zf_X9_partOf (zf_X9_loadOf MNow j14) (zf_X9_size MNow) (0 : Int32))) (zf_X9_partOf (zf_X9_loadOf MNow j14) (zf_X9_size MNow) (1 : Int32))) := rfl
def zf_X9_digest (MNow : Nat → Int64) (MSav : Nat) (MMost : Nat → Int32) : Int64 × Int32 × Int64 × (Nat → Int32) := (if (zf_X9_isStill MNow) = true then ((zf_X9_mix ((zl_X9_digest_203 MNow (zc (MNow 301)) 0 (zf_X9_mix (zf_X9_mixAll MNow (zl_X9_digest_137 MNow (zc (MNow 43)) 0 (zf_X9_mix (zf_X9_mixAll MNow (zf_X9_mixAll MNow (zf_X9_mix (zf_X9_mix (zl_X9_digest_14 MNow 3 0 (2801 : Int64)) (1 : Int64)) ((zf_X9_overs MNow).toInt64)) 9 (1 + (3 * (zc (MNow 9))))) 34 (1 + (zc (MNow 34)))) (lN (zc (MNow 43))))) 284 (1 + (2 * (zc (MNow 284))))) (lN (zc (MNow 301)))) MMost).1) (lN MSav)), (0 : Int32), (zf_X9_mix ((zl_X9_digest_203 MNow (zc (MNow 301)) 0 (zf_X9_mix (zf_X9_mixAll MNow (zl_X9_digest_137 MNow (zc (MNow 43)) 0 (zf_X9_mix (zf_X9_mixAll MNow (zf_X9_mixAll MNow (zf_X9_mix (zf_X9_mix (zl_X9_digest_14 MNow 3 0 (2801 : Int64)) (1 : Int64)) ((zf_X9_overs MNow).toInt64)) 9 (1 + (3 * (zc (MNow 9))))) 34 (1 + (zc (MNow 34)))) (lN (zc (MNow 43))))) 284 (1 + (2 * (zc (MNow 284))))) (lN (zc (MNow 301)))) MMost).1) (lN MSav)), ((zl_X9_digest_203 MNow (zc (MNow 301)) 0 (zf_X9_mix (zf_X9_mixAll MNow (zl_X9_digest_137 MNow (zc (MNow 43)) 0 (zf_X9_mix (zf_X9_mixAll MNow (zf_X9_mixAll MNow (zf_X9_mix (zf_X9_mix (zl_X9_digest_14 MNow 3 0 (2801 : Int64)) (1 : Int64)) ((zf_X9_overs MNow).toInt64)) 9 (1 + (3 * (zc (MNow 9))))) 34 (1 + (zc (MNow 34)))) (lN (zc (MNow 43))))) 284 (1 + (2 * (zc (MNow 284))))) (lN (zc (MNow 301)))) MMost).2)) else ((zf_X9_mix ((zl_X9_digest_203 MNow (zc (MNow 301)) 0 (zf_X9_mix (zf_X9_mixAll MNow (zl_X9_digest_137 MNow (zc (MNow 43)) 0 (zf_X9_mix (zf_X9_mixAll MNow (zf_X9_mixAll MNow (zf_X9_mix (zf_X9_mix (zl_X9_digest_14 MNow 3 0 (2801 : Int64)) (0 : Int64)) ((zf_X9_overs MNow).toInt64)) 9 (1 + (3 * (zc (MNow 9))))) 34 (1 + (zc (MNow 34)))) (lN (zc (MNow 43))))) 284 (1 + (2 * (zc (MNow 284))))) (lN (zc (MNow 301)))) MMost).1) (lN MSav)), (0 : Int32), (zf_X9_mix ((zl_X9_digest_203 MNow (zc (MNow 301)) 0 (zf_X9_mix (zf_X9_mixAll MNow (zl_X9_digest_137 MNow (zc (MNow 43)) 0 (zf_X9_mix (zf_X9_mixAll MNow (zf_X9_mixAll MNow (zf_X9_mix (zf_X9_mix (zl_X9_digest_14 MNow 3 0 (2801 : Int64)) (0 : Int64)) ((zf_X9_overs MNow).toInt64)) 9 (1 + (3 * (zc (MNow 9))))) 34 (1 + (zc (MNow 34)))) (lN (zc (MNow 43))))) 284 (1 + (2 * (zc (MNow 284))))) (lN (zc (MNow 301)))) MMost).1) (lN MSav)), ((zl_X9_digest_203 MNow (zc (MNow 301)) 0 (zf_X9_mix (zf_X9_mixAll MNow (zl_X9_digest_137 MNow (zc (MNow 43)) 0 (zf_X9_mix (zf_X9_mixAll MNow (zf_X9_mixAll MNow (zf_X9_mix (zf_X9_mix (zl_X9_digest_14 MNow 3 0 (2801 : Int64)) (0 : Int64)) ((zf_X9_overs MNow).toInt64)) 9 (1 + (3 * (zc (MNow 9))))) 34 (1 + (zc (MNow 34)))) (lN (zc (MNow 43))))) 284 (1 + (2 * (zc (MNow 284))))) (lN (zc (MNow 301)))) MMost).2)))
theorem zf_X9_digest_e (MNow : Nat → Int64) (MSav : Nat) (MMost : Nat → Int32) : zf_X9_digest MNow MSav MMost = (if (zf_X9_isStill MNow) = true then ((zf_X9_mix ((zl_X9_digest_203 MNow (zc (MNow 301)) 0 (zf_X9_mix (zf_X9_mixAll MNow (zl_X9_digest_137 MNow (zc (MNow 43)) 0 (zf_X9_mix (zf_X9_mixAll MNow (zf_X9_mixAll MNow (zf_X9_mix (zf_X9_mix (zl_X9_digest_14 MNow 3 0 (2801 : Int64)) (1 : Int64)) ((zf_X9_overs MNow).toInt64)) 9 (1 + (3 * (zc (MNow 9))))) 34 (1 + (zc (MNow 34)))) (lN (zc (MNow 43))))) 284 (1 + (2 * (zc (MNow 284))))) (lN (zc (MNow 301)))) MMost).1) (lN MSav)), (0 : Int32), (zf_X9_mix ((zl_X9_digest_203 MNow (zc (MNow 301)) 0 (zf_X9_mix (zf_X9_mixAll MNow (zl_X9_digest_137 MNow (zc (MNow 43)) 0 (zf_X9_mix (zf_X9_mixAll MNow (zf_X9_mixAll MNow (zf_X9_mix (zf_X9_mix (zl_X9_digest_14 MNow 3 0 (2801 : Int64)) (1 : Int64)) ((zf_X9_overs MNow).toInt64)) 9 (1 + (3 * (zc (MNow 9))))) 34 (1 + (zc (MNow 34)))) (lN (zc (MNow 43))))) 284 (1 + (2 * (zc (MNow 284))))) (lN (zc (MNow 301)))) MMost).1) (lN MSav)), ((zl_X9_digest_203 MNow (zc (MNow 301)) 0 (zf_X9_mix (zf_X9_mixAll MNow (zl_X9_digest_137 MNow (zc (MNow 43)) 0 (zf_X9_mix (zf_X9_mixAll MNow (zf_X9_mixAll MNow (zf_X9_mix (zf_X9_mix (zl_X9_digest_14 MNow 3 0 (2801 : Int64)) (1 : Int64)) ((zf_X9_overs MNow).toInt64)) 9 (1 + (3 * (zc (MNow 9))))) 34 (1 + (zc (MNow 34)))) (lN (zc (MNow 43))))) 284 (1 + (2 * (zc (MNow 284))))) (lN (zc (MNow 301)))) MMost).2)) else ((zf_X9_mix ((zl_X9_digest_203 MNow (zc (MNow 301)) 0 (zf_X9_mix (zf_X9_mixAll MNow (zl_X9_digest_137 MNow (zc (MNow 43)) 0 (zf_X9_mix (zf_X9_mixAll MNow (zf_X9_mixAll MNow (zf_X9_mix (zf_X9_mix (zl_X9_digest_14 MNow 3 0 (2801 : Int64)) (0 : Int64)) ((zf_X9_overs MNow).toInt64)) 9 (1 + (3 * (zc (MNow 9))))) 34 (1 + (zc (MNow 34)))) (lN (zc (MNow 43))))) 284 (1 + (2 * (zc (MNow 284))))) (lN (zc (MNow 301)))) MMost).1) (lN MSav)), (0 : Int32), (zf_X9_mix ((zl_X9_digest_203 MNow (zc (MNow 301)) 0 (zf_X9_mix (zf_X9_mixAll MNow (zl_X9_digest_137 MNow (zc (MNow 43)) 0 (zf_X9_mix (zf_X9_mixAll MNow (zf_X9_mixAll MNow (zf_X9_mix (zf_X9_mix (zl_X9_digest_14 MNow 3 0 (2801 : Int64)) (0 : Int64)) ((zf_X9_overs MNow).toInt64)) 9 (1 + (3 * (zc (MNow 9))))) 34 (1 + (zc (MNow 34)))) (lN (zc (MNow 43))))) 284 (1 + (2 * (zc (MNow 284))))) (lN (zc (MNow 301)))) MMost).1) (lN MSav)), ((zl_X9_digest_203 MNow (zc (MNow 301)) 0 (zf_X9_mix (zf_X9_mixAll MNow (zl_X9_digest_137 MNow (zc (MNow 43)) 0 (zf_X9_mix (zf_X9_mixAll MNow (zf_X9_mixAll MNow (zf_X9_mix (zf_X9_mix (zl_X9_digest_14 MNow 3 0 (2801 : Int64)) (0 : Int64)) ((zf_X9_overs MNow).toInt64)) 9 (1 + (3 * (zc (MNow 9))))) 34 (1 + (zc (MNow 34)))) (lN (zc (MNow 43))))) 284 (1 + (2 * (zc (MNow 284))))) (lN (zc (MNow 301)))) MMost).2))) := rfl
set_option maxHeartbeats 4000000 in
set_option maxRecDepth 100000 in
theorem zc_X9_digest (l : Launch) (g : zG) (B : Nat) (md : Nat → Nat) (MNow : Nat → Int64) (MPast : Nat → Int64) (MSav : Nat) (MRef : Int32) (MThen : Nat → Int64) (MLev : Nat → Int64) (MFst : Int32) (MWay : Nat → Int64) (MMost : Nat → Int32) (MHash : Int64) (hN : zNow MNow) (hld : zLd MNow) (hs : MSav ≤ 4) : zMet l g B yX9_digest cX9_digest 2 (some .long) 6 260 0 0 [.ref (md 0)] [wMod g md MNow MPast MSav MRef MThen MLev MFst MWay MMost MHash] (zDet (some (.long ((zf_X9_digest MNow MSav MMost).1))) [wMod g md MNow MPast MSav ((zf_X9_digest MNow MSav MMost).2.1) MThen MLev MFst MWay ((zf_X9_digest MNow MSav MMost).2.2.2) ((zf_X9_digest MNow MSav MMost).2.2.1)]) := by
  refine z_in (plainFor_of_name (by decide)) (Nat.le_of_ble_eq_true rfl) (fun p e R s m args below meth c A Q hRf hRl hRc hRs X Z hnm E ls hl => ?_)
  have hx := X.1
  have hb := X.2.1
  have hown := X.2.2.2.1
  have hts := X.2.2.2.2.1
  have hl : lv_has ls 2 [(0, .ref (md 0))] := hl
  have hN2 := hN; obtain ⟨he9, hb9, he34, hb34, he43, hb43, he284, hb284, he301, hb301⟩ := hN2
  refine lv_aload_n hx hb dX9_digest_0 rfl (lv_at hl 0 rfl) ?_
  refine lv_iconst (v := (0 : Int32)) hx hb dX9_digest_1 (by decide) ?_
  refine z_put (cs2 := [wMod g md MNow MPast MSav (0 : Int32) MThen MLev MFst MWay MMost MHash]) (v := .int (0 : Int32)) X Z 0 rfl (rfl : zCl[7]? = some (RX9, TX9, 10)) zU_X9 tyX9 tyX9_ok nmX9 3 (by decide) wF_X9_38 rfl rfl rfl rfl (Nat.le_of_ble_eq_true rfl) rfl dX9_digest_2 (fun H locs Z => ?_)
  refine lv_aload_n hx hb dX9_digest_5 rfl (lv_at hl 0 rfl) ?_
  refine lv_ldc2 (v := (2801 : Int64)) hx hb hown (hts _ wL_X9_219) dX9_digest_6 ?_
  refine z_put (cs2 := [wMod g md MNow MPast MSav (0 : Int32) MThen MLev MFst MWay MMost (2801 : Int64)]) (v := .long (2801 : Int64)) X Z 0 rfl (rfl : zCl[7]? = some (RX9, TX9, 10)) zU_X9 tyX9 tyX9_ok nmX9 9 (by decide) wF_X9_211 rfl rfl rfl rfl (Nat.le_of_ble_eq_true rfl) rfl dX9_digest_9 (fun H locs Z => ?_)
  refine lv_iconst (v := (0 : Int32)) hx hb dX9_digest_12 (by decide) ?_
  refine lv_istore_n (lv' := [(1, .int (0 : Int32)), (0, .ref (md 0))]) hx hb dX9_digest_13 rfl hl (by decide) rfl (fun ls hl => ?_)
  have loop_14 : ∀ (n14 j14 : Nat) (h1 : Int64), j14 + n14 = 3 → zl_X9_digest_14 MNow n14 j14 h1 = (zl_X9_digest_14 MNow 3 0 (2801 : Int64)) → ∀ (H : Heap) (locs : List Loc), zM g B A s [wMod g md MNow MPast MSav (0 : Int32) MThen MLev MFst MWay MMost h1] H locs → ∀ ls : Array Slot, lv_has ls 2 [(1, .int (nI j14)), (0, .ref (md 0))] → W p l e R s m args below meth c H locs 0 0 Q (F0 m 14 ls []) := by
    intro n14
    induction n14 with
    | zero =>
      intro j14 h1 hin14 hR14 H locs Z ls hl
      have e_h1 : (zl_X9_digest_14 MNow 3 0 (2801 : Int64)) = h1 := hR14.symm
      subst e_h1
      refine lv_iload_n hx hb dX9_digest_14 rfl (lv_at hl 0 rfl) ?_
      refine lv_iconst (v := (3 : Int32)) hx hb dX9_digest_15 (by decide) ?_
      refine z_icmp_ge (a := j14) (b := 3) (tgt := 69) X rfl rfl (by omega) (by omega) dX9_digest_16 (by decide) (fun c_1 => ?_) (fun c_1 => ?_)
      · refine lv_aload_n hx hb dX9_digest_69 rfl (lv_at hl 1 rfl) ?_
        refine lv_aload_n hx hb dX9_digest_70 rfl (lv_at hl 1 rfl) ?_
        refine z_callV (mc := 0) (ms := 0) (As := []) (rest := [.ref (md 0)]) (st2 := [.int (zB (zf_X9_isStill MNow)), .ref (md 0)]) (cs2 := [wMod g md MNow MPast MSav (0 : Int32) MThen MLev MFst MWay MMost (zl_X9_digest_14 MNow 3 0 (2801 : Int64))]) X Z [0] [] [0] 0 7 (zc_X9_isStill l g B md MNow MPast MSav (0 : Int32) MThen MLev MFst MWay MMost (zl_X9_digest_14 MNow 3 0 (2801 : Int64)) (by first | assumption | omega | decide)) wM_X9_108 wS_X9_isStill wV_X9_isStill wK_X9_isStill wZ_X9 0 1 1 rfl (by decide +kernel) rfl (by decide) rfl rfl rfl (by decide) rfl rfl (rfl : zCl[7]? = some (RX9, TX9, 10)) hl.1 rfl rfl (by rw [hRf, hRl]; exact ⟨Nat.le_of_ble_eq_true rfl, Nat.le_of_ble_eq_true rfl⟩) (Nat.le_of_ble_eq_true rfl) ⟨Nat.zero_le _, Nat.zero_le _⟩ dX9_digest_71 (fun H locs Z => ?_)
        refine z_ifeqB (b := (zf_X9_isStill MNow)) (tgt := 81) X dX9_digest_74 (by decide) (fun c_2 => ?_) (fun c_2 => ?_)
        · refine lv_lconst (v := (0 : Int64)) hx hb dX9_digest_81 (by decide) ?_
          refine z_callV (mc := 0) (ms := 0) (As := [.long (0 : Int64)]) (rest := []) (st2 := []) (cs2 := [wMod g md MNow MPast MSav (0 : Int32) MThen MLev MFst MWay MMost (zf_X9_mix (zl_X9_digest_14 MNow 3 0 (2801 : Int64)) (0 : Int64))]) X Z [0] [] [0] 0 7 (zc_X9_mix l g B md MNow MPast MSav (0 : Int32) MThen MLev MFst MWay MMost (zl_X9_digest_14 MNow 3 0 (2801 : Int64)) (0 : Int64)) wM_X9_215 wS_X9_mix wV_X9_mix wK_X9_mix wZ_X9 1 1 1 rfl (by decide +kernel) rfl (by decide) rfl rfl rfl (by decide) rfl rfl (rfl : zCl[7]? = some (RX9, TX9, 10)) hl.1 rfl rfl (by rw [hRf, hRl]; exact ⟨Nat.le_of_ble_eq_true rfl, Nat.le_of_ble_eq_true rfl⟩) (Nat.le_of_ble_eq_true rfl) ⟨Nat.zero_le _, Nat.zero_le _⟩ dX9_digest_82 (fun H locs Z => ?_)
          refine lv_aload_n hx hb dX9_digest_85 rfl (lv_at hl 1 rfl) ?_
          refine lv_aload_n hx hb dX9_digest_86 rfl (lv_at hl 1 rfl) ?_
          refine z_callV (mc := 0) (ms := 0) (As := []) (rest := [.ref (md 0)]) (st2 := [.int (zf_X9_overs MNow), .ref (md 0)]) (cs2 := [wMod g md MNow MPast MSav (0 : Int32) MThen MLev MFst MWay MMost (zf_X9_mix (zl_X9_digest_14 MNow 3 0 (2801 : Int64)) (0 : Int64))]) X Z [0] [] [0] 0 7 (zc_X9_overs l g B md MNow MPast MSav (0 : Int32) MThen MLev MFst MWay MMost (zf_X9_mix (zl_X9_digest_14 MNow 3 0 (2801 : Int64)) (0 : Int64)) (by first | assumption | omega | decide)) wM_X9_115 wS_X9_overs wV_X9_overs wK_X9_overs wZ_X9 0 1 1 rfl (by decide +kernel) rfl (by decide) rfl rfl rfl (by decide) rfl rfl (rfl : zCl[7]? = some (RX9, TX9, 10)) hl.1 rfl rfl (by rw [hRf, hRl]; exact ⟨Nat.le_of_ble_eq_true rfl, Nat.le_of_ble_eq_true rfl⟩) (Nat.le_of_ble_eq_true rfl) ⟨Nat.zero_le _, Nat.zero_le _⟩ dX9_digest_87 (fun H locs Z => ?_)
          refine lv_i2l hx hb dX9_digest_90 rfl ?_
          refine z_callV (mc := 0) (ms := 0) (As := [.long ((zf_X9_overs MNow).toInt64)]) (rest := []) (st2 := []) (cs2 := [wMod g md MNow MPast MSav (0 : Int32) MThen MLev MFst MWay MMost (zf_X9_mix (zf_X9_mix (zl_X9_digest_14 MNow 3 0 (2801 : Int64)) (0 : Int64)) ((zf_X9_overs MNow).toInt64))]) X Z [0] [] [0] 0 7 (zc_X9_mix l g B md MNow MPast MSav (0 : Int32) MThen MLev MFst MWay MMost (zf_X9_mix (zl_X9_digest_14 MNow 3 0 (2801 : Int64)) (0 : Int64)) ((zf_X9_overs MNow).toInt64)) wM_X9_215 wS_X9_mix wV_X9_mix wK_X9_mix wZ_X9 1 1 1 rfl (by decide +kernel) rfl (by decide) rfl rfl rfl (by decide) rfl rfl (rfl : zCl[7]? = some (RX9, TX9, 10)) hl.1 rfl rfl (by rw [hRf, hRl]; exact ⟨Nat.le_of_ble_eq_true rfl, Nat.le_of_ble_eq_true rfl⟩) (Nat.le_of_ble_eq_true rfl) ⟨Nat.zero_le _, Nat.zero_le _⟩ dX9_digest_91 (fun H locs Z => ?_)
          refine lv_aload_n hx hb dX9_digest_94 rfl (lv_at hl 1 rfl) ?_
          refine lv_bipush (v := (9 : Int32)) hx hb dX9_digest_95 (by decide) ?_
          refine lv_iconst (v := (1 : Int32)) hx hb dX9_digest_97 (by decide) ?_
          refine lv_iconst (v := (3 : Int32)) hx hb dX9_digest_98 (by decide) ?_
          refine lv_aload_n hx hb dX9_digest_99 rfl (lv_at hl 1 rfl) ?_
          refine lv_bipush (v := (9 : Int32)) hx hb dX9_digest_100 (by decide) ?_
          refine z_callV (mc := 0) (ms := 0) (As := [.int (9 : Int32)]) (rest := [.int (3 : Int32), .int (1 : Int32), .int (9 : Int32), .ref (md 0)]) (st2 := [.int (nI (zc (MNow 9))), .int (3 : Int32), .int (1 : Int32), .int (9 : Int32), .ref (md 0)]) (cs2 := [wMod g md MNow MPast MSav (0 : Int32) MThen MLev MFst MWay MMost (zf_X9_mix (zf_X9_mix (zl_X9_digest_14 MNow 3 0 (2801 : Int64)) (0 : Int64)) ((zf_X9_overs MNow).toInt64))]) X Z [0] [] [0] 0 7 (zc_X9_many l g B md MNow MPast MSav (0 : Int32) MThen MLev MFst MWay MMost (zf_X9_mix (zf_X9_mix (zl_X9_digest_14 MNow 3 0 (2801 : Int64)) (0 : Int64)) ((zf_X9_overs MNow).toInt64)) 9 (zc (MNow 9)) (by first | assumption | omega | decide) (by first | assumption | omega | decide)) wM_X9_66 wS_X9_many wV_X9_many wK_X9_many wZ_X9 1 1 1 rfl (by decide +kernel) rfl (by decide) rfl rfl rfl (by decide) rfl rfl (rfl : zCl[7]? = some (RX9, TX9, 10)) hl.1 rfl rfl (by rw [hRf, hRl]; exact ⟨Nat.le_of_ble_eq_true rfl, Nat.le_of_ble_eq_true rfl⟩) (Nat.le_of_ble_eq_true rfl) ⟨Nat.zero_le _, Nat.zero_le _⟩ dX9_digest_102 (fun H locs Z => ?_)
          refine z_imul (a := 3) (b := (zc (MNow 9))) X rfl rfl dX9_digest_105 ?_
          refine z_iadd (a := 1) (b := (3 * (zc (MNow 9)))) X rfl rfl dX9_digest_106 ?_
          refine z_callV (mc := 0) (ms := 0) (As := [.int (9 : Int32), .int (nI (1 + (3 * (zc (MNow 9)))))]) (rest := []) (st2 := []) (cs2 := [wMod g md MNow MPast MSav (0 : Int32) MThen MLev MFst MWay MMost (zf_X9_mixAll MNow (zf_X9_mix (zf_X9_mix (zl_X9_digest_14 MNow 3 0 (2801 : Int64)) (0 : Int64)) ((zf_X9_overs MNow).toInt64)) 9 (1 + (3 * (zc (MNow 9)))))]) X Z [0] [] [0] 0 7 (zc_X9_mixAll l g B md MNow MPast MSav (0 : Int32) MThen MLev MFst MWay MMost (zf_X9_mix (zf_X9_mix (zl_X9_digest_14 MNow 3 0 (2801 : Int64)) (0 : Int64)) ((zf_X9_overs MNow).toInt64)) 9 (1 + (3 * (zc (MNow 9)))) (by first | assumption | omega | decide)) wM_X9_221 wS_X9_mixAll wV_X9_mixAll wK_X9_mixAll wZ_X9 2 1 1 rfl (by decide +kernel) rfl (by decide) rfl rfl rfl (by decide) rfl rfl (rfl : zCl[7]? = some (RX9, TX9, 10)) hl.1 rfl rfl (by rw [hRf, hRl]; exact ⟨Nat.le_of_ble_eq_true rfl, Nat.le_of_ble_eq_true rfl⟩) (Nat.le_of_ble_eq_true rfl) ⟨Nat.zero_le _, Nat.zero_le _⟩ dX9_digest_107 (fun H locs Z => ?_)
          refine lv_aload_n hx hb dX9_digest_110 rfl (lv_at hl 1 rfl) ?_
          refine lv_bipush (v := (34 : Int32)) hx hb dX9_digest_111 (by decide) ?_
          refine lv_iconst (v := (1 : Int32)) hx hb dX9_digest_113 (by decide) ?_
          refine lv_aload_n hx hb dX9_digest_114 rfl (lv_at hl 1 rfl) ?_
          refine lv_bipush (v := (34 : Int32)) hx hb dX9_digest_115 (by decide) ?_
          refine z_callV (mc := 0) (ms := 0) (As := [.int (34 : Int32)]) (rest := [.int (1 : Int32), .int (34 : Int32), .ref (md 0)]) (st2 := [.int (nI (zc (MNow 34))), .int (1 : Int32), .int (34 : Int32), .ref (md 0)]) (cs2 := [wMod g md MNow MPast MSav (0 : Int32) MThen MLev MFst MWay MMost (zf_X9_mixAll MNow (zf_X9_mix (zf_X9_mix (zl_X9_digest_14 MNow 3 0 (2801 : Int64)) (0 : Int64)) ((zf_X9_overs MNow).toInt64)) 9 (1 + (3 * (zc (MNow 9)))))]) X Z [0] [] [0] 0 7 (zc_X9_many l g B md MNow MPast MSav (0 : Int32) MThen MLev MFst MWay MMost (zf_X9_mixAll MNow (zf_X9_mix (zf_X9_mix (zl_X9_digest_14 MNow 3 0 (2801 : Int64)) (0 : Int64)) ((zf_X9_overs MNow).toInt64)) 9 (1 + (3 * (zc (MNow 9))))) 34 (zc (MNow 34)) (by first | assumption | omega | decide) (by first | assumption | omega | decide)) wM_X9_66 wS_X9_many wV_X9_many wK_X9_many wZ_X9 1 1 1 rfl (by decide +kernel) rfl (by decide) rfl rfl rfl (by decide) rfl rfl (rfl : zCl[7]? = some (RX9, TX9, 10)) hl.1 rfl rfl (by rw [hRf, hRl]; exact ⟨Nat.le_of_ble_eq_true rfl, Nat.le_of_ble_eq_true rfl⟩) (Nat.le_of_ble_eq_true rfl) ⟨Nat.zero_le _, Nat.zero_le _⟩ dX9_digest_117 (fun H locs Z => ?_)
          refine z_iadd (a := 1) (b := (zc (MNow 34))) X rfl rfl dX9_digest_120 ?_
          refine z_callV (mc := 0) (ms := 0) (As := [.int (34 : Int32), .int (nI (1 + (zc (MNow 34))))]) (rest := []) (st2 := []) (cs2 := [wMod g md MNow MPast MSav (0 : Int32) MThen MLev MFst MWay MMost (zf_X9_mixAll MNow (zf_X9_mixAll MNow (zf_X9_mix (zf_X9_mix (zl_X9_digest_14 MNow 3 0 (2801 : Int64)) (0 : Int64)) ((zf_X9_overs MNow).toInt64)) 9 (1 + (3 * (zc (MNow 9))))) 34 (1 + (zc (MNow 34))))]) X Z [0] [] [0] 0 7 (zc_X9_mixAll l g B md MNow MPast MSav (0 : Int32) MThen MLev MFst MWay MMost (zf_X9_mixAll MNow (zf_X9_mix (zf_X9_mix (zl_X9_digest_14 MNow 3 0 (2801 : Int64)) (0 : Int64)) ((zf_X9_overs MNow).toInt64)) 9 (1 + (3 * (zc (MNow 9))))) 34 (1 + (zc (MNow 34))) (by first | assumption | omega | decide)) wM_X9_221 wS_X9_mixAll wV_X9_mixAll wK_X9_mixAll wZ_X9 2 1 1 rfl (by decide +kernel) rfl (by decide) rfl rfl rfl (by decide) rfl rfl (rfl : zCl[7]? = some (RX9, TX9, 10)) hl.1 rfl rfl (by rw [hRf, hRl]; exact ⟨Nat.le_of_ble_eq_true rfl, Nat.le_of_ble_eq_true rfl⟩) (Nat.le_of_ble_eq_true rfl) ⟨Nat.zero_le _, Nat.zero_le _⟩ dX9_digest_121 (fun H locs Z => ?_)
          refine lv_aload_n hx hb dX9_digest_124 rfl (lv_at hl 1 rfl) ?_
          refine lv_aload_n hx hb dX9_digest_125 rfl (lv_at hl 1 rfl) ?_
          refine lv_bipush (v := (43 : Int32)) hx hb dX9_digest_126 (by decide) ?_
          refine z_callV (mc := 0) (ms := 0) (As := [.int (43 : Int32)]) (rest := [.ref (md 0)]) (st2 := [.int (nI (zc (MNow 43))), .ref (md 0)]) (cs2 := [wMod g md MNow MPast MSav (0 : Int32) MThen MLev MFst MWay MMost (zf_X9_mixAll MNow (zf_X9_mixAll MNow (zf_X9_mix (zf_X9_mix (zl_X9_digest_14 MNow 3 0 (2801 : Int64)) (0 : Int64)) ((zf_X9_overs MNow).toInt64)) 9 (1 + (3 * (zc (MNow 9))))) 34 (1 + (zc (MNow 34))))]) X Z [0] [] [0] 0 7 (zc_X9_many l g B md MNow MPast MSav (0 : Int32) MThen MLev MFst MWay MMost (zf_X9_mixAll MNow (zf_X9_mixAll MNow (zf_X9_mix (zf_X9_mix (zl_X9_digest_14 MNow 3 0 (2801 : Int64)) (0 : Int64)) ((zf_X9_overs MNow).toInt64)) 9 (1 + (3 * (zc (MNow 9))))) 34 (1 + (zc (MNow 34)))) 43 (zc (MNow 43)) (by first | assumption | omega | decide) (by first | assumption | omega | decide)) wM_X9_66 wS_X9_many wV_X9_many wK_X9_many wZ_X9 1 1 1 rfl (by decide +kernel) rfl (by decide) rfl rfl rfl (by decide) rfl rfl (rfl : zCl[7]? = some (RX9, TX9, 10)) hl.1 rfl rfl (by rw [hRf, hRl]; exact ⟨Nat.le_of_ble_eq_true rfl, Nat.le_of_ble_eq_true rfl⟩) (Nat.le_of_ble_eq_true rfl) ⟨Nat.zero_le _, Nat.zero_le _⟩ dX9_digest_128 (fun H locs Z => ?_)
          refine z_i2l (a := (zc (MNow 43))) X rfl (by omega) dX9_digest_131 ?_
          refine z_callV (mc := 0) (ms := 0) (As := [.long (lN (zc (MNow 43)))]) (rest := []) (st2 := []) (cs2 := [wMod g md MNow MPast MSav (0 : Int32) MThen MLev MFst MWay MMost (zf_X9_mix (zf_X9_mixAll MNow (zf_X9_mixAll MNow (zf_X9_mix (zf_X9_mix (zl_X9_digest_14 MNow 3 0 (2801 : Int64)) (0 : Int64)) ((zf_X9_overs MNow).toInt64)) 9 (1 + (3 * (zc (MNow 9))))) 34 (1 + (zc (MNow 34)))) (lN (zc (MNow 43))))]) X Z [0] [] [0] 0 7 (zc_X9_mix l g B md MNow MPast MSav (0 : Int32) MThen MLev MFst MWay MMost (zf_X9_mixAll MNow (zf_X9_mixAll MNow (zf_X9_mix (zf_X9_mix (zl_X9_digest_14 MNow 3 0 (2801 : Int64)) (0 : Int64)) ((zf_X9_overs MNow).toInt64)) 9 (1 + (3 * (zc (MNow 9))))) 34 (1 + (zc (MNow 34)))) (lN (zc (MNow 43)))) wM_X9_215 wS_X9_mix wV_X9_mix wK_X9_mix wZ_X9 1 1 1 rfl (by decide +kernel) rfl (by decide) rfl rfl rfl (by decide) rfl rfl (rfl : zCl[7]? = some (RX9, TX9, 10)) hl.1 rfl rfl (by rw [hRf, hRl]; exact ⟨Nat.le_of_ble_eq_true rfl, Nat.le_of_ble_eq_true rfl⟩) (Nat.le_of_ble_eq_true rfl) ⟨Nat.zero_le _, Nat.zero_le _⟩ dX9_digest_132 (fun H locs Z => ?_)
          refine lv_iconst (v := (0 : Int32)) hx hb dX9_digest_135 (by decide) ?_
          refine lv_istore_n (lv' := [(1, .int (0 : Int32)), (0, .ref (md 0))]) hx hb dX9_digest_136 rfl hl (by decide) rfl (fun ls hl => ?_)
          have loop_137 : ∀ (n137 j137 : Nat) (h2 : Int64), j137 + n137 = (zc (MNow 43)) → zl_X9_digest_137 MNow n137 j137 h2 = (zl_X9_digest_137 MNow (zc (MNow 43)) 0 (zf_X9_mix (zf_X9_mixAll MNow (zf_X9_mixAll MNow (zf_X9_mix (zf_X9_mix (zl_X9_digest_14 MNow 3 0 (2801 : Int64)) (0 : Int64)) ((zf_X9_overs MNow).toInt64)) 9 (1 + (3 * (zc (MNow 9))))) 34 (1 + (zc (MNow 34)))) (lN (zc (MNow 43))))) → ∀ (H : Heap) (locs : List Loc), zM g B A s [wMod g md MNow MPast MSav (0 : Int32) MThen MLev MFst MWay MMost h2] H locs → ∀ ls : Array Slot, lv_has ls 2 [(1, .int (nI j137)), (0, .ref (md 0))] → W p l e R s m args below meth c H locs 0 0 Q (F0 m 137 ls []) := by
            intro n137
            induction n137 with
            | zero =>
              intro j137 h2 hin137 hR137 H locs Z ls hl
              have e_h2 : (zl_X9_digest_137 MNow (zc (MNow 43)) 0 (zf_X9_mix (zf_X9_mixAll MNow (zf_X9_mixAll MNow (zf_X9_mix (zf_X9_mix (zl_X9_digest_14 MNow 3 0 (2801 : Int64)) (0 : Int64)) ((zf_X9_overs MNow).toInt64)) 9 (1 + (3 * (zc (MNow 9))))) 34 (1 + (zc (MNow 34)))) (lN (zc (MNow 43))))) = h2 := hR137.symm
              subst e_h2
              refine lv_iload_n hx hb dX9_digest_137 rfl (lv_at hl 0 rfl) ?_
              refine lv_aload_n hx hb dX9_digest_138 rfl (lv_at hl 1 rfl) ?_
              refine lv_bipush (v := (43 : Int32)) hx hb dX9_digest_139 (by decide) ?_
              refine z_callV (mc := 0) (ms := 0) (As := [.int (43 : Int32)]) (rest := [.int (nI j137)]) (st2 := [.int (nI (zc (MNow 43))), .int (nI j137)]) (cs2 := [wMod g md MNow MPast MSav (0 : Int32) MThen MLev MFst MWay MMost (zl_X9_digest_137 MNow (zc (MNow 43)) 0 (zf_X9_mix (zf_X9_mixAll MNow (zf_X9_mixAll MNow (zf_X9_mix (zf_X9_mix (zl_X9_digest_14 MNow 3 0 (2801 : Int64)) (0 : Int64)) ((zf_X9_overs MNow).toInt64)) 9 (1 + (3 * (zc (MNow 9))))) 34 (1 + (zc (MNow 34)))) (lN (zc (MNow 43)))))]) X Z [0] [] [0] 0 7 (zc_X9_many l g B md MNow MPast MSav (0 : Int32) MThen MLev MFst MWay MMost (zl_X9_digest_137 MNow (zc (MNow 43)) 0 (zf_X9_mix (zf_X9_mixAll MNow (zf_X9_mixAll MNow (zf_X9_mix (zf_X9_mix (zl_X9_digest_14 MNow 3 0 (2801 : Int64)) (0 : Int64)) ((zf_X9_overs MNow).toInt64)) 9 (1 + (3 * (zc (MNow 9))))) 34 (1 + (zc (MNow 34)))) (lN (zc (MNow 43))))) 43 (zc (MNow 43)) (by first | assumption | omega | decide) (by first | assumption | omega | decide)) wM_X9_66 wS_X9_many wV_X9_many wK_X9_many wZ_X9 1 1 1 rfl (by decide +kernel) rfl (by decide) rfl rfl rfl (by decide) rfl rfl (rfl : zCl[7]? = some (RX9, TX9, 10)) hl.1 rfl rfl (by rw [hRf, hRl]; exact ⟨Nat.le_of_ble_eq_true rfl, Nat.le_of_ble_eq_true rfl⟩) (Nat.le_of_ble_eq_true rfl) ⟨Nat.zero_le _, Nat.zero_le _⟩ dX9_digest_141 (fun H locs Z => ?_)
              refine z_icmp_ge (a := j137) (b := (zc (MNow 43))) (tgt := 171) X rfl rfl (by omega) (by omega) dX9_digest_144 (by decide) (fun c_3 => ?_) (fun c_3 => ?_)
              · refine lv_aload_n hx hb dX9_digest_171 rfl (lv_at hl 1 rfl) ?_
                refine lv_sipush (v := (284 : Int32)) hx hb dX9_digest_172 (by decide) ?_
                refine lv_iconst (v := (1 : Int32)) hx hb dX9_digest_175 (by decide) ?_
                refine lv_iconst (v := (2 : Int32)) hx hb dX9_digest_176 (by decide) ?_
                refine lv_aload_n hx hb dX9_digest_177 rfl (lv_at hl 1 rfl) ?_
                refine lv_sipush (v := (284 : Int32)) hx hb dX9_digest_178 (by decide) ?_
                refine z_callV (mc := 0) (ms := 0) (As := [.int (284 : Int32)]) (rest := [.int (2 : Int32), .int (1 : Int32), .int (284 : Int32), .ref (md 0)]) (st2 := [.int (nI (zc (MNow 284))), .int (2 : Int32), .int (1 : Int32), .int (284 : Int32), .ref (md 0)]) (cs2 := [wMod g md MNow MPast MSav (0 : Int32) MThen MLev MFst MWay MMost (zl_X9_digest_137 MNow (zc (MNow 43)) 0 (zf_X9_mix (zf_X9_mixAll MNow (zf_X9_mixAll MNow (zf_X9_mix (zf_X9_mix (zl_X9_digest_14 MNow 3 0 (2801 : Int64)) (0 : Int64)) ((zf_X9_overs MNow).toInt64)) 9 (1 + (3 * (zc (MNow 9))))) 34 (1 + (zc (MNow 34)))) (lN (zc (MNow 43)))))]) X Z [0] [] [0] 0 7 (zc_X9_many l g B md MNow MPast MSav (0 : Int32) MThen MLev MFst MWay MMost (zl_X9_digest_137 MNow (zc (MNow 43)) 0 (zf_X9_mix (zf_X9_mixAll MNow (zf_X9_mixAll MNow (zf_X9_mix (zf_X9_mix (zl_X9_digest_14 MNow 3 0 (2801 : Int64)) (0 : Int64)) ((zf_X9_overs MNow).toInt64)) 9 (1 + (3 * (zc (MNow 9))))) 34 (1 + (zc (MNow 34)))) (lN (zc (MNow 43))))) 284 (zc (MNow 284)) (by first | assumption | omega | decide) (by first | assumption | omega | decide)) wM_X9_66 wS_X9_many wV_X9_many wK_X9_many wZ_X9 1 1 1 rfl (by decide +kernel) rfl (by decide) rfl rfl rfl (by decide) rfl rfl (rfl : zCl[7]? = some (RX9, TX9, 10)) hl.1 rfl rfl (by rw [hRf, hRl]; exact ⟨Nat.le_of_ble_eq_true rfl, Nat.le_of_ble_eq_true rfl⟩) (Nat.le_of_ble_eq_true rfl) ⟨Nat.zero_le _, Nat.zero_le _⟩ dX9_digest_181 (fun H locs Z => ?_)
                refine z_imul (a := 2) (b := (zc (MNow 284))) X rfl rfl dX9_digest_184 ?_
                refine z_iadd (a := 1) (b := (2 * (zc (MNow 284)))) X rfl rfl dX9_digest_185 ?_
                refine z_callV (mc := 0) (ms := 0) (As := [.int (284 : Int32), .int (nI (1 + (2 * (zc (MNow 284)))))]) (rest := []) (st2 := []) (cs2 := [wMod g md MNow MPast MSav (0 : Int32) MThen MLev MFst MWay MMost (zf_X9_mixAll MNow (zl_X9_digest_137 MNow (zc (MNow 43)) 0 (zf_X9_mix (zf_X9_mixAll MNow (zf_X9_mixAll MNow (zf_X9_mix (zf_X9_mix (zl_X9_digest_14 MNow 3 0 (2801 : Int64)) (0 : Int64)) ((zf_X9_overs MNow).toInt64)) 9 (1 + (3 * (zc (MNow 9))))) 34 (1 + (zc (MNow 34)))) (lN (zc (MNow 43))))) 284 (1 + (2 * (zc (MNow 284)))))]) X Z [0] [] [0] 0 7 (zc_X9_mixAll l g B md MNow MPast MSav (0 : Int32) MThen MLev MFst MWay MMost (zl_X9_digest_137 MNow (zc (MNow 43)) 0 (zf_X9_mix (zf_X9_mixAll MNow (zf_X9_mixAll MNow (zf_X9_mix (zf_X9_mix (zl_X9_digest_14 MNow 3 0 (2801 : Int64)) (0 : Int64)) ((zf_X9_overs MNow).toInt64)) 9 (1 + (3 * (zc (MNow 9))))) 34 (1 + (zc (MNow 34)))) (lN (zc (MNow 43))))) 284 (1 + (2 * (zc (MNow 284)))) (by first | assumption | omega | decide)) wM_X9_221 wS_X9_mixAll wV_X9_mixAll wK_X9_mixAll wZ_X9 2 1 1 rfl (by decide +kernel) rfl (by decide) rfl rfl rfl (by decide) rfl rfl (rfl : zCl[7]? = some (RX9, TX9, 10)) hl.1 rfl rfl (by rw [hRf, hRl]; exact ⟨Nat.le_of_ble_eq_true rfl, Nat.le_of_ble_eq_true rfl⟩) (Nat.le_of_ble_eq_true rfl) ⟨Nat.zero_le _, Nat.zero_le _⟩ dX9_digest_186 (fun H locs Z => ?_)
                refine lv_aload_n hx hb dX9_digest_189 rfl (lv_at hl 1 rfl) ?_
                refine lv_aload_n hx hb dX9_digest_190 rfl (lv_at hl 1 rfl) ?_
                refine lv_sipush (v := (301 : Int32)) hx hb dX9_digest_191 (by decide) ?_
                refine z_callV (mc := 0) (ms := 0) (As := [.int (301 : Int32)]) (rest := [.ref (md 0)]) (st2 := [.int (nI (zc (MNow 301))), .ref (md 0)]) (cs2 := [wMod g md MNow MPast MSav (0 : Int32) MThen MLev MFst MWay MMost (zf_X9_mixAll MNow (zl_X9_digest_137 MNow (zc (MNow 43)) 0 (zf_X9_mix (zf_X9_mixAll MNow (zf_X9_mixAll MNow (zf_X9_mix (zf_X9_mix (zl_X9_digest_14 MNow 3 0 (2801 : Int64)) (0 : Int64)) ((zf_X9_overs MNow).toInt64)) 9 (1 + (3 * (zc (MNow 9))))) 34 (1 + (zc (MNow 34)))) (lN (zc (MNow 43))))) 284 (1 + (2 * (zc (MNow 284)))))]) X Z [0] [] [0] 0 7 (zc_X9_many l g B md MNow MPast MSav (0 : Int32) MThen MLev MFst MWay MMost (zf_X9_mixAll MNow (zl_X9_digest_137 MNow (zc (MNow 43)) 0 (zf_X9_mix (zf_X9_mixAll MNow (zf_X9_mixAll MNow (zf_X9_mix (zf_X9_mix (zl_X9_digest_14 MNow 3 0 (2801 : Int64)) (0 : Int64)) ((zf_X9_overs MNow).toInt64)) 9 (1 + (3 * (zc (MNow 9))))) 34 (1 + (zc (MNow 34)))) (lN (zc (MNow 43))))) 284 (1 + (2 * (zc (MNow 284))))) 301 (zc (MNow 301)) (by first | assumption | omega | decide) (by first | assumption | omega | decide)) wM_X9_66 wS_X9_many wV_X9_many wK_X9_many wZ_X9 1 1 1 rfl (by decide +kernel) rfl (by decide) rfl rfl rfl (by decide) rfl rfl (rfl : zCl[7]? = some (RX9, TX9, 10)) hl.1 rfl rfl (by rw [hRf, hRl]; exact ⟨Nat.le_of_ble_eq_true rfl, Nat.le_of_ble_eq_true rfl⟩) (Nat.le_of_ble_eq_true rfl) ⟨Nat.zero_le _, Nat.zero_le _⟩ dX9_digest_194 (fun H locs Z => ?_)
                refine z_i2l (a := (zc (MNow 301))) X rfl (by omega) dX9_digest_197 ?_
                refine z_callV (mc := 0) (ms := 0) (As := [.long (lN (zc (MNow 301)))]) (rest := []) (st2 := []) (cs2 := [wMod g md MNow MPast MSav (0 : Int32) MThen MLev MFst MWay MMost (zf_X9_mix (zf_X9_mixAll MNow (zl_X9_digest_137 MNow (zc (MNow 43)) 0 (zf_X9_mix (zf_X9_mixAll MNow (zf_X9_mixAll MNow (zf_X9_mix (zf_X9_mix (zl_X9_digest_14 MNow 3 0 (2801 : Int64)) (0 : Int64)) ((zf_X9_overs MNow).toInt64)) 9 (1 + (3 * (zc (MNow 9))))) 34 (1 + (zc (MNow 34)))) (lN (zc (MNow 43))))) 284 (1 + (2 * (zc (MNow 284))))) (lN (zc (MNow 301))))]) X Z [0] [] [0] 0 7 (zc_X9_mix l g B md MNow MPast MSav (0 : Int32) MThen MLev MFst MWay MMost (zf_X9_mixAll MNow (zl_X9_digest_137 MNow (zc (MNow 43)) 0 (zf_X9_mix (zf_X9_mixAll MNow (zf_X9_mixAll MNow (zf_X9_mix (zf_X9_mix (zl_X9_digest_14 MNow 3 0 (2801 : Int64)) (0 : Int64)) ((zf_X9_overs MNow).toInt64)) 9 (1 + (3 * (zc (MNow 9))))) 34 (1 + (zc (MNow 34)))) (lN (zc (MNow 43))))) 284 (1 + (2 * (zc (MNow 284))))) (lN (zc (MNow 301)))) wM_X9_215 wS_X9_mix wV_X9_mix wK_X9_mix wZ_X9 1 1 1 rfl (by decide +kernel) rfl (by decide) rfl rfl rfl (by decide) rfl rfl (rfl : zCl[7]? = some (RX9, TX9, 10)) hl.1 rfl rfl (by rw [hRf, hRl]; exact ⟨Nat.le_of_ble_eq_true rfl, Nat.le_of_ble_eq_true rfl⟩) (Nat.le_of_ble_eq_true rfl) ⟨Nat.zero_le _, Nat.zero_le _⟩ dX9_digest_198 (fun H locs Z => ?_)
                refine lv_iconst (v := (0 : Int32)) hx hb dX9_digest_201 (by decide) ?_
                refine lv_istore_n (lv' := [(1, .int (0 : Int32)), (0, .ref (md 0))]) hx hb dX9_digest_202 rfl hl (by decide) rfl (fun ls hl => ?_)
                have loop_203 : ∀ (n203 j203 : Nat) (h3 : Int64) (m3 : Nat → Int32), j203 + n203 = (zc (MNow 301)) → zl_X9_digest_203 MNow n203 j203 h3 m3 = (zl_X9_digest_203 MNow (zc (MNow 301)) 0 (zf_X9_mix (zf_X9_mixAll MNow (zl_X9_digest_137 MNow (zc (MNow 43)) 0 (zf_X9_mix (zf_X9_mixAll MNow (zf_X9_mixAll MNow (zf_X9_mix (zf_X9_mix (zl_X9_digest_14 MNow 3 0 (2801 : Int64)) (0 : Int64)) ((zf_X9_overs MNow).toInt64)) 9 (1 + (3 * (zc (MNow 9))))) 34 (1 + (zc (MNow 34)))) (lN (zc (MNow 43))))) 284 (1 + (2 * (zc (MNow 284))))) (lN (zc (MNow 301)))) MMost) → ∀ (H : Heap) (locs : List Loc), zM g B A s [wMod g md MNow MPast MSav (0 : Int32) MThen MLev MFst MWay m3 h3] H locs → ∀ ls : Array Slot, lv_has ls 2 [(1, .int (nI j203)), (0, .ref (md 0))] → W p l e R s m args below meth c H locs 0 0 Q (F0 m 203 ls []) := by
                  intro n203
                  induction n203 with
                  | zero =>
                    intro j203 h3 m3 hin203 hR203 H locs Z ls hl
                    have e_h3 : (zl_X9_digest_203 MNow (zc (MNow 301)) 0 (zf_X9_mix (zf_X9_mixAll MNow (zl_X9_digest_137 MNow (zc (MNow 43)) 0 (zf_X9_mix (zf_X9_mixAll MNow (zf_X9_mixAll MNow (zf_X9_mix (zf_X9_mix (zl_X9_digest_14 MNow 3 0 (2801 : Int64)) (0 : Int64)) ((zf_X9_overs MNow).toInt64)) 9 (1 + (3 * (zc (MNow 9))))) 34 (1 + (zc (MNow 34)))) (lN (zc (MNow 43))))) 284 (1 + (2 * (zc (MNow 284))))) (lN (zc (MNow 301)))) MMost).1 = h3 := (by rw [← hR203]; rfl)
                    have e_m3 : (zl_X9_digest_203 MNow (zc (MNow 301)) 0 (zf_X9_mix (zf_X9_mixAll MNow (zl_X9_digest_137 MNow (zc (MNow 43)) 0 (zf_X9_mix (zf_X9_mixAll MNow (zf_X9_mixAll MNow (zf_X9_mix (zf_X9_mix (zl_X9_digest_14 MNow 3 0 (2801 : Int64)) (0 : Int64)) ((zf_X9_overs MNow).toInt64)) 9 (1 + (3 * (zc (MNow 9))))) 34 (1 + (zc (MNow 34)))) (lN (zc (MNow 43))))) 284 (1 + (2 * (zc (MNow 284))))) (lN (zc (MNow 301)))) MMost).2 = m3 := (by rw [← hR203]; rfl)
                    subst e_h3
                    subst e_m3
                    refine lv_iload_n hx hb dX9_digest_203 rfl (lv_at hl 0 rfl) ?_
                    refine lv_aload_n hx hb dX9_digest_204 rfl (lv_at hl 1 rfl) ?_
                    refine lv_sipush (v := (301 : Int32)) hx hb dX9_digest_205 (by decide) ?_
                    refine z_callV (mc := 0) (ms := 0) (As := [.int (301 : Int32)]) (rest := [.int (nI j203)]) (st2 := [.int (nI (zc (MNow 301))), .int (nI j203)]) (cs2 := [wMod g md MNow MPast MSav (0 : Int32) MThen MLev MFst MWay ((zl_X9_digest_203 MNow (zc (MNow 301)) 0 (zf_X9_mix (zf_X9_mixAll MNow (zl_X9_digest_137 MNow (zc (MNow 43)) 0 (zf_X9_mix (zf_X9_mixAll MNow (zf_X9_mixAll MNow (zf_X9_mix (zf_X9_mix (zl_X9_digest_14 MNow 3 0 (2801 : Int64)) (0 : Int64)) ((zf_X9_overs MNow).toInt64)) 9 (1 + (3 * (zc (MNow 9))))) 34 (1 + (zc (MNow 34)))) (lN (zc (MNow 43))))) 284 (1 + (2 * (zc (MNow 284))))) (lN (zc (MNow 301)))) MMost).2) ((zl_X9_digest_203 MNow (zc (MNow 301)) 0 (zf_X9_mix (zf_X9_mixAll MNow (zl_X9_digest_137 MNow (zc (MNow 43)) 0 (zf_X9_mix (zf_X9_mixAll MNow (zf_X9_mixAll MNow (zf_X9_mix (zf_X9_mix (zl_X9_digest_14 MNow 3 0 (2801 : Int64)) (0 : Int64)) ((zf_X9_overs MNow).toInt64)) 9 (1 + (3 * (zc (MNow 9))))) 34 (1 + (zc (MNow 34)))) (lN (zc (MNow 43))))) 284 (1 + (2 * (zc (MNow 284))))) (lN (zc (MNow 301)))) MMost).1)]) X Z [0] [] [0] 0 7 (zc_X9_many l g B md MNow MPast MSav (0 : Int32) MThen MLev MFst MWay ((zl_X9_digest_203 MNow (zc (MNow 301)) 0 (zf_X9_mix (zf_X9_mixAll MNow (zl_X9_digest_137 MNow (zc (MNow 43)) 0 (zf_X9_mix (zf_X9_mixAll MNow (zf_X9_mixAll MNow (zf_X9_mix (zf_X9_mix (zl_X9_digest_14 MNow 3 0 (2801 : Int64)) (0 : Int64)) ((zf_X9_overs MNow).toInt64)) 9 (1 + (3 * (zc (MNow 9))))) 34 (1 + (zc (MNow 34)))) (lN (zc (MNow 43))))) 284 (1 + (2 * (zc (MNow 284))))) (lN (zc (MNow 301)))) MMost).2) ((zl_X9_digest_203 MNow (zc (MNow 301)) 0 (zf_X9_mix (zf_X9_mixAll MNow (zl_X9_digest_137 MNow (zc (MNow 43)) 0 (zf_X9_mix (zf_X9_mixAll MNow (zf_X9_mixAll MNow (zf_X9_mix (zf_X9_mix (zl_X9_digest_14 MNow 3 0 (2801 : Int64)) (0 : Int64)) ((zf_X9_overs MNow).toInt64)) 9 (1 + (3 * (zc (MNow 9))))) 34 (1 + (zc (MNow 34)))) (lN (zc (MNow 43))))) 284 (1 + (2 * (zc (MNow 284))))) (lN (zc (MNow 301)))) MMost).1) 301 (zc (MNow 301)) (by first | assumption | omega | decide) (by first | assumption | omega | decide)) wM_X9_66 wS_X9_many wV_X9_many wK_X9_many wZ_X9 1 1 1 rfl (by decide +kernel) rfl (by decide) rfl rfl rfl (by decide) rfl rfl (rfl : zCl[7]? = some (RX9, TX9, 10)) hl.1 rfl rfl (by rw [hRf, hRl]; exact ⟨Nat.le_of_ble_eq_true rfl, Nat.le_of_ble_eq_true rfl⟩) (Nat.le_of_ble_eq_true rfl) ⟨Nat.zero_le _, Nat.zero_le _⟩ dX9_digest_208 (fun H locs Z => ?_)
                    refine z_icmp_ge (a := j203) (b := (zc (MNow 301))) (tgt := 242) X rfl rfl (by omega) (by omega) dX9_digest_211 (by decide) (fun c_4 => ?_) (fun c_4 => ?_)
                    · refine lv_aload_n hx hb dX9_digest_242 rfl (lv_at hl 1 rfl) ?_
                      refine lv_aload_n hx hb dX9_digest_243 rfl (lv_at hl 1 rfl) ?_
                      refine z_get X Z 0 rfl (rfl : zCl[7]? = some (RX9, TX9, 10)) zU_X9 2 (by decide) wF_X9_52 rfl rfl dX9_digest_244 ?_
                      refine z_i2l (a := MSav) X rfl (by omega) dX9_digest_247 ?_
                      refine z_callV (mc := 0) (ms := 0) (As := [.long (lN MSav)]) (rest := []) (st2 := []) (cs2 := [wMod g md MNow MPast MSav (0 : Int32) MThen MLev MFst MWay ((zl_X9_digest_203 MNow (zc (MNow 301)) 0 (zf_X9_mix (zf_X9_mixAll MNow (zl_X9_digest_137 MNow (zc (MNow 43)) 0 (zf_X9_mix (zf_X9_mixAll MNow (zf_X9_mixAll MNow (zf_X9_mix (zf_X9_mix (zl_X9_digest_14 MNow 3 0 (2801 : Int64)) (0 : Int64)) ((zf_X9_overs MNow).toInt64)) 9 (1 + (3 * (zc (MNow 9))))) 34 (1 + (zc (MNow 34)))) (lN (zc (MNow 43))))) 284 (1 + (2 * (zc (MNow 284))))) (lN (zc (MNow 301)))) MMost).2) (zf_X9_mix ((zl_X9_digest_203 MNow (zc (MNow 301)) 0 (zf_X9_mix (zf_X9_mixAll MNow (zl_X9_digest_137 MNow (zc (MNow 43)) 0 (zf_X9_mix (zf_X9_mixAll MNow (zf_X9_mixAll MNow (zf_X9_mix (zf_X9_mix (zl_X9_digest_14 MNow 3 0 (2801 : Int64)) (0 : Int64)) ((zf_X9_overs MNow).toInt64)) 9 (1 + (3 * (zc (MNow 9))))) 34 (1 + (zc (MNow 34)))) (lN (zc (MNow 43))))) 284 (1 + (2 * (zc (MNow 284))))) (lN (zc (MNow 301)))) MMost).1) (lN MSav))]) X Z [0] [] [0] 0 7 (zc_X9_mix l g B md MNow MPast MSav (0 : Int32) MThen MLev MFst MWay ((zl_X9_digest_203 MNow (zc (MNow 301)) 0 (zf_X9_mix (zf_X9_mixAll MNow (zl_X9_digest_137 MNow (zc (MNow 43)) 0 (zf_X9_mix (zf_X9_mixAll MNow (zf_X9_mixAll MNow (zf_X9_mix (zf_X9_mix (zl_X9_digest_14 MNow 3 0 (2801 : Int64)) (0 : Int64)) ((zf_X9_overs MNow).toInt64)) 9 (1 + (3 * (zc (MNow 9))))) 34 (1 + (zc (MNow 34)))) (lN (zc (MNow 43))))) 284 (1 + (2 * (zc (MNow 284))))) (lN (zc (MNow 301)))) MMost).2) ((zl_X9_digest_203 MNow (zc (MNow 301)) 0 (zf_X9_mix (zf_X9_mixAll MNow (zl_X9_digest_137 MNow (zc (MNow 43)) 0 (zf_X9_mix (zf_X9_mixAll MNow (zf_X9_mixAll MNow (zf_X9_mix (zf_X9_mix (zl_X9_digest_14 MNow 3 0 (2801 : Int64)) (0 : Int64)) ((zf_X9_overs MNow).toInt64)) 9 (1 + (3 * (zc (MNow 9))))) 34 (1 + (zc (MNow 34)))) (lN (zc (MNow 43))))) 284 (1 + (2 * (zc (MNow 284))))) (lN (zc (MNow 301)))) MMost).1) (lN MSav)) wM_X9_215 wS_X9_mix wV_X9_mix wK_X9_mix wZ_X9 1 1 1 rfl (by decide +kernel) rfl (by decide) rfl rfl rfl (by decide) rfl rfl (rfl : zCl[7]? = some (RX9, TX9, 10)) hl.1 rfl rfl (by rw [hRf, hRl]; exact ⟨Nat.le_of_ble_eq_true rfl, Nat.le_of_ble_eq_true rfl⟩) (Nat.le_of_ble_eq_true rfl) ⟨Nat.zero_le _, Nat.zero_le _⟩ dX9_digest_248 (fun H locs Z => ?_)
                      refine lv_aload_n hx hb dX9_digest_251 rfl (lv_at hl 1 rfl) ?_
                      refine z_get X Z 0 rfl (rfl : zCl[7]? = some (RX9, TX9, 10)) zU_X9 9 (by decide) wF_X9_211 rfl rfl dX9_digest_252 ?_
                      exact z_rl (v := (zf_X9_mix ((zl_X9_digest_203 MNow (zc (MNow 301)) 0 (zf_X9_mix (zf_X9_mixAll MNow (zl_X9_digest_137 MNow (zc (MNow 43)) 0 (zf_X9_mix (zf_X9_mixAll MNow (zf_X9_mixAll MNow (zf_X9_mix (zf_X9_mix (zl_X9_digest_14 MNow 3 0 (2801 : Int64)) (0 : Int64)) ((zf_X9_overs MNow).toInt64)) 9 (1 + (3 * (zc (MNow 9))))) 34 (1 + (zc (MNow 34)))) (lN (zc (MNow 43))))) 284 (1 + (2 * (zc (MNow 284))))) (lN (zc (MNow 301)))) MMost).1) (lN MSav))) E Z (by rw [zf_X9_digest_e, if_neg (zBf c_2)]; dsimp only; exact ⟨rfl, rfl⟩) dX9_digest_255 (Nat.zero_le _) (Nat.zero_le _)
                    · (exfalso; omega)
                  | succ n203 ih203 =>
                    intro j203 h3 m3 hin203 hR203 H locs Z ls hl
                    refine lv_iload_n hx hb dX9_digest_203 rfl (lv_at hl 0 rfl) ?_
                    refine lv_aload_n hx hb dX9_digest_204 rfl (lv_at hl 1 rfl) ?_
                    refine lv_sipush (v := (301 : Int32)) hx hb dX9_digest_205 (by decide) ?_
                    refine z_callV (mc := 0) (ms := 0) (As := [.int (301 : Int32)]) (rest := [.int (nI j203)]) (st2 := [.int (nI (zc (MNow 301))), .int (nI j203)]) (cs2 := [wMod g md MNow MPast MSav (0 : Int32) MThen MLev MFst MWay m3 h3]) X Z [0] [] [0] 0 7 (zc_X9_many l g B md MNow MPast MSav (0 : Int32) MThen MLev MFst MWay m3 h3 301 (zc (MNow 301)) (by first | assumption | omega | decide) (by first | assumption | omega | decide)) wM_X9_66 wS_X9_many wV_X9_many wK_X9_many wZ_X9 1 1 1 rfl (by decide +kernel) rfl (by decide) rfl rfl rfl (by decide) rfl rfl (rfl : zCl[7]? = some (RX9, TX9, 10)) hl.1 rfl rfl (by rw [hRf, hRl]; exact ⟨Nat.le_of_ble_eq_true rfl, Nat.le_of_ble_eq_true rfl⟩) (Nat.le_of_ble_eq_true rfl) ⟨Nat.zero_le _, Nat.zero_le _⟩ dX9_digest_208 (fun H locs Z => ?_)
                    refine z_icmp_ge (a := j203) (b := (zc (MNow 301))) (tgt := 242) X rfl rfl (by omega) (by omega) dX9_digest_211 (by decide) (fun c_5 => ?_) (fun c_5 => ?_)
                    · (exfalso; omega)
                    · refine lv_aload_n hx hb dX9_digest_214 rfl (lv_at hl 1 rfl) ?_
                      refine lv_sipush (v := (302 : Int32)) hx hb dX9_digest_215 (by decide) ?_
                      refine lv_iconst (v := (2 : Int32)) hx hb dX9_digest_218 (by decide) ?_
                      refine lv_iload_n hx hb dX9_digest_219 rfl (lv_at hl 0 rfl) ?_
                      refine z_imul (a := 2) (b := j203) X rfl rfl dX9_digest_220 ?_
                      refine z_iadd (a := 302) (b := (2 * j203)) X rfl rfl dX9_digest_221 ?_
                      refine lv_iconst (v := (2 : Int32)) hx hb dX9_digest_222 (by decide) ?_
                      refine z_callV (mc := 0) (ms := 0) (As := [.int (nI (302 + (2 * j203))), .int (2 : Int32)]) (rest := []) (st2 := []) (cs2 := [wMod g md MNow MPast MSav (0 : Int32) MThen MLev MFst MWay m3 (zf_X9_mixAll MNow h3 (302 + (2 * j203)) 2)]) X Z [0] [] [0] 0 7 (zc_X9_mixAll l g B md MNow MPast MSav (0 : Int32) MThen MLev MFst MWay m3 h3 (302 + (2 * j203)) 2 (by first | assumption | omega | decide)) wM_X9_221 wS_X9_mixAll wV_X9_mixAll wK_X9_mixAll wZ_X9 2 1 1 rfl (by decide +kernel) rfl (by decide) rfl rfl rfl (by decide) rfl rfl (rfl : zCl[7]? = some (RX9, TX9, 10)) hl.1 rfl rfl (by rw [hRf, hRl]; exact ⟨Nat.le_of_ble_eq_true rfl, Nat.le_of_ble_eq_true rfl⟩) (Nat.le_of_ble_eq_true rfl) ⟨Nat.zero_le _, Nat.zero_le _⟩ dX9_digest_223 (fun H locs Z => ?_)
                      refine lv_aload_n hx hb dX9_digest_226 rfl (lv_at hl 1 rfl) ?_
                      refine lv_aload_n hx hb dX9_digest_227 rfl (lv_at hl 1 rfl) ?_
                      refine lv_iload_n hx hb dX9_digest_228 rfl (lv_at hl 0 rfl) ?_
                      refine z_callV (mc := 0) (ms := 0) (As := [.int (nI j203)]) (rest := [.ref (md 0)]) (st2 := [.int ((zf_X9_taker MNow m3 j203).1), .ref (md 0)]) (cs2 := [wMod g md MNow MPast MSav (0 : Int32) MThen MLev MFst MWay ((zf_X9_taker MNow m3 j203).2) (zf_X9_mixAll MNow h3 (302 + (2 * j203)) 2)]) X Z [0] [] [0] 0 7 (zc_X9_taker l g B md MNow MPast MSav (0 : Int32) MThen MLev MFst MWay m3 (zf_X9_mixAll MNow h3 (302 + (2 * j203)) 2) j203 (by first | assumption | omega | decide) (by first | assumption | omega | decide)) wM_X9_206 wS_X9_taker wV_X9_taker wK_X9_taker wZ_X9 1 1 1 rfl (by decide +kernel) rfl (by decide) rfl rfl rfl (by decide) rfl rfl (rfl : zCl[7]? = some (RX9, TX9, 10)) hl.1 rfl rfl (by rw [hRf, hRl]; exact ⟨Nat.le_of_ble_eq_true rfl, Nat.le_of_ble_eq_true rfl⟩) (Nat.le_of_ble_eq_true rfl) ⟨Nat.zero_le _, Nat.zero_le _⟩ dX9_digest_229 (fun H locs Z => ?_)
                      refine lv_i2l hx hb dX9_digest_232 rfl ?_
                      refine z_callV (mc := 0) (ms := 0) (As := [.long (((zf_X9_taker MNow m3 j203).1).toInt64)]) (rest := []) (st2 := []) (cs2 := [wMod g md MNow MPast MSav (0 : Int32) MThen MLev MFst MWay ((zf_X9_taker MNow m3 j203).2) (zf_X9_mix (zf_X9_mixAll MNow h3 (302 + (2 * j203)) 2) (((zf_X9_taker MNow m3 j203).1).toInt64))]) X Z [0] [] [0] 0 7 (zc_X9_mix l g B md MNow MPast MSav (0 : Int32) MThen MLev MFst MWay ((zf_X9_taker MNow m3 j203).2) (zf_X9_mixAll MNow h3 (302 + (2 * j203)) 2) (((zf_X9_taker MNow m3 j203).1).toInt64)) wM_X9_215 wS_X9_mix wV_X9_mix wK_X9_mix wZ_X9 1 1 1 rfl (by decide +kernel) rfl (by decide) rfl rfl rfl (by decide) rfl rfl (rfl : zCl[7]? = some (RX9, TX9, 10)) hl.1 rfl rfl (by rw [hRf, hRl]; exact ⟨Nat.le_of_ble_eq_true rfl, Nat.le_of_ble_eq_true rfl⟩) (Nat.le_of_ble_eq_true rfl) ⟨Nat.zero_le _, Nat.zero_le _⟩ dX9_digest_233 (fun H locs Z => ?_)
                      refine z_iinc (b := (j203 + 1)) (st := 1) (lv' := [(1, .int (nI (j203 + 1))), (0, .ref (md 0))]) X dX9_digest_236 hl (k := 0) rfl rfl (by decide) (by omega) (by decide) rfl (fun ls hl => ?_)
                      refine lv_goto (tgt := 203) hx hb dX9_digest_239 (by decide) ?_
                      exact ih203 (j203 + 1) (zf_X9_mix (zf_X9_mixAll MNow h3 (302 + (2 * j203)) 2) (((zf_X9_taker MNow m3 j203).1).toInt64)) ((zf_X9_taker MNow m3 j203).2) (by omega) (by have h9 := hR203; rw [zl_X9_digest_203_s] at h9; exact h9) _ _ Z ls (lv_sub hl [0, 1] rfl)
                exact loop_203 (zc (MNow 301)) 0 (zf_X9_mix (zf_X9_mixAll MNow (zl_X9_digest_137 MNow (zc (MNow 43)) 0 (zf_X9_mix (zf_X9_mixAll MNow (zf_X9_mixAll MNow (zf_X9_mix (zf_X9_mix (zl_X9_digest_14 MNow 3 0 (2801 : Int64)) (0 : Int64)) ((zf_X9_overs MNow).toInt64)) 9 (1 + (3 * (zc (MNow 9))))) 34 (1 + (zc (MNow 34)))) (lN (zc (MNow 43))))) 284 (1 + (2 * (zc (MNow 284))))) (lN (zc (MNow 301)))) MMost (by omega) rfl _ _ Z ls (lv_sub hl [0, 1] rfl)
              · (exfalso; omega)
            | succ n137 ih137 =>
              intro j137 h2 hin137 hR137 H locs Z ls hl
              refine lv_iload_n hx hb dX9_digest_137 rfl (lv_at hl 0 rfl) ?_
              refine lv_aload_n hx hb dX9_digest_138 rfl (lv_at hl 1 rfl) ?_
              refine lv_bipush (v := (43 : Int32)) hx hb dX9_digest_139 (by decide) ?_
              refine z_callV (mc := 0) (ms := 0) (As := [.int (43 : Int32)]) (rest := [.int (nI j137)]) (st2 := [.int (nI (zc (MNow 43))), .int (nI j137)]) (cs2 := [wMod g md MNow MPast MSav (0 : Int32) MThen MLev MFst MWay MMost h2]) X Z [0] [] [0] 0 7 (zc_X9_many l g B md MNow MPast MSav (0 : Int32) MThen MLev MFst MWay MMost h2 43 (zc (MNow 43)) (by first | assumption | omega | decide) (by first | assumption | omega | decide)) wM_X9_66 wS_X9_many wV_X9_many wK_X9_many wZ_X9 1 1 1 rfl (by decide +kernel) rfl (by decide) rfl rfl rfl (by decide) rfl rfl (rfl : zCl[7]? = some (RX9, TX9, 10)) hl.1 rfl rfl (by rw [hRf, hRl]; exact ⟨Nat.le_of_ble_eq_true rfl, Nat.le_of_ble_eq_true rfl⟩) (Nat.le_of_ble_eq_true rfl) ⟨Nat.zero_le _, Nat.zero_le _⟩ dX9_digest_141 (fun H locs Z => ?_)
              refine z_icmp_ge (a := j137) (b := (zc (MNow 43))) (tgt := 171) X rfl rfl (by omega) (by omega) dX9_digest_144 (by decide) (fun c_6 => ?_) (fun c_6 => ?_)
              · (exfalso; omega)
              · refine lv_aload_n hx hb dX9_digest_147 rfl (lv_at hl 1 rfl) ?_
                refine lv_aload_n hx hb dX9_digest_148 rfl (lv_at hl 1 rfl) ?_
                refine lv_iload_n hx hb dX9_digest_149 rfl (lv_at hl 0 rfl) ?_
                refine lv_iconst (v := (0 : Int32)) hx hb dX9_digest_150 (by decide) ?_
                refine z_callV (mc := 0) (ms := 0) (As := [.int (nI j137), .int (0 : Int32)]) (rest := [.ref (md 0)]) (st2 := [.int (nI (44 + 3 * (8 * j137 + 0))), .ref (md 0)]) (cs2 := [wMod g md MNow MPast MSav (0 : Int32) MThen MLev MFst MWay MMost h2]) X Z [0] [] [0] 0 7 (zc_X9_chanceAt l g B md MNow MPast MSav (0 : Int32) MThen MLev MFst MWay MMost h2 j137 0) wM_X9_125 wS_X9_chanceAt wV_X9_chanceAt wK_X9_chanceAt wZ_X9 2 1 1 rfl (by decide +kernel) rfl (by decide) rfl rfl rfl (by decide) rfl rfl (rfl : zCl[7]? = some (RX9, TX9, 10)) hl.1 rfl rfl (by rw [hRf, hRl]; exact ⟨Nat.le_of_ble_eq_true rfl, Nat.le_of_ble_eq_true rfl⟩) (Nat.le_of_ble_eq_true rfl) ⟨Nat.zero_le _, Nat.zero_le _⟩ dX9_digest_151 (fun H locs Z => ?_)
                refine lv_iconst (v := (3 : Int32)) hx hb dX9_digest_154 (by decide) ?_
                refine lv_aload_n hx hb dX9_digest_155 rfl (lv_at hl 1 rfl) ?_
                refine lv_bipush (v := (34 : Int32)) hx hb dX9_digest_156 (by decide) ?_
                refine z_callV (mc := 0) (ms := 0) (As := [.int (34 : Int32)]) (rest := [.int (3 : Int32), .int (nI (44 + 3 * (8 * j137 + 0))), .ref (md 0)]) (st2 := [.int (nI (zc (MNow 34))), .int (3 : Int32), .int (nI (44 + 3 * (8 * j137 + 0))), .ref (md 0)]) (cs2 := [wMod g md MNow MPast MSav (0 : Int32) MThen MLev MFst MWay MMost h2]) X Z [0] [] [0] 0 7 (zc_X9_many l g B md MNow MPast MSav (0 : Int32) MThen MLev MFst MWay MMost h2 34 (zc (MNow 34)) (by first | assumption | omega | decide) (by first | assumption | omega | decide)) wM_X9_66 wS_X9_many wV_X9_many wK_X9_many wZ_X9 1 1 1 rfl (by decide +kernel) rfl (by decide) rfl rfl rfl (by decide) rfl rfl (rfl : zCl[7]? = some (RX9, TX9, 10)) hl.1 rfl rfl (by rw [hRf, hRl]; exact ⟨Nat.le_of_ble_eq_true rfl, Nat.le_of_ble_eq_true rfl⟩) (Nat.le_of_ble_eq_true rfl) ⟨Nat.zero_le _, Nat.zero_le _⟩ dX9_digest_158 (fun H locs Z => ?_)
                refine z_imul (a := 3) (b := (zc (MNow 34))) X rfl rfl dX9_digest_161 ?_
                refine z_callV (mc := 0) (ms := 0) (As := [.int (nI (44 + 3 * (8 * j137 + 0))), .int (nI (3 * (zc (MNow 34))))]) (rest := []) (st2 := []) (cs2 := [wMod g md MNow MPast MSav (0 : Int32) MThen MLev MFst MWay MMost (zf_X9_mixAll MNow h2 (44 + 3 * (8 * j137 + 0)) (3 * (zc (MNow 34))))]) X Z [0] [] [0] 0 7 (zc_X9_mixAll l g B md MNow MPast MSav (0 : Int32) MThen MLev MFst MWay MMost h2 (44 + 3 * (8 * j137 + 0)) (3 * (zc (MNow 34))) (by first | assumption | omega | decide)) wM_X9_221 wS_X9_mixAll wV_X9_mixAll wK_X9_mixAll wZ_X9 2 1 1 rfl (by decide +kernel) rfl (by decide) rfl rfl rfl (by decide) rfl rfl (rfl : zCl[7]? = some (RX9, TX9, 10)) hl.1 rfl rfl (by rw [hRf, hRl]; exact ⟨Nat.le_of_ble_eq_true rfl, Nat.le_of_ble_eq_true rfl⟩) (Nat.le_of_ble_eq_true rfl) ⟨Nat.zero_le _, Nat.zero_le _⟩ dX9_digest_162 (fun H locs Z => ?_)
                refine z_iinc (b := (j137 + 1)) (st := 1) (lv' := [(1, .int (nI (j137 + 1))), (0, .ref (md 0))]) X dX9_digest_165 hl (k := 0) rfl rfl (by decide) (by omega) (by decide) rfl (fun ls hl => ?_)
                refine lv_goto (tgt := 137) hx hb dX9_digest_168 (by decide) ?_
                exact ih137 (j137 + 1) (zf_X9_mixAll MNow h2 (44 + 3 * (8 * j137 + 0)) (3 * (zc (MNow 34)))) (by omega) (by have h9 := hR137; rw [zl_X9_digest_137_s] at h9; exact h9) _ _ Z ls (lv_sub hl [0, 1] rfl)
          exact loop_137 (zc (MNow 43)) 0 (zf_X9_mix (zf_X9_mixAll MNow (zf_X9_mixAll MNow (zf_X9_mix (zf_X9_mix (zl_X9_digest_14 MNow 3 0 (2801 : Int64)) (0 : Int64)) ((zf_X9_overs MNow).toInt64)) 9 (1 + (3 * (zc (MNow 9))))) 34 (1 + (zc (MNow 34)))) (lN (zc (MNow 43)))) (by omega) rfl _ _ Z ls (lv_sub hl [0, 1] rfl)
        · refine lv_lconst (v := (1 : Int64)) hx hb dX9_digest_77 (by decide) ?_
          refine lv_goto (tgt := 82) hx hb dX9_digest_78 (by decide) ?_
          refine z_callV (mc := 0) (ms := 0) (As := [.long (1 : Int64)]) (rest := []) (st2 := []) (cs2 := [wMod g md MNow MPast MSav (0 : Int32) MThen MLev MFst MWay MMost (zf_X9_mix (zl_X9_digest_14 MNow 3 0 (2801 : Int64)) (1 : Int64))]) X Z [0] [] [0] 0 7 (zc_X9_mix l g B md MNow MPast MSav (0 : Int32) MThen MLev MFst MWay MMost (zl_X9_digest_14 MNow 3 0 (2801 : Int64)) (1 : Int64)) wM_X9_215 wS_X9_mix wV_X9_mix wK_X9_mix wZ_X9 1 1 1 rfl (by decide +kernel) rfl (by decide) rfl rfl rfl (by decide) rfl rfl (rfl : zCl[7]? = some (RX9, TX9, 10)) hl.1 rfl rfl (by rw [hRf, hRl]; exact ⟨Nat.le_of_ble_eq_true rfl, Nat.le_of_ble_eq_true rfl⟩) (Nat.le_of_ble_eq_true rfl) ⟨Nat.zero_le _, Nat.zero_le _⟩ dX9_digest_82 (fun H locs Z => ?_)
          refine lv_aload_n hx hb dX9_digest_85 rfl (lv_at hl 1 rfl) ?_
          refine lv_aload_n hx hb dX9_digest_86 rfl (lv_at hl 1 rfl) ?_
          refine z_callV (mc := 0) (ms := 0) (As := []) (rest := [.ref (md 0)]) (st2 := [.int (zf_X9_overs MNow), .ref (md 0)]) (cs2 := [wMod g md MNow MPast MSav (0 : Int32) MThen MLev MFst MWay MMost (zf_X9_mix (zl_X9_digest_14 MNow 3 0 (2801 : Int64)) (1 : Int64))]) X Z [0] [] [0] 0 7 (zc_X9_overs l g B md MNow MPast MSav (0 : Int32) MThen MLev MFst MWay MMost (zf_X9_mix (zl_X9_digest_14 MNow 3 0 (2801 : Int64)) (1 : Int64)) (by first | assumption | omega | decide)) wM_X9_115 wS_X9_overs wV_X9_overs wK_X9_overs wZ_X9 0 1 1 rfl (by decide +kernel) rfl (by decide) rfl rfl rfl (by decide) rfl rfl (rfl : zCl[7]? = some (RX9, TX9, 10)) hl.1 rfl rfl (by rw [hRf, hRl]; exact ⟨Nat.le_of_ble_eq_true rfl, Nat.le_of_ble_eq_true rfl⟩) (Nat.le_of_ble_eq_true rfl) ⟨Nat.zero_le _, Nat.zero_le _⟩ dX9_digest_87 (fun H locs Z => ?_)
          refine lv_i2l hx hb dX9_digest_90 rfl ?_
          refine z_callV (mc := 0) (ms := 0) (As := [.long ((zf_X9_overs MNow).toInt64)]) (rest := []) (st2 := []) (cs2 := [wMod g md MNow MPast MSav (0 : Int32) MThen MLev MFst MWay MMost (zf_X9_mix (zf_X9_mix (zl_X9_digest_14 MNow 3 0 (2801 : Int64)) (1 : Int64)) ((zf_X9_overs MNow).toInt64))]) X Z [0] [] [0] 0 7 (zc_X9_mix l g B md MNow MPast MSav (0 : Int32) MThen MLev MFst MWay MMost (zf_X9_mix (zl_X9_digest_14 MNow 3 0 (2801 : Int64)) (1 : Int64)) ((zf_X9_overs MNow).toInt64)) wM_X9_215 wS_X9_mix wV_X9_mix wK_X9_mix wZ_X9 1 1 1 rfl (by decide +kernel) rfl (by decide) rfl rfl rfl (by decide) rfl rfl (rfl : zCl[7]? = some (RX9, TX9, 10)) hl.1 rfl rfl (by rw [hRf, hRl]; exact ⟨Nat.le_of_ble_eq_true rfl, Nat.le_of_ble_eq_true rfl⟩) (Nat.le_of_ble_eq_true rfl) ⟨Nat.zero_le _, Nat.zero_le _⟩ dX9_digest_91 (fun H locs Z => ?_)
          refine lv_aload_n hx hb dX9_digest_94 rfl (lv_at hl 1 rfl) ?_
          refine lv_bipush (v := (9 : Int32)) hx hb dX9_digest_95 (by decide) ?_
          refine lv_iconst (v := (1 : Int32)) hx hb dX9_digest_97 (by decide) ?_
          refine lv_iconst (v := (3 : Int32)) hx hb dX9_digest_98 (by decide) ?_
          refine lv_aload_n hx hb dX9_digest_99 rfl (lv_at hl 1 rfl) ?_
          refine lv_bipush (v := (9 : Int32)) hx hb dX9_digest_100 (by decide) ?_
          refine z_callV (mc := 0) (ms := 0) (As := [.int (9 : Int32)]) (rest := [.int (3 : Int32), .int (1 : Int32), .int (9 : Int32), .ref (md 0)]) (st2 := [.int (nI (zc (MNow 9))), .int (3 : Int32), .int (1 : Int32), .int (9 : Int32), .ref (md 0)]) (cs2 := [wMod g md MNow MPast MSav (0 : Int32) MThen MLev MFst MWay MMost (zf_X9_mix (zf_X9_mix (zl_X9_digest_14 MNow 3 0 (2801 : Int64)) (1 : Int64)) ((zf_X9_overs MNow).toInt64))]) X Z [0] [] [0] 0 7 (zc_X9_many l g B md MNow MPast MSav (0 : Int32) MThen MLev MFst MWay MMost (zf_X9_mix (zf_X9_mix (zl_X9_digest_14 MNow 3 0 (2801 : Int64)) (1 : Int64)) ((zf_X9_overs MNow).toInt64)) 9 (zc (MNow 9)) (by first | assumption | omega | decide) (by first | assumption | omega | decide)) wM_X9_66 wS_X9_many wV_X9_many wK_X9_many wZ_X9 1 1 1 rfl (by decide +kernel) rfl (by decide) rfl rfl rfl (by decide) rfl rfl (rfl : zCl[7]? = some (RX9, TX9, 10)) hl.1 rfl rfl (by rw [hRf, hRl]; exact ⟨Nat.le_of_ble_eq_true rfl, Nat.le_of_ble_eq_true rfl⟩) (Nat.le_of_ble_eq_true rfl) ⟨Nat.zero_le _, Nat.zero_le _⟩ dX9_digest_102 (fun H locs Z => ?_)
          refine z_imul (a := 3) (b := (zc (MNow 9))) X rfl rfl dX9_digest_105 ?_
          refine z_iadd (a := 1) (b := (3 * (zc (MNow 9)))) X rfl rfl dX9_digest_106 ?_
          refine z_callV (mc := 0) (ms := 0) (As := [.int (9 : Int32), .int (nI (1 + (3 * (zc (MNow 9)))))]) (rest := []) (st2 := []) (cs2 := [wMod g md MNow MPast MSav (0 : Int32) MThen MLev MFst MWay MMost (zf_X9_mixAll MNow (zf_X9_mix (zf_X9_mix (zl_X9_digest_14 MNow 3 0 (2801 : Int64)) (1 : Int64)) ((zf_X9_overs MNow).toInt64)) 9 (1 + (3 * (zc (MNow 9)))))]) X Z [0] [] [0] 0 7 (zc_X9_mixAll l g B md MNow MPast MSav (0 : Int32) MThen MLev MFst MWay MMost (zf_X9_mix (zf_X9_mix (zl_X9_digest_14 MNow 3 0 (2801 : Int64)) (1 : Int64)) ((zf_X9_overs MNow).toInt64)) 9 (1 + (3 * (zc (MNow 9)))) (by first | assumption | omega | decide)) wM_X9_221 wS_X9_mixAll wV_X9_mixAll wK_X9_mixAll wZ_X9 2 1 1 rfl (by decide +kernel) rfl (by decide) rfl rfl rfl (by decide) rfl rfl (rfl : zCl[7]? = some (RX9, TX9, 10)) hl.1 rfl rfl (by rw [hRf, hRl]; exact ⟨Nat.le_of_ble_eq_true rfl, Nat.le_of_ble_eq_true rfl⟩) (Nat.le_of_ble_eq_true rfl) ⟨Nat.zero_le _, Nat.zero_le _⟩ dX9_digest_107 (fun H locs Z => ?_)
          refine lv_aload_n hx hb dX9_digest_110 rfl (lv_at hl 1 rfl) ?_
          refine lv_bipush (v := (34 : Int32)) hx hb dX9_digest_111 (by decide) ?_
          refine lv_iconst (v := (1 : Int32)) hx hb dX9_digest_113 (by decide) ?_
          refine lv_aload_n hx hb dX9_digest_114 rfl (lv_at hl 1 rfl) ?_
          refine lv_bipush (v := (34 : Int32)) hx hb dX9_digest_115 (by decide) ?_
          refine z_callV (mc := 0) (ms := 0) (As := [.int (34 : Int32)]) (rest := [.int (1 : Int32), .int (34 : Int32), .ref (md 0)]) (st2 := [.int (nI (zc (MNow 34))), .int (1 : Int32), .int (34 : Int32), .ref (md 0)]) (cs2 := [wMod g md MNow MPast MSav (0 : Int32) MThen MLev MFst MWay MMost (zf_X9_mixAll MNow (zf_X9_mix (zf_X9_mix (zl_X9_digest_14 MNow 3 0 (2801 : Int64)) (1 : Int64)) ((zf_X9_overs MNow).toInt64)) 9 (1 + (3 * (zc (MNow 9)))))]) X Z [0] [] [0] 0 7 (zc_X9_many l g B md MNow MPast MSav (0 : Int32) MThen MLev MFst MWay MMost (zf_X9_mixAll MNow (zf_X9_mix (zf_X9_mix (zl_X9_digest_14 MNow 3 0 (2801 : Int64)) (1 : Int64)) ((zf_X9_overs MNow).toInt64)) 9 (1 + (3 * (zc (MNow 9))))) 34 (zc (MNow 34)) (by first | assumption | omega | decide) (by first | assumption | omega | decide)) wM_X9_66 wS_X9_many wV_X9_many wK_X9_many wZ_X9 1 1 1 rfl (by decide +kernel) rfl (by decide) rfl rfl rfl (by decide) rfl rfl (rfl : zCl[7]? = some (RX9, TX9, 10)) hl.1 rfl rfl (by rw [hRf, hRl]; exact ⟨Nat.le_of_ble_eq_true rfl, Nat.le_of_ble_eq_true rfl⟩) (Nat.le_of_ble_eq_true rfl) ⟨Nat.zero_le _, Nat.zero_le _⟩ dX9_digest_117 (fun H locs Z => ?_)
          refine z_iadd (a := 1) (b := (zc (MNow 34))) X rfl rfl dX9_digest_120 ?_
          refine z_callV (mc := 0) (ms := 0) (As := [.int (34 : Int32), .int (nI (1 + (zc (MNow 34))))]) (rest := []) (st2 := []) (cs2 := [wMod g md MNow MPast MSav (0 : Int32) MThen MLev MFst MWay MMost (zf_X9_mixAll MNow (zf_X9_mixAll MNow (zf_X9_mix (zf_X9_mix (zl_X9_digest_14 MNow 3 0 (2801 : Int64)) (1 : Int64)) ((zf_X9_overs MNow).toInt64)) 9 (1 + (3 * (zc (MNow 9))))) 34 (1 + (zc (MNow 34))))]) X Z [0] [] [0] 0 7 (zc_X9_mixAll l g B md MNow MPast MSav (0 : Int32) MThen MLev MFst MWay MMost (zf_X9_mixAll MNow (zf_X9_mix (zf_X9_mix (zl_X9_digest_14 MNow 3 0 (2801 : Int64)) (1 : Int64)) ((zf_X9_overs MNow).toInt64)) 9 (1 + (3 * (zc (MNow 9))))) 34 (1 + (zc (MNow 34))) (by first | assumption | omega | decide)) wM_X9_221 wS_X9_mixAll wV_X9_mixAll wK_X9_mixAll wZ_X9 2 1 1 rfl (by decide +kernel) rfl (by decide) rfl rfl rfl (by decide) rfl rfl (rfl : zCl[7]? = some (RX9, TX9, 10)) hl.1 rfl rfl (by rw [hRf, hRl]; exact ⟨Nat.le_of_ble_eq_true rfl, Nat.le_of_ble_eq_true rfl⟩) (Nat.le_of_ble_eq_true rfl) ⟨Nat.zero_le _, Nat.zero_le _⟩ dX9_digest_121 (fun H locs Z => ?_)
          refine lv_aload_n hx hb dX9_digest_124 rfl (lv_at hl 1 rfl) ?_
          refine lv_aload_n hx hb dX9_digest_125 rfl (lv_at hl 1 rfl) ?_
          refine lv_bipush (v := (43 : Int32)) hx hb dX9_digest_126 (by decide) ?_
          refine z_callV (mc := 0) (ms := 0) (As := [.int (43 : Int32)]) (rest := [.ref (md 0)]) (st2 := [.int (nI (zc (MNow 43))), .ref (md 0)]) (cs2 := [wMod g md MNow MPast MSav (0 : Int32) MThen MLev MFst MWay MMost (zf_X9_mixAll MNow (zf_X9_mixAll MNow (zf_X9_mix (zf_X9_mix (zl_X9_digest_14 MNow 3 0 (2801 : Int64)) (1 : Int64)) ((zf_X9_overs MNow).toInt64)) 9 (1 + (3 * (zc (MNow 9))))) 34 (1 + (zc (MNow 34))))]) X Z [0] [] [0] 0 7 (zc_X9_many l g B md MNow MPast MSav (0 : Int32) MThen MLev MFst MWay MMost (zf_X9_mixAll MNow (zf_X9_mixAll MNow (zf_X9_mix (zf_X9_mix (zl_X9_digest_14 MNow 3 0 (2801 : Int64)) (1 : Int64)) ((zf_X9_overs MNow).toInt64)) 9 (1 + (3 * (zc (MNow 9))))) 34 (1 + (zc (MNow 34)))) 43 (zc (MNow 43)) (by first | assumption | omega | decide) (by first | assumption | omega | decide)) wM_X9_66 wS_X9_many wV_X9_many wK_X9_many wZ_X9 1 1 1 rfl (by decide +kernel) rfl (by decide) rfl rfl rfl (by decide) rfl rfl (rfl : zCl[7]? = some (RX9, TX9, 10)) hl.1 rfl rfl (by rw [hRf, hRl]; exact ⟨Nat.le_of_ble_eq_true rfl, Nat.le_of_ble_eq_true rfl⟩) (Nat.le_of_ble_eq_true rfl) ⟨Nat.zero_le _, Nat.zero_le _⟩ dX9_digest_128 (fun H locs Z => ?_)
          refine z_i2l (a := (zc (MNow 43))) X rfl (by omega) dX9_digest_131 ?_
          refine z_callV (mc := 0) (ms := 0) (As := [.long (lN (zc (MNow 43)))]) (rest := []) (st2 := []) (cs2 := [wMod g md MNow MPast MSav (0 : Int32) MThen MLev MFst MWay MMost (zf_X9_mix (zf_X9_mixAll MNow (zf_X9_mixAll MNow (zf_X9_mix (zf_X9_mix (zl_X9_digest_14 MNow 3 0 (2801 : Int64)) (1 : Int64)) ((zf_X9_overs MNow).toInt64)) 9 (1 + (3 * (zc (MNow 9))))) 34 (1 + (zc (MNow 34)))) (lN (zc (MNow 43))))]) X Z [0] [] [0] 0 7 (zc_X9_mix l g B md MNow MPast MSav (0 : Int32) MThen MLev MFst MWay MMost (zf_X9_mixAll MNow (zf_X9_mixAll MNow (zf_X9_mix (zf_X9_mix (zl_X9_digest_14 MNow 3 0 (2801 : Int64)) (1 : Int64)) ((zf_X9_overs MNow).toInt64)) 9 (1 + (3 * (zc (MNow 9))))) 34 (1 + (zc (MNow 34)))) (lN (zc (MNow 43)))) wM_X9_215 wS_X9_mix wV_X9_mix wK_X9_mix wZ_X9 1 1 1 rfl (by decide +kernel) rfl (by decide) rfl rfl rfl (by decide) rfl rfl (rfl : zCl[7]? = some (RX9, TX9, 10)) hl.1 rfl rfl (by rw [hRf, hRl]; exact ⟨Nat.le_of_ble_eq_true rfl, Nat.le_of_ble_eq_true rfl⟩) (Nat.le_of_ble_eq_true rfl) ⟨Nat.zero_le _, Nat.zero_le _⟩ dX9_digest_132 (fun H locs Z => ?_)
          refine lv_iconst (v := (0 : Int32)) hx hb dX9_digest_135 (by decide) ?_
          refine lv_istore_n (lv' := [(1, .int (0 : Int32)), (0, .ref (md 0))]) hx hb dX9_digest_136 rfl hl (by decide) rfl (fun ls hl => ?_)
          have loop_137 : ∀ (n137 j137 : Nat) (h2 : Int64), j137 + n137 = (zc (MNow 43)) → zl_X9_digest_137 MNow n137 j137 h2 = (zl_X9_digest_137 MNow (zc (MNow 43)) 0 (zf_X9_mix (zf_X9_mixAll MNow (zf_X9_mixAll MNow (zf_X9_mix (zf_X9_mix (zl_X9_digest_14 MNow 3 0 (2801 : Int64)) (1 : Int64)) ((zf_X9_overs MNow).toInt64)) 9 (1 + (3 * (zc (MNow 9))))) 34 (1 + (zc (MNow 34)))) (lN (zc (MNow 43))))) → ∀ (H : Heap) (locs : List Loc), zM g B A s [wMod g md MNow MPast MSav (0 : Int32) MThen MLev MFst MWay MMost h2] H locs → ∀ ls : Array Slot, lv_has ls 2 [(1, .int (nI j137)), (0, .ref (md 0))] → W p l e R s m args below meth c H locs 0 0 Q (F0 m 137 ls []) := by
            intro n137
            induction n137 with
            | zero =>
              intro j137 h2 hin137 hR137 H locs Z ls hl
              have e_h2 : (zl_X9_digest_137 MNow (zc (MNow 43)) 0 (zf_X9_mix (zf_X9_mixAll MNow (zf_X9_mixAll MNow (zf_X9_mix (zf_X9_mix (zl_X9_digest_14 MNow 3 0 (2801 : Int64)) (1 : Int64)) ((zf_X9_overs MNow).toInt64)) 9 (1 + (3 * (zc (MNow 9))))) 34 (1 + (zc (MNow 34)))) (lN (zc (MNow 43))))) = h2 := hR137.symm
              subst e_h2
              refine lv_iload_n hx hb dX9_digest_137 rfl (lv_at hl 0 rfl) ?_
              refine lv_aload_n hx hb dX9_digest_138 rfl (lv_at hl 1 rfl) ?_
              refine lv_bipush (v := (43 : Int32)) hx hb dX9_digest_139 (by decide) ?_
              refine z_callV (mc := 0) (ms := 0) (As := [.int (43 : Int32)]) (rest := [.int (nI j137)]) (st2 := [.int (nI (zc (MNow 43))), .int (nI j137)]) (cs2 := [wMod g md MNow MPast MSav (0 : Int32) MThen MLev MFst MWay MMost (zl_X9_digest_137 MNow (zc (MNow 43)) 0 (zf_X9_mix (zf_X9_mixAll MNow (zf_X9_mixAll MNow (zf_X9_mix (zf_X9_mix (zl_X9_digest_14 MNow 3 0 (2801 : Int64)) (1 : Int64)) ((zf_X9_overs MNow).toInt64)) 9 (1 + (3 * (zc (MNow 9))))) 34 (1 + (zc (MNow 34)))) (lN (zc (MNow 43)))))]) X Z [0] [] [0] 0 7 (zc_X9_many l g B md MNow MPast MSav (0 : Int32) MThen MLev MFst MWay MMost (zl_X9_digest_137 MNow (zc (MNow 43)) 0 (zf_X9_mix (zf_X9_mixAll MNow (zf_X9_mixAll MNow (zf_X9_mix (zf_X9_mix (zl_X9_digest_14 MNow 3 0 (2801 : Int64)) (1 : Int64)) ((zf_X9_overs MNow).toInt64)) 9 (1 + (3 * (zc (MNow 9))))) 34 (1 + (zc (MNow 34)))) (lN (zc (MNow 43))))) 43 (zc (MNow 43)) (by first | assumption | omega | decide) (by first | assumption | omega | decide)) wM_X9_66 wS_X9_many wV_X9_many wK_X9_many wZ_X9 1 1 1 rfl (by decide +kernel) rfl (by decide) rfl rfl rfl (by decide) rfl rfl (rfl : zCl[7]? = some (RX9, TX9, 10)) hl.1 rfl rfl (by rw [hRf, hRl]; exact ⟨Nat.le_of_ble_eq_true rfl, Nat.le_of_ble_eq_true rfl⟩) (Nat.le_of_ble_eq_true rfl) ⟨Nat.zero_le _, Nat.zero_le _⟩ dX9_digest_141 (fun H locs Z => ?_)
              refine z_icmp_ge (a := j137) (b := (zc (MNow 43))) (tgt := 171) X rfl rfl (by omega) (by omega) dX9_digest_144 (by decide) (fun c_7 => ?_) (fun c_7 => ?_)
              · refine lv_aload_n hx hb dX9_digest_171 rfl (lv_at hl 1 rfl) ?_
                refine lv_sipush (v := (284 : Int32)) hx hb dX9_digest_172 (by decide) ?_
                refine lv_iconst (v := (1 : Int32)) hx hb dX9_digest_175 (by decide) ?_
                refine lv_iconst (v := (2 : Int32)) hx hb dX9_digest_176 (by decide) ?_
                refine lv_aload_n hx hb dX9_digest_177 rfl (lv_at hl 1 rfl) ?_
                refine lv_sipush (v := (284 : Int32)) hx hb dX9_digest_178 (by decide) ?_
                refine z_callV (mc := 0) (ms := 0) (As := [.int (284 : Int32)]) (rest := [.int (2 : Int32), .int (1 : Int32), .int (284 : Int32), .ref (md 0)]) (st2 := [.int (nI (zc (MNow 284))), .int (2 : Int32), .int (1 : Int32), .int (284 : Int32), .ref (md 0)]) (cs2 := [wMod g md MNow MPast MSav (0 : Int32) MThen MLev MFst MWay MMost (zl_X9_digest_137 MNow (zc (MNow 43)) 0 (zf_X9_mix (zf_X9_mixAll MNow (zf_X9_mixAll MNow (zf_X9_mix (zf_X9_mix (zl_X9_digest_14 MNow 3 0 (2801 : Int64)) (1 : Int64)) ((zf_X9_overs MNow).toInt64)) 9 (1 + (3 * (zc (MNow 9))))) 34 (1 + (zc (MNow 34)))) (lN (zc (MNow 43)))))]) X Z [0] [] [0] 0 7 (zc_X9_many l g B md MNow MPast MSav (0 : Int32) MThen MLev MFst MWay MMost (zl_X9_digest_137 MNow (zc (MNow 43)) 0 (zf_X9_mix (zf_X9_mixAll MNow (zf_X9_mixAll MNow (zf_X9_mix (zf_X9_mix (zl_X9_digest_14 MNow 3 0 (2801 : Int64)) (1 : Int64)) ((zf_X9_overs MNow).toInt64)) 9 (1 + (3 * (zc (MNow 9))))) 34 (1 + (zc (MNow 34)))) (lN (zc (MNow 43))))) 284 (zc (MNow 284)) (by first | assumption | omega | decide) (by first | assumption | omega | decide)) wM_X9_66 wS_X9_many wV_X9_many wK_X9_many wZ_X9 1 1 1 rfl (by decide +kernel) rfl (by decide) rfl rfl rfl (by decide) rfl rfl (rfl : zCl[7]? = some (RX9, TX9, 10)) hl.1 rfl rfl (by rw [hRf, hRl]; exact ⟨Nat.le_of_ble_eq_true rfl, Nat.le_of_ble_eq_true rfl⟩) (Nat.le_of_ble_eq_true rfl) ⟨Nat.zero_le _, Nat.zero_le _⟩ dX9_digest_181 (fun H locs Z => ?_)
                refine z_imul (a := 2) (b := (zc (MNow 284))) X rfl rfl dX9_digest_184 ?_
                refine z_iadd (a := 1) (b := (2 * (zc (MNow 284)))) X rfl rfl dX9_digest_185 ?_
                refine z_callV (mc := 0) (ms := 0) (As := [.int (284 : Int32), .int (nI (1 + (2 * (zc (MNow 284)))))]) (rest := []) (st2 := []) (cs2 := [wMod g md MNow MPast MSav (0 : Int32) MThen MLev MFst MWay MMost (zf_X9_mixAll MNow (zl_X9_digest_137 MNow (zc (MNow 43)) 0 (zf_X9_mix (zf_X9_mixAll MNow (zf_X9_mixAll MNow (zf_X9_mix (zf_X9_mix (zl_X9_digest_14 MNow 3 0 (2801 : Int64)) (1 : Int64)) ((zf_X9_overs MNow).toInt64)) 9 (1 + (3 * (zc (MNow 9))))) 34 (1 + (zc (MNow 34)))) (lN (zc (MNow 43))))) 284 (1 + (2 * (zc (MNow 284)))))]) X Z [0] [] [0] 0 7 (zc_X9_mixAll l g B md MNow MPast MSav (0 : Int32) MThen MLev MFst MWay MMost (zl_X9_digest_137 MNow (zc (MNow 43)) 0 (zf_X9_mix (zf_X9_mixAll MNow (zf_X9_mixAll MNow (zf_X9_mix (zf_X9_mix (zl_X9_digest_14 MNow 3 0 (2801 : Int64)) (1 : Int64)) ((zf_X9_overs MNow).toInt64)) 9 (1 + (3 * (zc (MNow 9))))) 34 (1 + (zc (MNow 34)))) (lN (zc (MNow 43))))) 284 (1 + (2 * (zc (MNow 284)))) (by first | assumption | omega | decide)) wM_X9_221 wS_X9_mixAll wV_X9_mixAll wK_X9_mixAll wZ_X9 2 1 1 rfl (by decide +kernel) rfl (by decide) rfl rfl rfl (by decide) rfl rfl (rfl : zCl[7]? = some (RX9, TX9, 10)) hl.1 rfl rfl (by rw [hRf, hRl]; exact ⟨Nat.le_of_ble_eq_true rfl, Nat.le_of_ble_eq_true rfl⟩) (Nat.le_of_ble_eq_true rfl) ⟨Nat.zero_le _, Nat.zero_le _⟩ dX9_digest_186 (fun H locs Z => ?_)
                refine lv_aload_n hx hb dX9_digest_189 rfl (lv_at hl 1 rfl) ?_
                refine lv_aload_n hx hb dX9_digest_190 rfl (lv_at hl 1 rfl) ?_
                refine lv_sipush (v := (301 : Int32)) hx hb dX9_digest_191 (by decide) ?_
                refine z_callV (mc := 0) (ms := 0) (As := [.int (301 : Int32)]) (rest := [.ref (md 0)]) (st2 := [.int (nI (zc (MNow 301))), .ref (md 0)]) (cs2 := [wMod g md MNow MPast MSav (0 : Int32) MThen MLev MFst MWay MMost (zf_X9_mixAll MNow (zl_X9_digest_137 MNow (zc (MNow 43)) 0 (zf_X9_mix (zf_X9_mixAll MNow (zf_X9_mixAll MNow (zf_X9_mix (zf_X9_mix (zl_X9_digest_14 MNow 3 0 (2801 : Int64)) (1 : Int64)) ((zf_X9_overs MNow).toInt64)) 9 (1 + (3 * (zc (MNow 9))))) 34 (1 + (zc (MNow 34)))) (lN (zc (MNow 43))))) 284 (1 + (2 * (zc (MNow 284)))))]) X Z [0] [] [0] 0 7 (zc_X9_many l g B md MNow MPast MSav (0 : Int32) MThen MLev MFst MWay MMost (zf_X9_mixAll MNow (zl_X9_digest_137 MNow (zc (MNow 43)) 0 (zf_X9_mix (zf_X9_mixAll MNow (zf_X9_mixAll MNow (zf_X9_mix (zf_X9_mix (zl_X9_digest_14 MNow 3 0 (2801 : Int64)) (1 : Int64)) ((zf_X9_overs MNow).toInt64)) 9 (1 + (3 * (zc (MNow 9))))) 34 (1 + (zc (MNow 34)))) (lN (zc (MNow 43))))) 284 (1 + (2 * (zc (MNow 284))))) 301 (zc (MNow 301)) (by first | assumption | omega | decide) (by first | assumption | omega | decide)) wM_X9_66 wS_X9_many wV_X9_many wK_X9_many wZ_X9 1 1 1 rfl (by decide +kernel) rfl (by decide) rfl rfl rfl (by decide) rfl rfl (rfl : zCl[7]? = some (RX9, TX9, 10)) hl.1 rfl rfl (by rw [hRf, hRl]; exact ⟨Nat.le_of_ble_eq_true rfl, Nat.le_of_ble_eq_true rfl⟩) (Nat.le_of_ble_eq_true rfl) ⟨Nat.zero_le _, Nat.zero_le _⟩ dX9_digest_194 (fun H locs Z => ?_)
                refine z_i2l (a := (zc (MNow 301))) X rfl (by omega) dX9_digest_197 ?_
                refine z_callV (mc := 0) (ms := 0) (As := [.long (lN (zc (MNow 301)))]) (rest := []) (st2 := []) (cs2 := [wMod g md MNow MPast MSav (0 : Int32) MThen MLev MFst MWay MMost (zf_X9_mix (zf_X9_mixAll MNow (zl_X9_digest_137 MNow (zc (MNow 43)) 0 (zf_X9_mix (zf_X9_mixAll MNow (zf_X9_mixAll MNow (zf_X9_mix (zf_X9_mix (zl_X9_digest_14 MNow 3 0 (2801 : Int64)) (1 : Int64)) ((zf_X9_overs MNow).toInt64)) 9 (1 + (3 * (zc (MNow 9))))) 34 (1 + (zc (MNow 34)))) (lN (zc (MNow 43))))) 284 (1 + (2 * (zc (MNow 284))))) (lN (zc (MNow 301))))]) X Z [0] [] [0] 0 7 (zc_X9_mix l g B md MNow MPast MSav (0 : Int32) MThen MLev MFst MWay MMost (zf_X9_mixAll MNow (zl_X9_digest_137 MNow (zc (MNow 43)) 0 (zf_X9_mix (zf_X9_mixAll MNow (zf_X9_mixAll MNow (zf_X9_mix (zf_X9_mix (zl_X9_digest_14 MNow 3 0 (2801 : Int64)) (1 : Int64)) ((zf_X9_overs MNow).toInt64)) 9 (1 + (3 * (zc (MNow 9))))) 34 (1 + (zc (MNow 34)))) (lN (zc (MNow 43))))) 284 (1 + (2 * (zc (MNow 284))))) (lN (zc (MNow 301)))) wM_X9_215 wS_X9_mix wV_X9_mix wK_X9_mix wZ_X9 1 1 1 rfl (by decide +kernel) rfl (by decide) rfl rfl rfl (by decide) rfl rfl (rfl : zCl[7]? = some (RX9, TX9, 10)) hl.1 rfl rfl (by rw [hRf, hRl]; exact ⟨Nat.le_of_ble_eq_true rfl, Nat.le_of_ble_eq_true rfl⟩) (Nat.le_of_ble_eq_true rfl) ⟨Nat.zero_le _, Nat.zero_le _⟩ dX9_digest_198 (fun H locs Z => ?_)
                refine lv_iconst (v := (0 : Int32)) hx hb dX9_digest_201 (by decide) ?_
                refine lv_istore_n (lv' := [(1, .int (0 : Int32)), (0, .ref (md 0))]) hx hb dX9_digest_202 rfl hl (by decide) rfl (fun ls hl => ?_)
                have loop_203 : ∀ (n203 j203 : Nat) (h3 : Int64) (m3 : Nat → Int32), j203 + n203 = (zc (MNow 301)) → zl_X9_digest_203 MNow n203 j203 h3 m3 = (zl_X9_digest_203 MNow (zc (MNow 301)) 0 (zf_X9_mix (zf_X9_mixAll MNow (zl_X9_digest_137 MNow (zc (MNow 43)) 0 (zf_X9_mix (zf_X9_mixAll MNow (zf_X9_mixAll MNow (zf_X9_mix (zf_X9_mix (zl_X9_digest_14 MNow 3 0 (2801 : Int64)) (1 : Int64)) ((zf_X9_overs MNow).toInt64)) 9 (1 + (3 * (zc (MNow 9))))) 34 (1 + (zc (MNow 34)))) (lN (zc (MNow 43))))) 284 (1 + (2 * (zc (MNow 284))))) (lN (zc (MNow 301)))) MMost) → ∀ (H : Heap) (locs : List Loc), zM g B A s [wMod g md MNow MPast MSav (0 : Int32) MThen MLev MFst MWay m3 h3] H locs → ∀ ls : Array Slot, lv_has ls 2 [(1, .int (nI j203)), (0, .ref (md 0))] → W p l e R s m args below meth c H locs 0 0 Q (F0 m 203 ls []) := by
                  intro n203
                  induction n203 with
                  | zero =>
                    intro j203 h3 m3 hin203 hR203 H locs Z ls hl
                    have e_h3 : (zl_X9_digest_203 MNow (zc (MNow 301)) 0 (zf_X9_mix (zf_X9_mixAll MNow (zl_X9_digest_137 MNow (zc (MNow 43)) 0 (zf_X9_mix (zf_X9_mixAll MNow (zf_X9_mixAll MNow (zf_X9_mix (zf_X9_mix (zl_X9_digest_14 MNow 3 0 (2801 : Int64)) (1 : Int64)) ((zf_X9_overs MNow).toInt64)) 9 (1 + (3 * (zc (MNow 9))))) 34 (1 + (zc (MNow 34)))) (lN (zc (MNow 43))))) 284 (1 + (2 * (zc (MNow 284))))) (lN (zc (MNow 301)))) MMost).1 = h3 := (by rw [← hR203]; rfl)
                    have e_m3 : (zl_X9_digest_203 MNow (zc (MNow 301)) 0 (zf_X9_mix (zf_X9_mixAll MNow (zl_X9_digest_137 MNow (zc (MNow 43)) 0 (zf_X9_mix (zf_X9_mixAll MNow (zf_X9_mixAll MNow (zf_X9_mix (zf_X9_mix (zl_X9_digest_14 MNow 3 0 (2801 : Int64)) (1 : Int64)) ((zf_X9_overs MNow).toInt64)) 9 (1 + (3 * (zc (MNow 9))))) 34 (1 + (zc (MNow 34)))) (lN (zc (MNow 43))))) 284 (1 + (2 * (zc (MNow 284))))) (lN (zc (MNow 301)))) MMost).2 = m3 := (by rw [← hR203]; rfl)
                    subst e_h3
                    subst e_m3
                    refine lv_iload_n hx hb dX9_digest_203 rfl (lv_at hl 0 rfl) ?_
                    refine lv_aload_n hx hb dX9_digest_204 rfl (lv_at hl 1 rfl) ?_
                    refine lv_sipush (v := (301 : Int32)) hx hb dX9_digest_205 (by decide) ?_
                    refine z_callV (mc := 0) (ms := 0) (As := [.int (301 : Int32)]) (rest := [.int (nI j203)]) (st2 := [.int (nI (zc (MNow 301))), .int (nI j203)]) (cs2 := [wMod g md MNow MPast MSav (0 : Int32) MThen MLev MFst MWay ((zl_X9_digest_203 MNow (zc (MNow 301)) 0 (zf_X9_mix (zf_X9_mixAll MNow (zl_X9_digest_137 MNow (zc (MNow 43)) 0 (zf_X9_mix (zf_X9_mixAll MNow (zf_X9_mixAll MNow (zf_X9_mix (zf_X9_mix (zl_X9_digest_14 MNow 3 0 (2801 : Int64)) (1 : Int64)) ((zf_X9_overs MNow).toInt64)) 9 (1 + (3 * (zc (MNow 9))))) 34 (1 + (zc (MNow 34)))) (lN (zc (MNow 43))))) 284 (1 + (2 * (zc (MNow 284))))) (lN (zc (MNow 301)))) MMost).2) ((zl_X9_digest_203 MNow (zc (MNow 301)) 0 (zf_X9_mix (zf_X9_mixAll MNow (zl_X9_digest_137 MNow (zc (MNow 43)) 0 (zf_X9_mix (zf_X9_mixAll MNow (zf_X9_mixAll MNow (zf_X9_mix (zf_X9_mix (zl_X9_digest_14 MNow 3 0 (2801 : Int64)) (1 : Int64)) ((zf_X9_overs MNow).toInt64)) 9 (1 + (3 * (zc (MNow 9))))) 34 (1 + (zc (MNow 34)))) (lN (zc (MNow 43))))) 284 (1 + (2 * (zc (MNow 284))))) (lN (zc (MNow 301)))) MMost).1)]) X Z [0] [] [0] 0 7 (zc_X9_many l g B md MNow MPast MSav (0 : Int32) MThen MLev MFst MWay ((zl_X9_digest_203 MNow (zc (MNow 301)) 0 (zf_X9_mix (zf_X9_mixAll MNow (zl_X9_digest_137 MNow (zc (MNow 43)) 0 (zf_X9_mix (zf_X9_mixAll MNow (zf_X9_mixAll MNow (zf_X9_mix (zf_X9_mix (zl_X9_digest_14 MNow 3 0 (2801 : Int64)) (1 : Int64)) ((zf_X9_overs MNow).toInt64)) 9 (1 + (3 * (zc (MNow 9))))) 34 (1 + (zc (MNow 34)))) (lN (zc (MNow 43))))) 284 (1 + (2 * (zc (MNow 284))))) (lN (zc (MNow 301)))) MMost).2) ((zl_X9_digest_203 MNow (zc (MNow 301)) 0 (zf_X9_mix (zf_X9_mixAll MNow (zl_X9_digest_137 MNow (zc (MNow 43)) 0 (zf_X9_mix (zf_X9_mixAll MNow (zf_X9_mixAll MNow (zf_X9_mix (zf_X9_mix (zl_X9_digest_14 MNow 3 0 (2801 : Int64)) (1 : Int64)) ((zf_X9_overs MNow).toInt64)) 9 (1 + (3 * (zc (MNow 9))))) 34 (1 + (zc (MNow 34)))) (lN (zc (MNow 43))))) 284 (1 + (2 * (zc (MNow 284))))) (lN (zc (MNow 301)))) MMost).1) 301 (zc (MNow 301)) (by first | assumption | omega | decide) (by first | assumption | omega | decide)) wM_X9_66 wS_X9_many wV_X9_many wK_X9_many wZ_X9 1 1 1 rfl (by decide +kernel) rfl (by decide) rfl rfl rfl (by decide) rfl rfl (rfl : zCl[7]? = some (RX9, TX9, 10)) hl.1 rfl rfl (by rw [hRf, hRl]; exact ⟨Nat.le_of_ble_eq_true rfl, Nat.le_of_ble_eq_true rfl⟩) (Nat.le_of_ble_eq_true rfl) ⟨Nat.zero_le _, Nat.zero_le _⟩ dX9_digest_208 (fun H locs Z => ?_)
                    refine z_icmp_ge (a := j203) (b := (zc (MNow 301))) (tgt := 242) X rfl rfl (by omega) (by omega) dX9_digest_211 (by decide) (fun c_8 => ?_) (fun c_8 => ?_)
                    · refine lv_aload_n hx hb dX9_digest_242 rfl (lv_at hl 1 rfl) ?_
                      refine lv_aload_n hx hb dX9_digest_243 rfl (lv_at hl 1 rfl) ?_
                      refine z_get X Z 0 rfl (rfl : zCl[7]? = some (RX9, TX9, 10)) zU_X9 2 (by decide) wF_X9_52 rfl rfl dX9_digest_244 ?_
                      refine z_i2l (a := MSav) X rfl (by omega) dX9_digest_247 ?_
                      refine z_callV (mc := 0) (ms := 0) (As := [.long (lN MSav)]) (rest := []) (st2 := []) (cs2 := [wMod g md MNow MPast MSav (0 : Int32) MThen MLev MFst MWay ((zl_X9_digest_203 MNow (zc (MNow 301)) 0 (zf_X9_mix (zf_X9_mixAll MNow (zl_X9_digest_137 MNow (zc (MNow 43)) 0 (zf_X9_mix (zf_X9_mixAll MNow (zf_X9_mixAll MNow (zf_X9_mix (zf_X9_mix (zl_X9_digest_14 MNow 3 0 (2801 : Int64)) (1 : Int64)) ((zf_X9_overs MNow).toInt64)) 9 (1 + (3 * (zc (MNow 9))))) 34 (1 + (zc (MNow 34)))) (lN (zc (MNow 43))))) 284 (1 + (2 * (zc (MNow 284))))) (lN (zc (MNow 301)))) MMost).2) (zf_X9_mix ((zl_X9_digest_203 MNow (zc (MNow 301)) 0 (zf_X9_mix (zf_X9_mixAll MNow (zl_X9_digest_137 MNow (zc (MNow 43)) 0 (zf_X9_mix (zf_X9_mixAll MNow (zf_X9_mixAll MNow (zf_X9_mix (zf_X9_mix (zl_X9_digest_14 MNow 3 0 (2801 : Int64)) (1 : Int64)) ((zf_X9_overs MNow).toInt64)) 9 (1 + (3 * (zc (MNow 9))))) 34 (1 + (zc (MNow 34)))) (lN (zc (MNow 43))))) 284 (1 + (2 * (zc (MNow 284))))) (lN (zc (MNow 301)))) MMost).1) (lN MSav))]) X Z [0] [] [0] 0 7 (zc_X9_mix l g B md MNow MPast MSav (0 : Int32) MThen MLev MFst MWay ((zl_X9_digest_203 MNow (zc (MNow 301)) 0 (zf_X9_mix (zf_X9_mixAll MNow (zl_X9_digest_137 MNow (zc (MNow 43)) 0 (zf_X9_mix (zf_X9_mixAll MNow (zf_X9_mixAll MNow (zf_X9_mix (zf_X9_mix (zl_X9_digest_14 MNow 3 0 (2801 : Int64)) (1 : Int64)) ((zf_X9_overs MNow).toInt64)) 9 (1 + (3 * (zc (MNow 9))))) 34 (1 + (zc (MNow 34)))) (lN (zc (MNow 43))))) 284 (1 + (2 * (zc (MNow 284))))) (lN (zc (MNow 301)))) MMost).2) ((zl_X9_digest_203 MNow (zc (MNow 301)) 0 (zf_X9_mix (zf_X9_mixAll MNow (zl_X9_digest_137 MNow (zc (MNow 43)) 0 (zf_X9_mix (zf_X9_mixAll MNow (zf_X9_mixAll MNow (zf_X9_mix (zf_X9_mix (zl_X9_digest_14 MNow 3 0 (2801 : Int64)) (1 : Int64)) ((zf_X9_overs MNow).toInt64)) 9 (1 + (3 * (zc (MNow 9))))) 34 (1 + (zc (MNow 34)))) (lN (zc (MNow 43))))) 284 (1 + (2 * (zc (MNow 284))))) (lN (zc (MNow 301)))) MMost).1) (lN MSav)) wM_X9_215 wS_X9_mix wV_X9_mix wK_X9_mix wZ_X9 1 1 1 rfl (by decide +kernel) rfl (by decide) rfl rfl rfl (by decide) rfl rfl (rfl : zCl[7]? = some (RX9, TX9, 10)) hl.1 rfl rfl (by rw [hRf, hRl]; exact ⟨Nat.le_of_ble_eq_true rfl, Nat.le_of_ble_eq_true rfl⟩) (Nat.le_of_ble_eq_true rfl) ⟨Nat.zero_le _, Nat.zero_le _⟩ dX9_digest_248 (fun H locs Z => ?_)
                      refine lv_aload_n hx hb dX9_digest_251 rfl (lv_at hl 1 rfl) ?_
                      refine z_get X Z 0 rfl (rfl : zCl[7]? = some (RX9, TX9, 10)) zU_X9 9 (by decide) wF_X9_211 rfl rfl dX9_digest_252 ?_
                      exact z_rl (v := (zf_X9_mix ((zl_X9_digest_203 MNow (zc (MNow 301)) 0 (zf_X9_mix (zf_X9_mixAll MNow (zl_X9_digest_137 MNow (zc (MNow 43)) 0 (zf_X9_mix (zf_X9_mixAll MNow (zf_X9_mixAll MNow (zf_X9_mix (zf_X9_mix (zl_X9_digest_14 MNow 3 0 (2801 : Int64)) (1 : Int64)) ((zf_X9_overs MNow).toInt64)) 9 (1 + (3 * (zc (MNow 9))))) 34 (1 + (zc (MNow 34)))) (lN (zc (MNow 43))))) 284 (1 + (2 * (zc (MNow 284))))) (lN (zc (MNow 301)))) MMost).1) (lN MSav))) E Z (by rw [zf_X9_digest_e, if_pos c_2]; dsimp only; exact ⟨rfl, rfl⟩) dX9_digest_255 (Nat.zero_le _) (Nat.zero_le _)
                    · (exfalso; omega)
                  | succ n203 ih203 =>
                    intro j203 h3 m3 hin203 hR203 H locs Z ls hl
                    refine lv_iload_n hx hb dX9_digest_203 rfl (lv_at hl 0 rfl) ?_
                    refine lv_aload_n hx hb dX9_digest_204 rfl (lv_at hl 1 rfl) ?_
                    refine lv_sipush (v := (301 : Int32)) hx hb dX9_digest_205 (by decide) ?_
                    refine z_callV (mc := 0) (ms := 0) (As := [.int (301 : Int32)]) (rest := [.int (nI j203)]) (st2 := [.int (nI (zc (MNow 301))), .int (nI j203)]) (cs2 := [wMod g md MNow MPast MSav (0 : Int32) MThen MLev MFst MWay m3 h3]) X Z [0] [] [0] 0 7 (zc_X9_many l g B md MNow MPast MSav (0 : Int32) MThen MLev MFst MWay m3 h3 301 (zc (MNow 301)) (by first | assumption | omega | decide) (by first | assumption | omega | decide)) wM_X9_66 wS_X9_many wV_X9_many wK_X9_many wZ_X9 1 1 1 rfl (by decide +kernel) rfl (by decide) rfl rfl rfl (by decide) rfl rfl (rfl : zCl[7]? = some (RX9, TX9, 10)) hl.1 rfl rfl (by rw [hRf, hRl]; exact ⟨Nat.le_of_ble_eq_true rfl, Nat.le_of_ble_eq_true rfl⟩) (Nat.le_of_ble_eq_true rfl) ⟨Nat.zero_le _, Nat.zero_le _⟩ dX9_digest_208 (fun H locs Z => ?_)
                    refine z_icmp_ge (a := j203) (b := (zc (MNow 301))) (tgt := 242) X rfl rfl (by omega) (by omega) dX9_digest_211 (by decide) (fun c_9 => ?_) (fun c_9 => ?_)
                    · (exfalso; omega)
                    · refine lv_aload_n hx hb dX9_digest_214 rfl (lv_at hl 1 rfl) ?_
                      refine lv_sipush (v := (302 : Int32)) hx hb dX9_digest_215 (by decide) ?_
                      refine lv_iconst (v := (2 : Int32)) hx hb dX9_digest_218 (by decide) ?_
                      refine lv_iload_n hx hb dX9_digest_219 rfl (lv_at hl 0 rfl) ?_
                      refine z_imul (a := 2) (b := j203) X rfl rfl dX9_digest_220 ?_
                      refine z_iadd (a := 302) (b := (2 * j203)) X rfl rfl dX9_digest_221 ?_
                      refine lv_iconst (v := (2 : Int32)) hx hb dX9_digest_222 (by decide) ?_
                      refine z_callV (mc := 0) (ms := 0) (As := [.int (nI (302 + (2 * j203))), .int (2 : Int32)]) (rest := []) (st2 := []) (cs2 := [wMod g md MNow MPast MSav (0 : Int32) MThen MLev MFst MWay m3 (zf_X9_mixAll MNow h3 (302 + (2 * j203)) 2)]) X Z [0] [] [0] 0 7 (zc_X9_mixAll l g B md MNow MPast MSav (0 : Int32) MThen MLev MFst MWay m3 h3 (302 + (2 * j203)) 2 (by first | assumption | omega | decide)) wM_X9_221 wS_X9_mixAll wV_X9_mixAll wK_X9_mixAll wZ_X9 2 1 1 rfl (by decide +kernel) rfl (by decide) rfl rfl rfl (by decide) rfl rfl (rfl : zCl[7]? = some (RX9, TX9, 10)) hl.1 rfl rfl (by rw [hRf, hRl]; exact ⟨Nat.le_of_ble_eq_true rfl, Nat.le_of_ble_eq_true rfl⟩) (Nat.le_of_ble_eq_true rfl) ⟨Nat.zero_le _, Nat.zero_le _⟩ dX9_digest_223 (fun H locs Z => ?_)
                      refine lv_aload_n hx hb dX9_digest_226 rfl (lv_at hl 1 rfl) ?_
                      refine lv_aload_n hx hb dX9_digest_227 rfl (lv_at hl 1 rfl) ?_
                      refine lv_iload_n hx hb dX9_digest_228 rfl (lv_at hl 0 rfl) ?_
                      refine z_callV (mc := 0) (ms := 0) (As := [.int (nI j203)]) (rest := [.ref (md 0)]) (st2 := [.int ((zf_X9_taker MNow m3 j203).1), .ref (md 0)]) (cs2 := [wMod g md MNow MPast MSav (0 : Int32) MThen MLev MFst MWay ((zf_X9_taker MNow m3 j203).2) (zf_X9_mixAll MNow h3 (302 + (2 * j203)) 2)]) X Z [0] [] [0] 0 7 (zc_X9_taker l g B md MNow MPast MSav (0 : Int32) MThen MLev MFst MWay m3 (zf_X9_mixAll MNow h3 (302 + (2 * j203)) 2) j203 (by first | assumption | omega | decide) (by first | assumption | omega | decide)) wM_X9_206 wS_X9_taker wV_X9_taker wK_X9_taker wZ_X9 1 1 1 rfl (by decide +kernel) rfl (by decide) rfl rfl rfl (by decide) rfl rfl (rfl : zCl[7]? = some (RX9, TX9, 10)) hl.1 rfl rfl (by rw [hRf, hRl]; exact ⟨Nat.le_of_ble_eq_true rfl, Nat.le_of_ble_eq_true rfl⟩) (Nat.le_of_ble_eq_true rfl) ⟨Nat.zero_le _, Nat.zero_le _⟩ dX9_digest_229 (fun H locs Z => ?_)
                      refine lv_i2l hx hb dX9_digest_232 rfl ?_
                      refine z_callV (mc := 0) (ms := 0) (As := [.long (((zf_X9_taker MNow m3 j203).1).toInt64)]) (rest := []) (st2 := []) (cs2 := [wMod g md MNow MPast MSav (0 : Int32) MThen MLev MFst MWay ((zf_X9_taker MNow m3 j203).2) (zf_X9_mix (zf_X9_mixAll MNow h3 (302 + (2 * j203)) 2) (((zf_X9_taker MNow m3 j203).1).toInt64))]) X Z [0] [] [0] 0 7 (zc_X9_mix l g B md MNow MPast MSav (0 : Int32) MThen MLev MFst MWay ((zf_X9_taker MNow m3 j203).2) (zf_X9_mixAll MNow h3 (302 + (2 * j203)) 2) (((zf_X9_taker MNow m3 j203).1).toInt64)) wM_X9_215 wS_X9_mix wV_X9_mix wK_X9_mix wZ_X9 1 1 1 rfl (by decide +kernel) rfl (by decide) rfl rfl rfl (by decide) rfl rfl (rfl : zCl[7]? = some (RX9, TX9, 10)) hl.1 rfl rfl (by rw [hRf, hRl]; exact ⟨Nat.le_of_ble_eq_true rfl, Nat.le_of_ble_eq_true rfl⟩) (Nat.le_of_ble_eq_true rfl) ⟨Nat.zero_le _, Nat.zero_le _⟩ dX9_digest_233 (fun H locs Z => ?_)
                      refine z_iinc (b := (j203 + 1)) (st := 1) (lv' := [(1, .int (nI (j203 + 1))), (0, .ref (md 0))]) X dX9_digest_236 hl (k := 0) rfl rfl (by decide) (by omega) (by decide) rfl (fun ls hl => ?_)
                      refine lv_goto (tgt := 203) hx hb dX9_digest_239 (by decide) ?_
                      exact ih203 (j203 + 1) (zf_X9_mix (zf_X9_mixAll MNow h3 (302 + (2 * j203)) 2) (((zf_X9_taker MNow m3 j203).1).toInt64)) ((zf_X9_taker MNow m3 j203).2) (by omega) (by have h9 := hR203; rw [zl_X9_digest_203_s] at h9; exact h9) _ _ Z ls (lv_sub hl [0, 1] rfl)
                exact loop_203 (zc (MNow 301)) 0 (zf_X9_mix (zf_X9_mixAll MNow (zl_X9_digest_137 MNow (zc (MNow 43)) 0 (zf_X9_mix (zf_X9_mixAll MNow (zf_X9_mixAll MNow (zf_X9_mix (zf_X9_mix (zl_X9_digest_14 MNow 3 0 (2801 : Int64)) (1 : Int64)) ((zf_X9_overs MNow).toInt64)) 9 (1 + (3 * (zc (MNow 9))))) 34 (1 + (zc (MNow 34)))) (lN (zc (MNow 43))))) 284 (1 + (2 * (zc (MNow 284))))) (lN (zc (MNow 301)))) MMost (by omega) rfl _ _ Z ls (lv_sub hl [0, 1] rfl)
              · (exfalso; omega)
            | succ n137 ih137 =>
              intro j137 h2 hin137 hR137 H locs Z ls hl
              refine lv_iload_n hx hb dX9_digest_137 rfl (lv_at hl 0 rfl) ?_
              refine lv_aload_n hx hb dX9_digest_138 rfl (lv_at hl 1 rfl) ?_
              refine lv_bipush (v := (43 : Int32)) hx hb dX9_digest_139 (by decide) ?_
              refine z_callV (mc := 0) (ms := 0) (As := [.int (43 : Int32)]) (rest := [.int (nI j137)]) (st2 := [.int (nI (zc (MNow 43))), .int (nI j137)]) (cs2 := [wMod g md MNow MPast MSav (0 : Int32) MThen MLev MFst MWay MMost h2]) X Z [0] [] [0] 0 7 (zc_X9_many l g B md MNow MPast MSav (0 : Int32) MThen MLev MFst MWay MMost h2 43 (zc (MNow 43)) (by first | assumption | omega | decide) (by first | assumption | omega | decide)) wM_X9_66 wS_X9_many wV_X9_many wK_X9_many wZ_X9 1 1 1 rfl (by decide +kernel) rfl (by decide) rfl rfl rfl (by decide) rfl rfl (rfl : zCl[7]? = some (RX9, TX9, 10)) hl.1 rfl rfl (by rw [hRf, hRl]; exact ⟨Nat.le_of_ble_eq_true rfl, Nat.le_of_ble_eq_true rfl⟩) (Nat.le_of_ble_eq_true rfl) ⟨Nat.zero_le _, Nat.zero_le _⟩ dX9_digest_141 (fun H locs Z => ?_)
              refine z_icmp_ge (a := j137) (b := (zc (MNow 43))) (tgt := 171) X rfl rfl (by omega) (by omega) dX9_digest_144 (by decide) (fun c_10 => ?_) (fun c_10 => ?_)
              · (exfalso; omega)
              · refine lv_aload_n hx hb dX9_digest_147 rfl (lv_at hl 1 rfl) ?_
                refine lv_aload_n hx hb dX9_digest_148 rfl (lv_at hl 1 rfl) ?_
                refine lv_iload_n hx hb dX9_digest_149 rfl (lv_at hl 0 rfl) ?_
                refine lv_iconst (v := (0 : Int32)) hx hb dX9_digest_150 (by decide) ?_
                refine z_callV (mc := 0) (ms := 0) (As := [.int (nI j137), .int (0 : Int32)]) (rest := [.ref (md 0)]) (st2 := [.int (nI (44 + 3 * (8 * j137 + 0))), .ref (md 0)]) (cs2 := [wMod g md MNow MPast MSav (0 : Int32) MThen MLev MFst MWay MMost h2]) X Z [0] [] [0] 0 7 (zc_X9_chanceAt l g B md MNow MPast MSav (0 : Int32) MThen MLev MFst MWay MMost h2 j137 0) wM_X9_125 wS_X9_chanceAt wV_X9_chanceAt wK_X9_chanceAt wZ_X9 2 1 1 rfl (by decide +kernel) rfl (by decide) rfl rfl rfl (by decide) rfl rfl (rfl : zCl[7]? = some (RX9, TX9, 10)) hl.1 rfl rfl (by rw [hRf, hRl]; exact ⟨Nat.le_of_ble_eq_true rfl, Nat.le_of_ble_eq_true rfl⟩) (Nat.le_of_ble_eq_true rfl) ⟨Nat.zero_le _, Nat.zero_le _⟩ dX9_digest_151 (fun H locs Z => ?_)
                refine lv_iconst (v := (3 : Int32)) hx hb dX9_digest_154 (by decide) ?_
                refine lv_aload_n hx hb dX9_digest_155 rfl (lv_at hl 1 rfl) ?_
                refine lv_bipush (v := (34 : Int32)) hx hb dX9_digest_156 (by decide) ?_
                refine z_callV (mc := 0) (ms := 0) (As := [.int (34 : Int32)]) (rest := [.int (3 : Int32), .int (nI (44 + 3 * (8 * j137 + 0))), .ref (md 0)]) (st2 := [.int (nI (zc (MNow 34))), .int (3 : Int32), .int (nI (44 + 3 * (8 * j137 + 0))), .ref (md 0)]) (cs2 := [wMod g md MNow MPast MSav (0 : Int32) MThen MLev MFst MWay MMost h2]) X Z [0] [] [0] 0 7 (zc_X9_many l g B md MNow MPast MSav (0 : Int32) MThen MLev MFst MWay MMost h2 34 (zc (MNow 34)) (by first | assumption | omega | decide) (by first | assumption | omega | decide)) wM_X9_66 wS_X9_many wV_X9_many wK_X9_many wZ_X9 1 1 1 rfl (by decide +kernel) rfl (by decide) rfl rfl rfl (by decide) rfl rfl (rfl : zCl[7]? = some (RX9, TX9, 10)) hl.1 rfl rfl (by rw [hRf, hRl]; exact ⟨Nat.le_of_ble_eq_true rfl, Nat.le_of_ble_eq_true rfl⟩) (Nat.le_of_ble_eq_true rfl) ⟨Nat.zero_le _, Nat.zero_le _⟩ dX9_digest_158 (fun H locs Z => ?_)
                refine z_imul (a := 3) (b := (zc (MNow 34))) X rfl rfl dX9_digest_161 ?_
                refine z_callV (mc := 0) (ms := 0) (As := [.int (nI (44 + 3 * (8 * j137 + 0))), .int (nI (3 * (zc (MNow 34))))]) (rest := []) (st2 := []) (cs2 := [wMod g md MNow MPast MSav (0 : Int32) MThen MLev MFst MWay MMost (zf_X9_mixAll MNow h2 (44 + 3 * (8 * j137 + 0)) (3 * (zc (MNow 34))))]) X Z [0] [] [0] 0 7 (zc_X9_mixAll l g B md MNow MPast MSav (0 : Int32) MThen MLev MFst MWay MMost h2 (44 + 3 * (8 * j137 + 0)) (3 * (zc (MNow 34))) (by first | assumption | omega | decide)) wM_X9_221 wS_X9_mixAll wV_X9_mixAll wK_X9_mixAll wZ_X9 2 1 1 rfl (by decide +kernel) rfl (by decide) rfl rfl rfl (by decide) rfl rfl (rfl : zCl[7]? = some (RX9, TX9, 10)) hl.1 rfl rfl (by rw [hRf, hRl]; exact ⟨Nat.le_of_ble_eq_true rfl, Nat.le_of_ble_eq_true rfl⟩) (Nat.le_of_ble_eq_true rfl) ⟨Nat.zero_le _, Nat.zero_le _⟩ dX9_digest_162 (fun H locs Z => ?_)
                refine z_iinc (b := (j137 + 1)) (st := 1) (lv' := [(1, .int (nI (j137 + 1))), (0, .ref (md 0))]) X dX9_digest_165 hl (k := 0) rfl rfl (by decide) (by omega) (by decide) rfl (fun ls hl => ?_)
                refine lv_goto (tgt := 137) hx hb dX9_digest_168 (by decide) ?_
                exact ih137 (j137 + 1) (zf_X9_mixAll MNow h2 (44 + 3 * (8 * j137 + 0)) (3 * (zc (MNow 34)))) (by omega) (by have h9 := hR137; rw [zl_X9_digest_137_s] at h9; exact h9) _ _ Z ls (lv_sub hl [0, 1] rfl)
          exact loop_137 (zc (MNow 43)) 0 (zf_X9_mix (zf_X9_mixAll MNow (zf_X9_mixAll MNow (zf_X9_mix (zf_X9_mix (zl_X9_digest_14 MNow 3 0 (2801 : Int64)) (1 : Int64)) ((zf_X9_overs MNow).toInt64)) 9 (1 + (3 * (zc (MNow 9))))) 34 (1 + (zc (MNow 34)))) (lN (zc (MNow 43)))) (by omega) rfl _ _ Z ls (lv_sub hl [0, 1] rfl)
      · (exfalso; omega)
    | succ n14 ih14 =>
      intro j14 h1 hin14 hR14 H locs Z ls hl
      refine lv_iload_n hx hb dX9_digest_14 rfl (lv_at hl 0 rfl) ?_
      refine lv_iconst (v := (3 : Int32)) hx hb dX9_digest_15 (by decide) ?_
      refine z_icmp_ge (a := j14) (b := 3) (tgt := 69) X rfl rfl (by omega) (by omega) dX9_digest_16 (by decide) (fun c_11 => ?_) (fun c_11 => ?_)
      · (exfalso; omega)
      · refine lv_aload_n hx hb dX9_digest_19 rfl (lv_at hl 1 rfl) ?_
        refine lv_iconst (v := (0 : Int32)) hx hb dX9_digest_20 (by decide) ?_
        refine lv_iconst (v := (3 : Int32)) hx hb dX9_digest_21 (by decide) ?_
        refine lv_iload_n hx hb dX9_digest_22 rfl (lv_at hl 0 rfl) ?_
        refine z_imul (a := 3) (b := j14) X rfl rfl dX9_digest_23 ?_
        refine z_iadd (a := 0) (b := (3 * j14)) X rfl rfl dX9_digest_24 ?_
        refine lv_iconst (v := (3 : Int32)) hx hb dX9_digest_25 (by decide) ?_
        refine z_callV (mc := 0) (ms := 0) (As := [.int (nI (0 + (3 * j14))), .int (3 : Int32)]) (rest := []) (st2 := []) (cs2 := [wMod g md MNow MPast MSav (0 : Int32) MThen MLev MFst MWay MMost (zf_X9_mixAll MNow h1 (0 + (3 * j14)) 3)]) X Z [0] [] [0] 0 7 (zc_X9_mixAll l g B md MNow MPast MSav (0 : Int32) MThen MLev MFst MWay MMost h1 (0 + (3 * j14)) 3 (by first | assumption | omega | decide)) wM_X9_221 wS_X9_mixAll wV_X9_mixAll wK_X9_mixAll wZ_X9 2 1 1 rfl (by decide +kernel) rfl (by decide) rfl rfl rfl (by decide) rfl rfl (rfl : zCl[7]? = some (RX9, TX9, 10)) hl.1 rfl rfl (by rw [hRf, hRl]; exact ⟨Nat.le_of_ble_eq_true rfl, Nat.le_of_ble_eq_true rfl⟩) (Nat.le_of_ble_eq_true rfl) ⟨Nat.zero_le _, Nat.zero_le _⟩ dX9_digest_26 (fun H locs Z => ?_)
        refine lv_aload_n hx hb dX9_digest_29 rfl (lv_at hl 1 rfl) ?_
        refine lv_aload_n hx hb dX9_digest_30 rfl (lv_at hl 1 rfl) ?_
        refine lv_iload_n hx hb dX9_digest_31 rfl (lv_at hl 0 rfl) ?_
        refine z_callV (mc := 0) (ms := 0) (As := [.int (nI j14)]) (rest := [.ref (md 0)]) (st2 := [.long (zf_X9_loadOf MNow j14), .ref (md 0)]) (cs2 := [wMod g md MNow MPast MSav (0 : Int32) MThen MLev MFst MWay MMost (zf_X9_mixAll MNow h1 (0 + (3 * j14)) 3)]) X Z [0] [] [0] 0 7 (zc_X9_loadOf l g B md MNow MPast MSav (0 : Int32) MThen MLev MFst MWay MMost (zf_X9_mixAll MNow h1 (0 + (3 * j14)) 3) j14 (by first | assumption | omega | decide) (by first | assumption | omega | decide)) wM_X9_95 wS_X9_loadOf wV_X9_loadOf wK_X9_loadOf wZ_X9 1 1 1 rfl (by decide +kernel) rfl (by decide) rfl rfl rfl (by decide) rfl rfl (rfl : zCl[7]? = some (RX9, TX9, 10)) hl.1 rfl rfl (by rw [hRf, hRl]; exact ⟨Nat.le_of_ble_eq_true rfl, Nat.le_of_ble_eq_true rfl⟩) (Nat.le_of_ble_eq_true rfl) ⟨Nat.zero_le _, Nat.zero_le _⟩ dX9_digest_32 (fun H locs Z => ?_)
        refine lv_aload_n hx hb dX9_digest_35 rfl (lv_at hl 1 rfl) ?_
        refine z_callV (mc := 0) (ms := 0) (As := []) (rest := [.long (zf_X9_loadOf MNow j14), .ref (md 0)]) (st2 := [.long (zf_X9_size MNow), .long (zf_X9_loadOf MNow j14), .ref (md 0)]) (cs2 := [wMod g md MNow MPast MSav (0 : Int32) MThen MLev MFst MWay MMost (zf_X9_mixAll MNow h1 (0 + (3 * j14)) 3)]) X Z [0] [] [0] 0 7 (zc_X9_size l g B md MNow MPast MSav (0 : Int32) MThen MLev MFst MWay MMost (zf_X9_mixAll MNow h1 (0 + (3 * j14)) 3)) wM_X9_98 wS_X9_size wV_X9_size wK_X9_size wZ_X9 0 1 1 rfl (by decide +kernel) rfl (by decide) rfl rfl rfl (by decide) rfl rfl (rfl : zCl[7]? = some (RX9, TX9, 10)) hl.1 rfl rfl (by rw [hRf, hRl]; exact ⟨Nat.le_of_ble_eq_true rfl, Nat.le_of_ble_eq_true rfl⟩) (Nat.le_of_ble_eq_true rfl) ⟨Nat.zero_le _, Nat.zero_le _⟩ dX9_digest_36 (fun H locs Z => ?_)
        refine lv_iconst (v := (0 : Int32)) hx hb dX9_digest_39 (by decide) ?_
        refine z_callS (mc := 0) (ms := 0) (As := [.long (zf_X9_loadOf MNow j14), .long (zf_X9_size MNow), .int (0 : Int32)]) (rest := [.ref (md 0)]) (st2 := [.long (zf_X9_partOf (zf_X9_loadOf MNow j14) (zf_X9_size MNow) (0 : Int32)), .ref (md 0)]) (cs2 := [wMod g md MNow MPast MSav (0 : Int32) MThen MLev MFst MWay MMost (zf_X9_mixAll MNow h1 (0 + (3 * j14)) 3)]) X Z [] [0] [0] (zc_X9_partOf l g B (zf_X9_loadOf MNow j14) (zf_X9_size MNow) (0 : Int32) (hld.2.2 _ (by omega)).1 hld.1 (hld.2.2 _ (by omega)).2) wM_X9_101 wS_X9_partOf wK_X9_partOf wZ_X9 3 1 1 rfl (by decide +kernel) rfl (by decide) rfl rfl rfl (by decide) rfl hl.1 rfl rfl (by rw [hRf, hRl]; exact ⟨Nat.le_of_ble_eq_true rfl, Nat.le_of_ble_eq_true rfl⟩) (Nat.le_of_ble_eq_true rfl) ⟨Nat.zero_le _, Nat.zero_le _⟩ dX9_digest_40 (fun H locs Z => ?_)
        refine z_callV (mc := 0) (ms := 0) (As := [.long (zf_X9_partOf (zf_X9_loadOf MNow j14) (zf_X9_size MNow) (0 : Int32))]) (rest := []) (st2 := []) (cs2 := [wMod g md MNow MPast MSav (0 : Int32) MThen MLev MFst MWay MMost (zf_X9_mix (zf_X9_mixAll MNow h1 (0 + (3 * j14)) 3) (zf_X9_partOf (zf_X9_loadOf MNow j14) (zf_X9_size MNow) (0 : Int32)))]) X Z [0] [] [0] 0 7 (zc_X9_mix l g B md MNow MPast MSav (0 : Int32) MThen MLev MFst MWay MMost (zf_X9_mixAll MNow h1 (0 + (3 * j14)) 3) (zf_X9_partOf (zf_X9_loadOf MNow j14) (zf_X9_size MNow) (0 : Int32))) wM_X9_215 wS_X9_mix wV_X9_mix wK_X9_mix wZ_X9 1 1 1 rfl (by decide +kernel) rfl (by decide) rfl rfl rfl (by decide) rfl rfl (rfl : zCl[7]? = some (RX9, TX9, 10)) hl.1 rfl rfl (by rw [hRf, hRl]; exact ⟨Nat.le_of_ble_eq_true rfl, Nat.le_of_ble_eq_true rfl⟩) (Nat.le_of_ble_eq_true rfl) ⟨Nat.zero_le _, Nat.zero_le _⟩ dX9_digest_43 (fun H locs Z => ?_)
        refine lv_aload_n hx hb dX9_digest_46 rfl (lv_at hl 1 rfl) ?_
        refine lv_aload_n hx hb dX9_digest_47 rfl (lv_at hl 1 rfl) ?_
        refine lv_iload_n hx hb dX9_digest_48 rfl (lv_at hl 0 rfl) ?_
        refine z_callV (mc := 0) (ms := 0) (As := [.int (nI j14)]) (rest := [.ref (md 0)]) (st2 := [.long (zf_X9_loadOf MNow j14), .ref (md 0)]) (cs2 := [wMod g md MNow MPast MSav (0 : Int32) MThen MLev MFst MWay MMost (zf_X9_mix (zf_X9_mixAll MNow h1 (0 + (3 * j14)) 3) (zf_X9_partOf (zf_X9_loadOf MNow j14) (zf_X9_size MNow) (0 : Int32)))]) X Z [0] [] [0] 0 7 (zc_X9_loadOf l g B md MNow MPast MSav (0 : Int32) MThen MLev MFst MWay MMost (zf_X9_mix (zf_X9_mixAll MNow h1 (0 + (3 * j14)) 3) (zf_X9_partOf (zf_X9_loadOf MNow j14) (zf_X9_size MNow) (0 : Int32))) j14 (by first | assumption | omega | decide) (by first | assumption | omega | decide)) wM_X9_95 wS_X9_loadOf wV_X9_loadOf wK_X9_loadOf wZ_X9 1 1 1 rfl (by decide +kernel) rfl (by decide) rfl rfl rfl (by decide) rfl rfl (rfl : zCl[7]? = some (RX9, TX9, 10)) hl.1 rfl rfl (by rw [hRf, hRl]; exact ⟨Nat.le_of_ble_eq_true rfl, Nat.le_of_ble_eq_true rfl⟩) (Nat.le_of_ble_eq_true rfl) ⟨Nat.zero_le _, Nat.zero_le _⟩ dX9_digest_49 (fun H locs Z => ?_)
        refine lv_aload_n hx hb dX9_digest_52 rfl (lv_at hl 1 rfl) ?_
        refine z_callV (mc := 0) (ms := 0) (As := []) (rest := [.long (zf_X9_loadOf MNow j14), .ref (md 0)]) (st2 := [.long (zf_X9_size MNow), .long (zf_X9_loadOf MNow j14), .ref (md 0)]) (cs2 := [wMod g md MNow MPast MSav (0 : Int32) MThen MLev MFst MWay MMost (zf_X9_mix (zf_X9_mixAll MNow h1 (0 + (3 * j14)) 3) (zf_X9_partOf (zf_X9_loadOf MNow j14) (zf_X9_size MNow) (0 : Int32)))]) X Z [0] [] [0] 0 7 (zc_X9_size l g B md MNow MPast MSav (0 : Int32) MThen MLev MFst MWay MMost (zf_X9_mix (zf_X9_mixAll MNow h1 (0 + (3 * j14)) 3) (zf_X9_partOf (zf_X9_loadOf MNow j14) (zf_X9_size MNow) (0 : Int32)))) wM_X9_98 wS_X9_size wV_X9_size wK_X9_size wZ_X9 0 1 1 rfl (by decide +kernel) rfl (by decide) rfl rfl rfl (by decide) rfl rfl (rfl : zCl[7]? = some (RX9, TX9, 10)) hl.1 rfl rfl (by rw [hRf, hRl]; exact ⟨Nat.le_of_ble_eq_true rfl, Nat.le_of_ble_eq_true rfl⟩) (Nat.le_of_ble_eq_true rfl) ⟨Nat.zero_le _, Nat.zero_le _⟩ dX9_digest_53 (fun H locs Z => ?_)
        refine lv_iconst (v := (1 : Int32)) hx hb dX9_digest_56 (by decide) ?_
        refine z_callS (mc := 0) (ms := 0) (As := [.long (zf_X9_loadOf MNow j14), .long (zf_X9_size MNow), .int (1 : Int32)]) (rest := [.ref (md 0)]) (st2 := [.long (zf_X9_partOf (zf_X9_loadOf MNow j14) (zf_X9_size MNow) (1 : Int32)), .ref (md 0)]) (cs2 := [wMod g md MNow MPast MSav (0 : Int32) MThen MLev MFst MWay MMost (zf_X9_mix (zf_X9_mixAll MNow h1 (0 + (3 * j14)) 3) (zf_X9_partOf (zf_X9_loadOf MNow j14) (zf_X9_size MNow) (0 : Int32)))]) X Z [] [0] [0] (zc_X9_partOf l g B (zf_X9_loadOf MNow j14) (zf_X9_size MNow) (1 : Int32) (hld.2.2 _ (by omega)).1 hld.1 (hld.2.2 _ (by omega)).2) wM_X9_101 wS_X9_partOf wK_X9_partOf wZ_X9 3 1 1 rfl (by decide +kernel) rfl (by decide) rfl rfl rfl (by decide) rfl hl.1 rfl rfl (by rw [hRf, hRl]; exact ⟨Nat.le_of_ble_eq_true rfl, Nat.le_of_ble_eq_true rfl⟩) (Nat.le_of_ble_eq_true rfl) ⟨Nat.zero_le _, Nat.zero_le _⟩ dX9_digest_57 (fun H locs Z => ?_)
        refine z_callV (mc := 0) (ms := 0) (As := [.long (zf_X9_partOf (zf_X9_loadOf MNow j14) (zf_X9_size MNow) (1 : Int32))]) (rest := []) (st2 := []) (cs2 := [wMod g md MNow MPast MSav (0 : Int32) MThen MLev MFst MWay MMost (zf_X9_mix (zf_X9_mix (zf_X9_mixAll MNow h1 (0 + (3 * j14)) 3) (zf_X9_partOf (zf_X9_loadOf MNow j14) (zf_X9_size MNow) (0 : Int32))) (zf_X9_partOf (zf_X9_loadOf MNow j14) (zf_X9_size MNow) (1 : Int32)))]) X Z [0] [] [0] 0 7 (zc_X9_mix l g B md MNow MPast MSav (0 : Int32) MThen MLev MFst MWay MMost (zf_X9_mix (zf_X9_mixAll MNow h1 (0 + (3 * j14)) 3) (zf_X9_partOf (zf_X9_loadOf MNow j14) (zf_X9_size MNow) (0 : Int32))) (zf_X9_partOf (zf_X9_loadOf MNow j14) (zf_X9_size MNow) (1 : Int32))) wM_X9_215 wS_X9_mix wV_X9_mix wK_X9_mix wZ_X9 1 1 1 rfl (by decide +kernel) rfl (by decide) rfl rfl rfl (by decide) rfl rfl (rfl : zCl[7]? = some (RX9, TX9, 10)) hl.1 rfl rfl (by rw [hRf, hRl]; exact ⟨Nat.le_of_ble_eq_true rfl, Nat.le_of_ble_eq_true rfl⟩) (Nat.le_of_ble_eq_true rfl) ⟨Nat.zero_le _, Nat.zero_le _⟩ dX9_digest_60 (fun H locs Z => ?_)
        refine z_iinc (b := (j14 + 1)) (st := 1) (lv' := [(1, .int (nI (j14 + 1))), (0, .ref (md 0))]) X dX9_digest_63 hl (k := 0) rfl rfl (by decide) (by omega) (by decide) rfl (fun ls hl => ?_)
        refine lv_goto (tgt := 14) hx hb dX9_digest_66 (by decide) ?_
        exact ih14 (j14 + 1) (zf_X9_mix (zf_X9_mix (zf_X9_mixAll MNow h1 (0 + (3 * j14)) 3) (zf_X9_partOf (zf_X9_loadOf MNow j14) (zf_X9_size MNow) (0 : Int32))) (zf_X9_partOf (zf_X9_loadOf MNow j14) (zf_X9_size MNow) (1 : Int32))) (by omega) (by have h9 := hR14; rw [zl_X9_digest_14_s] at h9; exact h9) _ _ Z ls (lv_sub hl [0, 1] rfl)
  exact loop_14 3 0 (2801 : Int64) (by omega) rfl _ _ Z ls (lv_sub hl [0, 1] rfl)
