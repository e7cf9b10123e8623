theorem zdiv_ne (x y : Int64) (hx : ¬ x = -9223372036854775808) (hy : ¬ y = -9223372036854775808) : ¬ zf_X9_divisor x y = -9223372036854775808 := by
  have key : ∀ (n : Nat) (a b : Int64), 0 ≤ a → 0 ≤ b → 0 ≤ (zl_X9_divisor_28 n a b).1 := by
    intro n
    induction n with
    | zero => intro a b ha hb; exact ha
    | succ n ih =>
      intro a b ha hb
      rw [zl_X9_divisor_28_s]
      split
      · exact ha
      · exact ih _ _ hb (zgl ha hb (by assumption)).1
  have fin : ∀ z : Int64, 0 ≤ z → ¬ z = -9223372036854775808 := fun z h q => by rw [q] at h; exact absurd h (by decide)
  apply fin
  rw [zf_X9_divisor_e]
  split <;> split
  · exact key _ _ _ (by assumption) (by assumption)
  · exact key _ _ _ (by assumption) (zneg_nn hy (by assumption))
  · exact key _ _ _ (zneg_nn hx (by assumption)) (by assumption)
  · exact key _ _ _ (zneg_nn hx (by assumption)) (zneg_nn hy (by assumption))
theorem zk13 {k : Int32} (h : zf_X9_within k.toInt64 (1 : Int64) (3 : Int64) = true) (h1 : ¬ k = 1) (h2 : ¬ k = 2) (h3 : ¬ k = 3) : False := by
  obtain ⟨e, a, b⟩ := zok_w2 (u := 1) (v := 3) rfl rfl h (by decide) (by decide)
  have : zi k = 1 ∨ zi k = 2 ∨ zi k = 3 := by omega
  rcases this with q | q | q <;> rw [q] at e
  · exact h1 e
  · exact h2 e
  · exact h3 e
theorem zk03 {k : Int32} (h : zf_X9_within k.toInt64 (0 : Int64) (3 : Int64) = true) (h0 : ¬ k = 0) (h1 : ¬ k = 1) (h2 : ¬ k = 2) (h3 : ¬ k = 3) : False := by
  obtain ⟨e, a, b⟩ := zok_w2 (u := 0) (v := 3) rfl rfl h (by decide) (by decide)
  have : zi k = 0 ∨ zi k = 1 ∨ zi k = 2 ∨ zi k = 3 := by omega
  rcases this with q | q | q | q <;> rw [q] at e
  · exact h0 e
  · exact h1 e
  · exact h2 e
  · exact h3 e
def zl_X9_laysHypotheses_34 (j2 : Nat) : Nat → Nat → (Nat → Int64) → (Nat → Int64)
  | 0, _, v2 => v2
  | n34 + 1, j34, v2 => zl_X9_laysHypotheses_34 j2 n34 (j34 + 1) (zf_X9_laysChances v2 j34 j2 (0 : Int32) (0 : Int32))
theorem zl_X9_laysHypotheses_34_s (j2 : Nat) (n34 : Nat) (j34 : Nat) (v2 : Nat → Int64) : zl_X9_laysHypotheses_34 j2 (n34 + 1) j34 v2 = zl_X9_laysHypotheses_34 j2 n34 (j34 + 1) (zf_X9_laysChances v2 j34 j2 (0 : Int32) (0 : Int32)) := rfl
def zl_X9_laysHypotheses_2 (n : Nat) : Nat → Nat → (Nat → Int64) → (Nat → Int64)
  | 0, _, v1 => v1
  | n2 + 1, j2, v1 => (if j2 ≥ n then zl_X9_laysHypotheses_2 n n2 (j2 + 1) (zl_X9_laysHypotheses_34 j2 10 0 (vp_updL v1 (35 + j2) (0 : Int64))) else zl_X9_laysHypotheses_2 n n2 (j2 + 1) (zl_X9_laysHypotheses_34 j2 10 0 (vp_updL v1 (35 + j2) (1 : Int64))))
theorem zl_X9_laysHypotheses_2_s (n : Nat) (n2 : Nat) (j2 : Nat) (v1 : Nat → Int64) : zl_X9_laysHypotheses_2 n (n2 + 1) j2 v1 = (if j2 ≥ n then zl_X9_laysHypotheses_2 n n2 (j2 + 1) (zl_X9_laysHypotheses_34 j2 10 0 (vp_updL v1 (35 + j2) (0 : Int64))) else zl_X9_laysHypotheses_2 n n2 (j2 + 1) (zl_X9_laysHypotheses_34 j2 10 0 (vp_updL v1 (35 + j2) (1 : Int64)))) := rfl
def zf_X9_laysHypotheses (MNow : Nat → Int64) (n : Nat) : (Nat → Int64) := (zl_X9_laysHypotheses_2 n 8 0 MNow)
theorem zf_X9_laysHypotheses_e (MNow : Nat → Int64) (n : Nat) : zf_X9_laysHypotheses MNow n = (zl_X9_laysHypotheses_2 n 8 0 MNow) := rfl
set_option maxHeartbeats 4000000 in
set_option maxRecDepth 100000 in
theorem zc_X9_laysHypotheses (l : Launch) (g : zG) (B : Nat) (md : Nat → Nat) (MNow : Nat → Int64) (MPast : Nat → Int64) (MSav : Nat) (MRef : Int32) (MThen : Nat → Int64) (MLev : Nat → Int64) (MFst : Int32) (MWay : Nat → Int64) (MMost : Nat → Int32) (MHash : Int64) (n : Nat) (h34 : MNow 34 = lN n) (hn8 : n ≤ 8) : zMet l g B yX9_laysHypotheses cX9_laysHypotheses 3 none 3 100 0 0 [.ref (md 0)] [wMod g md MNow MPast MSav MRef MThen MLev MFst MWay MMost MHash] (zDet (none) [wMod g md (zf_X9_laysHypotheses MNow n) MPast MSav MRef MThen MLev MFst MWay MMost MHash]) := by
  refine z_in (plainFor_of_name (by decide)) (Nat.le_of_ble_eq_true rfl) (fun p e R s m args below meth c A Q hRf hRl hRc hRs X Z hnm E ls hl => ?_)
  have hx := X.1
  have hb := X.2.1
  have hown := X.2.2.2.1
  have hts := X.2.2.2.2.1
  have hl : lv_has ls 3 [(0, .ref (md 0))] := hl
  refine lv_iconst (v := (0 : Int32)) hx hb dX9_laysHypotheses_0 (by decide) ?_
  refine lv_istore_n (lv' := [(1, .int (0 : Int32)), (0, .ref (md 0))]) hx hb dX9_laysHypotheses_1 rfl hl (by decide) rfl (fun ls hl => ?_)
  have loop_2 : ∀ (n2 j2 : Nat) (v1 : Nat → Int64), j2 + n2 = 8 → zl_X9_laysHypotheses_2 n n2 j2 v1 = (zl_X9_laysHypotheses_2 n 8 0 MNow) → (v1 34 = lN n) → ∀ (H : Heap) (locs : List Loc), zM g B A s [wMod g md v1 MPast MSav MRef MThen MLev MFst MWay MMost MHash] H locs → ∀ ls : Array Slot, lv_has ls 3 [(1, .int (nI j2)), (0, .ref (md 0))] → W p l e R s m args below meth c H locs 0 0 Q (F0 m 2 ls []) := by
    intro n2
    induction n2 with
    | zero =>
      intro j2 v1 hin2 hR2 i1 H locs Z ls hl
      have e_v1 : v1 = (zl_X9_laysHypotheses_2 n 8 0 MNow) := hR2
      subst e_v1
      refine lv_iload_n hx hb dX9_laysHypotheses_2 rfl (lv_at hl 0 rfl) ?_
      refine lv_bipush (v := (8 : Int32)) hx hb dX9_laysHypotheses_3 (by decide) ?_
      refine z_icmp_ge (a := j2) (b := 8) (tgt := 60) X rfl rfl (by omega) (by omega) dX9_laysHypotheses_5 (by decide) (fun c_1 => ?_) (fun c_1 => ?_)
      · exact z_rv E Z (by rw [zf_X9_laysHypotheses_e]; exact ⟨rfl, rfl⟩) dX9_laysHypotheses_60 (Nat.zero_le _) (Nat.zero_le _)
      · (exfalso; omega)
    | succ n2 ih2 =>
      intro j2 v1 hin2 hR2 i1 H locs Z ls hl
      refine lv_iload_n hx hb dX9_laysHypotheses_2 rfl (lv_at hl 0 rfl) ?_
      refine lv_bipush (v := (8 : Int32)) hx hb dX9_laysHypotheses_3 (by decide) ?_
      refine z_icmp_ge (a := j2) (b := 8) (tgt := 60) X rfl rfl (by omega) (by omega) dX9_laysHypotheses_5 (by decide) (fun c_2 => ?_) (fun c_2 => ?_)
      · (exfalso; omega)
      · refine lv_aload_n hx hb dX9_laysHypotheses_8 rfl (lv_at hl 1 rfl) ?_
        refine z_get X Z 0 rfl (rfl : zCl[7]? = some (RX9, TX9, 10)) zU_X9 0 (by decide) wF_X9_7 rfl rfl dX9_laysHypotheses_9 ?_
        refine lv_bipush (v := (35 : Int32)) hx hb dX9_laysHypotheses_12 (by decide) ?_
        refine lv_iload_n hx hb dX9_laysHypotheses_14 rfl (lv_at hl 0 rfl) ?_
        refine z_iadd (a := 35) (b := j2) X rfl rfl dX9_laysHypotheses_15 ?_
        refine lv_iload_n hx hb dX9_laysHypotheses_16 rfl (lv_at hl 0 rfl) ?_
        refine lv_aload_n hx hb dX9_laysHypotheses_17 rfl (lv_at hl 1 rfl) ?_
        refine lv_bipush (v := (34 : Int32)) hx hb dX9_laysHypotheses_18 (by decide) ?_
        refine z_callV (mc := 0) (ms := 0) (As := [.int (34 : Int32)]) (rest := [.int (nI j2), .int (nI (35 + j2)), .ref (md 1)]) (st2 := [.int (nI n), .int (nI j2), .int (nI (35 + j2)), .ref (md 1)]) (cs2 := [wMod g md v1 MPast MSav MRef MThen MLev MFst MWay MMost MHash]) X Z [0] [] [0] 0 7 (zc_X9_many l g B md v1 MPast MSav MRef MThen MLev MFst MWay MMost MHash 34 n (by first | assumption | omega | decide) i1) wM_X9_66 wS_X9_many wV_X9_many wK_X9_many wZ_X9 1 1 1 rfl (by decide +kernel) rfl (by decide) rfl rfl rfl (by decide) rfl rfl (rfl : zCl[7]? = some (RX9, TX9, 10)) hl.1 rfl rfl (by rw [hRf, hRl]; exact ⟨Nat.le_of_ble_eq_true rfl, Nat.le_of_ble_eq_true rfl⟩) (Nat.le_of_ble_eq_true rfl) ⟨Nat.zero_le _, Nat.zero_le _⟩ dX9_laysHypotheses_20 (fun H locs Z => ?_)
        refine z_icmp_ge (a := j2) (b := n) (tgt := 30) X rfl rfl (by omega) (by omega) dX9_laysHypotheses_23 (by decide) (fun c_3 => ?_) (fun c_3 => ?_)
        · refine lv_lconst (v := (0 : Int64)) hx hb dX9_laysHypotheses_30 (by decide) ?_
          refine z_last (cs2 := [wMod g md (vp_updL v1 (35 + j2) (0 : Int64)) MPast MSav MRef MThen MLev MFst MWay MMost MHash]) (j := (35 + j2)) (x := (0 : Int64)) X Z 1 rfl rfl (by omega) (by decide) rfl dX9_laysHypotheses_31 (fun H locs Z => ?_)
          refine lv_iconst (v := (0 : Int32)) hx hb dX9_laysHypotheses_32 (by decide) ?_
          refine lv_istore_n (lv' := [(2, .int (0 : Int32)), (1, .int (nI j2)), (0, .ref (md 0))]) hx hb dX9_laysHypotheses_33 rfl hl (by decide) rfl (fun ls hl => ?_)
          have loop_34 : ∀ (n34 j34 : Nat) (v2 : Nat → Int64), j34 + n34 = 10 → zl_X9_laysHypotheses_34 j2 n34 j34 v2 = (zl_X9_laysHypotheses_34 j2 10 0 (vp_updL v1 (35 + j2) (0 : Int64))) → (v2 34 = lN n) → ∀ (H : Heap) (locs : List Loc), zM g B A s [wMod g md v2 MPast MSav MRef MThen MLev MFst MWay MMost MHash] H locs → ∀ ls : Array Slot, lv_has ls 3 [(2, .int (nI j34)), (1, .int (nI j2)), (0, .ref (md 0))] → W p l e R s m args below meth c H locs 0 0 Q (F0 m 34 ls []) := by
            intro n34
            induction n34 with
            | zero =>
              intro j34 v2 hin34 hR34 i2 H locs Z ls hl
              have e_v2 : v2 = (zl_X9_laysHypotheses_34 j2 10 0 (vp_updL v1 (35 + j2) (0 : Int64))) := hR34
              subst e_v2
              refine lv_iload_n hx hb dX9_laysHypotheses_34 rfl (lv_at hl 0 rfl) ?_
              refine lv_bipush (v := (10 : Int32)) hx hb dX9_laysHypotheses_35 (by decide) ?_
              refine z_icmp_ge (a := j34) (b := 10) (tgt := 54) X rfl rfl (by omega) (by omega) dX9_laysHypotheses_37 (by decide) (fun c_4 => ?_) (fun c_4 => ?_)
              · refine z_iinc (b := (j2 + 1)) (st := 1) (lv' := [(1, .int (nI (j2 + 1))), (2, .int (nI j34)), (0, .ref (md 0))]) X dX9_laysHypotheses_54 hl (k := 1) rfl rfl (by decide) (by omega) (by decide) rfl (fun ls hl => ?_)
                refine lv_goto (tgt := 2) hx hb dX9_laysHypotheses_57 (by decide) ?_
                exact ih2 (j2 + 1) (zl_X9_laysHypotheses_34 j2 10 0 (vp_updL v1 (35 + j2) (0 : Int64))) (by omega) (by have h9 := hR2; rw [zl_X9_laysHypotheses_2_s, if_pos c_3] at h9; exact h9) i2 _ _ Z ls (lv_sub hl [0, 2] rfl)
              · (exfalso; omega)
            | succ n34 ih34 =>
              intro j34 v2 hin34 hR34 i2 H locs Z ls hl
              refine lv_iload_n hx hb dX9_laysHypotheses_34 rfl (lv_at hl 0 rfl) ?_
              refine lv_bipush (v := (10 : Int32)) hx hb dX9_laysHypotheses_35 (by decide) ?_
              refine z_icmp_ge (a := j34) (b := 10) (tgt := 54) X rfl rfl (by omega) (by omega) dX9_laysHypotheses_37 (by decide) (fun c_5 => ?_) (fun c_5 => ?_)
              · (exfalso; omega)
              · refine lv_aload_n hx hb dX9_laysHypotheses_40 rfl (lv_at hl 2 rfl) ?_
                refine lv_iload_n hx hb dX9_laysHypotheses_41 rfl (lv_at hl 0 rfl) ?_
                refine lv_iload_n hx hb dX9_laysHypotheses_42 rfl (lv_at hl 1 rfl) ?_
                refine lv_iconst (v := (0 : Int32)) hx hb dX9_laysHypotheses_43 (by decide) ?_
                refine lv_iconst (v := (0 : Int32)) hx hb dX9_laysHypotheses_44 (by decide) ?_
                refine z_callV (mc := 0) (ms := 0) (As := [.int (nI j34), .int (nI j2), .int (0 : Int32), .int (0 : Int32)]) (rest := []) (st2 := []) (cs2 := [wMod g md (zf_X9_laysChances v2 j34 j2 (0 : Int32) (0 : Int32)) MPast MSav MRef MThen MLev MFst MWay MMost MHash]) X Z [0] [] [0] 0 7 (zc_X9_laysChances l g B md v2 MPast MSav MRef MThen MLev MFst MWay MMost MHash j34 j2 (0 : Int32) (0 : Int32) (by first | assumption | omega | decide) (by first | assumption | omega | decide)) wM_X9_121 wS_X9_laysChances wV_X9_laysChances wK_X9_laysChances wZ_X9 4 1 1 rfl (by decide +kernel) rfl (by decide) rfl rfl rfl (by decide) rfl rfl (rfl : zCl[7]? = some (RX9, TX9, 10)) hl.1 rfl rfl (by rw [hRf, hRl]; exact ⟨Nat.le_of_ble_eq_true rfl, Nat.le_of_ble_eq_true rfl⟩) (Nat.le_of_ble_eq_true rfl) ⟨Nat.zero_le _, Nat.zero_le _⟩ dX9_laysHypotheses_45 (fun H locs Z => ?_)
                refine z_iinc (b := (j34 + 1)) (st := 1) (lv' := [(2, .int (nI (j34 + 1))), (1, .int (nI j2)), (0, .ref (md 0))]) X dX9_laysHypotheses_48 hl (k := 0) rfl rfl (by decide) (by omega) (by decide) rfl (fun ls hl => ?_)
                refine lv_goto (tgt := 34) hx hb dX9_laysHypotheses_51 (by decide) ?_
                exact ih34 (j34 + 1) (zf_X9_laysChances v2 j34 j2 (0 : Int32) (0 : Int32)) (by omega) (by have h9 := hR34; rw [zl_X9_laysHypotheses_34_s] at h9; exact h9) ((zlc_lo (by omega)).trans i2) _ _ Z ls (lv_sub hl [0, 1, 2] rfl)
          exact loop_34 10 0 (vp_updL v1 (35 + j2) (0 : Int64)) (by omega) rfl ((zuL_ne (by omega)).trans i1) _ _ Z ls (lv_sub hl [0, 1, 2] rfl)
        · refine lv_lconst (v := (1 : Int64)) hx hb dX9_laysHypotheses_26 (by decide) ?_
          refine lv_goto (tgt := 31) hx hb dX9_laysHypotheses_27 (by decide) ?_
          refine z_last (cs2 := [wMod g md (vp_updL v1 (35 + j2) (1 : Int64)) MPast MSav MRef MThen MLev MFst MWay MMost MHash]) (j := (35 + j2)) (x := (1 : Int64)) X Z 1 rfl rfl (by omega) (by decide) rfl dX9_laysHypotheses_31 (fun H locs Z => ?_)
          refine lv_iconst (v := (0 : Int32)) hx hb dX9_laysHypotheses_32 (by decide) ?_
          refine lv_istore_n (lv' := [(2, .int (0 : Int32)), (1, .int (nI j2)), (0, .ref (md 0))]) hx hb dX9_laysHypotheses_33 rfl hl (by decide) rfl (fun ls hl => ?_)
          have loop_34 : ∀ (n34 j34 : Nat) (v2 : Nat → Int64), j34 + n34 = 10 → zl_X9_laysHypotheses_34 j2 n34 j34 v2 = (zl_X9_laysHypotheses_34 j2 10 0 (vp_updL v1 (35 + j2) (1 : Int64))) → (v2 34 = lN n) → ∀ (H : Heap) (locs : List Loc), zM g B A s [wMod g md v2 MPast MSav MRef MThen MLev MFst MWay MMost MHash] H locs → ∀ ls : Array Slot, lv_has ls 3 [(2, .int (nI j34)), (1, .int (nI j2)), (0, .ref (md 0))] → W p l e R s m args below meth c H locs 0 0 Q (F0 m 34 ls []) := by
            intro n34
            induction n34 with
            | zero =>
              intro j34 v2 hin34 hR34 i2 H locs Z ls hl
              have e_v2 : v2 = (zl_X9_laysHypotheses_34 j2 10 0 (vp_updL v1 (35 + j2) (1 : Int64))) := hR34
              subst e_v2
              refine lv_iload_n hx hb dX9_laysHypotheses_34 rfl (lv_at hl 0 rfl) ?_
              refine lv_bipush (v := (10 : Int32)) hx hb dX9_laysHypotheses_35 (by decide) ?_
              refine z_icmp_ge (a := j34) (b := 10) (tgt := 54) X rfl rfl (by omega) (by omega) dX9_laysHypotheses_37 (by decide) (fun c_6 => ?_) (fun c_6 => ?_)
              · refine z_iinc (b := (j2 + 1)) (st := 1) (lv' := [(1, .int (nI (j2 + 1))), (2, .int (nI j34)), (0, .ref (md 0))]) X dX9_laysHypotheses_54 hl (k := 1) rfl rfl (by decide) (by omega) (by decide) rfl (fun ls hl => ?_)
                refine lv_goto (tgt := 2) hx hb dX9_laysHypotheses_57 (by decide) ?_
                exact ih2 (j2 + 1) (zl_X9_laysHypotheses_34 j2 10 0 (vp_updL v1 (35 + j2) (1 : Int64))) (by omega) (by have h9 := hR2; rw [zl_X9_laysHypotheses_2_s, if_neg (by omega)] at h9; exact h9) i2 _ _ Z ls (lv_sub hl [0, 2] rfl)
              · (exfalso; omega)
            | succ n34 ih34 =>
              intro j34 v2 hin34 hR34 i2 H locs Z ls hl
              refine lv_iload_n hx hb dX9_laysHypotheses_34 rfl (lv_at hl 0 rfl) ?_
              refine lv_bipush (v := (10 : Int32)) hx hb dX9_laysHypotheses_35 (by decide) ?_
              refine z_icmp_ge (a := j34) (b := 10) (tgt := 54) X rfl rfl (by omega) (by omega) dX9_laysHypotheses_37 (by decide) (fun c_7 => ?_) (fun c_7 => ?_)
              · (exfalso; omega)
              · refine lv_aload_n hx hb dX9_laysHypotheses_40 rfl (lv_at hl 2 rfl) ?_
                refine lv_iload_n hx hb dX9_laysHypotheses_41 rfl (lv_at hl 0 rfl) ?_
                refine lv_iload_n hx hb dX9_laysHypotheses_42 rfl (lv_at hl 1 rfl) ?_
                refine lv_iconst (v := (0 : Int32)) hx hb dX9_laysHypotheses_43 (by decide) ?_
                refine lv_iconst (v := (0 : Int32)) hx hb dX9_laysHypotheses_44 (by decide) ?_
                refine z_callV (mc := 0) (ms := 0) (As := [.int (nI j34), .int (nI j2), .int (0 : Int32), .int (0 : Int32)]) (rest := []) (st2 := []) (cs2 := [wMod g md (zf_X9_laysChances v2 j34 j2 (0 : Int32) (0 : Int32)) MPast MSav MRef MThen MLev MFst MWay MMost MHash]) X Z [0] [] [0] 0 7 (zc_X9_laysChances l g B md v2 MPast MSav MRef MThen MLev MFst MWay MMost MHash j34 j2 (0 : Int32) (0 : Int32) (by first | assumption | omega | decide) (by first | assumption | omega | decide)) wM_X9_121 wS_X9_laysChances wV_X9_laysChances wK_X9_laysChances wZ_X9 4 1 1 rfl (by decide +kernel) rfl (by decide) rfl rfl rfl (by decide) rfl rfl (rfl : zCl[7]? = some (RX9, TX9, 10)) hl.1 rfl rfl (by rw [hRf, hRl]; exact ⟨Nat.le_of_ble_eq_true rfl, Nat.le_of_ble_eq_true rfl⟩) (Nat.le_of_ble_eq_true rfl) ⟨Nat.zero_le _, Nat.zero_le _⟩ dX9_laysHypotheses_45 (fun H locs Z => ?_)
                refine z_iinc (b := (j34 + 1)) (st := 1) (lv' := [(2, .int (nI (j34 + 1))), (1, .int (nI j2)), (0, .ref (md 0))]) X dX9_laysHypotheses_48 hl (k := 0) rfl rfl (by decide) (by omega) (by decide) rfl (fun ls hl => ?_)
                refine lv_goto (tgt := 34) hx hb dX9_laysHypotheses_51 (by decide) ?_
                exact ih34 (j34 + 1) (zf_X9_laysChances v2 j34 j2 (0 : Int32) (0 : Int32)) (by omega) (by have h9 := hR34; rw [zl_X9_laysHypotheses_34_s] at h9; exact h9) ((zlc_lo (by omega)).trans i2) _ _ Z ls (lv_sub hl [0, 1, 2] rfl)
          exact loop_34 10 0 (vp_updL v1 (35 + j2) (1 : Int64)) (by omega) rfl ((zuL_ne (by omega)).trans i1) _ _ Z ls (lv_sub hl [0, 1, 2] rfl)
  exact loop_2 8 0 MNow (by omega) rfl h34 _ _ Z ls (lv_sub hl [0, 1] rfl)
def zf_X9_tail (MWay : Nat → Int64) (t : Int32) (k : Int32) (u : Int32) : Int64 × Int32 × (Nat → Int64) := (if (zf_X9_within t.toInt64 (0 : Int64) (15 : Int64)) = true then (if (zf_X9_within k.toInt64 (0 : Int64) (16 : Int64)) = true then (if (zf_X9_isChance u) = true then (((zf_X9_tailOf MWay (zi t) (zi k) (zi u)).1), (zf_X9_refused_0), ((zf_X9_tailOf MWay (zi t) (zi k) (zi u)).2)) else ((0 : Int64), (zf_X9_refused_1), MWay)) else ((0 : Int64), (zf_X9_refused_1), MWay)) else ((0 : Int64), (zf_X9_refused_1), MWay))
theorem zf_X9_tail_e (MWay : Nat → Int64) (t : Int32) (k : Int32) (u : Int32) : zf_X9_tail MWay t k u = (if (zf_X9_within t.toInt64 (0 : Int64) (15 : Int64)) = true then (if (zf_X9_within k.toInt64 (0 : Int64) (16 : Int64)) = true then (if (zf_X9_isChance u) = true then (((zf_X9_tailOf MWay (zi t) (zi k) (zi u)).1), (zf_X9_refused_0), ((zf_X9_tailOf MWay (zi t) (zi k) (zi u)).2)) else ((0 : Int64), (zf_X9_refused_1), MWay)) else ((0 : Int64), (zf_X9_refused_1), MWay)) else ((0 : Int64), (zf_X9_refused_1), MWay)) := rfl
set_option maxHeartbeats 4000000 in
set_option maxRecDepth 100000 in
theorem zc_X9_tail (l : Launch) (g : zG) (B : Nat) (md : Nat → Nat) (MNow : Nat → Int64) (MPast : Nat → Int64) (MSav : Nat) (MRef : Int32) (MThen : Nat → Int64) (MLev : Nat → Int64) (MFst : Int32) (MWay : Nat → Int64) (MMost : Nat → Int32) (MHash : Int64) (t : Int32) (k : Int32) (u : Int32) : zMet l g B yX9_tail cX9_tail 4 (some .long) 4 140 0 0 [.ref (md 0), .int t, .int k, .int u] [wMod g md MNow MPast MSav MRef MThen MLev MFst MWay MMost MHash] (zDet (some (.long ((zf_X9_tail MWay t k u).1))) [wMod g md MNow MPast MSav ((zf_X9_tail MWay t k u).2.1) MThen MLev MFst ((zf_X9_tail MWay t k u).2.2) MMost MHash]) := by
  refine z_in (plainFor_of_name (by decide)) (Nat.le_of_ble_eq_true rfl) (fun p e R s m args below meth c A Q hRf hRl hRc hRs X Z hnm E ls hl => ?_)
  have hx := X.1
  have hb := X.2.1
  have hown := X.2.2.2.1
  have hts := X.2.2.2.2.1
  have hl : lv_has ls 4 [(0, .ref (md 0)), (1, .int t), (2, .int k), (3, .int u)] := hl
  refine lv_aload_n hx hb dX9_tail_0 rfl (lv_at hl 0 rfl) ?_
  refine lv_iload_n hx hb dX9_tail_1 rfl (lv_at hl 1 rfl) ?_
  refine lv_i2l hx hb dX9_tail_2 rfl ?_
  refine lv_lconst (v := (0 : Int64)) hx hb dX9_tail_3 (by decide) ?_
  refine lv_ldc2 (v := (15 : Int64)) hx hb hown (hts _ wL_X9_181) dX9_tail_4 ?_
  refine z_callS (mc := 0) (ms := 0) (As := [.long t.toInt64, .long (0 : Int64), .long (15 : Int64)]) (rest := [.ref (md 0)]) (st2 := [.int (zB (zf_X9_within t.toInt64 (0 : Int64) (15 : Int64))), .ref (md 0)]) (cs2 := [wMod g md MNow MPast MSav MRef MThen MLev MFst MWay MMost MHash]) X Z [] [0] [0] (zc_X9_within l g B t.toInt64 (0 : Int64) (15 : Int64)) wM_X9_44 wS_X9_within wK_X9_within wZ_X9 3 1 1 rfl (by decide +kernel) rfl (by decide) rfl rfl rfl (by decide) rfl hl.1 rfl rfl (by rw [hRf, hRl]; exact ⟨Nat.le_of_ble_eq_true rfl, Nat.le_of_ble_eq_true rfl⟩) (Nat.le_of_ble_eq_true rfl) ⟨Nat.zero_le _, Nat.zero_le _⟩ dX9_tail_7 (fun H locs Z => ?_)
  refine z_ifeqB (b := (zf_X9_within t.toInt64 (0 : Int64) (15 : Int64))) (tgt := 36) X dX9_tail_10 (by decide) (fun c_1 => ?_) (fun c_1 => ?_)
  · refine lv_iconst (v := (1 : Int32)) hx hb dX9_tail_36 (by decide) ?_
    refine z_callV (mc := 0) (ms := 0) (As := [.int (1 : Int32)]) (rest := []) (st2 := [.int (1 : Int32)]) (cs2 := [wMod g md MNow MPast MSav (zf_X9_refused_1) MThen MLev MFst MWay MMost MHash]) X Z [0] [] [0] 0 7 (zc_X9_refused_1 l g B md MNow MPast MSav MRef MThen MLev MFst MWay MMost MHash) wM_X9_55 wS_X9_refused wV_X9_refused wK_X9_refused wZ_X9 1 1 1 rfl (by decide +kernel) rfl (by decide) rfl rfl rfl (by decide) rfl rfl (rfl : zCl[7]? = some (RX9, TX9, 10)) hl.1 rfl rfl (by rw [hRf, hRl]; exact ⟨Nat.le_of_ble_eq_true rfl, Nat.le_of_ble_eq_true rfl⟩) (Nat.le_of_ble_eq_true rfl) ⟨Nat.zero_le _, Nat.zero_le _⟩ dX9_tail_37 (fun H locs Z => ?_)
    refine lv_if_eq (tgt := 45) hx hb dX9_tail_40 (by decide) (fun c_2 => ?_) (fun c_2 => ?_)
    · (exact absurd c_2 (by decide))
    · refine lv_lconst (v := (0 : Int64)) hx hb dX9_tail_43 (by decide) ?_
      exact z_rl (v := (0 : Int64)) E Z (by rw [zf_X9_tail_e, if_neg (zBf c_1)]; exact ⟨rfl, rfl⟩) dX9_tail_44 (Nat.zero_le _) (Nat.zero_le _)
  · refine lv_iload_n hx hb dX9_tail_13 rfl (lv_at hl 2 rfl) ?_
    refine lv_i2l hx hb dX9_tail_14 rfl ?_
    refine lv_lconst (v := (0 : Int64)) hx hb dX9_tail_15 (by decide) ?_
    refine lv_ldc2 (v := (16 : Int64)) hx hb hown (hts _ wL_X9_183) dX9_tail_16 ?_
    refine z_callS (mc := 0) (ms := 0) (As := [.long k.toInt64, .long (0 : Int64), .long (16 : Int64)]) (rest := [.ref (md 0)]) (st2 := [.int (zB (zf_X9_within k.toInt64 (0 : Int64) (16 : Int64))), .ref (md 0)]) (cs2 := [wMod g md MNow MPast MSav MRef MThen MLev MFst MWay MMost MHash]) X Z [] [0] [0] (zc_X9_within l g B k.toInt64 (0 : Int64) (16 : Int64)) wM_X9_44 wS_X9_within wK_X9_within wZ_X9 3 1 1 rfl (by decide +kernel) rfl (by decide) rfl rfl rfl (by decide) rfl hl.1 rfl rfl (by rw [hRf, hRl]; exact ⟨Nat.le_of_ble_eq_true rfl, Nat.le_of_ble_eq_true rfl⟩) (Nat.le_of_ble_eq_true rfl) ⟨Nat.zero_le _, Nat.zero_le _⟩ dX9_tail_19 (fun H locs Z => ?_)
    refine z_ifeqB (b := (zf_X9_within k.toInt64 (0 : Int64) (16 : Int64))) (tgt := 36) X dX9_tail_22 (by decide) (fun c_3 => ?_) (fun c_3 => ?_)
    · refine lv_iconst (v := (1 : Int32)) hx hb dX9_tail_36 (by decide) ?_
      refine z_callV (mc := 0) (ms := 0) (As := [.int (1 : Int32)]) (rest := []) (st2 := [.int (1 : Int32)]) (cs2 := [wMod g md MNow MPast MSav (zf_X9_refused_1) MThen MLev MFst MWay MMost MHash]) X Z [0] [] [0] 0 7 (zc_X9_refused_1 l g B md MNow MPast MSav MRef MThen MLev MFst MWay MMost MHash) wM_X9_55 wS_X9_refused wV_X9_refused wK_X9_refused wZ_X9 1 1 1 rfl (by decide +kernel) rfl (by decide) rfl rfl rfl (by decide) rfl rfl (rfl : zCl[7]? = some (RX9, TX9, 10)) hl.1 rfl rfl (by rw [hRf, hRl]; exact ⟨Nat.le_of_ble_eq_true rfl, Nat.le_of_ble_eq_true rfl⟩) (Nat.le_of_ble_eq_true rfl) ⟨Nat.zero_le _, Nat.zero_le _⟩ dX9_tail_37 (fun H locs Z => ?_)
      refine lv_if_eq (tgt := 45) hx hb dX9_tail_40 (by decide) (fun c_4 => ?_) (fun c_4 => ?_)
      · (exact absurd c_4 (by decide))
      · refine lv_lconst (v := (0 : Int64)) hx hb dX9_tail_43 (by decide) ?_
        exact z_rl (v := (0 : Int64)) E Z (by rw [zf_X9_tail_e, if_pos c_1, if_neg (zBf c_3)]; exact ⟨rfl, rfl⟩) dX9_tail_44 (Nat.zero_le _) (Nat.zero_le _)
    · refine lv_iload_n hx hb dX9_tail_25 rfl (lv_at hl 3 rfl) ?_
      refine z_callS (mc := 0) (ms := 0) (As := [.int u]) (rest := [.ref (md 0)]) (st2 := [.int (zB (zf_X9_isChance u)), .ref (md 0)]) (cs2 := [wMod g md MNow MPast MSav MRef MThen MLev MFst MWay MMost MHash]) X Z [] [0] [0] (zc_X9_isChance l g B u) wM_X9_185 wS_X9_isChance wK_X9_isChance wZ_X9 1 1 1 rfl (by decide +kernel) rfl (by decide) rfl rfl rfl (by decide) rfl hl.1 rfl rfl (by rw [hRf, hRl]; exact ⟨Nat.le_of_ble_eq_true rfl, Nat.le_of_ble_eq_true rfl⟩) (Nat.le_of_ble_eq_true rfl) ⟨Nat.zero_le _, Nat.zero_le _⟩ dX9_tail_26 (fun H locs Z => ?_)
      refine z_ifeqB (b := (zf_X9_isChance u)) (tgt := 36) X dX9_tail_29 (by decide) (fun c_5 => ?_) (fun c_5 => ?_)
      · refine lv_iconst (v := (1 : Int32)) hx hb dX9_tail_36 (by decide) ?_
        refine z_callV (mc := 0) (ms := 0) (As := [.int (1 : Int32)]) (rest := []) (st2 := [.int (1 : Int32)]) (cs2 := [wMod g md MNow MPast MSav (zf_X9_refused_1) MThen MLev MFst MWay MMost MHash]) X Z [0] [] [0] 0 7 (zc_X9_refused_1 l g B md MNow MPast MSav MRef MThen MLev MFst MWay MMost MHash) wM_X9_55 wS_X9_refused wV_X9_refused wK_X9_refused wZ_X9 1 1 1 rfl (by decide +kernel) rfl (by decide) rfl rfl rfl (by decide) rfl rfl (rfl : zCl[7]? = some (RX9, TX9, 10)) hl.1 rfl rfl (by rw [hRf, hRl]; exact ⟨Nat.le_of_ble_eq_true rfl, Nat.le_of_ble_eq_true rfl⟩) (Nat.le_of_ble_eq_true rfl) ⟨Nat.zero_le _, Nat.zero_le _⟩ dX9_tail_37 (fun H locs Z => ?_)
        refine lv_if_eq (tgt := 45) hx hb dX9_tail_40 (by decide) (fun c_6 => ?_) (fun c_6 => ?_)
        · (exact absurd c_6 (by decide))
        · refine lv_lconst (v := (0 : Int64)) hx hb dX9_tail_43 (by decide) ?_
          exact z_rl (v := (0 : Int64)) E Z (by rw [zf_X9_tail_e, if_pos c_1, if_pos c_3, if_neg (zBf c_5)]; exact ⟨rfl, rfl⟩) dX9_tail_44 (Nat.zero_le _) (Nat.zero_le _)
      · refine lv_iconst (v := (0 : Int32)) hx hb dX9_tail_32 (by decide) ?_
        refine lv_goto (tgt := 37) hx hb dX9_tail_33 (by decide) ?_
        refine z_callV (mc := 0) (ms := 0) (As := [.int (0 : Int32)]) (rest := []) (st2 := [.int (0 : Int32)]) (cs2 := [wMod g md MNow MPast MSav (zf_X9_refused_0) MThen MLev MFst MWay MMost MHash]) X Z [0] [] [0] 0 7 (zc_X9_refused_0 l g B md MNow MPast MSav MRef MThen MLev MFst MWay MMost MHash) wM_X9_55 wS_X9_refused wV_X9_refused wK_X9_refused wZ_X9 1 1 1 rfl (by decide +kernel) rfl (by decide) rfl rfl rfl (by decide) rfl rfl (rfl : zCl[7]? = some (RX9, TX9, 10)) hl.1 rfl rfl (by rw [hRf, hRl]; exact ⟨Nat.le_of_ble_eq_true rfl, Nat.le_of_ble_eq_true rfl⟩) (Nat.le_of_ble_eq_true rfl) ⟨Nat.zero_le _, Nat.zero_le _⟩ dX9_tail_37 (fun H locs Z => ?_)
        refine lv_if_eq (tgt := 45) hx hb dX9_tail_40 (by decide) (fun c_7 => ?_) (fun c_7 => ?_)
        · obtain ⟨ek1, hk1⟩ := (zok_w2 (u := 0) (v := 15) rfl rfl (by assumption) (by decide) (by decide) : t = nI (zi t) ∧ _)
          have hl : lv_has ls 4 [(0, .ref (md 0)), (1, .int (nI (zi t))), (2, .int k), (3, .int u)] := by rw [← ek1]; exact hl
          obtain ⟨ek2, hk2⟩ := (zok_w2 (u := 0) (v := 16) rfl rfl (by assumption) (by decide) (by decide) : k = nI (zi k) ∧ _)
          have hl : lv_has ls 4 [(0, .ref (md 0)), (1, .int (nI (zi t))), (2, .int (nI (zi k))), (3, .int u)] := by rw [← ek2]; exact hl
          obtain ⟨ek3, hk3⟩ := (zok_chance (by assumption) : u = nI (zi u) ∧ _)
          have hl : lv_has ls 4 [(0, .ref (md 0)), (1, .int (nI (zi t))), (2, .int (nI (zi k))), (3, .int (nI (zi u)))] := by rw [← ek3]; exact hl
          refine lv_aload_n hx hb dX9_tail_45 rfl (lv_at hl 0 rfl) ?_
          refine lv_iload_n hx hb dX9_tail_46 rfl (lv_at hl 1 rfl) ?_
          refine lv_iload_n hx hb dX9_tail_47 rfl (lv_at hl 2 rfl) ?_
          refine lv_iload_n hx hb dX9_tail_48 rfl (lv_at hl 3 rfl) ?_
          refine z_callV (mc := 0) (ms := 0) (As := [.int (nI (zi t)), .int (nI (zi k)), .int (nI (zi u))]) (rest := []) (st2 := [.long ((zf_X9_tailOf MWay (zi t) (zi k) (zi u)).1)]) (cs2 := [wMod g md MNow MPast MSav (zf_X9_refused_0) MThen MLev MFst ((zf_X9_tailOf MWay (zi t) (zi k) (zi u)).2) MMost MHash]) X Z [0] [] [0] 0 7 (zc_X9_tailOf l g B md MNow MPast MSav (zf_X9_refused_0) MThen MLev MFst MWay MMost MHash (zi t) (zi k) (zi u) (by first | assumption | omega | decide) (by first | assumption | omega | decide) (by first | assumption | omega | decide)) wM_X9_188 wS_X9_tailOf wV_X9_tailOf wK_X9_tailOf wZ_X9 3 1 1 rfl (by decide +kernel) rfl (by decide) rfl rfl rfl (by decide) rfl rfl (rfl : zCl[7]? = some (RX9, TX9, 10)) hl.1 rfl rfl (by rw [hRf, hRl]; exact ⟨Nat.le_of_ble_eq_true rfl, Nat.le_of_ble_eq_true rfl⟩) (Nat.le_of_ble_eq_true rfl) ⟨Nat.zero_le _, Nat.zero_le _⟩ dX9_tail_49 (fun H locs Z => ?_)
          exact z_rl (v := ((zf_X9_tailOf MWay (zi t) (zi k) (zi u)).1)) E Z (by rw [zf_X9_tail_e, if_pos c_1, if_pos c_3, if_pos c_5]; exact ⟨rfl, rfl⟩) dX9_tail_52 (Nat.zero_le _) (Nat.zero_le _)
        · (exact absurd c_7 (by decide))
def zf_X9_adds_284 (MNow : Nat → Int64) (MPast : Nat → Int64) (MSav : Nat) (x : Int32) (y : Int32) : Nat × (Nat → Int64) × (Nat → Int64) × Nat := (((zc (MNow 284) + 1) - 1), (vp_updL (vp_updL (vp_updL MNow (285 + (2 * (zc (MNow 284)))) x.toInt64) ((285 + (2 * (zc (MNow 284)))) + 1) y.toInt64) 284 (((vp_updL (vp_updL MNow (285 + (2 * (zc (MNow 284)))) x.toInt64) ((285 + (2 * (zc (MNow 284)))) + 1) y.toInt64) 284) + (1 : Int64))), ((zf_X9_saves MNow MPast MSav).1), ((zf_X9_saves MNow MPast MSav).2))
theorem zf_X9_adds_284_e (MNow : Nat → Int64) (MPast : Nat → Int64) (MSav : Nat) (x : Int32) (y : Int32) : zf_X9_adds_284 MNow MPast MSav x y = (((zc (MNow 284) + 1) - 1), (vp_updL (vp_updL (vp_updL MNow (285 + (2 * (zc (MNow 284)))) x.toInt64) ((285 + (2 * (zc (MNow 284)))) + 1) y.toInt64) 284 (((vp_updL (vp_updL MNow (285 + (2 * (zc (MNow 284)))) x.toInt64) ((285 + (2 * (zc (MNow 284)))) + 1) y.toInt64) 284) + (1 : Int64))), ((zf_X9_saves MNow MPast MSav).1), ((zf_X9_saves MNow MPast MSav).2)) := rfl
set_option maxHeartbeats 4000000 in
set_option maxRecDepth 100000 in
theorem zc_X9_adds_284 (l : Launch) (g : zG) (B : Nat) (md : Nat → Nat) (MNow : Nat → Int64) (MPast : Nat → Int64) (MSav : Nat) (MRef : Int32) (MThen : Nat → Int64) (MLev : Nat → Int64) (MFst : Int32) (MWay : Nat → Int64) (MMost : Nat → Int32) (MHash : Int64) (x : Int32) (y : Int32) (hN : zNow MNow) (hs : MSav ≤ 4) (hlt : zc (MNow 284) < 8) : zMet l g B yX9_adds cX9_adds 5 (some .int) 2 100 0 0 [.ref (md 0), .int (284 : Int32), .int x, .int y] [wMod g md MNow MPast MSav MRef MThen MLev MFst MWay MMost MHash] (zDet (some (.int (nI ((zf_X9_adds_284 MNow MPast MSav x y).1)))) [wMod g md ((zf_X9_adds_284 MNow MPast MSav x y).2.1) ((zf_X9_adds_284 MNow MPast MSav x y).2.2.1) ((zf_X9_adds_284 MNow MPast MSav x y).2.2.2) MRef MThen MLev MFst MWay MMost MHash]) := by
  refine z_in (plainFor_of_name (by decide)) (Nat.le_of_ble_eq_true rfl) (fun p e R s m args below meth c A Q hRf hRl hRc hRs X Z hnm E ls hl => ?_)
  have hx := X.1
  have hb := X.2.1
  have hown := X.2.2.2.1
  have hts := X.2.2.2.2.1
  have hl : lv_has ls 5 [(0, .ref (md 0)), (1, .int (284 : Int32)), (2, .int x), (3, .int y)] := hl
  have hN2 := hN; obtain ⟨he9, hb9, he34, hb34, he43, hb43, he284, hb284, he301, hb301⟩ := hN2
  refine lv_aload_n hx hb dX9_adds_0 rfl (lv_at hl 0 rfl) ?_
  refine z_callV (mc := 0) (ms := 0) (As := []) (rest := []) (st2 := []) (cs2 := [wMod g md MNow ((zf_X9_saves MNow MPast MSav).1) ((zf_X9_saves MNow MPast MSav).2) MRef MThen MLev MFst MWay MMost MHash]) X Z [0] [] [0] 0 7 (zc_X9_saves l g B md MNow MPast MSav MRef MThen MLev MFst MWay MMost MHash (by first | assumption | omega | decide)) wM_X9_87 wS_X9_saves wV_X9_saves wK_X9_saves wZ_X9 0 1 1 rfl (by decide +kernel) rfl (by decide) rfl rfl rfl (by decide) rfl rfl (rfl : zCl[7]? = some (RX9, TX9, 10)) hl.1 rfl rfl (by rw [hRf, hRl]; exact ⟨Nat.le_of_ble_eq_true rfl, Nat.le_of_ble_eq_true rfl⟩) (Nat.le_of_ble_eq_true rfl) ⟨Nat.zero_le _, Nat.zero_le _⟩ dX9_adds_1 (fun H locs Z => ?_)
  refine lv_iload_n hx hb dX9_adds_4 rfl (lv_at hl 1 rfl) ?_
  refine lv_iconst (v := (1 : Int32)) hx hb dX9_adds_5 (by decide) ?_
  refine z_iadd (a := 284) (b := 1) X rfl rfl dX9_adds_6 ?_
  refine lv_iconst (v := (2 : Int32)) hx hb dX9_adds_7 (by decide) ?_
  refine lv_aload_n hx hb dX9_adds_8 rfl (lv_at hl 0 rfl) ?_
  refine lv_iload_n hx hb dX9_adds_9 rfl (lv_at hl 1 rfl) ?_
  refine z_callV (mc := 0) (ms := 0) (As := [.int (284 : Int32)]) (rest := [.int (2 : Int32), .int (285 : Int32)]) (st2 := [.int (nI (zc (MNow 284))), .int (2 : Int32), .int (285 : Int32)]) (cs2 := [wMod g md MNow ((zf_X9_saves MNow MPast MSav).1) ((zf_X9_saves MNow MPast MSav).2) MRef MThen MLev MFst MWay MMost MHash]) X Z [0] [] [0] 0 7 (zc_X9_many l g B md MNow ((zf_X9_saves MNow MPast MSav).1) ((zf_X9_saves MNow MPast MSav).2) MRef MThen MLev MFst MWay MMost MHash 284 (zc (MNow 284)) (by first | assumption | omega | decide) (by first | assumption | omega | decide)) wM_X9_66 wS_X9_many wV_X9_many wK_X9_many wZ_X9 1 1 1 rfl (by decide +kernel) rfl (by decide) rfl rfl rfl (by decide) rfl rfl (rfl : zCl[7]? = some (RX9, TX9, 10)) hl.1 rfl rfl (by rw [hRf, hRl]; exact ⟨Nat.le_of_ble_eq_true rfl, Nat.le_of_ble_eq_true rfl⟩) (Nat.le_of_ble_eq_true rfl) ⟨Nat.zero_le _, Nat.zero_le _⟩ dX9_adds_10 (fun H locs Z => ?_)
  refine z_imul (a := 2) (b := (zc (MNow 284))) X rfl rfl dX9_adds_13 ?_
  refine z_iadd (a := 285) (b := (2 * (zc (MNow 284)))) X rfl rfl dX9_adds_14 ?_
  refine lv_istore (lv' := [(4, .int (nI (285 + (2 * (zc (MNow 284)))))), (0, .ref (md 0)), (1, .int (284 : Int32)), (2, .int x), (3, .int y)]) hx hb dX9_adds_15 hl (by decide) rfl (fun ls hl => ?_)
  refine lv_aload_n hx hb dX9_adds_17 rfl (lv_at hl 1 rfl) ?_
  refine z_get X Z 0 rfl (rfl : zCl[7]? = some (RX9, TX9, 10)) zU_X9 0 (by decide) wF_X9_7 rfl rfl dX9_adds_18 ?_
  refine lv_iload hx hb dX9_adds_21 (lv_at hl 0 rfl) ?_
  refine lv_iload_n hx hb dX9_adds_23 rfl (lv_at hl 3 rfl) ?_
  refine lv_i2l hx hb dX9_adds_24 rfl ?_
  refine z_last (cs2 := [wMod g md (vp_updL MNow (285 + (2 * (zc (MNow 284)))) x.toInt64) ((zf_X9_saves MNow MPast MSav).1) ((zf_X9_saves MNow MPast MSav).2) MRef MThen MLev MFst MWay MMost MHash]) (j := (285 + (2 * (zc (MNow 284))))) (x := x.toInt64) X Z 1 rfl rfl (by omega) (by decide) rfl dX9_adds_25 (fun H locs Z => ?_)
  refine lv_aload_n hx hb dX9_adds_26 rfl (lv_at hl 1 rfl) ?_
  refine z_get X Z 0 rfl (rfl : zCl[7]? = some (RX9, TX9, 10)) zU_X9 0 (by decide) wF_X9_7 rfl rfl dX9_adds_27 ?_
  refine lv_iload hx hb dX9_adds_30 (lv_at hl 0 rfl) ?_
  refine lv_iconst (v := (1 : Int32)) hx hb dX9_adds_32 (by decide) ?_
  refine z_iadd (a := (285 + (2 * (zc (MNow 284))))) (b := 1) X rfl rfl dX9_adds_33 ?_
  refine lv_iload_n hx hb dX9_adds_34 rfl (lv_at hl 4 rfl) ?_
  refine lv_i2l hx hb dX9_adds_35 rfl ?_
  refine z_last (cs2 := [wMod g md (vp_updL (vp_updL MNow (285 + (2 * (zc (MNow 284)))) x.toInt64) ((285 + (2 * (zc (MNow 284)))) + 1) y.toInt64) ((zf_X9_saves MNow MPast MSav).1) ((zf_X9_saves MNow MPast MSav).2) MRef MThen MLev MFst MWay MMost MHash]) (j := ((285 + (2 * (zc (MNow 284)))) + 1)) (x := y.toInt64) X Z 1 rfl rfl (by omega) (by decide) rfl dX9_adds_36 (fun H locs Z => ?_)
  refine lv_aload_n hx hb dX9_adds_37 rfl (lv_at hl 1 rfl) ?_
  refine z_get X Z 0 rfl (rfl : zCl[7]? = some (RX9, TX9, 10)) zU_X9 0 (by decide) wF_X9_7 rfl rfl dX9_adds_38 ?_
  refine lv_iload_n hx hb dX9_adds_41 rfl (lv_at hl 2 rfl) ?_
  refine lv_dup2_11 hx hb dX9_adds_42 rfl rfl ?_
  refine z_lald (j := 284) X Z 1 rfl rfl (by omega) (by decide) dX9_adds_43 ?_
  refine lv_lconst (v := (1 : Int64)) hx hb dX9_adds_44 (by decide) ?_
  refine lv_ladd hx hb dX9_adds_45 ?_
  refine z_last (cs2 := [wMod g md (vp_updL (vp_updL (vp_updL MNow (285 + (2 * (zc (MNow 284)))) x.toInt64) ((285 + (2 * (zc (MNow 284)))) + 1) y.toInt64) 284 (((vp_updL (vp_updL MNow (285 + (2 * (zc (MNow 284)))) x.toInt64) ((285 + (2 * (zc (MNow 284)))) + 1) y.toInt64) 284) + (1 : Int64))) ((zf_X9_saves MNow MPast MSav).1) ((zf_X9_saves MNow MPast MSav).2) MRef MThen MLev MFst MWay MMost MHash]) (j := 284) (x := (((vp_updL (vp_updL MNow (285 + (2 * (zc (MNow 284)))) x.toInt64) ((285 + (2 * (zc (MNow 284)))) + 1) y.toInt64) 284) + (1 : Int64))) X Z 1 rfl rfl (by omega) (by decide) rfl dX9_adds_46 (fun H locs Z => ?_)
  refine lv_aload_n hx hb dX9_adds_47 rfl (lv_at hl 1 rfl) ?_
  refine lv_iload_n hx hb dX9_adds_48 rfl (lv_at hl 2 rfl) ?_
  refine z_callV (mc := 0) (ms := 0) (As := [.int (284 : Int32)]) (rest := []) (st2 := [.int (nI (zc (MNow 284) + 1))]) (cs2 := [wMod g md (vp_updL (vp_updL (vp_updL MNow (285 + (2 * (zc (MNow 284)))) x.toInt64) ((285 + (2 * (zc (MNow 284)))) + 1) y.toInt64) 284 (((vp_updL (vp_updL MNow (285 + (2 * (zc (MNow 284)))) x.toInt64) ((285 + (2 * (zc (MNow 284)))) + 1) y.toInt64) 284) + (1 : Int64))) ((zf_X9_saves MNow MPast MSav).1) ((zf_X9_saves MNow MPast MSav).2) MRef MThen MLev MFst MWay MMost MHash]) X Z [0] [] [0] 0 7 (zc_X9_many l g B md (vp_updL (vp_updL (vp_updL MNow (285 + (2 * (zc (MNow 284)))) x.toInt64) ((285 + (2 * (zc (MNow 284)))) + 1) y.toInt64) 284 (((vp_updL (vp_updL MNow (285 + (2 * (zc (MNow 284)))) x.toInt64) ((285 + (2 * (zc (MNow 284)))) + 1) y.toInt64) 284) + (1 : Int64))) ((zf_X9_saves MNow MPast MSav).1) ((zf_X9_saves MNow MPast MSav).2) MRef MThen MLev MFst MWay MMost MHash 284 (zc (MNow 284) + 1) (by first | assumption | omega | decide) (zmany1 (n := zc (MNow 284)) (by rw [zuL_ne (by omega), zuL_ne (by omega)]; exact he284))) wM_X9_66 wS_X9_many wV_X9_many wK_X9_many wZ_X9 1 1 1 rfl (by decide +kernel) rfl (by decide) rfl rfl rfl (by decide) rfl rfl (rfl : zCl[7]? = some (RX9, TX9, 10)) hl.1 rfl rfl (by rw [hRf, hRl]; exact ⟨Nat.le_of_ble_eq_true rfl, Nat.le_of_ble_eq_true rfl⟩) (Nat.le_of_ble_eq_true rfl) ⟨Nat.zero_le _, Nat.zero_le _⟩ dX9_adds_49 (fun H locs Z => ?_)
  refine lv_iconst (v := (1 : Int32)) hx hb dX9_adds_52 (by decide) ?_
  refine z_isub (a := (zc (MNow 284) + 1)) (b := 1) X rfl rfl (by omega) dX9_adds_53 ?_
  exact z_ri (v := nI ((zc (MNow 284) + 1) - 1)) E Z rfl (by rw [zf_X9_adds_284_e]; exact ⟨rfl, rfl⟩) dX9_adds_54 (Nat.zero_le _) (Nat.zero_le _)
def zf_X9_adds_301 (MNow : Nat → Int64) (MPast : Nat → Int64) (MSav : Nat) (x : Int32) (y : Int32) : Nat × (Nat → Int64) × (Nat → Int64) × Nat := (((zc (MNow 301) + 1) - 1), (vp_updL (vp_updL (vp_updL MNow (302 + (2 * (zc (MNow 301)))) x.toInt64) ((302 + (2 * (zc (MNow 301)))) + 1) y.toInt64) 301 (((vp_updL (vp_updL MNow (302 + (2 * (zc (MNow 301)))) x.toInt64) ((302 + (2 * (zc (MNow 301)))) + 1) y.toInt64) 301) + (1 : Int64))), ((zf_X9_saves MNow MPast MSav).1), ((zf_X9_saves MNow MPast MSav).2))
theorem zf_X9_adds_301_e (MNow : Nat → Int64) (MPast : Nat → Int64) (MSav : Nat) (x : Int32) (y : Int32) : zf_X9_adds_301 MNow MPast MSav x y = (((zc (MNow 301) + 1) - 1), (vp_updL (vp_updL (vp_updL MNow (302 + (2 * (zc (MNow 301)))) x.toInt64) ((302 + (2 * (zc (MNow 301)))) + 1) y.toInt64) 301 (((vp_updL (vp_updL MNow (302 + (2 * (zc (MNow 301)))) x.toInt64) ((302 + (2 * (zc (MNow 301)))) + 1) y.toInt64) 301) + (1 : Int64))), ((zf_X9_saves MNow MPast MSav).1), ((zf_X9_saves MNow MPast MSav).2)) := rfl
set_option maxHeartbeats 4000000 in
set_option maxRecDepth 100000 in
theorem zc_X9_adds_301 (l : Launch) (g : zG) (B : Nat) (md : Nat → Nat) (MNow : Nat → Int64) (MPast : Nat → Int64) (MSav : Nat) (MRef : Int32) (MThen : Nat → Int64) (MLev : Nat → Int64) (MFst : Int32) (MWay : Nat → Int64) (MMost : Nat → Int32) (MHash : Int64) (x : Int32) (y : Int32) (hN : zNow MNow) (hs : MSav ≤ 4) (hlt : zc (MNow 301) < 8) : zMet l g B yX9_adds cX9_adds 5 (some .int) 2 100 0 0 [.ref (md 0), .int (301 : Int32), .int x, .int y] [wMod g md MNow MPast MSav MRef MThen MLev MFst MWay MMost MHash] (zDet (some (.int (nI ((zf_X9_adds_301 MNow MPast MSav x y).1)))) [wMod g md ((zf_X9_adds_301 MNow MPast MSav x y).2.1) ((zf_X9_adds_301 MNow MPast MSav x y).2.2.1) ((zf_X9_adds_301 MNow MPast MSav x y).2.2.2) MRef MThen MLev MFst MWay MMost MHash]) := by
  refine z_in (plainFor_of_name (by decide)) (Nat.le_of_ble_eq_true rfl) (fun p e R s m args below meth c A Q hRf hRl hRc hRs X Z hnm E ls hl => ?_)
  have hx := X.1
  have hb := X.2.1
  have hown := X.2.2.2.1
  have hts := X.2.2.2.2.1
  have hl : lv_has ls 5 [(0, .ref (md 0)), (1, .int (301 : Int32)), (2, .int x), (3, .int y)] := hl
  have hN2 := hN; obtain ⟨he9, hb9, he34, hb34, he43, hb43, he284, hb284, he301, hb301⟩ := hN2
  refine lv_aload_n hx hb dX9_adds_0 rfl (lv_at hl 0 rfl) ?_
  refine z_callV (mc := 0) (ms := 0) (As := []) (rest := []) (st2 := []) (cs2 := [wMod g md MNow ((zf_X9_saves MNow MPast MSav).1) ((zf_X9_saves MNow MPast MSav).2) MRef MThen MLev MFst MWay MMost MHash]) X Z [0] [] [0] 0 7 (zc_X9_saves l g B md MNow MPast MSav MRef MThen MLev MFst MWay MMost MHash (by first | assumption | omega | decide)) wM_X9_87 wS_X9_saves wV_X9_saves wK_X9_saves wZ_X9 0 1 1 rfl (by decide +kernel) rfl (by decide) rfl rfl rfl (by decide) rfl rfl (rfl : zCl[7]? = some (RX9, TX9, 10)) hl.1 rfl rfl (by rw [hRf, hRl]; exact ⟨Nat.le_of_ble_eq_true rfl, Nat.le_of_ble_eq_true rfl⟩) (Nat.le_of_ble_eq_true rfl) ⟨Nat.zero_le _, Nat.zero_le _⟩ dX9_adds_1 (fun H locs Z => ?_)
  refine lv_iload_n hx hb dX9_adds_4 rfl (lv_at hl 1 rfl) ?_
  refine lv_iconst (v := (1 : Int32)) hx hb dX9_adds_5 (by decide) ?_
  refine z_iadd (a := 301) (b := 1) X rfl rfl dX9_adds_6 ?_
  refine lv_iconst (v := (2 : Int32)) hx hb dX9_adds_7 (by decide) ?_
  refine lv_aload_n hx hb dX9_adds_8 rfl (lv_at hl 0 rfl) ?_
  refine lv_iload_n hx hb dX9_adds_9 rfl (lv_at hl 1 rfl) ?_
  refine z_callV (mc := 0) (ms := 0) (As := [.int (301 : Int32)]) (rest := [.int (2 : Int32), .int (302 : Int32)]) (st2 := [.int (nI (zc (MNow 301))), .int (2 : Int32), .int (302 : Int32)]) (cs2 := [wMod g md MNow ((zf_X9_saves MNow MPast MSav).1) ((zf_X9_saves MNow MPast MSav).2) MRef MThen MLev MFst MWay MMost MHash]) X Z [0] [] [0] 0 7 (zc_X9_many l g B md MNow ((zf_X9_saves MNow MPast MSav).1) ((zf_X9_saves MNow MPast MSav).2) MRef MThen MLev MFst MWay MMost MHash 301 (zc (MNow 301)) (by first | assumption | omega | decide) (by first | assumption | omega | decide)) wM_X9_66 wS_X9_many wV_X9_many wK_X9_many wZ_X9 1 1 1 rfl (by decide +kernel) rfl (by decide) rfl rfl rfl (by decide) rfl rfl (rfl : zCl[7]? = some (RX9, TX9, 10)) hl.1 rfl rfl (by rw [hRf, hRl]; exact ⟨Nat.le_of_ble_eq_true rfl, Nat.le_of_ble_eq_true rfl⟩) (Nat.le_of_ble_eq_true rfl) ⟨Nat.zero_le _, Nat.zero_le _⟩ dX9_adds_10 (fun H locs Z => ?_)
  refine z_imul (a := 2) (b := (zc (MNow 301))) X rfl rfl dX9_adds_13 ?_
  refine z_iadd (a := 302) (b := (2 * (zc (MNow 301)))) X rfl rfl dX9_adds_14 ?_
  refine lv_istore (lv' := [(4, .int (nI (302 + (2 * (zc (MNow 301)))))), (0, .ref (md 0)), (1, .int (301 : Int32)), (2, .int x), (3, .int y)]) hx hb dX9_adds_15 hl (by decide) rfl (fun ls hl => ?_)
  refine lv_aload_n hx hb dX9_adds_17 rfl (lv_at hl 1 rfl) ?_
  refine z_get X Z 0 rfl (rfl : zCl[7]? = some (RX9, TX9, 10)) zU_X9 0 (by decide) wF_X9_7 rfl rfl dX9_adds_18 ?_
  refine lv_iload hx hb dX9_adds_21 (lv_at hl 0 rfl) ?_
  refine lv_iload_n hx hb dX9_adds_23 rfl (lv_at hl 3 rfl) ?_
  refine lv_i2l hx hb dX9_adds_24 rfl ?_
  refine z_last (cs2 := [wMod g md (vp_updL MNow (302 + (2 * (zc (MNow 301)))) x.toInt64) ((zf_X9_saves MNow MPast MSav).1) ((zf_X9_saves MNow MPast MSav).2) MRef MThen MLev MFst MWay MMost MHash]) (j := (302 + (2 * (zc (MNow 301))))) (x := x.toInt64) X Z 1 rfl rfl (by omega) (by decide) rfl dX9_adds_25 (fun H locs Z => ?_)
  refine lv_aload_n hx hb dX9_adds_26 rfl (lv_at hl 1 rfl) ?_
  refine z_get X Z 0 rfl (rfl : zCl[7]? = some (RX9, TX9, 10)) zU_X9 0 (by decide) wF_X9_7 rfl rfl dX9_adds_27 ?_
  refine lv_iload hx hb dX9_adds_30 (lv_at hl 0 rfl) ?_
  refine lv_iconst (v := (1 : Int32)) hx hb dX9_adds_32 (by decide) ?_
  refine z_iadd (a := (302 + (2 * (zc (MNow 301))))) (b := 1) X rfl rfl dX9_adds_33 ?_
  refine lv_iload_n hx hb dX9_adds_34 rfl (lv_at hl 4 rfl) ?_
  refine lv_i2l hx hb dX9_adds_35 rfl ?_
  refine z_last (cs2 := [wMod g md (vp_updL (vp_updL MNow (302 + (2 * (zc (MNow 301)))) x.toInt64) ((302 + (2 * (zc (MNow 301)))) + 1) y.toInt64) ((zf_X9_saves MNow MPast MSav).1) ((zf_X9_saves MNow MPast MSav).2) MRef MThen MLev MFst MWay MMost MHash]) (j := ((302 + (2 * (zc (MNow 301)))) + 1)) (x := y.toInt64) X Z 1 rfl rfl (by omega) (by decide) rfl dX9_adds_36 (fun H locs Z => ?_)
  refine lv_aload_n hx hb dX9_adds_37 rfl (lv_at hl 1 rfl) ?_
  refine z_get X Z 0 rfl (rfl : zCl[7]? = some (RX9, TX9, 10)) zU_X9 0 (by decide) wF_X9_7 rfl rfl dX9_adds_38 ?_
  refine lv_iload_n hx hb dX9_adds_41 rfl (lv_at hl 2 rfl) ?_
  refine lv_dup2_11 hx hb dX9_adds_42 rfl rfl ?_
  refine z_lald (j := 301) X Z 1 rfl rfl (by omega) (by decide) dX9_adds_43 ?_
  refine lv_lconst (v := (1 : Int64)) hx hb dX9_adds_44 (by decide) ?_
  refine lv_ladd hx hb dX9_adds_45 ?_
  refine z_last (cs2 := [wMod g md (vp_updL (vp_updL (vp_updL MNow (302 + (2 * (zc (MNow 301)))) x.toInt64) ((302 + (2 * (zc (MNow 301)))) + 1) y.toInt64) 301 (((vp_updL (vp_updL MNow (302 + (2 * (zc (MNow 301)))) x.toInt64) ((302 + (2 * (zc (MNow 301)))) + 1) y.toInt64) 301) + (1 : Int64))) ((zf_X9_saves MNow MPast MSav).1) ((zf_X9_saves MNow MPast MSav).2) MRef MThen MLev MFst MWay MMost MHash]) (j := 301) (x := (((vp_updL (vp_updL MNow (302 + (2 * (zc (MNow 301)))) x.toInt64) ((302 + (2 * (zc (MNow 301)))) + 1) y.toInt64) 301) + (1 : Int64))) X Z 1 rfl rfl (by omega) (by decide) rfl dX9_adds_46 (fun H locs Z => ?_)
  refine lv_aload_n hx hb dX9_adds_47 rfl (lv_at hl 1 rfl) ?_
  refine lv_iload_n hx hb dX9_adds_48 rfl (lv_at hl 2 rfl) ?_
  refine z_callV (mc := 0) (ms := 0) (As := [.int (301 : Int32)]) (rest := []) (st2 := [.int (nI (zc (MNow 301) + 1))]) (cs2 := [wMod g md (vp_updL (vp_updL (vp_updL MNow (302 + (2 * (zc (MNow 301)))) x.toInt64) ((302 + (2 * (zc (MNow 301)))) + 1) y.toInt64) 301 (((vp_updL (vp_updL MNow (302 + (2 * (zc (MNow 301)))) x.toInt64) ((302 + (2 * (zc (MNow 301)))) + 1) y.toInt64) 301) + (1 : Int64))) ((zf_X9_saves MNow MPast MSav).1) ((zf_X9_saves MNow MPast MSav).2) MRef MThen MLev MFst MWay MMost MHash]) X Z [0] [] [0] 0 7 (zc_X9_many l g B md (vp_updL (vp_updL (vp_updL MNow (302 + (2 * (zc (MNow 301)))) x.toInt64) ((302 + (2 * (zc (MNow 301)))) + 1) y.toInt64) 301 (((vp_updL (vp_updL MNow (302 + (2 * (zc (MNow 301)))) x.toInt64) ((302 + (2 * (zc (MNow 301)))) + 1) y.toInt64) 301) + (1 : Int64))) ((zf_X9_saves MNow MPast MSav).1) ((zf_X9_saves MNow MPast MSav).2) MRef MThen MLev MFst MWay MMost MHash 301 (zc (MNow 301) + 1) (by first | assumption | omega | decide) (zmany1 (n := zc (MNow 301)) (by rw [zuL_ne (by omega), zuL_ne (by omega)]; exact he301))) wM_X9_66 wS_X9_many wV_X9_many wK_X9_many wZ_X9 1 1 1 rfl (by decide +kernel) rfl (by decide) rfl rfl rfl (by decide) rfl rfl (rfl : zCl[7]? = some (RX9, TX9, 10)) hl.1 rfl rfl (by rw [hRf, hRl]; exact ⟨Nat.le_of_ble_eq_true rfl, Nat.le_of_ble_eq_true rfl⟩) (Nat.le_of_ble_eq_true rfl) ⟨Nat.zero_le _, Nat.zero_le _⟩ dX9_adds_49 (fun H locs Z => ?_)
  refine lv_iconst (v := (1 : Int32)) hx hb dX9_adds_52 (by decide) ?_
  refine z_isub (a := (zc (MNow 301) + 1)) (b := 1) X rfl rfl (by omega) dX9_adds_53 ?_
  exact z_ri (v := nI ((zc (MNow 301) + 1) - 1)) E Z rfl (by rw [zf_X9_adds_301_e]; exact ⟨rfl, rfl⟩) dX9_adds_54 (Nat.zero_le _) (Nat.zero_le _)
def zf_X9_addSupporter (MNow : Nat → Int64) (MPast : Nat → Int64) (MSav : Nat) (x : Int32) (y : Int32) : Nat × Int32 × (Nat → Int64) × (Nat → Int64) × Nat := (if (zf_X9_within x.toInt64 (1 : Int64) (100000 : Int64)) = true then (if (zf_X9_within y.toInt64 (0 : Int64) (16777215 : Int64)) = true then (if (zc (MNow 284)) = 8 then (0, (zf_X9_refused_2), MNow, MPast, MSav) else (((zf_X9_adds_284 MNow MPast MSav x y).1), (zf_X9_refused_0), ((zf_X9_adds_284 MNow MPast MSav x y).2.1), ((zf_X9_adds_284 MNow MPast MSav x y).2.2.1), ((zf_X9_adds_284 MNow MPast MSav x y).2.2.2))) else (0, (zf_X9_refused_1), MNow, MPast, MSav)) else (0, (zf_X9_refused_1), MNow, MPast, MSav))
theorem zf_X9_addSupporter_e (MNow : Nat → Int64) (MPast : Nat → Int64) (MSav : Nat) (x : Int32) (y : Int32) : zf_X9_addSupporter MNow MPast MSav x y = (if (zf_X9_within x.toInt64 (1 : Int64) (100000 : Int64)) = true then (if (zf_X9_within y.toInt64 (0 : Int64) (16777215 : Int64)) = true then (if (zc (MNow 284)) = 8 then (0, (zf_X9_refused_2), MNow, MPast, MSav) else (((zf_X9_adds_284 MNow MPast MSav x y).1), (zf_X9_refused_0), ((zf_X9_adds_284 MNow MPast MSav x y).2.1), ((zf_X9_adds_284 MNow MPast MSav x y).2.2.1), ((zf_X9_adds_284 MNow MPast MSav x y).2.2.2))) else (0, (zf_X9_refused_1), MNow, MPast, MSav)) else (0, (zf_X9_refused_1), MNow, MPast, MSav)) := rfl
set_option maxHeartbeats 4000000 in
set_option maxRecDepth 100000 in
theorem zc_X9_addSupporter (l : Launch) (g : zG) (B : Nat) (md : Nat → Nat) (MNow : Nat → Int64) (MPast : Nat → Int64) (MSav : Nat) (MRef : Int32) (MThen : Nat → Int64) (MLev : Nat → Int64) (MFst : Int32) (MWay : Nat → Int64) (MMost : Nat → Int32) (MHash : Int64) (x : Int32) (y : Int32) (hN : zNow MNow) (hs : MSav ≤ 4) : zMet l g B yX9_addSupporter cX9_addSupporter 4 (some .int) 3 140 0 0 [.ref (md 0), .int x, .int y] [wMod g md MNow MPast MSav MRef MThen MLev MFst MWay MMost MHash] (zDet (some (.int (nI ((zf_X9_addSupporter MNow MPast MSav x y).1)))) [wMod g md ((zf_X9_addSupporter MNow MPast MSav x y).2.2.1) ((zf_X9_addSupporter MNow MPast MSav x y).2.2.2.1) ((zf_X9_addSupporter MNow MPast MSav x y).2.2.2.2) ((zf_X9_addSupporter MNow MPast MSav x y).2.1) MThen MLev MFst MWay MMost MHash]) := by
  refine z_in (plainFor_of_name (by decide)) (Nat.le_of_ble_eq_true rfl) (fun p e R s m args below meth c A Q hRf hRl hRc hRs X Z hnm E ls hl => ?_)
  have hx := X.1
  have hb := X.2.1
  have hown := X.2.2.2.1
  have hts := X.2.2.2.2.1
  have hl : lv_has ls 4 [(0, .ref (md 0)), (1, .int x), (2, .int y)] := hl
  have hN2 := hN; obtain ⟨he9, hb9, he34, hb34, he43, hb43, he284, hb284, he301, hb301⟩ := hN2
  refine lv_iload_n hx hb dX9_addSupporter_0 rfl (lv_at hl 1 rfl) ?_
  refine lv_i2l hx hb dX9_addSupporter_1 rfl ?_
  refine lv_lconst (v := (1 : Int64)) hx hb dX9_addSupporter_2 (by decide) ?_
  refine lv_ldc2 (v := (100000 : Int64)) hx hb hown (hts _ wL_X9_85) dX9_addSupporter_3 ?_
  refine z_callS (mc := 0) (ms := 0) (As := [.long x.toInt64, .long (1 : Int64), .long (100000 : Int64)]) (rest := []) (st2 := [.int (zB (zf_X9_within x.toInt64 (1 : Int64) (100000 : Int64)))]) (cs2 := [wMod g md MNow MPast MSav MRef MThen MLev MFst MWay MMost MHash]) X Z [] [0] [0] (zc_X9_within l g B x.toInt64 (1 : Int64) (100000 : Int64)) wM_X9_44 wS_X9_within wK_X9_within wZ_X9 3 1 1 rfl (by decide +kernel) rfl (by decide) rfl rfl rfl (by decide) rfl hl.1 rfl rfl (by rw [hRf, hRl]; exact ⟨Nat.le_of_ble_eq_true rfl, Nat.le_of_ble_eq_true rfl⟩) (Nat.le_of_ble_eq_true rfl) ⟨Nat.zero_le _, Nat.zero_le _⟩ dX9_addSupporter_6 (fun H locs Z => ?_)
  refine z_ifeqB (b := (zf_X9_within x.toInt64 (1 : Int64) (100000 : Int64))) (tgt := 28) X dX9_addSupporter_9 (by decide) (fun c_1 => ?_) (fun c_1 => ?_)
  · refine lv_iconst (v := (0 : Int32)) hx hb dX9_addSupporter_28 (by decide) ?_
    refine lv_istore_n (lv' := [(3, .int (0 : Int32)), (0, .ref (md 0)), (1, .int x), (2, .int y)]) hx hb dX9_addSupporter_29 rfl hl (by decide) rfl (fun ls hl => ?_)
    refine lv_aload_n hx hb dX9_addSupporter_30 rfl (lv_at hl 1 rfl) ?_
    refine lv_iload_n hx hb dX9_addSupporter_31 rfl (lv_at hl 0 rfl) ?_
    refine lv_if_ne (tgt := 39) hx hb dX9_addSupporter_32 (by decide) (fun c_2 => ?_) (fun c_2 => ?_)
    · (exact absurd c_2 (by decide))
    · refine lv_iconst (v := (1 : Int32)) hx hb dX9_addSupporter_35 (by decide) ?_
      refine lv_goto (tgt := 56) hx hb dX9_addSupporter_36 (by decide) ?_
      refine z_callV (mc := 0) (ms := 0) (As := [.int (1 : Int32)]) (rest := []) (st2 := [.int (1 : Int32)]) (cs2 := [wMod g md MNow MPast MSav (zf_X9_refused_1) MThen MLev MFst MWay MMost MHash]) X Z [0] [] [0] 0 7 (zc_X9_refused_1 l g B md MNow MPast MSav MRef MThen MLev MFst MWay MMost MHash) wM_X9_55 wS_X9_refused wV_X9_refused wK_X9_refused wZ_X9 1 1 1 rfl (by decide +kernel) rfl (by decide) rfl rfl rfl (by decide) rfl rfl (rfl : zCl[7]? = some (RX9, TX9, 10)) hl.1 rfl rfl (by rw [hRf, hRl]; exact ⟨Nat.le_of_ble_eq_true rfl, Nat.le_of_ble_eq_true rfl⟩) (Nat.le_of_ble_eq_true rfl) ⟨Nat.zero_le _, Nat.zero_le _⟩ dX9_addSupporter_56 (fun H locs Z => ?_)
      refine lv_if_eq (tgt := 66) hx hb dX9_addSupporter_59 (by decide) (fun c_3 => ?_) (fun c_3 => ?_)
      · (exact absurd c_3 (by decide))
      · refine lv_iconst (v := (0 : Int32)) hx hb dX9_addSupporter_62 (by decide) ?_
        refine lv_goto (tgt := 75) hx hb dX9_addSupporter_63 (by decide) ?_
        exact z_ri (v := nI 0) E Z rfl (by rw [zf_X9_addSupporter_e, if_neg (zBf c_1)]; exact ⟨rfl, rfl⟩) dX9_addSupporter_75 (Nat.zero_le _) (Nat.zero_le _)
  · refine lv_iload_n hx hb dX9_addSupporter_12 rfl (lv_at hl 2 rfl) ?_
    refine lv_i2l hx hb dX9_addSupporter_13 rfl ?_
    refine lv_lconst (v := (0 : Int64)) hx hb dX9_addSupporter_14 (by decide) ?_
    refine lv_ldc2 (v := (16777215 : Int64)) hx hb hown (hts _ wL_X9_192) dX9_addSupporter_15 ?_
    refine z_callS (mc := 0) (ms := 0) (As := [.long y.toInt64, .long (0 : Int64), .long (16777215 : Int64)]) (rest := []) (st2 := [.int (zB (zf_X9_within y.toInt64 (0 : Int64) (16777215 : Int64)))]) (cs2 := [wMod g md MNow MPast MSav MRef MThen MLev MFst MWay MMost MHash]) X Z [] [0] [0] (zc_X9_within l g B y.toInt64 (0 : Int64) (16777215 : Int64)) wM_X9_44 wS_X9_within wK_X9_within wZ_X9 3 1 1 rfl (by decide +kernel) rfl (by decide) rfl rfl rfl (by decide) rfl hl.1 rfl rfl (by rw [hRf, hRl]; exact ⟨Nat.le_of_ble_eq_true rfl, Nat.le_of_ble_eq_true rfl⟩) (Nat.le_of_ble_eq_true rfl) ⟨Nat.zero_le _, Nat.zero_le _⟩ dX9_addSupporter_18 (fun H locs Z => ?_)
    refine z_ifeqB (b := (zf_X9_within y.toInt64 (0 : Int64) (16777215 : Int64))) (tgt := 28) X dX9_addSupporter_21 (by decide) (fun c_4 => ?_) (fun c_4 => ?_)
    · refine lv_iconst (v := (0 : Int32)) hx hb dX9_addSupporter_28 (by decide) ?_
      refine lv_istore_n (lv' := [(3, .int (0 : Int32)), (0, .ref (md 0)), (1, .int x), (2, .int y)]) hx hb dX9_addSupporter_29 rfl hl (by decide) rfl (fun ls hl => ?_)
      refine lv_aload_n hx hb dX9_addSupporter_30 rfl (lv_at hl 1 rfl) ?_
      refine lv_iload_n hx hb dX9_addSupporter_31 rfl (lv_at hl 0 rfl) ?_
      refine lv_if_ne (tgt := 39) hx hb dX9_addSupporter_32 (by decide) (fun c_5 => ?_) (fun c_5 => ?_)
      · (exact absurd c_5 (by decide))
      · refine lv_iconst (v := (1 : Int32)) hx hb dX9_addSupporter_35 (by decide) ?_
        refine lv_goto (tgt := 56) hx hb dX9_addSupporter_36 (by decide) ?_
        refine z_callV (mc := 0) (ms := 0) (As := [.int (1 : Int32)]) (rest := []) (st2 := [.int (1 : Int32)]) (cs2 := [wMod g md MNow MPast MSav (zf_X9_refused_1) MThen MLev MFst MWay MMost MHash]) X Z [0] [] [0] 0 7 (zc_X9_refused_1 l g B md MNow MPast MSav MRef MThen MLev MFst MWay MMost MHash) wM_X9_55 wS_X9_refused wV_X9_refused wK_X9_refused wZ_X9 1 1 1 rfl (by decide +kernel) rfl (by decide) rfl rfl rfl (by decide) rfl rfl (rfl : zCl[7]? = some (RX9, TX9, 10)) hl.1 rfl rfl (by rw [hRf, hRl]; exact ⟨Nat.le_of_ble_eq_true rfl, Nat.le_of_ble_eq_true rfl⟩) (Nat.le_of_ble_eq_true rfl) ⟨Nat.zero_le _, Nat.zero_le _⟩ dX9_addSupporter_56 (fun H locs Z => ?_)
        refine lv_if_eq (tgt := 66) hx hb dX9_addSupporter_59 (by decide) (fun c_6 => ?_) (fun c_6 => ?_)
        · (exact absurd c_6 (by decide))
        · refine lv_iconst (v := (0 : Int32)) hx hb dX9_addSupporter_62 (by decide) ?_
          refine lv_goto (tgt := 75) hx hb dX9_addSupporter_63 (by decide) ?_
          exact z_ri (v := nI 0) E Z rfl (by rw [zf_X9_addSupporter_e, if_pos c_1, if_neg (zBf c_4)]; exact ⟨rfl, rfl⟩) dX9_addSupporter_75 (Nat.zero_le _) (Nat.zero_le _)
    · refine lv_iconst (v := (1 : Int32)) hx hb dX9_addSupporter_24 (by decide) ?_
      refine lv_goto (tgt := 29) hx hb dX9_addSupporter_25 (by decide) ?_
      refine lv_istore_n (lv' := [(3, .int (1 : Int32)), (0, .ref (md 0)), (1, .int x), (2, .int y)]) hx hb dX9_addSupporter_29 rfl hl (by decide) rfl (fun ls hl => ?_)
      refine lv_aload_n hx hb dX9_addSupporter_30 rfl (lv_at hl 1 rfl) ?_
      refine lv_iload_n hx hb dX9_addSupporter_31 rfl (lv_at hl 0 rfl) ?_
      refine lv_if_ne (tgt := 39) hx hb dX9_addSupporter_32 (by decide) (fun c_7 => ?_) (fun c_7 => ?_)
      · refine lv_aload_n hx hb dX9_addSupporter_39 rfl (lv_at hl 1 rfl) ?_
        refine lv_sipush (v := (284 : Int32)) hx hb dX9_addSupporter_40 (by decide) ?_
        refine z_callV (mc := 0) (ms := 0) (As := [.int (284 : Int32)]) (rest := [.ref (md 0)]) (st2 := [.int (nI (zc (MNow 284))), .ref (md 0)]) (cs2 := [wMod g md MNow MPast MSav MRef MThen MLev MFst MWay MMost MHash]) X Z [0] [] [0] 0 7 (zc_X9_many l g B md MNow MPast MSav MRef MThen MLev MFst MWay MMost MHash 284 (zc (MNow 284)) (by first | assumption | omega | decide) (by first | assumption | omega | decide)) wM_X9_66 wS_X9_many wV_X9_many wK_X9_many wZ_X9 1 1 1 rfl (by decide +kernel) rfl (by decide) rfl rfl rfl (by decide) rfl rfl (rfl : zCl[7]? = some (RX9, TX9, 10)) hl.1 rfl rfl (by rw [hRf, hRl]; exact ⟨Nat.le_of_ble_eq_true rfl, Nat.le_of_ble_eq_true rfl⟩) (Nat.le_of_ble_eq_true rfl) ⟨Nat.zero_le _, Nat.zero_le _⟩ dX9_addSupporter_43 (fun H locs Z => ?_)
        refine lv_bipush (v := (8 : Int32)) hx hb dX9_addSupporter_46 (by decide) ?_
        refine z_icmp_ne (a := (zc (MNow 284))) (b := 8) (tgt := 55) X rfl rfl (by omega) (by omega) dX9_addSupporter_48 (by decide) (fun c_8 => ?_) (fun c_8 => ?_)
        · refine lv_iconst (v := (0 : Int32)) hx hb dX9_addSupporter_55 (by decide) ?_
          refine z_callV (mc := 0) (ms := 0) (As := [.int (0 : Int32)]) (rest := []) (st2 := [.int (0 : Int32)]) (cs2 := [wMod g md MNow MPast MSav (zf_X9_refused_0) MThen MLev MFst MWay MMost MHash]) X Z [0] [] [0] 0 7 (zc_X9_refused_0 l g B md MNow MPast MSav MRef MThen MLev MFst MWay MMost MHash) wM_X9_55 wS_X9_refused wV_X9_refused wK_X9_refused wZ_X9 1 1 1 rfl (by decide +kernel) rfl (by decide) rfl rfl rfl (by decide) rfl rfl (rfl : zCl[7]? = some (RX9, TX9, 10)) hl.1 rfl rfl (by rw [hRf, hRl]; exact ⟨Nat.le_of_ble_eq_true rfl, Nat.le_of_ble_eq_true rfl⟩) (Nat.le_of_ble_eq_true rfl) ⟨Nat.zero_le _, Nat.zero_le _⟩ dX9_addSupporter_56 (fun H locs Z => ?_)
          refine lv_if_eq (tgt := 66) hx hb dX9_addSupporter_59 (by decide) (fun c_9 => ?_) (fun c_9 => ?_)
          · refine lv_aload_n hx hb dX9_addSupporter_66 rfl (lv_at hl 1 rfl) ?_
            refine lv_sipush (v := (284 : Int32)) hx hb dX9_addSupporter_67 (by decide) ?_
            refine lv_iload_n hx hb dX9_addSupporter_70 rfl (lv_at hl 2 rfl) ?_
            refine lv_iload_n hx hb dX9_addSupporter_71 rfl (lv_at hl 3 rfl) ?_
            refine z_callV (mc := 0) (ms := 0) (As := [.int (284 : Int32), .int x, .int y]) (rest := []) (st2 := [.int (nI ((zf_X9_adds_284 MNow MPast MSav x y).1))]) (cs2 := [wMod g md ((zf_X9_adds_284 MNow MPast MSav x y).2.1) ((zf_X9_adds_284 MNow MPast MSav x y).2.2.1) ((zf_X9_adds_284 MNow MPast MSav x y).2.2.2) (zf_X9_refused_0) MThen MLev MFst MWay MMost MHash]) X Z [0] [] [0] 0 7 (zc_X9_adds_284 l g B md MNow MPast MSav (zf_X9_refused_0) MThen MLev MFst MWay MMost MHash x y (by first | assumption | omega | decide) (by first | assumption | omega | decide) (by first | assumption | omega | decide)) wM_X9_194 wS_X9_adds wV_X9_adds wK_X9_adds wZ_X9 3 1 1 rfl (by decide +kernel) rfl (by decide) rfl rfl rfl (by decide) rfl rfl (rfl : zCl[7]? = some (RX9, TX9, 10)) hl.1 rfl rfl (by rw [hRf, hRl]; exact ⟨Nat.le_of_ble_eq_true rfl, Nat.le_of_ble_eq_true rfl⟩) (Nat.le_of_ble_eq_true rfl) ⟨Nat.zero_le _, Nat.zero_le _⟩ dX9_addSupporter_72 (fun H locs Z => ?_)
            exact z_ri (v := nI ((zf_X9_adds_284 MNow MPast MSav x y).1)) E Z rfl (by rw [zf_X9_addSupporter_e, if_pos c_1, if_pos c_4, if_neg c_8]; exact ⟨rfl, rfl⟩) dX9_addSupporter_75 (Nat.zero_le _) (Nat.zero_le _)
          · (exact absurd c_9 (by decide))
        · refine lv_iconst (v := (2 : Int32)) hx hb dX9_addSupporter_51 (by decide) ?_
          refine lv_goto (tgt := 56) hx hb dX9_addSupporter_52 (by decide) ?_
          refine z_callV (mc := 0) (ms := 0) (As := [.int (2 : Int32)]) (rest := []) (st2 := [.int (1 : Int32)]) (cs2 := [wMod g md MNow MPast MSav (zf_X9_refused_2) MThen MLev MFst MWay MMost MHash]) X Z [0] [] [0] 0 7 (zc_X9_refused_2 l g B md MNow MPast MSav MRef MThen MLev MFst MWay MMost MHash) wM_X9_55 wS_X9_refused wV_X9_refused wK_X9_refused wZ_X9 1 1 1 rfl (by decide +kernel) rfl (by decide) rfl rfl rfl (by decide) rfl rfl (rfl : zCl[7]? = some (RX9, TX9, 10)) hl.1 rfl rfl (by rw [hRf, hRl]; exact ⟨Nat.le_of_ble_eq_true rfl, Nat.le_of_ble_eq_true rfl⟩) (Nat.le_of_ble_eq_true rfl) ⟨Nat.zero_le _, Nat.zero_le _⟩ dX9_addSupporter_56 (fun H locs Z => ?_)
          refine lv_if_eq (tgt := 66) hx hb dX9_addSupporter_59 (by decide) (fun c_10 => ?_) (fun c_10 => ?_)
          · (exact absurd c_10 (by decide))
          · refine lv_iconst (v := (0 : Int32)) hx hb dX9_addSupporter_62 (by decide) ?_
            refine lv_goto (tgt := 75) hx hb dX9_addSupporter_63 (by decide) ?_
            exact z_ri (v := nI 0) E Z rfl (by rw [zf_X9_addSupporter_e, if_pos c_1, if_pos c_4, if_pos c_8]; exact ⟨rfl, rfl⟩) dX9_addSupporter_75 (Nat.zero_le _) (Nat.zero_le _)
      · (exact absurd c_7 (by decide))
def zf_X9_addSession (MNow : Nat → Int64) (MPast : Nat → Int64) (MSav : Nat) (x : Int32) (y : Int32) : Nat × Int32 × (Nat → Int64) × (Nat → Int64) × Nat := (if (zf_X9_within x.toInt64 (1 : Int64) (100000 : Int64)) = true then (if (zf_X9_within y.toInt64 (0 : Int64) (23 : Int64)) = true then (if (zc (MNow 301)) = 8 then (0, (zf_X9_refused_2), MNow, MPast, MSav) else (((zf_X9_adds_301 MNow MPast MSav x y).1), (zf_X9_refused_0), ((zf_X9_adds_301 MNow MPast MSav x y).2.1), ((zf_X9_adds_301 MNow MPast MSav x y).2.2.1), ((zf_X9_adds_301 MNow MPast MSav x y).2.2.2))) else (0, (zf_X9_refused_1), MNow, MPast, MSav)) else (0, (zf_X9_refused_1), MNow, MPast, MSav))
theorem zf_X9_addSession_e (MNow : Nat → Int64) (MPast : Nat → Int64) (MSav : Nat) (x : Int32) (y : Int32) : zf_X9_addSession MNow MPast MSav x y = (if (zf_X9_within x.toInt64 (1 : Int64) (100000 : Int64)) = true then (if (zf_X9_within y.toInt64 (0 : Int64) (23 : Int64)) = true then (if (zc (MNow 301)) = 8 then (0, (zf_X9_refused_2), MNow, MPast, MSav) else (((zf_X9_adds_301 MNow MPast MSav x y).1), (zf_X9_refused_0), ((zf_X9_adds_301 MNow MPast MSav x y).2.1), ((zf_X9_adds_301 MNow MPast MSav x y).2.2.1), ((zf_X9_adds_301 MNow MPast MSav x y).2.2.2))) else (0, (zf_X9_refused_1), MNow, MPast, MSav)) else (0, (zf_X9_refused_1), MNow, MPast, MSav)) := rfl
set_option maxHeartbeats 4000000 in
set_option maxRecDepth 100000 in
theorem zc_X9_addSession (l : Launch) (g : zG) (B : Nat) (md : Nat → Nat) (MNow : Nat → Int64) (MPast : Nat → Int64) (MSav : Nat) (MRef : Int32) (MThen : Nat → Int64) (MLev : Nat → Int64) (MFst : Int32) (MWay : Nat → Int64) (MMost : Nat → Int32) (MHash : Int64) (x : Int32) (y : Int32) (hN : zNow MNow) (hs : MSav ≤ 4) : zMet l g B yX9_addSession cX9_addSession 4 (some .int) 3 140 0 0 [.ref (md 0), .int x, .int y] [wMod g md MNow MPast MSav MRef MThen MLev MFst MWay MMost MHash] (zDet (some (.int (nI ((zf_X9_addSession MNow MPast MSav x y).1)))) [wMod g md ((zf_X9_addSession MNow MPast MSav x y).2.2.1) ((zf_X9_addSession MNow MPast MSav x y).2.2.2.1) ((zf_X9_addSession MNow MPast MSav x y).2.2.2.2) ((zf_X9_addSession MNow MPast MSav x y).2.1) MThen MLev MFst MWay MMost MHash]) := by
  refine z_in (plainFor_of_name (by decide)) (Nat.le_of_ble_eq_true rfl) (fun p e R s m args below meth c A Q hRf hRl hRc hRs X Z hnm E ls hl => ?_)
  have hx := X.1
  have hb := X.2.1
  have hown := X.2.2.2.1
  have hts := X.2.2.2.2.1
  have hl : lv_has ls 4 [(0, .ref (md 0)), (1, .int x), (2, .int y)] := hl
  have hN2 := hN; obtain ⟨he9, hb9, he34, hb34, he43, hb43, he284, hb284, he301, hb301⟩ := hN2
  refine lv_iload_n hx hb dX9_addSession_0 rfl (lv_at hl 1 rfl) ?_
  refine lv_i2l hx hb dX9_addSession_1 rfl ?_
  refine lv_lconst (v := (1 : Int64)) hx hb dX9_addSession_2 (by decide) ?_
  refine lv_ldc2 (v := (100000 : Int64)) hx hb hown (hts _ wL_X9_85) dX9_addSession_3 ?_
  refine z_callS (mc := 0) (ms := 0) (As := [.long x.toInt64, .long (1 : Int64), .long (100000 : Int64)]) (rest := []) (st2 := [.int (zB (zf_X9_within x.toInt64 (1 : Int64) (100000 : Int64)))]) (cs2 := [wMod g md MNow MPast MSav MRef MThen MLev MFst MWay MMost MHash]) X Z [] [0] [0] (zc_X9_within l g B x.toInt64 (1 : Int64) (100000 : Int64)) wM_X9_44 wS_X9_within wK_X9_within wZ_X9 3 1 1 rfl (by decide +kernel) rfl (by decide) rfl rfl rfl (by decide) rfl hl.1 rfl rfl (by rw [hRf, hRl]; exact ⟨Nat.le_of_ble_eq_true rfl, Nat.le_of_ble_eq_true rfl⟩) (Nat.le_of_ble_eq_true rfl) ⟨Nat.zero_le _, Nat.zero_le _⟩ dX9_addSession_6 (fun H locs Z => ?_)
  refine z_ifeqB (b := (zf_X9_within x.toInt64 (1 : Int64) (100000 : Int64))) (tgt := 28) X dX9_addSession_9 (by decide) (fun c_1 => ?_) (fun c_1 => ?_)
  · refine lv_iconst (v := (0 : Int32)) hx hb dX9_addSession_28 (by decide) ?_
    refine lv_istore_n (lv' := [(3, .int (0 : Int32)), (0, .ref (md 0)), (1, .int x), (2, .int y)]) hx hb dX9_addSession_29 rfl hl (by decide) rfl (fun ls hl => ?_)
    refine lv_aload_n hx hb dX9_addSession_30 rfl (lv_at hl 1 rfl) ?_
    refine lv_iload_n hx hb dX9_addSession_31 rfl (lv_at hl 0 rfl) ?_
    refine lv_if_ne (tgt := 39) hx hb dX9_addSession_32 (by decide) (fun c_2 => ?_) (fun c_2 => ?_)
    · (exact absurd c_2 (by decide))
    · refine lv_iconst (v := (1 : Int32)) hx hb dX9_addSession_35 (by decide) ?_
      refine lv_goto (tgt := 56) hx hb dX9_addSession_36 (by decide) ?_
      refine z_callV (mc := 0) (ms := 0) (As := [.int (1 : Int32)]) (rest := []) (st2 := [.int (1 : Int32)]) (cs2 := [wMod g md MNow MPast MSav (zf_X9_refused_1) MThen MLev MFst MWay MMost MHash]) X Z [0] [] [0] 0 7 (zc_X9_refused_1 l g B md MNow MPast MSav MRef MThen MLev MFst MWay MMost MHash) wM_X9_55 wS_X9_refused wV_X9_refused wK_X9_refused wZ_X9 1 1 1 rfl (by decide +kernel) rfl (by decide) rfl rfl rfl (by decide) rfl rfl (rfl : zCl[7]? = some (RX9, TX9, 10)) hl.1 rfl rfl (by rw [hRf, hRl]; exact ⟨Nat.le_of_ble_eq_true rfl, Nat.le_of_ble_eq_true rfl⟩) (Nat.le_of_ble_eq_true rfl) ⟨Nat.zero_le _, Nat.zero_le _⟩ dX9_addSession_56 (fun H locs Z => ?_)
      refine lv_if_eq (tgt := 66) hx hb dX9_addSession_59 (by decide) (fun c_3 => ?_) (fun c_3 => ?_)
      · (exact absurd c_3 (by decide))
      · refine lv_iconst (v := (0 : Int32)) hx hb dX9_addSession_62 (by decide) ?_
        refine lv_goto (tgt := 75) hx hb dX9_addSession_63 (by decide) ?_
        exact z_ri (v := nI 0) E Z rfl (by rw [zf_X9_addSession_e, if_neg (zBf c_1)]; exact ⟨rfl, rfl⟩) dX9_addSession_75 (Nat.zero_le _) (Nat.zero_le _)
  · refine lv_iload_n hx hb dX9_addSession_12 rfl (lv_at hl 2 rfl) ?_
    refine lv_i2l hx hb dX9_addSession_13 rfl ?_
    refine lv_lconst (v := (0 : Int64)) hx hb dX9_addSession_14 (by decide) ?_
    refine lv_ldc2 (v := (23 : Int64)) hx hb hown (hts _ wL_X9_198) dX9_addSession_15 ?_
    refine z_callS (mc := 0) (ms := 0) (As := [.long y.toInt64, .long (0 : Int64), .long (23 : Int64)]) (rest := []) (st2 := [.int (zB (zf_X9_within y.toInt64 (0 : Int64) (23 : Int64)))]) (cs2 := [wMod g md MNow MPast MSav MRef MThen MLev MFst MWay MMost MHash]) X Z [] [0] [0] (zc_X9_within l g B y.toInt64 (0 : Int64) (23 : Int64)) wM_X9_44 wS_X9_within wK_X9_within wZ_X9 3 1 1 rfl (by decide +kernel) rfl (by decide) rfl rfl rfl (by decide) rfl hl.1 rfl rfl (by rw [hRf, hRl]; exact ⟨Nat.le_of_ble_eq_true rfl, Nat.le_of_ble_eq_true rfl⟩) (Nat.le_of_ble_eq_true rfl) ⟨Nat.zero_le _, Nat.zero_le _⟩ dX9_addSession_18 (fun H locs Z => ?_)
    refine z_ifeqB (b := (zf_X9_within y.toInt64 (0 : Int64) (23 : Int64))) (tgt := 28) X dX9_addSession_21 (by decide) (fun c_4 => ?_) (fun c_4 => ?_)
    · refine lv_iconst (v := (0 : Int32)) hx hb dX9_addSession_28 (by decide) ?_
      refine lv_istore_n (lv' := [(3, .int (0 : Int32)), (0, .ref (md 0)), (1, .int x), (2, .int y)]) hx hb dX9_addSession_29 rfl hl (by decide) rfl (fun ls hl => ?_)
      refine lv_aload_n hx hb dX9_addSession_30 rfl (lv_at hl 1 rfl) ?_
      refine lv_iload_n hx hb dX9_addSession_31 rfl (lv_at hl 0 rfl) ?_
      refine lv_if_ne (tgt := 39) hx hb dX9_addSession_32 (by decide) (fun c_5 => ?_) (fun c_5 => ?_)
      · (exact absurd c_5 (by decide))
      · refine lv_iconst (v := (1 : Int32)) hx hb dX9_addSession_35 (by decide) ?_
        refine lv_goto (tgt := 56) hx hb dX9_addSession_36 (by decide) ?_
        refine z_callV (mc := 0) (ms := 0) (As := [.int (1 : Int32)]) (rest := []) (st2 := [.int (1 : Int32)]) (cs2 := [wMod g md MNow MPast MSav (zf_X9_refused_1) MThen MLev MFst MWay MMost MHash]) X Z [0] [] [0] 0 7 (zc_X9_refused_1 l g B md MNow MPast MSav MRef MThen MLev MFst MWay MMost MHash) wM_X9_55 wS_X9_refused wV_X9_refused wK_X9_refused wZ_X9 1 1 1 rfl (by decide +kernel) rfl (by decide) rfl rfl rfl (by decide) rfl rfl (rfl : zCl[7]? = some (RX9, TX9, 10)) hl.1 rfl rfl (by rw [hRf, hRl]; exact ⟨Nat.le_of_ble_eq_true rfl, Nat.le_of_ble_eq_true rfl⟩) (Nat.le_of_ble_eq_true rfl) ⟨Nat.zero_le _, Nat.zero_le _⟩ dX9_addSession_56 (fun H locs Z => ?_)
        refine lv_if_eq (tgt := 66) hx hb dX9_addSession_59 (by decide) (fun c_6 => ?_) (fun c_6 => ?_)
        · (exact absurd c_6 (by decide))
        · refine lv_iconst (v := (0 : Int32)) hx hb dX9_addSession_62 (by decide) ?_
          refine lv_goto (tgt := 75) hx hb dX9_addSession_63 (by decide) ?_
          exact z_ri (v := nI 0) E Z rfl (by rw [zf_X9_addSession_e, if_pos c_1, if_neg (zBf c_4)]; exact ⟨rfl, rfl⟩) dX9_addSession_75 (Nat.zero_le _) (Nat.zero_le _)
    · refine lv_iconst (v := (1 : Int32)) hx hb dX9_addSession_24 (by decide) ?_
      refine lv_goto (tgt := 29) hx hb dX9_addSession_25 (by decide) ?_
      refine lv_istore_n (lv' := [(3, .int (1 : Int32)), (0, .ref (md 0)), (1, .int x), (2, .int y)]) hx hb dX9_addSession_29 rfl hl (by decide) rfl (fun ls hl => ?_)
      refine lv_aload_n hx hb dX9_addSession_30 rfl (lv_at hl 1 rfl) ?_
      refine lv_iload_n hx hb dX9_addSession_31 rfl (lv_at hl 0 rfl) ?_
      refine lv_if_ne (tgt := 39) hx hb dX9_addSession_32 (by decide) (fun c_7 => ?_) (fun c_7 => ?_)
      · refine lv_aload_n hx hb dX9_addSession_39 rfl (lv_at hl 1 rfl) ?_
        refine lv_sipush (v := (301 : Int32)) hx hb dX9_addSession_40 (by decide) ?_
        refine z_callV (mc := 0) (ms := 0) (As := [.int (301 : Int32)]) (rest := [.ref (md 0)]) (st2 := [.int (nI (zc (MNow 301))), .ref (md 0)]) (cs2 := [wMod g md MNow MPast MSav MRef MThen MLev MFst MWay MMost MHash]) X Z [0] [] [0] 0 7 (zc_X9_many l g B md MNow MPast MSav MRef MThen MLev MFst MWay MMost MHash 301 (zc (MNow 301)) (by first | assumption | omega | decide) (by first | assumption | omega | decide)) wM_X9_66 wS_X9_many wV_X9_many wK_X9_many wZ_X9 1 1 1 rfl (by decide +kernel) rfl (by decide) rfl rfl rfl (by decide) rfl rfl (rfl : zCl[7]? = some (RX9, TX9, 10)) hl.1 rfl rfl (by rw [hRf, hRl]; exact ⟨Nat.le_of_ble_eq_true rfl, Nat.le_of_ble_eq_true rfl⟩) (Nat.le_of_ble_eq_true rfl) ⟨Nat.zero_le _, Nat.zero_le _⟩ dX9_addSession_43 (fun H locs Z => ?_)
        refine lv_bipush (v := (8 : Int32)) hx hb dX9_addSession_46 (by decide) ?_
        refine z_icmp_ne (a := (zc (MNow 301))) (b := 8) (tgt := 55) X rfl rfl (by omega) (by omega) dX9_addSession_48 (by decide) (fun c_8 => ?_) (fun c_8 => ?_)
        · refine lv_iconst (v := (0 : Int32)) hx hb dX9_addSession_55 (by decide) ?_
          refine z_callV (mc := 0) (ms := 0) (As := [.int (0 : Int32)]) (rest := []) (st2 := [.int (0 : Int32)]) (cs2 := [wMod g md MNow MPast MSav (zf_X9_refused_0) MThen MLev MFst MWay MMost MHash]) X Z [0] [] [0] 0 7 (zc_X9_refused_0 l g B md MNow MPast MSav MRef MThen MLev MFst MWay MMost MHash) wM_X9_55 wS_X9_refused wV_X9_refused wK_X9_refused wZ_X9 1 1 1 rfl (by decide +kernel) rfl (by decide) rfl rfl rfl (by decide) rfl rfl (rfl : zCl[7]? = some (RX9, TX9, 10)) hl.1 rfl rfl (by rw [hRf, hRl]; exact ⟨Nat.le_of_ble_eq_true rfl, Nat.le_of_ble_eq_true rfl⟩) (Nat.le_of_ble_eq_true rfl) ⟨Nat.zero_le _, Nat.zero_le _⟩ dX9_addSession_56 (fun H locs Z => ?_)
          refine lv_if_eq (tgt := 66) hx hb dX9_addSession_59 (by decide) (fun c_9 => ?_) (fun c_9 => ?_)
          · refine lv_aload_n hx hb dX9_addSession_66 rfl (lv_at hl 1 rfl) ?_
            refine lv_sipush (v := (301 : Int32)) hx hb dX9_addSession_67 (by decide) ?_
            refine lv_iload_n hx hb dX9_addSession_70 rfl (lv_at hl 2 rfl) ?_
            refine lv_iload_n hx hb dX9_addSession_71 rfl (lv_at hl 3 rfl) ?_
            refine z_callV (mc := 0) (ms := 0) (As := [.int (301 : Int32), .int x, .int y]) (rest := []) (st2 := [.int (nI ((zf_X9_adds_301 MNow MPast MSav x y).1))]) (cs2 := [wMod g md ((zf_X9_adds_301 MNow MPast MSav x y).2.1) ((zf_X9_adds_301 MNow MPast MSav x y).2.2.1) ((zf_X9_adds_301 MNow MPast MSav x y).2.2.2) (zf_X9_refused_0) MThen MLev MFst MWay MMost MHash]) X Z [0] [] [0] 0 7 (zc_X9_adds_301 l g B md MNow MPast MSav (zf_X9_refused_0) MThen MLev MFst MWay MMost MHash x y (by first | assumption | omega | decide) (by first | assumption | omega | decide) (by first | assumption | omega | decide)) wM_X9_194 wS_X9_adds wV_X9_adds wK_X9_adds wZ_X9 3 1 1 rfl (by decide +kernel) rfl (by decide) rfl rfl rfl (by decide) rfl rfl (rfl : zCl[7]? = some (RX9, TX9, 10)) hl.1 rfl rfl (by rw [hRf, hRl]; exact ⟨Nat.le_of_ble_eq_true rfl, Nat.le_of_ble_eq_true rfl⟩) (Nat.le_of_ble_eq_true rfl) ⟨Nat.zero_le _, Nat.zero_le _⟩ dX9_addSession_72 (fun H locs Z => ?_)
            exact z_ri (v := nI ((zf_X9_adds_301 MNow MPast MSav x y).1)) E Z rfl (by rw [zf_X9_addSession_e, if_pos c_1, if_pos c_4, if_neg c_8]; exact ⟨rfl, rfl⟩) dX9_addSession_75 (Nat.zero_le _) (Nat.zero_le _)
          · (exact absurd c_9 (by decide))
        · refine lv_iconst (v := (2 : Int32)) hx hb dX9_addSession_51 (by decide) ?_
          refine lv_goto (tgt := 56) hx hb dX9_addSession_52 (by decide) ?_
          refine z_callV (mc := 0) (ms := 0) (As := [.int (2 : Int32)]) (rest := []) (st2 := [.int (1 : Int32)]) (cs2 := [wMod g md MNow MPast MSav (zf_X9_refused_2) MThen MLev MFst MWay MMost MHash]) X Z [0] [] [0] 0 7 (zc_X9_refused_2 l g B md MNow MPast MSav MRef MThen MLev MFst MWay MMost MHash) wM_X9_55 wS_X9_refused wV_X9_refused wK_X9_refused wZ_X9 1 1 1 rfl (by decide +kernel) rfl (by decide) rfl rfl rfl (by decide) rfl rfl (rfl : zCl[7]? = some (RX9, TX9, 10)) hl.1 rfl rfl (by rw [hRf, hRl]; exact ⟨Nat.le_of_ble_eq_true rfl, Nat.le_of_ble_eq_true rfl⟩) (Nat.le_of_ble_eq_true rfl) ⟨Nat.zero_le _, Nat.zero_le _⟩ dX9_addSession_56 (fun H locs Z => ?_)
          refine lv_if_eq (tgt := 66) hx hb dX9_addSession_59 (by decide) (fun c_10 => ?_) (fun c_10 => ?_)
          · (exact absurd c_10 (by decide))
          · refine lv_iconst (v := (0 : Int32)) hx hb dX9_addSession_62 (by decide) ?_
            refine lv_goto (tgt := 75) hx hb dX9_addSession_63 (by decide) ?_
            exact z_ri (v := nI 0) E Z rfl (by rw [zf_X9_addSession_e, if_pos c_1, if_pos c_4, if_pos c_8]; exact ⟨rfl, rfl⟩) dX9_addSession_75 (Nat.zero_le _) (Nat.zero_le _)
      · (exact absurd c_7 (by decide))
def zf_X9_clearSessions (MNow : Nat → Int64) (MPast : Nat → Int64) (MSav : Nat) : Nat × Int32 × (Nat → Int64) × (Nat → Int64) × Nat := (((zc (MNow 284)) + (zc (MNow 301))), (0 : Int32), (vp_updL (vp_updL MNow 284 (0 : Int64)) 301 (0 : Int64)), ((zf_X9_saves MNow MPast MSav).1), ((zf_X9_saves MNow MPast MSav).2))
theorem zf_X9_clearSessions_e (MNow : Nat → Int64) (MPast : Nat → Int64) (MSav : Nat) : zf_X9_clearSessions MNow MPast MSav = (((zc (MNow 284)) + (zc (MNow 301))), (0 : Int32), (vp_updL (vp_updL MNow 284 (0 : Int64)) 301 (0 : Int64)), ((zf_X9_saves MNow MPast MSav).1), ((zf_X9_saves MNow MPast MSav).2)) := rfl
set_option maxHeartbeats 4000000 in
set_option maxRecDepth 100000 in
theorem zc_X9_clearSessions (l : Launch) (g : zG) (B : Nat) (md : Nat → Nat) (MNow : Nat → Int64) (MPast : Nat → Int64) (MSav : Nat) (MRef : Int32) (MThen : Nat → Int64) (MLev : Nat → Int64) (MFst : Int32) (MWay : Nat → Int64) (MMost : Nat → Int32) (MHash : Int64) (hN : zNow MNow) (hs : MSav ≤ 4) : zMet l g B yX9_clearSessions cX9_clearSessions 2 (some .int) 2 100 0 0 [.ref (md 0)] [wMod g md MNow MPast MSav MRef MThen MLev MFst MWay MMost MHash] (zDet (some (.int (nI ((zf_X9_clearSessions MNow MPast MSav).1)))) [wMod g md ((zf_X9_clearSessions MNow MPast MSav).2.2.1) ((zf_X9_clearSessions MNow MPast MSav).2.2.2.1) ((zf_X9_clearSessions MNow MPast MSav).2.2.2.2) ((zf_X9_clearSessions MNow MPast MSav).2.1) MThen MLev MFst MWay MMost MHash]) := by
  refine z_in (plainFor_of_name (by decide)) (Nat.le_of_ble_eq_true rfl) (fun p e R s m args below meth c A Q hRf hRl hRc hRs X Z hnm E ls hl => ?_)
  have hx := X.1
  have hb := X.2.1
  have hown := X.2.2.2.1
  have hts := X.2.2.2.2.1
  have hl : lv_has ls 2 [(0, .ref (md 0))] := hl
  have hN2 := hN; obtain ⟨he9, hb9, he34, hb34, he43, hb43, he284, hb284, he301, hb301⟩ := hN2
  refine lv_aload_n hx hb dX9_clearSessions_0 rfl (lv_at hl 0 rfl) ?_
  refine lv_iconst (v := (0 : Int32)) hx hb dX9_clearSessions_1 (by decide) ?_
  refine z_put (cs2 := [wMod g md MNow MPast MSav (0 : Int32) MThen MLev MFst MWay MMost MHash]) (v := .int (0 : Int32)) X Z 0 rfl (rfl : zCl[7]? = some (RX9, TX9, 10)) zU_X9 tyX9 tyX9_ok nmX9 3 (by decide) wF_X9_38 rfl rfl rfl rfl (Nat.le_of_ble_eq_true rfl) rfl dX9_clearSessions_2 (fun H locs Z => ?_)
  refine lv_aload_n hx hb dX9_clearSessions_5 rfl (lv_at hl 0 rfl) ?_
  refine z_callV (mc := 0) (ms := 0) (As := []) (rest := []) (st2 := []) (cs2 := [wMod g md MNow ((zf_X9_saves MNow MPast MSav).1) ((zf_X9_saves MNow MPast MSav).2) (0 : Int32) MThen MLev MFst MWay MMost MHash]) X Z [0] [] [0] 0 7 (zc_X9_saves l g B md MNow MPast MSav (0 : Int32) MThen MLev MFst MWay MMost MHash (by first | assumption | omega | decide)) wM_X9_87 wS_X9_saves wV_X9_saves wK_X9_saves wZ_X9 0 1 1 rfl (by decide +kernel) rfl (by decide) rfl rfl rfl (by decide) rfl rfl (rfl : zCl[7]? = some (RX9, TX9, 10)) hl.1 rfl rfl (by rw [hRf, hRl]; exact ⟨Nat.le_of_ble_eq_true rfl, Nat.le_of_ble_eq_true rfl⟩) (Nat.le_of_ble_eq_true rfl) ⟨Nat.zero_le _, Nat.zero_le _⟩ dX9_clearSessions_6 (fun H locs Z => ?_)
  refine lv_aload_n hx hb dX9_clearSessions_9 rfl (lv_at hl 0 rfl) ?_
  refine lv_sipush (v := (284 : Int32)) hx hb dX9_clearSessions_10 (by decide) ?_
  refine z_callV (mc := 0) (ms := 0) (As := [.int (284 : Int32)]) (rest := []) (st2 := [.int (nI (zc (MNow 284)))]) (cs2 := [wMod g md MNow ((zf_X9_saves MNow MPast MSav).1) ((zf_X9_saves MNow MPast MSav).2) (0 : Int32) MThen MLev MFst MWay MMost MHash]) X Z [0] [] [0] 0 7 (zc_X9_many l g B md MNow ((zf_X9_saves MNow MPast MSav).1) ((zf_X9_saves MNow MPast MSav).2) (0 : Int32) MThen MLev MFst MWay MMost MHash 284 (zc (MNow 284)) (by first | assumption | omega | decide) (by first | assumption | omega | decide)) wM_X9_66 wS_X9_many wV_X9_many wK_X9_many wZ_X9 1 1 1 rfl (by decide +kernel) rfl (by decide) rfl rfl rfl (by decide) rfl rfl (rfl : zCl[7]? = some (RX9, TX9, 10)) hl.1 rfl rfl (by rw [hRf, hRl]; exact ⟨Nat.le_of_ble_eq_true rfl, Nat.le_of_ble_eq_true rfl⟩) (Nat.le_of_ble_eq_true rfl) ⟨Nat.zero_le _, Nat.zero_le _⟩ dX9_clearSessions_13 (fun H locs Z => ?_)
  refine lv_aload_n hx hb dX9_clearSessions_16 rfl (lv_at hl 0 rfl) ?_
  refine lv_sipush (v := (301 : Int32)) hx hb dX9_clearSessions_17 (by decide) ?_
  refine z_callV (mc := 0) (ms := 0) (As := [.int (301 : Int32)]) (rest := [.int (nI (zc (MNow 284)))]) (st2 := [.int (nI (zc (MNow 301))), .int (nI (zc (MNow 284)))]) (cs2 := [wMod g md MNow ((zf_X9_saves MNow MPast MSav).1) ((zf_X9_saves MNow MPast MSav).2) (0 : Int32) MThen MLev MFst MWay MMost MHash]) X Z [0] [] [0] 0 7 (zc_X9_many l g B md MNow ((zf_X9_saves MNow MPast MSav).1) ((zf_X9_saves MNow MPast MSav).2) (0 : Int32) MThen MLev MFst MWay MMost MHash 301 (zc (MNow 301)) (by first | assumption | omega | decide) (by first | assumption | omega | decide)) wM_X9_66 wS_X9_many wV_X9_many wK_X9_many wZ_X9 1 1 1 rfl (by decide +kernel) rfl (by decide) rfl rfl rfl (by decide) rfl rfl (rfl : zCl[7]? = some (RX9, TX9, 10)) hl.1 rfl rfl (by rw [hRf, hRl]; exact ⟨Nat.le_of_ble_eq_true rfl, Nat.le_of_ble_eq_true rfl⟩) (Nat.le_of_ble_eq_true rfl) ⟨Nat.zero_le _, Nat.zero_le _⟩ dX9_clearSessions_20 (fun H locs Z => ?_)
  refine z_iadd (a := (zc (MNow 284))) (b := (zc (MNow 301))) X rfl rfl dX9_clearSessions_23 ?_
  refine lv_istore_n (lv' := [(1, .int (nI ((zc (MNow 284)) + (zc (MNow 301))))), (0, .ref (md 0))]) hx hb dX9_clearSessions_24 rfl hl (by decide) rfl (fun ls hl => ?_)
  refine lv_aload_n hx hb dX9_clearSessions_25 rfl (lv_at hl 1 rfl) ?_
  refine z_get X Z 0 rfl (rfl : zCl[7]? = some (RX9, TX9, 10)) zU_X9 0 (by decide) wF_X9_7 rfl rfl dX9_clearSessions_26 ?_
  refine lv_sipush (v := (284 : Int32)) hx hb dX9_clearSessions_29 (by decide) ?_
  refine lv_lconst (v := (0 : Int64)) hx hb dX9_clearSessions_32 (by decide) ?_
  refine z_last (cs2 := [wMod g md (vp_updL MNow 284 (0 : Int64)) ((zf_X9_saves MNow MPast MSav).1) ((zf_X9_saves MNow MPast MSav).2) (0 : Int32) MThen MLev MFst MWay MMost MHash]) (j := 284) (x := (0 : Int64)) X Z 1 rfl rfl (by omega) (by decide) rfl dX9_clearSessions_33 (fun H locs Z => ?_)
  refine lv_aload_n hx hb dX9_clearSessions_34 rfl (lv_at hl 1 rfl) ?_
  refine z_get X Z 0 rfl (rfl : zCl[7]? = some (RX9, TX9, 10)) zU_X9 0 (by decide) wF_X9_7 rfl rfl dX9_clearSessions_35 ?_
  refine lv_sipush (v := (301 : Int32)) hx hb dX9_clearSessions_38 (by decide) ?_
  refine lv_lconst (v := (0 : Int64)) hx hb dX9_clearSessions_41 (by decide) ?_
  refine z_last (cs2 := [wMod g md (vp_updL (vp_updL MNow 284 (0 : Int64)) 301 (0 : Int64)) ((zf_X9_saves MNow MPast MSav).1) ((zf_X9_saves MNow MPast MSav).2) (0 : Int32) MThen MLev MFst MWay MMost MHash]) (j := 301) (x := (0 : Int64)) X Z 1 rfl rfl (by omega) (by decide) rfl dX9_clearSessions_42 (fun H locs Z => ?_)
  refine lv_iload_n hx hb dX9_clearSessions_43 rfl (lv_at hl 0 rfl) ?_
  exact z_ri (v := nI ((zc (MNow 284)) + (zc (MNow 301)))) E Z rfl (by rw [zf_X9_clearSessions_e]; exact ⟨rfl, rfl⟩) dX9_clearSessions_44 (Nat.zero_le _) (Nat.zero_le _)
