theorem zdiv_ne (x y : Int64) (hx : ¬ x = -9223372036854775808) (hy : ¬ y = -9223372036854775808) : ¬ zf_X9_divisor x y = -9223372036854775808 := by
  have key : ∀ (n : Nat) (a b : Int64), 0 ≤ a → 0 ≤ b → 0 ≤ (zl_X9_divisor_28 n a b).1 := by
    intro n
    induction n with
    | zero => intro a b ha hb; exact ha
    | succ n ih =>
      intro a b ha hb
      rw [zl_X9_divisor_28_s]
      split
      · exact ha
      · exact ih _ _ hb (zgl ha hb (by assumption)).1
  have fin : ∀ z : Int64, 0 ≤ z → ¬ z = -9223372036854775808 := fun z h q => by rw [q] at h; exact absurd h (by decide)
  apply fin
  rw [zf_X9_divisor_e]
  split <;> split
  · exact key _ _ _ (by assumption) (by assumption)
  · exact key _ _ _ (by assumption) (zneg_nn hy (by assumption))
  · exact key _ _ _ (zneg_nn hx (by assumption)) (by assumption)
  · exact key _ _ _ (zneg_nn hx (by assumption)) (zneg_nn hy (by assumption))
theorem zk13 {k : Int32} (h : zf_X9_within k.toInt64 (1 : Int64) (3 : Int64) = true) (h1 : ¬ k = 1) (h2 : ¬ k = 2) (h3 : ¬ k = 3) : False := by
  obtain ⟨e, a, b⟩ := zok_w2 (u := 1) (v := 3) rfl rfl h (by decide) (by decide)
  have : zi k = 1 ∨ zi k = 2 ∨ zi k = 3 := by omega
  rcases this with q | q | q <;> rw [q] at e
  · exact h1 e
  · exact h2 e
  · exact h3 e
theorem zk03 {k : Int32} (h : zf_X9_within k.toInt64 (0 : Int64) (3 : Int64) = true) (h0 : ¬ k = 0) (h1 : ¬ k = 1) (h2 : ¬ k = 2) (h3 : ¬ k = 3) : False := by
  obtain ⟨e, a, b⟩ := zok_w2 (u := 0) (v := 3) rfl rfl h (by decide) (by decide)
  have : zi k = 0 ∨ zi k = 1 ∨ zi k = 2 ∨ zi k = 3 := by omega
  rcases this with q | q | q | q <;> rw [q] at e
  · exact h0 e
  · exact h1 e
  · exact h2 e
  · exact h3 e
def zl_X9_laysHypotheses_34 (j2 : Nat) : Nat → Nat → (Nat → Int64) → (Nat → Int64)
  | 0, _, v2 => v2
  | n34 + 1, j34, v2 => zl_X9_laysHypotheses_34 j2 n34 (j34 + 1) (zf_X9_laysChances v2 j34 j2 (0 : Int32) (0 : Int32))
theorem zl_X9_laysHypotheses_34_s (j2 : Nat) (n34 : Nat) (j34 : Nat) (v2 : Nat → Int64) : zl_X9_laysHypotheses_34 j2 (n34 + 1) j34 v2 = zl_X9_laysHypotheses_34 j2 n34 (j34 + 1) (zf_X9_laysChances v2 j34 j2 (0 : Int32) (0 : Int32)) := rfl
def zl_X9_laysHypotheses_2 (n : Nat) : Nat → Nat → (Nat → Int64) → (Nat → Int64)
  | 0, _, v1 => v1
  | n2 + 1, j2, v1 => (if j2 ≥ n then zl_X9_laysHypotheses_2 n n2 (j2 + 1) (zl_X9_laysHypotheses_34 j2 10 0 (vp_updL v1 (35 + j2) (0 : Int64))) else zl_X9_laysHypotheses_2 n n2 (j2 + 1) (zl_X9_laysHypotheses_34 j2 10 0 (vp_updL v1 (35 + j2) (1 : Int64))))
theorem zl_X9_laysHypotheses_2_s (n : Nat) (n2 : Nat) (j2 : Nat) (v1 : Nat → Int64) : zl_X9_laysHypotheses_2 n (n2 + 1) j2 v1 = (if j2 ≥ n then zl_X9_laysHypotheses_2 n n2 (j2 + 1) (zl_X9_laysHypotheses_34 j2 10 0 (vp_updL v1 (35 + j2) (0 : Int64))) else zl_X9_laysHypotheses_2 n n2 (j2 + 1) (zl_X9_laysHypotheses_34 j2 10 0 (vp_updL v1 (35 + j2) (1 : Int64)))) := rfl
def zf_X9_laysHypotheses (MNow : Nat → Int64) (n : Nat) : (Nat → Int64) := (zl_X9_laysHypotheses_2 n 8 0 MNow)
theorem zf_X9_laysHypotheses_e (MNow : Nat → Int64) (n : Nat) : zf_X9_laysHypotheses MNow n = (zl_X9_laysHypotheses_2 n 8 0 MNow) := rfl
set_option maxHeartbeats 4000000 in
set_option maxRecDepth 100000 in
theorem zc_X9_laysHypotheses (l : Launch) (g : zG) (B : Nat) (md : Nat → Nat) (MNow : Nat → Int64) (MPast : Nat → Int64) (MSav : Nat) (MRef : Int32) (MThen : Nat → Int64) (MLev : Nat → Int64) (MFst : Int32) (MWay : Nat → Int64) (MMost : Nat → Int32) (MHash : Int64) (n : Nat) (h34 : MNow 34 = lN n) (hn8 : n ≤ 8) : zMet l g B yX9_laysHypotheses cX9_laysHypotheses 3 none 3 100 0 0 [.ref (md 0)] [wMod g md MNow MPast MSav MRef MThen MLev MFst MWay MMost MHash] (zDet (none) [wMod g md (zf_X9_laysHypotheses MNow n) MPast MSav MRef MThen MLev MFst MWay MMost MHash]) := by
  refine z_in (plainFor_of_name (by decide)) (Nat.le_of_ble_eq_true rfl) (fun p e R s m args below meth c A Q hRf hRl hRc hRs X Z hnm E ls hl => ?_)
  have hx := X.1
  have hb := X.2.1
  have hown := X.2.2.2.1
  have hts := X.2.2.2.2.1
  have hl : lv_has ls 3 [(0, .ref (md 0))] := hl
  refine lv_iconst (v := (0 : Int32)) hx hb dX9_laysHypotheses_0 (by decide) ?_
  refine lv_istore_n (lv' := [(1, .int (0 : Int32)), (0, .ref (md 0))]) hx hb dX9_laysHypotheses_1 rfl hl (by decide) rfl (fun ls hl => ?_)
  have loop_2 : ∀ (n2 j2 : Nat) (v1 : Nat → Int64), j2 + n2 = 8 → zl_X9_laysHypotheses_2 n n2 j2 v1 = (zl_X9_laysHypotheses_2 n 8 0 MNow) → (v1 34 = lN n) → ∀ (H : Heap) (locs : List Loc), zM g B A s [wMod g md v1 MPast MSav MRef MThen MLev MFst MWay MMost MHash] H locs → ∀ ls : Array Slot, lv_has ls 3 [(1, .int (nI j2)), (0, .ref (md 0))] → W p l e R s m args below meth c H locs 0 0 Q (F0 m 2 ls []) := by
    intro n2
    induction n2 with
    | zero =>
      intro j2 v1 hin2 hR2 i1 H locs Z ls hl
      have e_v1 : v1 = (zl_X9_laysHypotheses_2 n 8 0 MNow) := hR2
      subst e_v1
      refine lv_iload_n hx hb dX9_laysHypotheses_2 rfl (lv_at hl 0 rfl) ?_
      refine lv_bipush (v := (8 : Int32)) hx hb dX9_laysHypotheses_3 (by decide) ?_
      refine z_icmp_ge (a := j2) (b := 8) (tgt := 60) X rfl rfl (by omega) (by omega) dX9_laysHypotheses_5 (by decide) (fun c_1 => ?_) (fun c_1 => ?_)
      · exact z_rv E Z (by rw [zf_X9_laysHypotheses_e]; exact ⟨rfl, rfl⟩) dX9_laysHypotheses_60 (Nat.zero_le _) (Nat.zero_le _)
      · (exfalso; omega)
    | succ n2 ih2 =>
      intro j2 v1 hin2 hR2 i1 H locs Z ls hl
      refine lv_iload_n hx hb dX9_laysHypotheses_2 rfl (lv_at hl 0 rfl) ?_
      refine lv_bipush (v := (8 : Int32)) hx hb dX9_laysHypotheses_3 (by decide) ?_
      refine z_icmp_ge (a := j2) (b := 8) (tgt := 60) X rfl rfl (by omega) (by omega) dX9_laysHypotheses_5 (by decide) (fun c_2 => ?_) (fun c_2 => ?_)
      · (exfalso; omega)
      · refine lv_aload_n hx hb dX9_laysHypotheses_8 rfl (lv_at hl 1 rfl) ?_
        refine z_get X Z 0 rfl (rfl : zCl[7]? = some (RX9, TX9, 10)) zU_X9 0 (by decide) wF_X9_7 rfl rfl dX9_laysHypotheses_9 ?_
        refine lv_bipush (v := (35 : Int32)) hx hb dX9_laysHypotheses_12 (by decide) ?_
        refine lv_iload_n hx hb dX9_laysHypotheses_14 rfl (lv_at hl 0 rfl) ?_
        refine z_iadd (a := 35) (b := j2) X rfl rfl dX9_laysHypotheses_15 ?_
        refine lv_iload_n hx hb dX9_laysHypotheses_16 rfl (lv_at hl 0 rfl) ?_
        refine lv_aload_n hx hb dX9_laysHypotheses_17 rfl (lv_at hl 1 rfl) ?_
        refine lv_bipush (v := (34 : Int32)) hx hb dX9_laysHypotheses_18 (by decide) ?_
        refine z_callV (mc := 0) (ms := 0) (As := [.int (34 : Int32)]) (rest := [.int (nI j2), .int (nI (35 + j2)), .ref (md 1)]) (st2 := [.int (nI n), .int (nI j2), .int (nI (35 + j2)), .ref (md 1)]) (cs2 := [wMod g md v1 MPast MSav MRef MThen MLev MFst MWay MMost MHash]) X Z [0] [] [0] 0 7 (zc_X9_many l g B md v1 MPast MSav MRef MThen MLev MFst MWay MMost MHash 34 n (by first | assumption | omega | decide) i1) wM_X9_66 wS_X9_many wV_X9_many wK_X9_many wZ_X9 1 1 1 rfl (by decide +kernel) rfl (by decide) rfl rfl rfl (by decide) rfl rfl (rfl : zCl[7]? = some (RX9, TX9, 10)) hl.1 rfl rfl (by rw [hRf, hRl]; exact ⟨Nat.le_of_ble_eq_true rfl, Nat.le_of_ble_eq_true rfl⟩) (Nat.le_of_ble_eq_true rfl) ⟨Nat.zero_le _, Nat.zero_le _⟩ dX9_laysHypotheses_20 (fun H locs Z => ?_)
        refine z_icmp_ge (a := j2) (b := n) (tgt := 30) X rfl rfl (by omega) (by omega) dX9_laysHypotheses_23 (by decide) (fun c_3 => ?_) (fun c_3 => ?_)
        · refine lv_lconst (v := (0 : Int64)) hx hb dX9_laysHypotheses_30 (by decide) ?_
          refine z_last (cs2 := [wMod g md (vp_updL v1 (35 + j2) (0 : Int64)) MPast MSav MRef MThen MLev MFst MWay MMost MHash]) (j := (35 + j2)) (x := (0 : Int64)) X Z 1 rfl rfl (by omega) (by decide) rfl dX9_laysHypotheses_31 (fun H locs Z => ?_)
          refine lv_iconst (v := (0 : Int32)) hx hb dX9_laysHypotheses_32 (by decide) ?_
          refine lv_istore_n (lv' := [(2, .int (0 : Int32)), (1, .int (nI j2)), (0, .ref (md 0))]) hx hb dX9_laysHypotheses_33 rfl hl (by decide) rfl (fun ls hl => ?_)
          have loop_34 : ∀ (n34 j34 : Nat) (v2 : Nat → Int64), j34 + n34 = 10 → zl_X9_laysHypotheses_34 j2 n34 j34 v2 = (zl_X9_laysHypotheses_34 j2 10 0 (vp_updL v1 (35 + j2) (0 : Int64))) → (v2 34 = lN n) → ∀ (H : Heap) (locs : List Loc), zM g B A s [wMod g md v2 MPast MSav MRef MThen MLev MFst MWay MMost MHash] H locs → ∀ ls : Array Slot, lv_has ls 3 [(2, .int (nI j34)), (1, .int (nI j2)), (0, .ref (md 0))] → W p l e R s m args below meth c H locs 0 0 Q (F0 m 34 ls []) := by
            intro n34
            induction n34 with
            | zero =>
              intro j34 v2 hin34 hR34 i2 H locs Z ls hl
              have e_v2 : v2 = (zl_X9_laysHypotheses_34 j2 10 0 (vp_updL v1 (35 + j2) (0 : Int64))) := hR34
              subst e_v2
              refine lv_iload_n hx hb dX9_laysHypotheses_34 rfl (lv_at hl 0 rfl) ?_
              refine lv_bipush (v := (10 : Int32)) hx hb dX9_laysHypotheses_35 (by decide) ?_
              refine z_icmp_ge (a := j34) (b := 10) (tgt := 54) X rfl rfl (by omega) (by omega) dX9_laysHypotheses_37 (by decide) (fun c_4 => ?_) (fun c_4 => ?_)
              · refine z_iinc (b := (j2 + 1)) (st := 1) (lv' := [(1, .int (nI (j2 + 1))), (2, .int (nI j34)), (0, .ref (md 0))]) X dX9_laysHypotheses_54 hl (k := 1) rfl rfl (by decide) (by omega) (by decide) rfl (fun ls hl => ?_)
                refine lv_goto (tgt := 2) hx hb dX9_laysHypotheses_57 (by decide) ?_
                exact ih2 (j2 + 1) (zl_X9_laysHypotheses_34 j2 10 0 (vp_updL v1 (35 + j2) (0 : Int64))) (by omega) (by have h9 := hR2; rw [zl_X9_laysHypotheses_2_s, if_pos c_3] at h9; exact h9) i2 _ _ Z ls (lv_sub hl [0, 2] rfl)
              · (exfalso; omega)
            | succ n34 ih34 =>
              intro j34 v2 hin34 hR34 i2 H locs Z ls hl
              refine lv_iload_n hx hb dX9_laysHypotheses_34 rfl (lv_at hl 0 rfl) ?_
              refine lv_bipush (v := (10 : Int32)) hx hb dX9_laysHypotheses_35 (by decide) ?_
              refine z_icmp_ge (a := j34) (b := 10) (tgt := 54) X rfl rfl (by omega) (by omega) dX9_laysHypotheses_37 (by decide) (fun c_5 => ?_) (fun c_5 => ?_)
              · (exfalso; omega)
              · refine lv_aload_n hx hb dX9_laysHypotheses_40 rfl (lv_at hl 2 rfl) ?_
                refine lv_iload_n hx hb dX9_laysHypotheses_41 rfl (lv_at hl 0 rfl) ?_
                refine lv_iload_n hx hb dX9_laysHypotheses_42 rfl (lv_at hl 1 rfl) ?_
                refine lv_iconst (v := (0 : Int32)) hx hb dX9_laysHypotheses_43 (by decide) ?_
                refine lv_iconst (v := (0 : Int32)) hx hb dX9_laysHypotheses_44 (by decide) ?_
                refine z_callV (mc := 0) (ms := 0) (As := [.int (nI j34), .int (nI j2), .int (0 : Int32), .int (0 : Int32)]) (rest := []) (st2 := []) (cs2 := [wMod g md (zf_X9_laysChances v2 j34 j2 (0 : Int32) (0 : Int32)) MPast MSav MRef MThen MLev MFst MWay MMost MHash]) X Z [0] [] [0] 0 7 (zc_X9_laysChances l g B md v2 MPast MSav MRef MThen MLev MFst MWay MMost MHash j34 j2 (0 : Int32) (0 : Int32) (by first | assumption | omega | decide) (by first | assumption | omega | decide)) wM_X9_121 wS_X9_laysChances wV_X9_laysChances wK_X9_laysChances wZ_X9 4 1 1 rfl (by decide +kernel) rfl (by decide) rfl rfl rfl (by decide) rfl rfl (rfl : zCl[7]? = some (RX9, TX9, 10)) hl.1 rfl rfl (by rw [hRf, hRl]; exact ⟨Nat.le_of_ble_eq_true rfl, Nat.le_of_ble_eq_true rfl⟩) (Nat.le_of_ble_eq_true rfl) ⟨Nat.zero_le _, Nat.zero_le _⟩ dX9_laysHypotheses_45 (fun H locs Z => ?_)
                refine z_iinc (b := (j34 + 1)) (st := 1) (lv' := [(2, .int (nI (j34 + 1))), (1, .int (nI j2)), (0, .ref (md 0))]) X dX9_laysHypotheses_48 hl (k := 0) rfl rfl (by decide) (by omega) (by decide) rfl (fun ls hl => ?_)
                refine lv_goto (tgt := 34) hx hb dX9_laysHypotheses_51 (by decide) ?_
                exact ih34 (j34 + 1) (zf_X9_laysChances v2 j34 j2 (0 : Int32) (0 : Int32)) (by omega) (by have h9 := hR34; rw [zl_X9_laysHypotheses_34_s] at h9; exact h9) ((zlc_lo (by omega)).trans i2) _ _ Z ls (lv_sub hl [0, 1, 2] rfl)
          exact loop_34 10 0 (vp_updL v1 (35 + j2) (0 : Int64)) (by omega) rfl ((zuL_ne (by omega)).trans i1) _ _ Z ls (lv_sub hl [0, 1, 2] rfl)
        · refine lv_lconst (v := (1 : Int64)) hx hb dX9_laysHypotheses_26 (by decide) ?_
          refine lv_goto (tgt := 31) hx hb dX9_laysHypotheses_27 (by decide) ?_
          refine z_last (cs2 := [wMod g md (vp_updL v1 (35 + j2) (1 : Int64)) MPast MSav MRef MThen MLev MFst MWay MMost MHash]) (j := (35 + j2)) (x := (1 : Int64)) X Z 1 rfl rfl (by omega) (by decide) rfl dX9_laysHypotheses_31 (fun H locs Z => ?_)
          refine lv_iconst (v := (0 : Int32)) hx hb dX9_laysHypotheses_32 (by decide) ?_
          refine lv_istore_n (lv' := [(2, .int (0 : Int32)), (1, .int (nI j2)), (0, .ref (md 0))]) hx hb dX9_laysHypotheses_33 rfl hl (by decide) rfl (fun ls hl => ?_)
          have loop_34 : ∀ (n34 j34 : Nat) (v2 : Nat → Int64), j34 + n34 = 10 → zl_X9_laysHypotheses_34 j2 n34 j34 v2 = (zl_X9_laysHypotheses_34 j2 10 0 (vp_updL v1 (35 + j2) (1 : Int64))) → (v2 34 = lN n) → ∀ (H : Heap) (locs : List Loc), zM g B A s [wMod g md v2 MPast MSav MRef MThen MLev MFst MWay MMost MHash] H locs → ∀ ls : Array Slot, lv_has ls 3 [(2, .int (nI j34)), (1, .int (nI j2)), (0, .ref (md 0))] → W p l e R s m args below meth c H locs 0 0 Q (F0 m 34 ls []) := by
            intro n34
            induction n34 with
            | zero =>
              intro j34 v2 hin34 hR34 i2 H locs Z ls hl
              have e_v2 : v2 = (zl_X9_laysHypotheses_34 j2 10 0 (vp_updL v1 (35 + j2) (1 : Int64))) := hR34
              subst e_v2
              refine lv_iload_n hx hb dX9_laysHypotheses_34 rfl (lv_at hl 0 rfl) ?_
              refine lv_bipush (v := (10 : Int32)) hx hb dX9_laysHypotheses_35 (by decide) ?_
              refine z_icmp_ge (a := j34) (b := 10) (tgt := 54) X rfl rfl (by omega) (by omega) dX9_laysHypotheses_37 (by decide) (fun c_6 => ?_) (fun c_6 => ?_)
              · refine z_iinc (b := (j2 + 1)) (st := 1) (lv' := [(1, .int (nI (j2 + 1))), (2, .int (nI j34)), (0, .ref (md 0))]) X dX9_laysHypotheses_54 hl (k := 1) rfl rfl (by decide) (by omega) (by decide) rfl (fun ls hl => ?_)
                refine lv_goto (tgt := 2) hx hb dX9_laysHypotheses_57 (by decide) ?_
                exact ih2 (j2 + 1) (zl_X9_laysHypotheses_34 j2 10 0 (vp_updL v1 (35 + j2) (1 : Int64))) (by omega) (by have h9 := hR2; rw [zl_X9_laysHypotheses_2_s, if_neg (by omega)] at h9; exact h9) i2 _ _ Z ls (lv_sub hl [0, 2] rfl)
              · (exfalso; omega)
            | succ n34 ih34 =>
              intro j34 v2 hin34 hR34 i2 H locs Z ls hl
              refine lv_iload_n hx hb dX9_laysHypotheses_34 rfl (lv_at hl 0 rfl) ?_
              refine lv_bipush (v := (10 : Int32)) hx hb dX9_laysHypotheses_35 (by decide) ?_
              refine z_icmp_ge (a := j34) (b := 10) (tgt := 54) X rfl rfl (by omega) (by omega) dX9_laysHypotheses_37 (by decide) (fun c_7 => ?_) (fun c_7 => ?_)
              · (exfalso; omega)
              · refine lv_aload_n hx hb dX9_laysHypotheses_40 rfl (lv_at hl 2 rfl) ?_
                refine lv_iload_n hx hb dX9_laysHypotheses_41 rfl (lv_at hl 0 rfl) ?_
                refine lv_iload_n hx hb dX9_laysHypotheses_42 rfl (lv_at hl 1 rfl) ?_
                refine lv_iconst (v := (0 : Int32)) hx hb dX9_laysHypotheses_43 (by decide) ?_
                refine lv_iconst (v := (0 : Int32)) hx hb dX9_laysHypotheses_44 (by decide) ?_
                refine z_callV (mc := 0) (ms := 0) (As := [.int (nI j34), .int (nI j2), .int (0 : Int32), .int (0 : Int32)]) (rest := []) (st2 := []) (cs2 := [wMod g md (zf_X9_laysChances v2 j34 j2 (0 : Int32) (0 : Int32)) MPast MSav MRef MThen MLev MFst MWay MMost MHash]) X Z [0] [] [0] 0 7 (zc_X9_laysChances l g B md v2 MPast MSav MRef MThen MLev MFst MWay MMost MHash j34 j2 (0 : Int32) (0 : Int32) (by first | assumption | omega | decide) (by first | assumption | omega | decide)) wM_X9_121 wS_X9_laysChances wV_X9_laysChances wK_X9_laysChances wZ_X9 4 1 1 rfl (by decide +kernel) rfl (by decide) rfl rfl rfl (by decide) rfl rfl (rfl : zCl[7]? = some (RX9, TX9, 10)) hl.1 rfl rfl (by rw [hRf, hRl]; exact ⟨Nat.le_of_ble_eq_true rfl, Nat.le_of_ble_eq_true rfl⟩) (Nat.le_of_ble_eq_true rfl) ⟨Nat.zero_le _, Nat.zero_le _⟩ dX9_laysHypotheses_45 (fun H locs Z => ?_)
                refine z_iinc (b := (j34 + 1)) (st := 1) (lv' := [(2, .int (nI (j34 + 1))), (1, .int (nI j2)), (0, .ref (md 0))]) X dX9_laysHypotheses_48 hl (k := 0) rfl rfl (by decide) (by omega) (by decide) rfl (fun ls hl => ?_)
                refine lv_goto (tgt := 34) hx hb dX9_laysHypotheses_51 (by decide) ?_
                exact ih34 (j34 + 1) (zf_X9_laysChances v2 j34 j2 (0 : Int32) (0 : Int32)) (by omega) (by have h9 := hR34; rw [zl_X9_laysHypotheses_34_s] at h9; exact h9) ((zlc_lo (by omega)).trans i2) _ _ Z ls (lv_sub hl [0, 1, 2] rfl)
          exact loop_34 10 0 (vp_updL v1 (35 + j2) (1 : Int64)) (by omega) rfl ((zuL_ne (by omega)).trans i1) _ _ Z ls (lv_sub hl [0, 1, 2] rfl)
  exact loop_2 8 0 MNow (by omega) rfl h34 _ _ Z ls (lv_sub hl [0, 1] rfl)
def zf_X9_setCell (MNow : Nat → Int64) (MPast : Nat → Int64) (MSav : Nat) (k : Int32) (x : Int32) (y : Int32) (z : Int32) : Int32 × Int32 × (Nat → Int64) × (Nat → Int64) × Nat := (if (zf_X9_isCell k) = true then (if (zf_X9_isPlace x y) = true then (if (zf_X9_within z.toInt64 (1 : Int64) (100000 : Int64)) = true then (if (zf_X9_area (vp_updL (vp_updL MNow (0 + (3 * (zi k))) x.toInt64) ((0 + (3 * (zi k))) + 1) y.toInt64)) = (0 : Int64) then ((0 : Int32), (zf_X9_refused_2), (vp_updL (vp_updL (vp_updL (vp_updL MNow (0 + (3 * (zi k))) x.toInt64) ((0 + (3 * (zi k))) + 1) y.toInt64) (0 + (3 * (zi k))) (MNow (0 + (3 * (zi k))))) ((0 + (3 * (zi k))) + 1) (MNow ((0 + (3 * (zi k))) + 1))), MPast, MSav) else ((((vp_updL (vp_updL (vp_updL (vp_updL MNow (0 + (3 * (zi k))) x.toInt64) ((0 + (3 * (zi k))) + 1) y.toInt64) (0 + (3 * (zi k))) (MNow (0 + (3 * (zi k))))) ((0 + (3 * (zi k))) + 1) (MNow ((0 + (3 * (zi k))) + 1))) ((0 + (3 * (zi k))) + 2)).toInt32), (zf_X9_refused_0), (vp_updL (vp_updL (vp_updL (vp_updL (vp_updL (vp_updL (vp_updL MNow (0 + (3 * (zi k))) x.toInt64) ((0 + (3 * (zi k))) + 1) y.toInt64) (0 + (3 * (zi k))) (MNow (0 + (3 * (zi k))))) ((0 + (3 * (zi k))) + 1) (MNow ((0 + (3 * (zi k))) + 1))) (0 + (3 * (zi k))) x.toInt64) ((0 + (3 * (zi k))) + 1) y.toInt64) ((0 + (3 * (zi k))) + 2) z.toInt64), ((zf_X9_saves (vp_updL (vp_updL (vp_updL (vp_updL MNow (0 + (3 * (zi k))) x.toInt64) ((0 + (3 * (zi k))) + 1) y.toInt64) (0 + (3 * (zi k))) (MNow (0 + (3 * (zi k))))) ((0 + (3 * (zi k))) + 1) (MNow ((0 + (3 * (zi k))) + 1))) MPast MSav).1), ((zf_X9_saves (vp_updL (vp_updL (vp_updL (vp_updL MNow (0 + (3 * (zi k))) x.toInt64) ((0 + (3 * (zi k))) + 1) y.toInt64) (0 + (3 * (zi k))) (MNow (0 + (3 * (zi k))))) ((0 + (3 * (zi k))) + 1) (MNow ((0 + (3 * (zi k))) + 1))) MPast MSav).2))) else ((0 : Int32), (zf_X9_refused_2), MNow, MPast, MSav)) else ((0 : Int32), (zf_X9_refused_2), MNow, MPast, MSav)) else ((0 : Int32), (zf_X9_refused_1), MNow, MPast, MSav))
theorem zf_X9_setCell_e (MNow : Nat → Int64) (MPast : Nat → Int64) (MSav : Nat) (k : Int32) (x : Int32) (y : Int32) (z : Int32) : zf_X9_setCell MNow MPast MSav k x y z = (if (zf_X9_isCell k) = true then (if (zf_X9_isPlace x y) = true then (if (zf_X9_within z.toInt64 (1 : Int64) (100000 : Int64)) = true then (if (zf_X9_area (vp_updL (vp_updL MNow (0 + (3 * (zi k))) x.toInt64) ((0 + (3 * (zi k))) + 1) y.toInt64)) = (0 : Int64) then ((0 : Int32), (zf_X9_refused_2), (vp_updL (vp_updL (vp_updL (vp_updL MNow (0 + (3 * (zi k))) x.toInt64) ((0 + (3 * (zi k))) + 1) y.toInt64) (0 + (3 * (zi k))) (MNow (0 + (3 * (zi k))))) ((0 + (3 * (zi k))) + 1) (MNow ((0 + (3 * (zi k))) + 1))), MPast, MSav) else ((((vp_updL (vp_updL (vp_updL (vp_updL MNow (0 + (3 * (zi k))) x.toInt64) ((0 + (3 * (zi k))) + 1) y.toInt64) (0 + (3 * (zi k))) (MNow (0 + (3 * (zi k))))) ((0 + (3 * (zi k))) + 1) (MNow ((0 + (3 * (zi k))) + 1))) ((0 + (3 * (zi k))) + 2)).toInt32), (zf_X9_refused_0), (vp_updL (vp_updL (vp_updL (vp_updL (vp_updL (vp_updL (vp_updL MNow (0 + (3 * (zi k))) x.toInt64) ((0 + (3 * (zi k))) + 1) y.toInt64) (0 + (3 * (zi k))) (MNow (0 + (3 * (zi k))))) ((0 + (3 * (zi k))) + 1) (MNow ((0 + (3 * (zi k))) + 1))) (0 + (3 * (zi k))) x.toInt64) ((0 + (3 * (zi k))) + 1) y.toInt64) ((0 + (3 * (zi k))) + 2) z.toInt64), ((zf_X9_saves (vp_updL (vp_updL (vp_updL (vp_updL MNow (0 + (3 * (zi k))) x.toInt64) ((0 + (3 * (zi k))) + 1) y.toInt64) (0 + (3 * (zi k))) (MNow (0 + (3 * (zi k))))) ((0 + (3 * (zi k))) + 1) (MNow ((0 + (3 * (zi k))) + 1))) MPast MSav).1), ((zf_X9_saves (vp_updL (vp_updL (vp_updL (vp_updL MNow (0 + (3 * (zi k))) x.toInt64) ((0 + (3 * (zi k))) + 1) y.toInt64) (0 + (3 * (zi k))) (MNow (0 + (3 * (zi k))))) ((0 + (3 * (zi k))) + 1) (MNow ((0 + (3 * (zi k))) + 1))) MPast MSav).2))) else ((0 : Int32), (zf_X9_refused_2), MNow, MPast, MSav)) else ((0 : Int32), (zf_X9_refused_2), MNow, MPast, MSav)) else ((0 : Int32), (zf_X9_refused_1), MNow, MPast, MSav)) := rfl
set_option maxHeartbeats 4000000 in
set_option maxRecDepth 100000 in
theorem zc_X9_setCell (l : Launch) (g : zG) (B : Nat) (md : Nat → Nat) (MNow : Nat → Int64) (MPast : Nat → Int64) (MSav : Nat) (MRef : Int32) (MThen : Nat → Int64) (MLev : Nat → Int64) (MFst : Int32) (MWay : Nat → Int64) (MMost : Nat → Int32) (MHash : Int64) (k : Int32) (x : Int32) (y : Int32) (z : Int32) (hs : MSav ≤ 4) : zMet l g B yX9_setCell cX9_setCell 13 (some .int) 3 140 0 0 [.ref (md 0), .int k, .int x, .int y, .int z] [wMod g md MNow MPast MSav MRef MThen MLev MFst MWay MMost MHash] (zDet (some (.int ((zf_X9_setCell MNow MPast MSav k x y z).1))) [wMod g md ((zf_X9_setCell MNow MPast MSav k x y z).2.2.1) ((zf_X9_setCell MNow MPast MSav k x y z).2.2.2.1) ((zf_X9_setCell MNow MPast MSav k x y z).2.2.2.2) ((zf_X9_setCell MNow MPast MSav k x y z).2.1) MThen MLev MFst MWay MMost MHash]) := by
  refine z_in (plainFor_of_name (by decide)) (Nat.le_of_ble_eq_true rfl) (fun p e R s m args below meth c A Q hRf hRl hRc hRs X Z hnm E ls hl => ?_)
  have hx := X.1
  have hb := X.2.1
  have hown := X.2.2.2.1
  have hts := X.2.2.2.2.1
  have hl : lv_has ls 13 [(0, .ref (md 0)), (1, .int k), (2, .int x), (3, .int y), (4, .int z)] := hl
  refine lv_aload_n hx hb dX9_setCell_0 rfl (lv_at hl 0 rfl) ?_
  refine lv_iload_n hx hb dX9_setCell_1 rfl (lv_at hl 1 rfl) ?_
  refine z_callS (mc := 0) (ms := 0) (As := [.int k]) (rest := [.ref (md 0)]) (st2 := [.int (zB (zf_X9_isCell k)), .ref (md 0)]) (cs2 := [wMod g md MNow MPast MSav MRef MThen MLev MFst MWay MMost MHash]) X Z [] [0] [0] (zc_X9_isCell l g B k) wM_X9_78 wS_X9_isCell wK_X9_isCell wZ_X9 1 1 1 rfl (by decide +kernel) rfl (by decide) rfl rfl rfl (by decide) rfl hl.1 rfl rfl (by rw [hRf, hRl]; exact ⟨Nat.le_of_ble_eq_true rfl, Nat.le_of_ble_eq_true rfl⟩) (Nat.le_of_ble_eq_true rfl) ⟨Nat.zero_le _, Nat.zero_le _⟩ dX9_setCell_2 (fun H locs Z => ?_)
  refine z_ifneB (b := (zf_X9_isCell k)) (tgt := 12) X dX9_setCell_5 (by decide) (fun c_1 => ?_) (fun c_1 => ?_)
  · refine lv_iload_n hx hb dX9_setCell_12 rfl (lv_at hl 2 rfl) ?_
    refine lv_iload_n hx hb dX9_setCell_13 rfl (lv_at hl 3 rfl) ?_
    refine z_callS (mc := 0) (ms := 0) (As := [.int x, .int y]) (rest := [.ref (md 0)]) (st2 := [.int (zB (zf_X9_isPlace x y)), .ref (md 0)]) (cs2 := [wMod g md MNow MPast MSav MRef MThen MLev MFst MWay MMost MHash]) X Z [] [0] [0] (zc_X9_isPlace l g B x y) wM_X9_81 wS_X9_isPlace wK_X9_isPlace wZ_X9 2 1 1 rfl (by decide +kernel) rfl (by decide) rfl rfl rfl (by decide) rfl hl.1 rfl rfl (by rw [hRf, hRl]; exact ⟨Nat.le_of_ble_eq_true rfl, Nat.le_of_ble_eq_true rfl⟩) (Nat.le_of_ble_eq_true rfl) ⟨Nat.zero_le _, Nat.zero_le _⟩ dX9_setCell_14 (fun H locs Z => ?_)
    refine z_ifeqB (b := (zf_X9_isPlace x y)) (tgt := 37) X dX9_setCell_17 (by decide) (fun c_2 => ?_) (fun c_2 => ?_)
    · refine lv_iconst (v := (2 : Int32)) hx hb dX9_setCell_37 (by decide) ?_
      refine z_callV (mc := 0) (ms := 0) (As := [.int (2 : Int32)]) (rest := []) (st2 := [.int (1 : Int32)]) (cs2 := [wMod g md MNow MPast MSav (zf_X9_refused_2) MThen MLev MFst MWay MMost MHash]) X Z [0] [] [0] 0 7 (zc_X9_refused_2 l g B md MNow MPast MSav MRef MThen MLev MFst MWay MMost MHash) wM_X9_55 wS_X9_refused wV_X9_refused wK_X9_refused wZ_X9 1 1 1 rfl (by decide +kernel) rfl (by decide) rfl rfl rfl (by decide) rfl rfl (rfl : zCl[7]? = some (RX9, TX9, 10)) hl.1 rfl rfl (by rw [hRf, hRl]; exact ⟨Nat.le_of_ble_eq_true rfl, Nat.le_of_ble_eq_true rfl⟩) (Nat.le_of_ble_eq_true rfl) ⟨Nat.zero_le _, Nat.zero_le _⟩ dX9_setCell_38 (fun H locs Z => ?_)
      refine lv_if_eq (tgt := 46) hx hb dX9_setCell_41 (by decide) (fun c_3 => ?_) (fun c_3 => ?_)
      · (exact absurd c_3 (by decide))
      · refine lv_iconst (v := (0 : Int32)) hx hb dX9_setCell_44 (by decide) ?_
        exact z_ri (v := (0 : Int32)) E Z rfl (by rw [zf_X9_setCell_e, if_pos c_1, if_neg (zBf c_2)]; exact ⟨rfl, rfl⟩) dX9_setCell_45 (Nat.zero_le _) (Nat.zero_le _)
    · refine lv_iload hx hb dX9_setCell_20 (lv_at hl 4 rfl) ?_
      refine lv_i2l hx hb dX9_setCell_22 rfl ?_
      refine lv_lconst (v := (1 : Int64)) hx hb dX9_setCell_23 (by decide) ?_
      refine lv_ldc2 (v := (100000 : Int64)) hx hb hown (hts _ wL_X9_85) dX9_setCell_24 ?_
      refine z_callS (mc := 0) (ms := 0) (As := [.long z.toInt64, .long (1 : Int64), .long (100000 : Int64)]) (rest := [.ref (md 0)]) (st2 := [.int (zB (zf_X9_within z.toInt64 (1 : Int64) (100000 : Int64))), .ref (md 0)]) (cs2 := [wMod g md MNow MPast MSav MRef MThen MLev MFst MWay MMost MHash]) X Z [] [0] [0] (zc_X9_within l g B z.toInt64 (1 : Int64) (100000 : Int64)) wM_X9_44 wS_X9_within wK_X9_within wZ_X9 3 1 1 rfl (by decide +kernel) rfl (by decide) rfl rfl rfl (by decide) rfl hl.1 rfl rfl (by rw [hRf, hRl]; exact ⟨Nat.le_of_ble_eq_true rfl, Nat.le_of_ble_eq_true rfl⟩) (Nat.le_of_ble_eq_true rfl) ⟨Nat.zero_le _, Nat.zero_le _⟩ dX9_setCell_27 (fun H locs Z => ?_)
      refine z_ifeqB (b := (zf_X9_within z.toInt64 (1 : Int64) (100000 : Int64))) (tgt := 37) X dX9_setCell_30 (by decide) (fun c_4 => ?_) (fun c_4 => ?_)
      · refine lv_iconst (v := (2 : Int32)) hx hb dX9_setCell_37 (by decide) ?_
        refine z_callV (mc := 0) (ms := 0) (As := [.int (2 : Int32)]) (rest := []) (st2 := [.int (1 : Int32)]) (cs2 := [wMod g md MNow MPast MSav (zf_X9_refused_2) MThen MLev MFst MWay MMost MHash]) X Z [0] [] [0] 0 7 (zc_X9_refused_2 l g B md MNow MPast MSav MRef MThen MLev MFst MWay MMost MHash) wM_X9_55 wS_X9_refused wV_X9_refused wK_X9_refused wZ_X9 1 1 1 rfl (by decide +kernel) rfl (by decide) rfl rfl rfl (by decide) rfl rfl (rfl : zCl[7]? = some (RX9, TX9, 10)) hl.1 rfl rfl (by rw [hRf, hRl]; exact ⟨Nat.le_of_ble_eq_true rfl, Nat.le_of_ble_eq_true rfl⟩) (Nat.le_of_ble_eq_true rfl) ⟨Nat.zero_le _, Nat.zero_le _⟩ dX9_setCell_38 (fun H locs Z => ?_)
        refine lv_if_eq (tgt := 46) hx hb dX9_setCell_41 (by decide) (fun c_5 => ?_) (fun c_5 => ?_)
        · (exact absurd c_5 (by decide))
        · refine lv_iconst (v := (0 : Int32)) hx hb dX9_setCell_44 (by decide) ?_
          exact z_ri (v := (0 : Int32)) E Z rfl (by rw [zf_X9_setCell_e, if_pos c_1, if_pos c_2, if_neg (zBf c_4)]; exact ⟨rfl, rfl⟩) dX9_setCell_45 (Nat.zero_le _) (Nat.zero_le _)
      · refine lv_iconst (v := (0 : Int32)) hx hb dX9_setCell_33 (by decide) ?_
        refine lv_goto (tgt := 38) hx hb dX9_setCell_34 (by decide) ?_
        refine z_callV (mc := 0) (ms := 0) (As := [.int (0 : Int32)]) (rest := []) (st2 := [.int (0 : Int32)]) (cs2 := [wMod g md MNow MPast MSav (zf_X9_refused_0) MThen MLev MFst MWay MMost MHash]) X Z [0] [] [0] 0 7 (zc_X9_refused_0 l g B md MNow MPast MSav MRef MThen MLev MFst MWay MMost MHash) wM_X9_55 wS_X9_refused wV_X9_refused wK_X9_refused wZ_X9 1 1 1 rfl (by decide +kernel) rfl (by decide) rfl rfl rfl (by decide) rfl rfl (rfl : zCl[7]? = some (RX9, TX9, 10)) hl.1 rfl rfl (by rw [hRf, hRl]; exact ⟨Nat.le_of_ble_eq_true rfl, Nat.le_of_ble_eq_true rfl⟩) (Nat.le_of_ble_eq_true rfl) ⟨Nat.zero_le _, Nat.zero_le _⟩ dX9_setCell_38 (fun H locs Z => ?_)
        refine lv_if_eq (tgt := 46) hx hb dX9_setCell_41 (by decide) (fun c_6 => ?_) (fun c_6 => ?_)
        · obtain ⟨ek1, hk1⟩ := (zok_cell (by assumption) : k = nI (zi k) ∧ _)
          have hl : lv_has ls 13 [(0, .ref (md 0)), (1, .int (nI (zi k))), (2, .int x), (3, .int y), (4, .int z)] := by rw [← ek1]; exact hl
          refine lv_iconst (v := (0 : Int32)) hx hb dX9_setCell_46 (by decide) ?_
          refine lv_iconst (v := (3 : Int32)) hx hb dX9_setCell_47 (by decide) ?_
          refine lv_iload_n hx hb dX9_setCell_48 rfl (lv_at hl 1 rfl) ?_
          refine z_imul (a := 3) (b := (zi k)) X rfl rfl dX9_setCell_49 ?_
          refine z_iadd (a := 0) (b := (3 * (zi k))) X rfl rfl dX9_setCell_50 ?_
          refine lv_istore (lv' := [(5, .int (nI (0 + (3 * (zi k))))), (0, .ref (md 0)), (1, .int (nI (zi k))), (2, .int x), (3, .int y), (4, .int z)]) hx hb dX9_setCell_51 hl (by decide) rfl (fun ls hl => ?_)
          refine lv_aload_n hx hb dX9_setCell_53 rfl (lv_at hl 1 rfl) ?_
          refine z_get X Z 0 rfl (rfl : zCl[7]? = some (RX9, TX9, 10)) zU_X9 0 (by decide) wF_X9_7 rfl rfl dX9_setCell_54 ?_
          refine lv_iload hx hb dX9_setCell_57 (lv_at hl 0 rfl) ?_
          refine z_lald (j := (0 + (3 * (zi k)))) X Z 1 rfl rfl (by omega) (by decide) dX9_setCell_59 ?_
          refine lv_lstore (lv' := [(6, .long (MNow (0 + (3 * (zi k))))), (5, .int (nI (0 + (3 * (zi k))))), (0, .ref (md 0)), (1, .int (nI (zi k))), (2, .int x), (3, .int y), (4, .int z)]) hx hb dX9_setCell_60 hl (by decide) rfl (fun ls hl => ?_)
          refine lv_aload_n hx hb dX9_setCell_62 rfl (lv_at hl 2 rfl) ?_
          refine z_get X Z 0 rfl (rfl : zCl[7]? = some (RX9, TX9, 10)) zU_X9 0 (by decide) wF_X9_7 rfl rfl dX9_setCell_63 ?_
          refine lv_iload hx hb dX9_setCell_66 (lv_at hl 1 rfl) ?_
          refine lv_iconst (v := (1 : Int32)) hx hb dX9_setCell_68 (by decide) ?_
          refine z_iadd (a := (0 + (3 * (zi k)))) (b := 1) X rfl rfl dX9_setCell_69 ?_
          refine z_lald (j := ((0 + (3 * (zi k))) + 1)) X Z 1 rfl rfl (by omega) (by decide) dX9_setCell_70 ?_
          refine lv_lstore (lv' := [(8, .long (MNow ((0 + (3 * (zi k))) + 1))), (6, .long (MNow (0 + (3 * (zi k))))), (5, .int (nI (0 + (3 * (zi k))))), (0, .ref (md 0)), (1, .int (nI (zi k))), (2, .int x), (3, .int y), (4, .int z)]) hx hb dX9_setCell_71 hl (by decide) rfl (fun ls hl => ?_)
          refine lv_aload_n hx hb dX9_setCell_73 rfl (lv_at hl 3 rfl) ?_
          refine z_get X Z 0 rfl (rfl : zCl[7]? = some (RX9, TX9, 10)) zU_X9 0 (by decide) wF_X9_7 rfl rfl dX9_setCell_74 ?_
          refine lv_iload hx hb dX9_setCell_77 (lv_at hl 2 rfl) ?_
          refine lv_iload_n hx hb dX9_setCell_79 rfl (lv_at hl 5 rfl) ?_
          refine lv_i2l hx hb dX9_setCell_80 rfl ?_
          refine z_last (cs2 := [wMod g md (vp_updL MNow (0 + (3 * (zi k))) x.toInt64) MPast MSav (zf_X9_refused_0) MThen MLev MFst MWay MMost MHash]) (j := (0 + (3 * (zi k)))) (x := x.toInt64) X Z 1 rfl rfl (by omega) (by decide) rfl dX9_setCell_81 (fun H locs Z => ?_)
          refine lv_aload_n hx hb dX9_setCell_82 rfl (lv_at hl 3 rfl) ?_
          refine z_get X Z 0 rfl (rfl : zCl[7]? = some (RX9, TX9, 10)) zU_X9 0 (by decide) wF_X9_7 rfl rfl dX9_setCell_83 ?_
          refine lv_iload hx hb dX9_setCell_86 (lv_at hl 2 rfl) ?_
          refine lv_iconst (v := (1 : Int32)) hx hb dX9_setCell_88 (by decide) ?_
          refine z_iadd (a := (0 + (3 * (zi k)))) (b := 1) X rfl rfl dX9_setCell_89 ?_
          refine lv_iload_n hx hb dX9_setCell_90 rfl (lv_at hl 6 rfl) ?_
          refine lv_i2l hx hb dX9_setCell_91 rfl ?_
          refine z_last (cs2 := [wMod g md (vp_updL (vp_updL MNow (0 + (3 * (zi k))) x.toInt64) ((0 + (3 * (zi k))) + 1) y.toInt64) MPast MSav (zf_X9_refused_0) MThen MLev MFst MWay MMost MHash]) (j := ((0 + (3 * (zi k))) + 1)) (x := y.toInt64) X Z 1 rfl rfl (by omega) (by decide) rfl dX9_setCell_92 (fun H locs Z => ?_)
          refine lv_aload_n hx hb dX9_setCell_93 rfl (lv_at hl 3 rfl) ?_
          refine z_callV (mc := 0) (ms := 0) (As := []) (rest := []) (st2 := [.long (zf_X9_area (vp_updL (vp_updL MNow (0 + (3 * (zi k))) x.toInt64) ((0 + (3 * (zi k))) + 1) y.toInt64))]) (cs2 := [wMod g md (vp_updL (vp_updL MNow (0 + (3 * (zi k))) x.toInt64) ((0 + (3 * (zi k))) + 1) y.toInt64) MPast MSav (zf_X9_refused_0) MThen MLev MFst MWay MMost MHash]) X Z [0] [] [0] 0 7 (zc_X9_area l g B md (vp_updL (vp_updL MNow (0 + (3 * (zi k))) x.toInt64) ((0 + (3 * (zi k))) + 1) y.toInt64) MPast MSav (zf_X9_refused_0) MThen MLev MFst MWay MMost MHash) wM_X9_74 wS_X9_area wV_X9_area wK_X9_area wZ_X9 0 1 1 rfl (by decide +kernel) rfl (by decide) rfl rfl rfl (by decide) rfl rfl (rfl : zCl[7]? = some (RX9, TX9, 10)) hl.1 rfl rfl (by rw [hRf, hRl]; exact ⟨Nat.le_of_ble_eq_true rfl, Nat.le_of_ble_eq_true rfl⟩) (Nat.le_of_ble_eq_true rfl) ⟨Nat.zero_le _, Nat.zero_le _⟩ dX9_setCell_94 (fun H locs Z => ?_)
          refine lv_lconst (v := (0 : Int64)) hx hb dX9_setCell_97 (by decide) ?_
          refine z_lc_ne (tgt := 106) X dX9_setCell_98 dX9_setCell_99 (by decide) (fun c_7 => ?_) (fun c_7 => ?_)
          · refine lv_iconst (v := (0 : Int32)) hx hb dX9_setCell_106 (by decide) ?_
            refine lv_istore (lv' := [(10, .int (0 : Int32)), (8, .long (MNow ((0 + (3 * (zi k))) + 1))), (6, .long (MNow (0 + (3 * (zi k))))), (5, .int (nI (0 + (3 * (zi k))))), (0, .ref (md 0)), (1, .int (nI (zi k))), (2, .int x), (3, .int y), (4, .int z)]) hx hb dX9_setCell_107 hl (by decide) rfl (fun ls hl => ?_)
            refine lv_aload_n hx hb dX9_setCell_109 rfl (lv_at hl 4 rfl) ?_
            refine z_get X Z 0 rfl (rfl : zCl[7]? = some (RX9, TX9, 10)) zU_X9 0 (by decide) wF_X9_7 rfl rfl dX9_setCell_110 ?_
            refine lv_iload hx hb dX9_setCell_113 (lv_at hl 3 rfl) ?_
            refine lv_lload hx hb dX9_setCell_115 (lv_at hl 2 rfl) ?_
            refine z_last (cs2 := [wMod g md (vp_updL (vp_updL (vp_updL MNow (0 + (3 * (zi k))) x.toInt64) ((0 + (3 * (zi k))) + 1) y.toInt64) (0 + (3 * (zi k))) (MNow (0 + (3 * (zi k))))) MPast MSav (zf_X9_refused_0) MThen MLev MFst MWay MMost MHash]) (j := (0 + (3 * (zi k)))) (x := (MNow (0 + (3 * (zi k))))) X Z 1 rfl rfl (by omega) (by decide) rfl dX9_setCell_117 (fun H locs Z => ?_)
            refine lv_aload_n hx hb dX9_setCell_118 rfl (lv_at hl 4 rfl) ?_
            refine z_get X Z 0 rfl (rfl : zCl[7]? = some (RX9, TX9, 10)) zU_X9 0 (by decide) wF_X9_7 rfl rfl dX9_setCell_119 ?_
            refine lv_iload hx hb dX9_setCell_122 (lv_at hl 3 rfl) ?_
            refine lv_iconst (v := (1 : Int32)) hx hb dX9_setCell_124 (by decide) ?_
            refine z_iadd (a := (0 + (3 * (zi k)))) (b := 1) X rfl rfl dX9_setCell_125 ?_
            refine lv_lload hx hb dX9_setCell_126 (lv_at hl 1 rfl) ?_
            refine z_last (cs2 := [wMod g md (vp_updL (vp_updL (vp_updL (vp_updL MNow (0 + (3 * (zi k))) x.toInt64) ((0 + (3 * (zi k))) + 1) y.toInt64) (0 + (3 * (zi k))) (MNow (0 + (3 * (zi k))))) ((0 + (3 * (zi k))) + 1) (MNow ((0 + (3 * (zi k))) + 1))) MPast MSav (zf_X9_refused_0) MThen MLev MFst MWay MMost MHash]) (j := ((0 + (3 * (zi k))) + 1)) (x := (MNow ((0 + (3 * (zi k))) + 1))) X Z 1 rfl rfl (by omega) (by decide) rfl dX9_setCell_128 (fun H locs Z => ?_)
            refine lv_aload_n hx hb dX9_setCell_129 rfl (lv_at hl 4 rfl) ?_
            refine lv_iload hx hb dX9_setCell_130 (lv_at hl 0 rfl) ?_
            refine lv_if_eq (tgt := 139) hx hb dX9_setCell_132 (by decide) (fun c_8 => ?_) (fun c_8 => ?_)
            · refine lv_iconst (v := (0 : Int32)) hx hb dX9_setCell_139 (by decide) ?_
              refine z_callV (mc := 0) (ms := 0) (As := [.int (0 : Int32)]) (rest := []) (st2 := [.int (0 : Int32)]) (cs2 := [wMod g md (vp_updL (vp_updL (vp_updL (vp_updL MNow (0 + (3 * (zi k))) x.toInt64) ((0 + (3 * (zi k))) + 1) y.toInt64) (0 + (3 * (zi k))) (MNow (0 + (3 * (zi k))))) ((0 + (3 * (zi k))) + 1) (MNow ((0 + (3 * (zi k))) + 1))) MPast MSav (zf_X9_refused_0) MThen MLev MFst MWay MMost MHash]) X Z [0] [] [0] 0 7 (zc_X9_refused_0 l g B md (vp_updL (vp_updL (vp_updL (vp_updL MNow (0 + (3 * (zi k))) x.toInt64) ((0 + (3 * (zi k))) + 1) y.toInt64) (0 + (3 * (zi k))) (MNow (0 + (3 * (zi k))))) ((0 + (3 * (zi k))) + 1) (MNow ((0 + (3 * (zi k))) + 1))) MPast MSav (zf_X9_refused_0) MThen MLev MFst MWay MMost MHash) wM_X9_55 wS_X9_refused wV_X9_refused wK_X9_refused wZ_X9 1 1 1 rfl (by decide +kernel) rfl (by decide) rfl rfl rfl (by decide) rfl rfl (rfl : zCl[7]? = some (RX9, TX9, 10)) hl.1 rfl rfl (by rw [hRf, hRl]; exact ⟨Nat.le_of_ble_eq_true rfl, Nat.le_of_ble_eq_true rfl⟩) (Nat.le_of_ble_eq_true rfl) ⟨Nat.zero_le _, Nat.zero_le _⟩ dX9_setCell_140 (fun H locs Z => ?_)
              refine lv_if_eq (tgt := 148) hx hb dX9_setCell_143 (by decide) (fun c_9 => ?_) (fun c_9 => ?_)
              · refine lv_aload_n hx hb dX9_setCell_148 rfl (lv_at hl 4 rfl) ?_
                refine z_callV (mc := 0) (ms := 0) (As := []) (rest := []) (st2 := []) (cs2 := [wMod g md (vp_updL (vp_updL (vp_updL (vp_updL MNow (0 + (3 * (zi k))) x.toInt64) ((0 + (3 * (zi k))) + 1) y.toInt64) (0 + (3 * (zi k))) (MNow (0 + (3 * (zi k))))) ((0 + (3 * (zi k))) + 1) (MNow ((0 + (3 * (zi k))) + 1))) ((zf_X9_saves (vp_updL (vp_updL (vp_updL (vp_updL MNow (0 + (3 * (zi k))) x.toInt64) ((0 + (3 * (zi k))) + 1) y.toInt64) (0 + (3 * (zi k))) (MNow (0 + (3 * (zi k))))) ((0 + (3 * (zi k))) + 1) (MNow ((0 + (3 * (zi k))) + 1))) MPast MSav).1) ((zf_X9_saves (vp_updL (vp_updL (vp_updL (vp_updL MNow (0 + (3 * (zi k))) x.toInt64) ((0 + (3 * (zi k))) + 1) y.toInt64) (0 + (3 * (zi k))) (MNow (0 + (3 * (zi k))))) ((0 + (3 * (zi k))) + 1) (MNow ((0 + (3 * (zi k))) + 1))) MPast MSav).2) (zf_X9_refused_0) MThen MLev MFst MWay MMost MHash]) X Z [0] [] [0] 0 7 (zc_X9_saves l g B md (vp_updL (vp_updL (vp_updL (vp_updL MNow (0 + (3 * (zi k))) x.toInt64) ((0 + (3 * (zi k))) + 1) y.toInt64) (0 + (3 * (zi k))) (MNow (0 + (3 * (zi k))))) ((0 + (3 * (zi k))) + 1) (MNow ((0 + (3 * (zi k))) + 1))) MPast MSav (zf_X9_refused_0) MThen MLev MFst MWay MMost MHash (by first | assumption | omega | decide)) wM_X9_87 wS_X9_saves wV_X9_saves wK_X9_saves wZ_X9 0 1 1 rfl (by decide +kernel) rfl (by decide) rfl rfl rfl (by decide) rfl rfl (rfl : zCl[7]? = some (RX9, TX9, 10)) hl.1 rfl rfl (by rw [hRf, hRl]; exact ⟨Nat.le_of_ble_eq_true rfl, Nat.le_of_ble_eq_true rfl⟩) (Nat.le_of_ble_eq_true rfl) ⟨Nat.zero_le _, Nat.zero_le _⟩ dX9_setCell_149 (fun H locs Z => ?_)
                refine lv_aload_n hx hb dX9_setCell_152 rfl (lv_at hl 4 rfl) ?_
                refine z_get X Z 0 rfl (rfl : zCl[7]? = some (RX9, TX9, 10)) zU_X9 0 (by decide) wF_X9_7 rfl rfl dX9_setCell_153 ?_
                refine lv_iload hx hb dX9_setCell_156 (lv_at hl 3 rfl) ?_
                refine lv_iconst (v := (2 : Int32)) hx hb dX9_setCell_158 (by decide) ?_
                refine z_iadd (a := (0 + (3 * (zi k)))) (b := 2) X rfl rfl dX9_setCell_159 ?_
                refine z_lald (j := ((0 + (3 * (zi k))) + 2)) X Z 1 rfl rfl (by omega) (by decide) dX9_setCell_160 ?_
                refine lv_lstore (lv' := [(11, .long ((vp_updL (vp_updL (vp_updL (vp_updL MNow (0 + (3 * (zi k))) x.toInt64) ((0 + (3 * (zi k))) + 1) y.toInt64) (0 + (3 * (zi k))) (MNow (0 + (3 * (zi k))))) ((0 + (3 * (zi k))) + 1) (MNow ((0 + (3 * (zi k))) + 1))) ((0 + (3 * (zi k))) + 2))), (10, .int (0 : Int32)), (8, .long (MNow ((0 + (3 * (zi k))) + 1))), (6, .long (MNow (0 + (3 * (zi k))))), (5, .int (nI (0 + (3 * (zi k))))), (0, .ref (md 0)), (1, .int (nI (zi k))), (2, .int x), (3, .int y), (4, .int z)]) hx hb dX9_setCell_161 hl (by decide) rfl (fun ls hl => ?_)
                refine lv_aload_n hx hb dX9_setCell_163 rfl (lv_at hl 5 rfl) ?_
                refine z_get X Z 0 rfl (rfl : zCl[7]? = some (RX9, TX9, 10)) zU_X9 0 (by decide) wF_X9_7 rfl rfl dX9_setCell_164 ?_
                refine lv_iload hx hb dX9_setCell_167 (lv_at hl 4 rfl) ?_
                refine lv_iload_n hx hb dX9_setCell_169 rfl (lv_at hl 7 rfl) ?_
                refine lv_i2l hx hb dX9_setCell_170 rfl ?_
                refine z_last (cs2 := [wMod g md (vp_updL (vp_updL (vp_updL (vp_updL (vp_updL MNow (0 + (3 * (zi k))) x.toInt64) ((0 + (3 * (zi k))) + 1) y.toInt64) (0 + (3 * (zi k))) (MNow (0 + (3 * (zi k))))) ((0 + (3 * (zi k))) + 1) (MNow ((0 + (3 * (zi k))) + 1))) (0 + (3 * (zi k))) x.toInt64) ((zf_X9_saves (vp_updL (vp_updL (vp_updL (vp_updL MNow (0 + (3 * (zi k))) x.toInt64) ((0 + (3 * (zi k))) + 1) y.toInt64) (0 + (3 * (zi k))) (MNow (0 + (3 * (zi k))))) ((0 + (3 * (zi k))) + 1) (MNow ((0 + (3 * (zi k))) + 1))) MPast MSav).1) ((zf_X9_saves (vp_updL (vp_updL (vp_updL (vp_updL MNow (0 + (3 * (zi k))) x.toInt64) ((0 + (3 * (zi k))) + 1) y.toInt64) (0 + (3 * (zi k))) (MNow (0 + (3 * (zi k))))) ((0 + (3 * (zi k))) + 1) (MNow ((0 + (3 * (zi k))) + 1))) MPast MSav).2) (zf_X9_refused_0) MThen MLev MFst MWay MMost MHash]) (j := (0 + (3 * (zi k)))) (x := x.toInt64) X Z 1 rfl rfl (by omega) (by decide) rfl dX9_setCell_171 (fun H locs Z => ?_)
                refine lv_aload_n hx hb dX9_setCell_172 rfl (lv_at hl 5 rfl) ?_
                refine z_get X Z 0 rfl (rfl : zCl[7]? = some (RX9, TX9, 10)) zU_X9 0 (by decide) wF_X9_7 rfl rfl dX9_setCell_173 ?_
                refine lv_iload hx hb dX9_setCell_176 (lv_at hl 4 rfl) ?_
                refine lv_iconst (v := (1 : Int32)) hx hb dX9_setCell_178 (by decide) ?_
                refine z_iadd (a := (0 + (3 * (zi k)))) (b := 1) X rfl rfl dX9_setCell_179 ?_
                refine lv_iload_n hx hb dX9_setCell_180 rfl (lv_at hl 8 rfl) ?_
                refine lv_i2l hx hb dX9_setCell_181 rfl ?_
                refine z_last (cs2 := [wMod g md (vp_updL (vp_updL (vp_updL (vp_updL (vp_updL (vp_updL MNow (0 + (3 * (zi k))) x.toInt64) ((0 + (3 * (zi k))) + 1) y.toInt64) (0 + (3 * (zi k))) (MNow (0 + (3 * (zi k))))) ((0 + (3 * (zi k))) + 1) (MNow ((0 + (3 * (zi k))) + 1))) (0 + (3 * (zi k))) x.toInt64) ((0 + (3 * (zi k))) + 1) y.toInt64) ((zf_X9_saves (vp_updL (vp_updL (vp_updL (vp_updL MNow (0 + (3 * (zi k))) x.toInt64) ((0 + (3 * (zi k))) + 1) y.toInt64) (0 + (3 * (zi k))) (MNow (0 + (3 * (zi k))))) ((0 + (3 * (zi k))) + 1) (MNow ((0 + (3 * (zi k))) + 1))) MPast MSav).1) ((zf_X9_saves (vp_updL (vp_updL (vp_updL (vp_updL MNow (0 + (3 * (zi k))) x.toInt64) ((0 + (3 * (zi k))) + 1) y.toInt64) (0 + (3 * (zi k))) (MNow (0 + (3 * (zi k))))) ((0 + (3 * (zi k))) + 1) (MNow ((0 + (3 * (zi k))) + 1))) MPast MSav).2) (zf_X9_refused_0) MThen MLev MFst MWay MMost MHash]) (j := ((0 + (3 * (zi k))) + 1)) (x := y.toInt64) X Z 1 rfl rfl (by omega) (by decide) rfl dX9_setCell_182 (fun H locs Z => ?_)
                refine lv_aload_n hx hb dX9_setCell_183 rfl (lv_at hl 5 rfl) ?_
                refine z_get X Z 0 rfl (rfl : zCl[7]? = some (RX9, TX9, 10)) zU_X9 0 (by decide) wF_X9_7 rfl rfl dX9_setCell_184 ?_
                refine lv_iload hx hb dX9_setCell_187 (lv_at hl 4 rfl) ?_
                refine lv_iconst (v := (2 : Int32)) hx hb dX9_setCell_189 (by decide) ?_
                refine z_iadd (a := (0 + (3 * (zi k)))) (b := 2) X rfl rfl dX9_setCell_190 ?_
                refine lv_iload hx hb dX9_setCell_191 (lv_at hl 9 rfl) ?_
                refine lv_i2l hx hb dX9_setCell_193 rfl ?_
                refine z_last (cs2 := [wMod g md (vp_updL (vp_updL (vp_updL (vp_updL (vp_updL (vp_updL (vp_updL MNow (0 + (3 * (zi k))) x.toInt64) ((0 + (3 * (zi k))) + 1) y.toInt64) (0 + (3 * (zi k))) (MNow (0 + (3 * (zi k))))) ((0 + (3 * (zi k))) + 1) (MNow ((0 + (3 * (zi k))) + 1))) (0 + (3 * (zi k))) x.toInt64) ((0 + (3 * (zi k))) + 1) y.toInt64) ((0 + (3 * (zi k))) + 2) z.toInt64) ((zf_X9_saves (vp_updL (vp_updL (vp_updL (vp_updL MNow (0 + (3 * (zi k))) x.toInt64) ((0 + (3 * (zi k))) + 1) y.toInt64) (0 + (3 * (zi k))) (MNow (0 + (3 * (zi k))))) ((0 + (3 * (zi k))) + 1) (MNow ((0 + (3 * (zi k))) + 1))) MPast MSav).1) ((zf_X9_saves (vp_updL (vp_updL (vp_updL (vp_updL MNow (0 + (3 * (zi k))) x.toInt64) ((0 + (3 * (zi k))) + 1) y.toInt64) (0 + (3 * (zi k))) (MNow (0 + (3 * (zi k))))) ((0 + (3 * (zi k))) + 1) (MNow ((0 + (3 * (zi k))) + 1))) MPast MSav).2) (zf_X9_refused_0) MThen MLev MFst MWay MMost MHash]) (j := ((0 + (3 * (zi k))) + 2)) (x := z.toInt64) X Z 1 rfl rfl (by omega) (by decide) rfl dX9_setCell_194 (fun H locs Z => ?_)
                refine lv_lload hx hb dX9_setCell_195 (lv_at hl 0 rfl) ?_
                refine lv_l2i hx hb dX9_setCell_197 rfl ?_
                exact z_ri (v := (((vp_updL (vp_updL (vp_updL (vp_updL MNow (0 + (3 * (zi k))) x.toInt64) ((0 + (3 * (zi k))) + 1) y.toInt64) (0 + (3 * (zi k))) (MNow (0 + (3 * (zi k))))) ((0 + (3 * (zi k))) + 1) (MNow ((0 + (3 * (zi k))) + 1))) ((0 + (3 * (zi k))) + 2)).toInt32)) E Z rfl (by rw [zf_X9_setCell_e, if_pos c_1, if_pos c_2, if_pos c_4, if_neg c_7]; exact ⟨rfl, rfl⟩) dX9_setCell_198 (Nat.zero_le _) (Nat.zero_le _)
              · (exact absurd c_9 (by decide))
            · (exact absurd c_8 (by decide))
          · refine lv_iconst (v := (1 : Int32)) hx hb dX9_setCell_102 (by decide) ?_
            refine lv_goto (tgt := 107) hx hb dX9_setCell_103 (by decide) ?_
            refine lv_istore (lv' := [(10, .int (1 : Int32)), (8, .long (MNow ((0 + (3 * (zi k))) + 1))), (6, .long (MNow (0 + (3 * (zi k))))), (5, .int (nI (0 + (3 * (zi k))))), (0, .ref (md 0)), (1, .int (nI (zi k))), (2, .int x), (3, .int y), (4, .int z)]) hx hb dX9_setCell_107 hl (by decide) rfl (fun ls hl => ?_)
            refine lv_aload_n hx hb dX9_setCell_109 rfl (lv_at hl 4 rfl) ?_
            refine z_get X Z 0 rfl (rfl : zCl[7]? = some (RX9, TX9, 10)) zU_X9 0 (by decide) wF_X9_7 rfl rfl dX9_setCell_110 ?_
            refine lv_iload hx hb dX9_setCell_113 (lv_at hl 3 rfl) ?_
            refine lv_lload hx hb dX9_setCell_115 (lv_at hl 2 rfl) ?_
            refine z_last (cs2 := [wMod g md (vp_updL (vp_updL (vp_updL MNow (0 + (3 * (zi k))) x.toInt64) ((0 + (3 * (zi k))) + 1) y.toInt64) (0 + (3 * (zi k))) (MNow (0 + (3 * (zi k))))) MPast MSav (zf_X9_refused_0) MThen MLev MFst MWay MMost MHash]) (j := (0 + (3 * (zi k)))) (x := (MNow (0 + (3 * (zi k))))) X Z 1 rfl rfl (by omega) (by decide) rfl dX9_setCell_117 (fun H locs Z => ?_)
            refine lv_aload_n hx hb dX9_setCell_118 rfl (lv_at hl 4 rfl) ?_
            refine z_get X Z 0 rfl (rfl : zCl[7]? = some (RX9, TX9, 10)) zU_X9 0 (by decide) wF_X9_7 rfl rfl dX9_setCell_119 ?_
            refine lv_iload hx hb dX9_setCell_122 (lv_at hl 3 rfl) ?_
            refine lv_iconst (v := (1 : Int32)) hx hb dX9_setCell_124 (by decide) ?_
            refine z_iadd (a := (0 + (3 * (zi k)))) (b := 1) X rfl rfl dX9_setCell_125 ?_
            refine lv_lload hx hb dX9_setCell_126 (lv_at hl 1 rfl) ?_
            refine z_last (cs2 := [wMod g md (vp_updL (vp_updL (vp_updL (vp_updL MNow (0 + (3 * (zi k))) x.toInt64) ((0 + (3 * (zi k))) + 1) y.toInt64) (0 + (3 * (zi k))) (MNow (0 + (3 * (zi k))))) ((0 + (3 * (zi k))) + 1) (MNow ((0 + (3 * (zi k))) + 1))) MPast MSav (zf_X9_refused_0) MThen MLev MFst MWay MMost MHash]) (j := ((0 + (3 * (zi k))) + 1)) (x := (MNow ((0 + (3 * (zi k))) + 1))) X Z 1 rfl rfl (by omega) (by decide) rfl dX9_setCell_128 (fun H locs Z => ?_)
            refine lv_aload_n hx hb dX9_setCell_129 rfl (lv_at hl 4 rfl) ?_
            refine lv_iload hx hb dX9_setCell_130 (lv_at hl 0 rfl) ?_
            refine lv_if_eq (tgt := 139) hx hb dX9_setCell_132 (by decide) (fun c_10 => ?_) (fun c_10 => ?_)
            · (exact absurd c_10 (by decide))
            · refine lv_iconst (v := (2 : Int32)) hx hb dX9_setCell_135 (by decide) ?_
              refine lv_goto (tgt := 140) hx hb dX9_setCell_136 (by decide) ?_
              refine z_callV (mc := 0) (ms := 0) (As := [.int (2 : Int32)]) (rest := []) (st2 := [.int (1 : Int32)]) (cs2 := [wMod g md (vp_updL (vp_updL (vp_updL (vp_updL MNow (0 + (3 * (zi k))) x.toInt64) ((0 + (3 * (zi k))) + 1) y.toInt64) (0 + (3 * (zi k))) (MNow (0 + (3 * (zi k))))) ((0 + (3 * (zi k))) + 1) (MNow ((0 + (3 * (zi k))) + 1))) MPast MSav (zf_X9_refused_2) MThen MLev MFst MWay MMost MHash]) X Z [0] [] [0] 0 7 (zc_X9_refused_2 l g B md (vp_updL (vp_updL (vp_updL (vp_updL MNow (0 + (3 * (zi k))) x.toInt64) ((0 + (3 * (zi k))) + 1) y.toInt64) (0 + (3 * (zi k))) (MNow (0 + (3 * (zi k))))) ((0 + (3 * (zi k))) + 1) (MNow ((0 + (3 * (zi k))) + 1))) MPast MSav (zf_X9_refused_0) MThen MLev MFst MWay MMost MHash) wM_X9_55 wS_X9_refused wV_X9_refused wK_X9_refused wZ_X9 1 1 1 rfl (by decide +kernel) rfl (by decide) rfl rfl rfl (by decide) rfl rfl (rfl : zCl[7]? = some (RX9, TX9, 10)) hl.1 rfl rfl (by rw [hRf, hRl]; exact ⟨Nat.le_of_ble_eq_true rfl, Nat.le_of_ble_eq_true rfl⟩) (Nat.le_of_ble_eq_true rfl) ⟨Nat.zero_le _, Nat.zero_le _⟩ dX9_setCell_140 (fun H locs Z => ?_)
              refine lv_if_eq (tgt := 148) hx hb dX9_setCell_143 (by decide) (fun c_11 => ?_) (fun c_11 => ?_)
              · (exact absurd c_11 (by decide))
              · refine lv_iconst (v := (0 : Int32)) hx hb dX9_setCell_146 (by decide) ?_
                exact z_ri (v := (0 : Int32)) E Z rfl (by rw [zf_X9_setCell_e, if_pos c_1, if_pos c_2, if_pos c_4, if_pos c_7]; exact ⟨rfl, rfl⟩) dX9_setCell_147 (Nat.zero_le _) (Nat.zero_le _)
        · (exact absurd c_6 (by decide))
  · refine lv_iconst (v := (1 : Int32)) hx hb dX9_setCell_8 (by decide) ?_
    refine lv_goto (tgt := 38) hx hb dX9_setCell_9 (by decide) ?_
    refine z_callV (mc := 0) (ms := 0) (As := [.int (1 : Int32)]) (rest := []) (st2 := [.int (1 : Int32)]) (cs2 := [wMod g md MNow MPast MSav (zf_X9_refused_1) MThen MLev MFst MWay MMost MHash]) X Z [0] [] [0] 0 7 (zc_X9_refused_1 l g B md MNow MPast MSav MRef MThen MLev MFst MWay MMost MHash) wM_X9_55 wS_X9_refused wV_X9_refused wK_X9_refused wZ_X9 1 1 1 rfl (by decide +kernel) rfl (by decide) rfl rfl rfl (by decide) rfl rfl (rfl : zCl[7]? = some (RX9, TX9, 10)) hl.1 rfl rfl (by rw [hRf, hRl]; exact ⟨Nat.le_of_ble_eq_true rfl, Nat.le_of_ble_eq_true rfl⟩) (Nat.le_of_ble_eq_true rfl) ⟨Nat.zero_le _, Nat.zero_le _⟩ dX9_setCell_38 (fun H locs Z => ?_)
    refine lv_if_eq (tgt := 46) hx hb dX9_setCell_41 (by decide) (fun c_12 => ?_) (fun c_12 => ?_)
    · (exact absurd c_12 (by decide))
    · refine lv_iconst (v := (0 : Int32)) hx hb dX9_setCell_44 (by decide) ?_
      exact z_ri (v := (0 : Int32)) E Z rfl (by rw [zf_X9_setCell_e, if_neg (zBf c_1)]; exact ⟨rfl, rfl⟩) dX9_setCell_45 (Nat.zero_le _) (Nat.zero_le _)
def zf_X9_place (MNow : Nat → Int64) (MPast : Nat → Int64) (MSav : Nat) (x : Int32) (y : Int32) (z : Int32) : Nat × Int32 × (Nat → Int64) × (Nat → Int64) × Nat := (if (zf_X9_isPlace x y) = true then (if (zf_X9_within z.toInt64 (1 : Int64) (1000 : Int64)) = true then (if (zc (MNow 9)) = 8 then (0, (zf_X9_refused_2), MNow, MPast, MSav) else (((zc (MNow 9) + 1) - 1), (zf_X9_refused_0), (vp_updL (vp_updL (vp_updL (vp_updL MNow (10 + (3 * (zc (MNow 9)))) x.toInt64) ((10 + (3 * (zc (MNow 9)))) + 1) y.toInt64) ((10 + (3 * (zc (MNow 9)))) + 2) z.toInt64) 9 (((vp_updL (vp_updL (vp_updL MNow (10 + (3 * (zc (MNow 9)))) x.toInt64) ((10 + (3 * (zc (MNow 9)))) + 1) y.toInt64) ((10 + (3 * (zc (MNow 9)))) + 2) z.toInt64) 9) + (1 : Int64))), ((zf_X9_saves MNow MPast MSav).1), ((zf_X9_saves MNow MPast MSav).2))) else (0, (zf_X9_refused_1), MNow, MPast, MSav)) else (0, (zf_X9_refused_1), MNow, MPast, MSav))
theorem zf_X9_place_e (MNow : Nat → Int64) (MPast : Nat → Int64) (MSav : Nat) (x : Int32) (y : Int32) (z : Int32) : zf_X9_place MNow MPast MSav x y z = (if (zf_X9_isPlace x y) = true then (if (zf_X9_within z.toInt64 (1 : Int64) (1000 : Int64)) = true then (if (zc (MNow 9)) = 8 then (0, (zf_X9_refused_2), MNow, MPast, MSav) else (((zc (MNow 9) + 1) - 1), (zf_X9_refused_0), (vp_updL (vp_updL (vp_updL (vp_updL MNow (10 + (3 * (zc (MNow 9)))) x.toInt64) ((10 + (3 * (zc (MNow 9)))) + 1) y.toInt64) ((10 + (3 * (zc (MNow 9)))) + 2) z.toInt64) 9 (((vp_updL (vp_updL (vp_updL MNow (10 + (3 * (zc (MNow 9)))) x.toInt64) ((10 + (3 * (zc (MNow 9)))) + 1) y.toInt64) ((10 + (3 * (zc (MNow 9)))) + 2) z.toInt64) 9) + (1 : Int64))), ((zf_X9_saves MNow MPast MSav).1), ((zf_X9_saves MNow MPast MSav).2))) else (0, (zf_X9_refused_1), MNow, MPast, MSav)) else (0, (zf_X9_refused_1), MNow, MPast, MSav)) := rfl
set_option maxHeartbeats 4000000 in
set_option maxRecDepth 100000 in
theorem zc_X9_place (l : Launch) (g : zG) (B : Nat) (md : Nat → Nat) (MNow : Nat → Int64) (MPast : Nat → Int64) (MSav : Nat) (MRef : Int32) (MThen : Nat → Int64) (MLev : Nat → Int64) (MFst : Int32) (MWay : Nat → Int64) (MMost : Nat → Int32) (MHash : Int64) (x : Int32) (y : Int32) (z : Int32) (hN : zNow MNow) (hs : MSav ≤ 4) : zMet l g B yX9_place cX9_place 5 (some .int) 3 140 0 0 [.ref (md 0), .int x, .int y, .int z] [wMod g md MNow MPast MSav MRef MThen MLev MFst MWay MMost MHash] (zDet (some (.int (nI ((zf_X9_place MNow MPast MSav x y z).1)))) [wMod g md ((zf_X9_place MNow MPast MSav x y z).2.2.1) ((zf_X9_place MNow MPast MSav x y z).2.2.2.1) ((zf_X9_place MNow MPast MSav x y z).2.2.2.2) ((zf_X9_place MNow MPast MSav x y z).2.1) MThen MLev MFst MWay MMost MHash]) := by
  refine z_in (plainFor_of_name (by decide)) (Nat.le_of_ble_eq_true rfl) (fun p e R s m args below meth c A Q hRf hRl hRc hRs X Z hnm E ls hl => ?_)
  have hx := X.1
  have hb := X.2.1
  have hown := X.2.2.2.1
  have hts := X.2.2.2.2.1
  have hl : lv_has ls 5 [(0, .ref (md 0)), (1, .int x), (2, .int y), (3, .int z)] := hl
  have hN2 := hN; obtain ⟨he9, hb9, he34, hb34, he43, hb43, he284, hb284, he301, hb301⟩ := hN2
  refine lv_aload_n hx hb dX9_place_0 rfl (lv_at hl 0 rfl) ?_
  refine lv_iload_n hx hb dX9_place_1 rfl (lv_at hl 1 rfl) ?_
  refine lv_iload_n hx hb dX9_place_2 rfl (lv_at hl 2 rfl) ?_
  refine z_callS (mc := 0) (ms := 0) (As := [.int x, .int y]) (rest := [.ref (md 0)]) (st2 := [.int (zB (zf_X9_isPlace x y)), .ref (md 0)]) (cs2 := [wMod g md MNow MPast MSav MRef MThen MLev MFst MWay MMost MHash]) X Z [] [0] [0] (zc_X9_isPlace l g B x y) wM_X9_81 wS_X9_isPlace wK_X9_isPlace wZ_X9 2 1 1 rfl (by decide +kernel) rfl (by decide) rfl rfl rfl (by decide) rfl hl.1 rfl rfl (by rw [hRf, hRl]; exact ⟨Nat.le_of_ble_eq_true rfl, Nat.le_of_ble_eq_true rfl⟩) (Nat.le_of_ble_eq_true rfl) ⟨Nat.zero_le _, Nat.zero_le _⟩ dX9_place_3 (fun H locs Z => ?_)
  refine z_ifeqB (b := (zf_X9_isPlace x y)) (tgt := 21) X dX9_place_6 (by decide) (fun c_1 => ?_) (fun c_1 => ?_)
  · refine lv_iconst (v := (1 : Int32)) hx hb dX9_place_21 (by decide) ?_
    refine lv_goto (tgt := 41) hx hb dX9_place_22 (by decide) ?_
    refine z_callV (mc := 0) (ms := 0) (As := [.int (1 : Int32)]) (rest := []) (st2 := [.int (1 : Int32)]) (cs2 := [wMod g md MNow MPast MSav (zf_X9_refused_1) MThen MLev MFst MWay MMost MHash]) X Z [0] [] [0] 0 7 (zc_X9_refused_1 l g B md MNow MPast MSav MRef MThen MLev MFst MWay MMost MHash) wM_X9_55 wS_X9_refused wV_X9_refused wK_X9_refused wZ_X9 1 1 1 rfl (by decide +kernel) rfl (by decide) rfl rfl rfl (by decide) rfl rfl (rfl : zCl[7]? = some (RX9, TX9, 10)) hl.1 rfl rfl (by rw [hRf, hRl]; exact ⟨Nat.le_of_ble_eq_true rfl, Nat.le_of_ble_eq_true rfl⟩) (Nat.le_of_ble_eq_true rfl) ⟨Nat.zero_le _, Nat.zero_le _⟩ dX9_place_41 (fun H locs Z => ?_)
    refine lv_if_eq (tgt := 49) hx hb dX9_place_44 (by decide) (fun c_2 => ?_) (fun c_2 => ?_)
    · (exact absurd c_2 (by decide))
    · refine lv_iconst (v := (0 : Int32)) hx hb dX9_place_47 (by decide) ?_
      exact z_ri (v := nI 0) E Z rfl (by rw [zf_X9_place_e, if_neg (zBf c_1)]; exact ⟨rfl, rfl⟩) dX9_place_48 (Nat.zero_le _) (Nat.zero_le _)
  · refine lv_iload_n hx hb dX9_place_9 rfl (lv_at hl 3 rfl) ?_
    refine lv_i2l hx hb dX9_place_10 rfl ?_
    refine lv_lconst (v := (1 : Int64)) hx hb dX9_place_11 (by decide) ?_
    refine lv_ldc2 (v := (1000 : Int64)) hx hb hown (hts _ wL_X9_90) dX9_place_12 ?_
    refine z_callS (mc := 0) (ms := 0) (As := [.long z.toInt64, .long (1 : Int64), .long (1000 : Int64)]) (rest := [.ref (md 0)]) (st2 := [.int (zB (zf_X9_within z.toInt64 (1 : Int64) (1000 : Int64))), .ref (md 0)]) (cs2 := [wMod g md MNow MPast MSav MRef MThen MLev MFst MWay MMost MHash]) X Z [] [0] [0] (zc_X9_within l g B z.toInt64 (1 : Int64) (1000 : Int64)) wM_X9_44 wS_X9_within wK_X9_within wZ_X9 3 1 1 rfl (by decide +kernel) rfl (by decide) rfl rfl rfl (by decide) rfl hl.1 rfl rfl (by rw [hRf, hRl]; exact ⟨Nat.le_of_ble_eq_true rfl, Nat.le_of_ble_eq_true rfl⟩) (Nat.le_of_ble_eq_true rfl) ⟨Nat.zero_le _, Nat.zero_le _⟩ dX9_place_15 (fun H locs Z => ?_)
    refine z_ifneB (b := (zf_X9_within z.toInt64 (1 : Int64) (1000 : Int64))) (tgt := 25) X dX9_place_18 (by decide) (fun c_3 => ?_) (fun c_3 => ?_)
    · refine lv_aload_n hx hb dX9_place_25 rfl (lv_at hl 0 rfl) ?_
      refine lv_bipush (v := (9 : Int32)) hx hb dX9_place_26 (by decide) ?_
      refine z_callV (mc := 0) (ms := 0) (As := [.int (9 : Int32)]) (rest := [.ref (md 0)]) (st2 := [.int (nI (zc (MNow 9))), .ref (md 0)]) (cs2 := [wMod g md MNow MPast MSav MRef MThen MLev MFst MWay MMost MHash]) X Z [0] [] [0] 0 7 (zc_X9_many l g B md MNow MPast MSav MRef MThen MLev MFst MWay MMost MHash 9 (zc (MNow 9)) (by first | assumption | omega | decide) (by first | assumption | omega | decide)) wM_X9_66 wS_X9_many wV_X9_many wK_X9_many wZ_X9 1 1 1 rfl (by decide +kernel) rfl (by decide) rfl rfl rfl (by decide) rfl rfl (rfl : zCl[7]? = some (RX9, TX9, 10)) hl.1 rfl rfl (by rw [hRf, hRl]; exact ⟨Nat.le_of_ble_eq_true rfl, Nat.le_of_ble_eq_true rfl⟩) (Nat.le_of_ble_eq_true rfl) ⟨Nat.zero_le _, Nat.zero_le _⟩ dX9_place_28 (fun H locs Z => ?_)
      refine lv_bipush (v := (8 : Int32)) hx hb dX9_place_31 (by decide) ?_
      refine z_icmp_ne (a := (zc (MNow 9))) (b := 8) (tgt := 40) X rfl rfl (by omega) (by omega) dX9_place_33 (by decide) (fun c_4 => ?_) (fun c_4 => ?_)
      · refine lv_iconst (v := (0 : Int32)) hx hb dX9_place_40 (by decide) ?_
        refine z_callV (mc := 0) (ms := 0) (As := [.int (0 : Int32)]) (rest := []) (st2 := [.int (0 : Int32)]) (cs2 := [wMod g md MNow MPast MSav (zf_X9_refused_0) MThen MLev MFst MWay MMost MHash]) X Z [0] [] [0] 0 7 (zc_X9_refused_0 l g B md MNow MPast MSav MRef MThen MLev MFst MWay MMost MHash) wM_X9_55 wS_X9_refused wV_X9_refused wK_X9_refused wZ_X9 1 1 1 rfl (by decide +kernel) rfl (by decide) rfl rfl rfl (by decide) rfl rfl (rfl : zCl[7]? = some (RX9, TX9, 10)) hl.1 rfl rfl (by rw [hRf, hRl]; exact ⟨Nat.le_of_ble_eq_true rfl, Nat.le_of_ble_eq_true rfl⟩) (Nat.le_of_ble_eq_true rfl) ⟨Nat.zero_le _, Nat.zero_le _⟩ dX9_place_41 (fun H locs Z => ?_)
        refine lv_if_eq (tgt := 49) hx hb dX9_place_44 (by decide) (fun c_5 => ?_) (fun c_5 => ?_)
        · refine lv_aload_n hx hb dX9_place_49 rfl (lv_at hl 0 rfl) ?_
          refine z_callV (mc := 0) (ms := 0) (As := []) (rest := []) (st2 := []) (cs2 := [wMod g md MNow ((zf_X9_saves MNow MPast MSav).1) ((zf_X9_saves MNow MPast MSav).2) (zf_X9_refused_0) MThen MLev MFst MWay MMost MHash]) X Z [0] [] [0] 0 7 (zc_X9_saves l g B md MNow MPast MSav (zf_X9_refused_0) MThen MLev MFst MWay MMost MHash (by first | assumption | omega | decide)) wM_X9_87 wS_X9_saves wV_X9_saves wK_X9_saves wZ_X9 0 1 1 rfl (by decide +kernel) rfl (by decide) rfl rfl rfl (by decide) rfl rfl (rfl : zCl[7]? = some (RX9, TX9, 10)) hl.1 rfl rfl (by rw [hRf, hRl]; exact ⟨Nat.le_of_ble_eq_true rfl, Nat.le_of_ble_eq_true rfl⟩) (Nat.le_of_ble_eq_true rfl) ⟨Nat.zero_le _, Nat.zero_le _⟩ dX9_place_50 (fun H locs Z => ?_)
          refine lv_bipush (v := (10 : Int32)) hx hb dX9_place_53 (by decide) ?_
          refine lv_iconst (v := (3 : Int32)) hx hb dX9_place_55 (by decide) ?_
          refine lv_aload_n hx hb dX9_place_56 rfl (lv_at hl 0 rfl) ?_
          refine lv_bipush (v := (9 : Int32)) hx hb dX9_place_57 (by decide) ?_
          refine z_callV (mc := 0) (ms := 0) (As := [.int (9 : Int32)]) (rest := [.int (3 : Int32), .int (10 : Int32)]) (st2 := [.int (nI (zc (MNow 9))), .int (3 : Int32), .int (10 : Int32)]) (cs2 := [wMod g md MNow ((zf_X9_saves MNow MPast MSav).1) ((zf_X9_saves MNow MPast MSav).2) (zf_X9_refused_0) MThen MLev MFst MWay MMost MHash]) X Z [0] [] [0] 0 7 (zc_X9_many l g B md MNow ((zf_X9_saves MNow MPast MSav).1) ((zf_X9_saves MNow MPast MSav).2) (zf_X9_refused_0) MThen MLev MFst MWay MMost MHash 9 (zc (MNow 9)) (by first | assumption | omega | decide) (by first | assumption | omega | decide)) wM_X9_66 wS_X9_many wV_X9_many wK_X9_many wZ_X9 1 1 1 rfl (by decide +kernel) rfl (by decide) rfl rfl rfl (by decide) rfl rfl (rfl : zCl[7]? = some (RX9, TX9, 10)) hl.1 rfl rfl (by rw [hRf, hRl]; exact ⟨Nat.le_of_ble_eq_true rfl, Nat.le_of_ble_eq_true rfl⟩) (Nat.le_of_ble_eq_true rfl) ⟨Nat.zero_le _, Nat.zero_le _⟩ dX9_place_59 (fun H locs Z => ?_)
          refine z_imul (a := 3) (b := (zc (MNow 9))) X rfl rfl dX9_place_62 ?_
          refine z_iadd (a := 10) (b := (3 * (zc (MNow 9)))) X rfl rfl dX9_place_63 ?_
          refine lv_istore (lv' := [(4, .int (nI (10 + (3 * (zc (MNow 9)))))), (0, .ref (md 0)), (1, .int x), (2, .int y), (3, .int z)]) hx hb dX9_place_64 hl (by decide) rfl (fun ls hl => ?_)
          refine lv_aload_n hx hb dX9_place_66 rfl (lv_at hl 1 rfl) ?_
          refine z_get X Z 0 rfl (rfl : zCl[7]? = some (RX9, TX9, 10)) zU_X9 0 (by decide) wF_X9_7 rfl rfl dX9_place_67 ?_
          refine lv_iload hx hb dX9_place_70 (lv_at hl 0 rfl) ?_
          refine lv_iload_n hx hb dX9_place_72 rfl (lv_at hl 2 rfl) ?_
          refine lv_i2l hx hb dX9_place_73 rfl ?_
          refine z_last (cs2 := [wMod g md (vp_updL MNow (10 + (3 * (zc (MNow 9)))) x.toInt64) ((zf_X9_saves MNow MPast MSav).1) ((zf_X9_saves MNow MPast MSav).2) (zf_X9_refused_0) MThen MLev MFst MWay MMost MHash]) (j := (10 + (3 * (zc (MNow 9))))) (x := x.toInt64) X Z 1 rfl rfl (by omega) (by decide) rfl dX9_place_74 (fun H locs Z => ?_)
          refine lv_aload_n hx hb dX9_place_75 rfl (lv_at hl 1 rfl) ?_
          refine z_get X Z 0 rfl (rfl : zCl[7]? = some (RX9, TX9, 10)) zU_X9 0 (by decide) wF_X9_7 rfl rfl dX9_place_76 ?_
          refine lv_iload hx hb dX9_place_79 (lv_at hl 0 rfl) ?_
          refine lv_iconst (v := (1 : Int32)) hx hb dX9_place_81 (by decide) ?_
          refine z_iadd (a := (10 + (3 * (zc (MNow 9))))) (b := 1) X rfl rfl dX9_place_82 ?_
          refine lv_iload_n hx hb dX9_place_83 rfl (lv_at hl 3 rfl) ?_
          refine lv_i2l hx hb dX9_place_84 rfl ?_
          refine z_last (cs2 := [wMod g md (vp_updL (vp_updL MNow (10 + (3 * (zc (MNow 9)))) x.toInt64) ((10 + (3 * (zc (MNow 9)))) + 1) y.toInt64) ((zf_X9_saves MNow MPast MSav).1) ((zf_X9_saves MNow MPast MSav).2) (zf_X9_refused_0) MThen MLev MFst MWay MMost MHash]) (j := ((10 + (3 * (zc (MNow 9)))) + 1)) (x := y.toInt64) X Z 1 rfl rfl (by omega) (by decide) rfl dX9_place_85 (fun H locs Z => ?_)
          refine lv_aload_n hx hb dX9_place_86 rfl (lv_at hl 1 rfl) ?_
          refine z_get X Z 0 rfl (rfl : zCl[7]? = some (RX9, TX9, 10)) zU_X9 0 (by decide) wF_X9_7 rfl rfl dX9_place_87 ?_
          refine lv_iload hx hb dX9_place_90 (lv_at hl 0 rfl) ?_
          refine lv_iconst (v := (2 : Int32)) hx hb dX9_place_92 (by decide) ?_
          refine z_iadd (a := (10 + (3 * (zc (MNow 9))))) (b := 2) X rfl rfl dX9_place_93 ?_
          refine lv_iload_n hx hb dX9_place_94 rfl (lv_at hl 4 rfl) ?_
          refine lv_i2l hx hb dX9_place_95 rfl ?_
          refine z_last (cs2 := [wMod g md (vp_updL (vp_updL (vp_updL MNow (10 + (3 * (zc (MNow 9)))) x.toInt64) ((10 + (3 * (zc (MNow 9)))) + 1) y.toInt64) ((10 + (3 * (zc (MNow 9)))) + 2) z.toInt64) ((zf_X9_saves MNow MPast MSav).1) ((zf_X9_saves MNow MPast MSav).2) (zf_X9_refused_0) MThen MLev MFst MWay MMost MHash]) (j := ((10 + (3 * (zc (MNow 9)))) + 2)) (x := z.toInt64) X Z 1 rfl rfl (by omega) (by decide) rfl dX9_place_96 (fun H locs Z => ?_)
          refine lv_aload_n hx hb dX9_place_97 rfl (lv_at hl 1 rfl) ?_
          refine z_get X Z 0 rfl (rfl : zCl[7]? = some (RX9, TX9, 10)) zU_X9 0 (by decide) wF_X9_7 rfl rfl dX9_place_98 ?_
          refine lv_bipush (v := (9 : Int32)) hx hb dX9_place_101 (by decide) ?_
          refine lv_dup2_11 hx hb dX9_place_103 rfl rfl ?_
          refine z_lald (j := 9) X Z 1 rfl rfl (by omega) (by decide) dX9_place_104 ?_
          refine lv_lconst (v := (1 : Int64)) hx hb dX9_place_105 (by decide) ?_
          refine lv_ladd hx hb dX9_place_106 ?_
          refine z_last (cs2 := [wMod g md (vp_updL (vp_updL (vp_updL (vp_updL MNow (10 + (3 * (zc (MNow 9)))) x.toInt64) ((10 + (3 * (zc (MNow 9)))) + 1) y.toInt64) ((10 + (3 * (zc (MNow 9)))) + 2) z.toInt64) 9 (((vp_updL (vp_updL (vp_updL MNow (10 + (3 * (zc (MNow 9)))) x.toInt64) ((10 + (3 * (zc (MNow 9)))) + 1) y.toInt64) ((10 + (3 * (zc (MNow 9)))) + 2) z.toInt64) 9) + (1 : Int64))) ((zf_X9_saves MNow MPast MSav).1) ((zf_X9_saves MNow MPast MSav).2) (zf_X9_refused_0) MThen MLev MFst MWay MMost MHash]) (j := 9) (x := (((vp_updL (vp_updL (vp_updL MNow (10 + (3 * (zc (MNow 9)))) x.toInt64) ((10 + (3 * (zc (MNow 9)))) + 1) y.toInt64) ((10 + (3 * (zc (MNow 9)))) + 2) z.toInt64) 9) + (1 : Int64))) X Z 1 rfl rfl (by omega) (by decide) rfl dX9_place_107 (fun H locs Z => ?_)
          refine lv_aload_n hx hb dX9_place_108 rfl (lv_at hl 1 rfl) ?_
          refine lv_bipush (v := (9 : Int32)) hx hb dX9_place_109 (by decide) ?_
          refine z_callV (mc := 0) (ms := 0) (As := [.int (9 : Int32)]) (rest := []) (st2 := [.int (nI (zc (MNow 9) + 1))]) (cs2 := [wMod g md (vp_updL (vp_updL (vp_updL (vp_updL MNow (10 + (3 * (zc (MNow 9)))) x.toInt64) ((10 + (3 * (zc (MNow 9)))) + 1) y.toInt64) ((10 + (3 * (zc (MNow 9)))) + 2) z.toInt64) 9 (((vp_updL (vp_updL (vp_updL MNow (10 + (3 * (zc (MNow 9)))) x.toInt64) ((10 + (3 * (zc (MNow 9)))) + 1) y.toInt64) ((10 + (3 * (zc (MNow 9)))) + 2) z.toInt64) 9) + (1 : Int64))) ((zf_X9_saves MNow MPast MSav).1) ((zf_X9_saves MNow MPast MSav).2) (zf_X9_refused_0) MThen MLev MFst MWay MMost MHash]) X Z [0] [] [0] 0 7 (zc_X9_many l g B md (vp_updL (vp_updL (vp_updL (vp_updL MNow (10 + (3 * (zc (MNow 9)))) x.toInt64) ((10 + (3 * (zc (MNow 9)))) + 1) y.toInt64) ((10 + (3 * (zc (MNow 9)))) + 2) z.toInt64) 9 (((vp_updL (vp_updL (vp_updL MNow (10 + (3 * (zc (MNow 9)))) x.toInt64) ((10 + (3 * (zc (MNow 9)))) + 1) y.toInt64) ((10 + (3 * (zc (MNow 9)))) + 2) z.toInt64) 9) + (1 : Int64))) ((zf_X9_saves MNow MPast MSav).1) ((zf_X9_saves MNow MPast MSav).2) (zf_X9_refused_0) MThen MLev MFst MWay MMost MHash 9 (zc (MNow 9) + 1) (by first | assumption | omega | decide) (zmany1 (n := zc (MNow 9)) (by rw [zuL_ne (by omega), zuL_ne (by omega), zuL_ne (by omega)]; exact he9))) wM_X9_66 wS_X9_many wV_X9_many wK_X9_many wZ_X9 1 1 1 rfl (by decide +kernel) rfl (by decide) rfl rfl rfl (by decide) rfl rfl (rfl : zCl[7]? = some (RX9, TX9, 10)) hl.1 rfl rfl (by rw [hRf, hRl]; exact ⟨Nat.le_of_ble_eq_true rfl, Nat.le_of_ble_eq_true rfl⟩) (Nat.le_of_ble_eq_true rfl) ⟨Nat.zero_le _, Nat.zero_le _⟩ dX9_place_111 (fun H locs Z => ?_)
          refine lv_iconst (v := (1 : Int32)) hx hb dX9_place_114 (by decide) ?_
          refine z_isub (a := (zc (MNow 9) + 1)) (b := 1) X rfl rfl (by omega) dX9_place_115 ?_
          exact z_ri (v := nI ((zc (MNow 9) + 1) - 1)) E Z rfl (by rw [zf_X9_place_e, if_pos c_1, if_pos c_3, if_neg c_4]; exact ⟨rfl, rfl⟩) dX9_place_116 (Nat.zero_le _) (Nat.zero_le _)
        · (exact absurd c_5 (by decide))
      · refine lv_iconst (v := (2 : Int32)) hx hb dX9_place_36 (by decide) ?_
        refine lv_goto (tgt := 41) hx hb dX9_place_37 (by decide) ?_
        refine z_callV (mc := 0) (ms := 0) (As := [.int (2 : Int32)]) (rest := []) (st2 := [.int (1 : Int32)]) (cs2 := [wMod g md MNow MPast MSav (zf_X9_refused_2) MThen MLev MFst MWay MMost MHash]) X Z [0] [] [0] 0 7 (zc_X9_refused_2 l g B md MNow MPast MSav MRef MThen MLev MFst MWay MMost MHash) wM_X9_55 wS_X9_refused wV_X9_refused wK_X9_refused wZ_X9 1 1 1 rfl (by decide +kernel) rfl (by decide) rfl rfl rfl (by decide) rfl rfl (rfl : zCl[7]? = some (RX9, TX9, 10)) hl.1 rfl rfl (by rw [hRf, hRl]; exact ⟨Nat.le_of_ble_eq_true rfl, Nat.le_of_ble_eq_true rfl⟩) (Nat.le_of_ble_eq_true rfl) ⟨Nat.zero_le _, Nat.zero_le _⟩ dX9_place_41 (fun H locs Z => ?_)
        refine lv_if_eq (tgt := 49) hx hb dX9_place_44 (by decide) (fun c_6 => ?_) (fun c_6 => ?_)
        · (exact absurd c_6 (by decide))
        · refine lv_iconst (v := (0 : Int32)) hx hb dX9_place_47 (by decide) ?_
          exact z_ri (v := nI 0) E Z rfl (by rw [zf_X9_place_e, if_pos c_1, if_pos c_3, if_pos c_4]; exact ⟨rfl, rfl⟩) dX9_place_48 (Nat.zero_le _) (Nat.zero_le _)
    · refine lv_iconst (v := (1 : Int32)) hx hb dX9_place_21 (by decide) ?_
      refine lv_goto (tgt := 41) hx hb dX9_place_22 (by decide) ?_
      refine z_callV (mc := 0) (ms := 0) (As := [.int (1 : Int32)]) (rest := []) (st2 := [.int (1 : Int32)]) (cs2 := [wMod g md MNow MPast MSav (zf_X9_refused_1) MThen MLev MFst MWay MMost MHash]) X Z [0] [] [0] 0 7 (zc_X9_refused_1 l g B md MNow MPast MSav MRef MThen MLev MFst MWay MMost MHash) wM_X9_55 wS_X9_refused wV_X9_refused wK_X9_refused wZ_X9 1 1 1 rfl (by decide +kernel) rfl (by decide) rfl rfl rfl (by decide) rfl rfl (rfl : zCl[7]? = some (RX9, TX9, 10)) hl.1 rfl rfl (by rw [hRf, hRl]; exact ⟨Nat.le_of_ble_eq_true rfl, Nat.le_of_ble_eq_true rfl⟩) (Nat.le_of_ble_eq_true rfl) ⟨Nat.zero_le _, Nat.zero_le _⟩ dX9_place_41 (fun H locs Z => ?_)
      refine lv_if_eq (tgt := 49) hx hb dX9_place_44 (by decide) (fun c_7 => ?_) (fun c_7 => ?_)
      · (exact absurd c_7 (by decide))
      · refine lv_iconst (v := (0 : Int32)) hx hb dX9_place_47 (by decide) ?_
        exact z_ri (v := nI 0) E Z rfl (by rw [zf_X9_place_e, if_pos c_1, if_neg (zBf c_3)]; exact ⟨rfl, rfl⟩) dX9_place_48 (Nat.zero_le _) (Nat.zero_le _)
def zl_X9_lift_69 (k : Int32) : Nat → Nat → (Nat → Int64) → (Nat → Int64)
  | 0, _, v1 => v1
  | n69 + 1, j69, v1 => zl_X9_lift_69 k n69 (j69 + 1) (vp_updL v1 ((10 + (3 * (zi k))) + j69) (v1 (((10 + (3 * (zi k))) + j69) + 3)))
theorem zl_X9_lift_69_s (k : Int32) (n69 : Nat) (j69 : Nat) (v1 : Nat → Int64) : zl_X9_lift_69 k (n69 + 1) j69 v1 = zl_X9_lift_69 k n69 (j69 + 1) (vp_updL v1 ((10 + (3 * (zi k))) + j69) (v1 (((10 + (3 * (zi k))) + j69) + 3))) := rfl
def zf_X9_lift (MNow : Nat → Int64) (MPast : Nat → Int64) (MSav : Nat) (k : Int32) : Int32 × Int32 × (Nat → Int64) × (Nat → Int64) × Nat := (if (zf_X9_within k.toInt64 (0 : Int64) (((nI (zc (MNow 9))) - (1 : Int32)).toInt64)) = true then (((MNow ((10 + (3 * (zi k))) + 2)).toInt32), (zf_X9_refused_0), (zl_X9_lift_69 k ((10 + (3 * (zc (MNow 9) - 1))) - (10 + (3 * (zi k)))) 0 (vp_updL MNow 9 ((MNow 9) - (1 : Int64)))), ((zf_X9_saves MNow MPast MSav).1), ((zf_X9_saves MNow MPast MSav).2)) else ((0 : Int32), (zf_X9_refused_1), MNow, MPast, MSav))
theorem zf_X9_lift_e (MNow : Nat → Int64) (MPast : Nat → Int64) (MSav : Nat) (k : Int32) : zf_X9_lift MNow MPast MSav k = (if (zf_X9_within k.toInt64 (0 : Int64) (((nI (zc (MNow 9))) - (1 : Int32)).toInt64)) = true then (((MNow ((10 + (3 * (zi k))) + 2)).toInt32), (zf_X9_refused_0), (zl_X9_lift_69 k ((10 + (3 * (zc (MNow 9) - 1))) - (10 + (3 * (zi k)))) 0 (vp_updL MNow 9 ((MNow 9) - (1 : Int64)))), ((zf_X9_saves MNow MPast MSav).1), ((zf_X9_saves MNow MPast MSav).2)) else ((0 : Int32), (zf_X9_refused_1), MNow, MPast, MSav)) := rfl
set_option maxHeartbeats 4000000 in
set_option maxRecDepth 100000 in
theorem zc_X9_lift (l : Launch) (g : zG) (B : Nat) (md : Nat → Nat) (MNow : Nat → Int64) (MPast : Nat → Int64) (MSav : Nat) (MRef : Int32) (MThen : Nat → Int64) (MLev : Nat → Int64) (MFst : Int32) (MWay : Nat → Int64) (MMost : Nat → Int32) (MHash : Int64) (k : Int32) (hN : zNow MNow) (hs : MSav ≤ 4) : zMet l g B yX9_lift cX9_lift 4 (some .int) 3 140 0 0 [.ref (md 0), .int k] [wMod g md MNow MPast MSav MRef MThen MLev MFst MWay MMost MHash] (zDet (some (.int ((zf_X9_lift MNow MPast MSav k).1))) [wMod g md ((zf_X9_lift MNow MPast MSav k).2.2.1) ((zf_X9_lift MNow MPast MSav k).2.2.2.1) ((zf_X9_lift MNow MPast MSav k).2.2.2.2) ((zf_X9_lift MNow MPast MSav k).2.1) MThen MLev MFst MWay MMost MHash]) := by
  refine z_in (plainFor_of_name (by decide)) (Nat.le_of_ble_eq_true rfl) (fun p e R s m args below meth c A Q hRf hRl hRc hRs X Z hnm E ls hl => ?_)
  have hx := X.1
  have hb := X.2.1
  have hown := X.2.2.2.1
  have hts := X.2.2.2.2.1
  have hl : lv_has ls 4 [(0, .ref (md 0)), (1, .int k)] := hl
  have hN2 := hN; obtain ⟨he9, hb9, he34, hb34, he43, hb43, he284, hb284, he301, hb301⟩ := hN2
  refine lv_aload_n hx hb dX9_lift_0 rfl (lv_at hl 0 rfl) ?_
  refine lv_iload_n hx hb dX9_lift_1 rfl (lv_at hl 1 rfl) ?_
  refine lv_i2l hx hb dX9_lift_2 rfl ?_
  refine lv_lconst (v := (0 : Int64)) hx hb dX9_lift_3 (by decide) ?_
  refine lv_aload_n hx hb dX9_lift_4 rfl (lv_at hl 0 rfl) ?_
  refine lv_bipush (v := (9 : Int32)) hx hb dX9_lift_5 (by decide) ?_
  refine z_callV (mc := 0) (ms := 0) (As := [.int (9 : Int32)]) (rest := [.long (0 : Int64), .long k.toInt64, .ref (md 0)]) (st2 := [.int (nI (zc (MNow 9))), .long (0 : Int64), .long k.toInt64, .ref (md 0)]) (cs2 := [wMod g md MNow MPast MSav MRef MThen MLev MFst MWay MMost MHash]) X Z [0] [] [0] 0 7 (zc_X9_many l g B md MNow MPast MSav MRef MThen MLev MFst MWay MMost MHash 9 (zc (MNow 9)) (by first | assumption | omega | decide) (by first | assumption | omega | decide)) wM_X9_66 wS_X9_many wV_X9_many wK_X9_many wZ_X9 1 1 1 rfl (by decide +kernel) rfl (by decide) rfl rfl rfl (by decide) rfl rfl (rfl : zCl[7]? = some (RX9, TX9, 10)) hl.1 rfl rfl (by rw [hRf, hRl]; exact ⟨Nat.le_of_ble_eq_true rfl, Nat.le_of_ble_eq_true rfl⟩) (Nat.le_of_ble_eq_true rfl) ⟨Nat.zero_le _, Nat.zero_le _⟩ dX9_lift_7 (fun H locs Z => ?_)
  refine lv_iconst (v := (1 : Int32)) hx hb dX9_lift_10 (by decide) ?_
  refine lv_isub hx hb dX9_lift_11 ?_
  refine lv_i2l hx hb dX9_lift_12 rfl ?_
  refine z_callS (mc := 0) (ms := 0) (As := [.long k.toInt64, .long (0 : Int64), .long (((nI (zc (MNow 9))) - (1 : Int32)).toInt64)]) (rest := [.ref (md 0)]) (st2 := [.int (zB (zf_X9_within k.toInt64 (0 : Int64) (((nI (zc (MNow 9))) - (1 : Int32)).toInt64))), .ref (md 0)]) (cs2 := [wMod g md MNow MPast MSav MRef MThen MLev MFst MWay MMost MHash]) X Z [] [0] [0] (zc_X9_within l g B k.toInt64 (0 : Int64) (((nI (zc (MNow 9))) - (1 : Int32)).toInt64)) wM_X9_44 wS_X9_within wK_X9_within wZ_X9 3 1 1 rfl (by decide +kernel) rfl (by decide) rfl rfl rfl (by decide) rfl hl.1 rfl rfl (by rw [hRf, hRl]; exact ⟨Nat.le_of_ble_eq_true rfl, Nat.le_of_ble_eq_true rfl⟩) (Nat.le_of_ble_eq_true rfl) ⟨Nat.zero_le _, Nat.zero_le _⟩ dX9_lift_13 (fun H locs Z => ?_)
  refine z_ifeqB (b := (zf_X9_within k.toInt64 (0 : Int64) (((nI (zc (MNow 9))) - (1 : Int32)).toInt64))) (tgt := 23) X dX9_lift_16 (by decide) (fun c_1 => ?_) (fun c_1 => ?_)
  · refine lv_iconst (v := (1 : Int32)) hx hb dX9_lift_23 (by decide) ?_
    refine z_callV (mc := 0) (ms := 0) (As := [.int (1 : Int32)]) (rest := []) (st2 := [.int (1 : Int32)]) (cs2 := [wMod g md MNow MPast MSav (zf_X9_refused_1) MThen MLev MFst MWay MMost MHash]) X Z [0] [] [0] 0 7 (zc_X9_refused_1 l g B md MNow MPast MSav MRef MThen MLev MFst MWay MMost MHash) wM_X9_55 wS_X9_refused wV_X9_refused wK_X9_refused wZ_X9 1 1 1 rfl (by decide +kernel) rfl (by decide) rfl rfl rfl (by decide) rfl rfl (rfl : zCl[7]? = some (RX9, TX9, 10)) hl.1 rfl rfl (by rw [hRf, hRl]; exact ⟨Nat.le_of_ble_eq_true rfl, Nat.le_of_ble_eq_true rfl⟩) (Nat.le_of_ble_eq_true rfl) ⟨Nat.zero_le _, Nat.zero_le _⟩ dX9_lift_24 (fun H locs Z => ?_)
    refine lv_if_eq (tgt := 32) hx hb dX9_lift_27 (by decide) (fun c_2 => ?_) (fun c_2 => ?_)
    · (exact absurd c_2 (by decide))
    · refine lv_iconst (v := (0 : Int32)) hx hb dX9_lift_30 (by decide) ?_
      exact z_ri (v := (0 : Int32)) E Z rfl (by rw [zf_X9_lift_e, if_neg (zBf c_1)]; exact ⟨rfl, rfl⟩) dX9_lift_31 (Nat.zero_le _) (Nat.zero_le _)
  · refine lv_iconst (v := (0 : Int32)) hx hb dX9_lift_19 (by decide) ?_
    refine lv_goto (tgt := 24) hx hb dX9_lift_20 (by decide) ?_
    refine z_callV (mc := 0) (ms := 0) (As := [.int (0 : Int32)]) (rest := []) (st2 := [.int (0 : Int32)]) (cs2 := [wMod g md MNow MPast MSav (zf_X9_refused_0) MThen MLev MFst MWay MMost MHash]) X Z [0] [] [0] 0 7 (zc_X9_refused_0 l g B md MNow MPast MSav MRef MThen MLev MFst MWay MMost MHash) wM_X9_55 wS_X9_refused wV_X9_refused wK_X9_refused wZ_X9 1 1 1 rfl (by decide +kernel) rfl (by decide) rfl rfl rfl (by decide) rfl rfl (rfl : zCl[7]? = some (RX9, TX9, 10)) hl.1 rfl rfl (by rw [hRf, hRl]; exact ⟨Nat.le_of_ble_eq_true rfl, Nat.le_of_ble_eq_true rfl⟩) (Nat.le_of_ble_eq_true rfl) ⟨Nat.zero_le _, Nat.zero_le _⟩ dX9_lift_24 (fun H locs Z => ?_)
    refine lv_if_eq (tgt := 32) hx hb dX9_lift_27 (by decide) (fun c_3 => ?_) (fun c_3 => ?_)
    · obtain ⟨ek1, hk1⟩ := (zok_lt (by assumption) (by omega) : k = nI (zi k) ∧ _)
      have hl : lv_has ls 4 [(0, .ref (md 0)), (1, .int (nI (zi k)))] := by rw [← ek1]; exact hl
      refine lv_aload_n hx hb dX9_lift_32 rfl (lv_at hl 0 rfl) ?_
      refine z_callV (mc := 0) (ms := 0) (As := []) (rest := []) (st2 := []) (cs2 := [wMod g md MNow ((zf_X9_saves MNow MPast MSav).1) ((zf_X9_saves MNow MPast MSav).2) (zf_X9_refused_0) MThen MLev MFst MWay MMost MHash]) X Z [0] [] [0] 0 7 (zc_X9_saves l g B md MNow MPast MSav (zf_X9_refused_0) MThen MLev MFst MWay MMost MHash (by first | assumption | omega | decide)) wM_X9_87 wS_X9_saves wV_X9_saves wK_X9_saves wZ_X9 0 1 1 rfl (by decide +kernel) rfl (by decide) rfl rfl rfl (by decide) rfl rfl (rfl : zCl[7]? = some (RX9, TX9, 10)) hl.1 rfl rfl (by rw [hRf, hRl]; exact ⟨Nat.le_of_ble_eq_true rfl, Nat.le_of_ble_eq_true rfl⟩) (Nat.le_of_ble_eq_true rfl) ⟨Nat.zero_le _, Nat.zero_le _⟩ dX9_lift_33 (fun H locs Z => ?_)
      refine lv_aload_n hx hb dX9_lift_36 rfl (lv_at hl 0 rfl) ?_
      refine z_get X Z 0 rfl (rfl : zCl[7]? = some (RX9, TX9, 10)) zU_X9 0 (by decide) wF_X9_7 rfl rfl dX9_lift_37 ?_
      refine lv_bipush (v := (10 : Int32)) hx hb dX9_lift_40 (by decide) ?_
      refine lv_iconst (v := (3 : Int32)) hx hb dX9_lift_42 (by decide) ?_
      refine lv_iload_n hx hb dX9_lift_43 rfl (lv_at hl 1 rfl) ?_
      refine z_imul (a := 3) (b := (zi k)) X rfl rfl dX9_lift_44 ?_
      refine z_iadd (a := 10) (b := (3 * (zi k))) X rfl rfl dX9_lift_45 ?_
      refine lv_iconst (v := (2 : Int32)) hx hb dX9_lift_46 (by decide) ?_
      refine z_iadd (a := (10 + (3 * (zi k)))) (b := 2) X rfl rfl dX9_lift_47 ?_
      refine z_lald (j := ((10 + (3 * (zi k))) + 2)) X Z 1 rfl rfl (by omega) (by decide) dX9_lift_48 ?_
      refine lv_l2i hx hb dX9_lift_49 rfl ?_
      refine lv_istore_n (lv' := [(2, .int ((MNow ((10 + (3 * (zi k))) + 2)).toInt32)), (0, .ref (md 0)), (1, .int (nI (zi k)))]) hx hb dX9_lift_50 rfl hl (by decide) rfl (fun ls hl => ?_)
      refine lv_aload_n hx hb dX9_lift_51 rfl (lv_at hl 1 rfl) ?_
      refine z_get X Z 0 rfl (rfl : zCl[7]? = some (RX9, TX9, 10)) zU_X9 0 (by decide) wF_X9_7 rfl rfl dX9_lift_52 ?_
      refine lv_bipush (v := (9 : Int32)) hx hb dX9_lift_55 (by decide) ?_
      refine lv_dup2_11 hx hb dX9_lift_57 rfl rfl ?_
      refine z_lald (j := 9) X Z 1 rfl rfl (by omega) (by decide) dX9_lift_58 ?_
      refine lv_lconst (v := (1 : Int64)) hx hb dX9_lift_59 (by decide) ?_
      refine lv_lsub hx hb dX9_lift_60 ?_
      refine z_last (cs2 := [wMod g md (vp_updL MNow 9 ((MNow 9) - (1 : Int64))) ((zf_X9_saves MNow MPast MSav).1) ((zf_X9_saves MNow MPast MSav).2) (zf_X9_refused_0) MThen MLev MFst MWay MMost MHash]) (j := 9) (x := ((MNow 9) - (1 : Int64))) X Z 1 rfl rfl (by omega) (by decide) rfl dX9_lift_61 (fun H locs Z => ?_)
      refine lv_bipush (v := (10 : Int32)) hx hb dX9_lift_62 (by decide) ?_
      refine lv_iconst (v := (3 : Int32)) hx hb dX9_lift_64 (by decide) ?_
      refine lv_iload_n hx hb dX9_lift_65 rfl (lv_at hl 2 rfl) ?_
      refine z_imul (a := 3) (b := (zi k)) X rfl rfl dX9_lift_66 ?_
      refine z_iadd (a := 10) (b := (3 * (zi k))) X rfl rfl dX9_lift_67 ?_
      refine lv_istore_n (lv' := [(3, .int (nI (10 + (3 * (zi k))))), (2, .int ((MNow ((10 + (3 * (zi k))) + 2)).toInt32)), (0, .ref (md 0)), (1, .int (nI (zi k)))]) hx hb dX9_lift_68 rfl hl (by decide) rfl (fun ls hl => ?_)
      have loop_69 : ∀ (n69 j69 : Nat) (v1 : Nat → Int64), j69 + n69 = ((10 + (3 * (zc (MNow 9) - 1))) - (10 + (3 * (zi k)))) → zl_X9_lift_69 k n69 j69 v1 = (zl_X9_lift_69 k ((10 + (3 * (zc (MNow 9) - 1))) - (10 + (3 * (zi k)))) 0 (vp_updL MNow 9 ((MNow 9) - (1 : Int64)))) → (v1 9 = lN (zc (MNow 9) - 1)) → ∀ (H : Heap) (locs : List Loc), zM g B A s [wMod g md v1 ((zf_X9_saves MNow MPast MSav).1) ((zf_X9_saves MNow MPast MSav).2) (zf_X9_refused_0) MThen MLev MFst MWay MMost MHash] H locs → ∀ ls : Array Slot, lv_has ls 4 [(3, .int (nI ((10 + (3 * (zi k))) + j69))), (2, .int ((MNow ((10 + (3 * (zi k))) + 2)).toInt32)), (0, .ref (md 0)), (1, .int (nI (zi k)))] → W p l e R s m args below meth c H locs 0 0 Q (F0 m 69 ls []) := by
        intro n69
        induction n69 with
        | zero =>
          intro j69 v1 hin69 hR69 i1 H locs Z ls hl
          have e_v1 : v1 = (zl_X9_lift_69 k ((10 + (3 * (zc (MNow 9) - 1))) - (10 + (3 * (zi k)))) 0 (vp_updL MNow 9 ((MNow 9) - (1 : Int64)))) := hR69
          subst e_v1
          refine lv_iload_n hx hb dX9_lift_69 rfl (lv_at hl 0 rfl) ?_
          refine lv_bipush (v := (10 : Int32)) hx hb dX9_lift_70 (by decide) ?_
          refine lv_iconst (v := (3 : Int32)) hx hb dX9_lift_72 (by decide) ?_
          refine lv_aload_n hx hb dX9_lift_73 rfl (lv_at hl 2 rfl) ?_
          refine lv_bipush (v := (9 : Int32)) hx hb dX9_lift_74 (by decide) ?_
          refine z_callV (mc := 0) (ms := 0) (As := [.int (9 : Int32)]) (rest := [.int (3 : Int32), .int (10 : Int32), .int (nI ((10 + (3 * (zi k))) + j69))]) (st2 := [.int (nI (zc (MNow 9) - 1)), .int (3 : Int32), .int (10 : Int32), .int (nI ((10 + (3 * (zi k))) + j69))]) (cs2 := [wMod g md (zl_X9_lift_69 k ((10 + (3 * (zc (MNow 9) - 1))) - (10 + (3 * (zi k)))) 0 (vp_updL MNow 9 ((MNow 9) - (1 : Int64)))) ((zf_X9_saves MNow MPast MSav).1) ((zf_X9_saves MNow MPast MSav).2) (zf_X9_refused_0) MThen MLev MFst MWay MMost MHash]) X Z [0] [] [0] 0 7 (zc_X9_many l g B md (zl_X9_lift_69 k ((10 + (3 * (zc (MNow 9) - 1))) - (10 + (3 * (zi k)))) 0 (vp_updL MNow 9 ((MNow 9) - (1 : Int64)))) ((zf_X9_saves MNow MPast MSav).1) ((zf_X9_saves MNow MPast MSav).2) (zf_X9_refused_0) MThen MLev MFst MWay MMost MHash 9 (zc (MNow 9) - 1) (by first | assumption | omega | decide) i1) wM_X9_66 wS_X9_many wV_X9_many wK_X9_many wZ_X9 1 1 1 rfl (by decide +kernel) rfl (by decide) rfl rfl rfl (by decide) rfl rfl (rfl : zCl[7]? = some (RX9, TX9, 10)) hl.1 rfl rfl (by rw [hRf, hRl]; exact ⟨Nat.le_of_ble_eq_true rfl, Nat.le_of_ble_eq_true rfl⟩) (Nat.le_of_ble_eq_true rfl) ⟨Nat.zero_le _, Nat.zero_le _⟩ dX9_lift_76 (fun H locs Z => ?_)
          refine z_imul (a := 3) (b := (zc (MNow 9) - 1)) X rfl rfl dX9_lift_79 ?_
          refine z_iadd (a := 10) (b := (3 * (zc (MNow 9) - 1))) X rfl rfl dX9_lift_80 ?_
          refine z_icmp_ge (a := ((10 + (3 * (zi k))) + j69)) (b := (10 + (3 * (zc (MNow 9) - 1)))) (tgt := 104) X rfl rfl (by omega) (by omega) dX9_lift_81 (by decide) (fun c_4 => ?_) (fun c_4 => ?_)
          · refine lv_iload_n hx hb dX9_lift_104 rfl (lv_at hl 1 rfl) ?_
            exact z_ri (v := ((MNow ((10 + (3 * (zi k))) + 2)).toInt32)) E Z rfl (by rw [zf_X9_lift_e, if_pos c_1]; exact ⟨rfl, rfl⟩) dX9_lift_105 (Nat.zero_le _) (Nat.zero_le _)
          · (exfalso; omega)
        | succ n69 ih69 =>
          intro j69 v1 hin69 hR69 i1 H locs Z ls hl
          refine lv_iload_n hx hb dX9_lift_69 rfl (lv_at hl 0 rfl) ?_
          refine lv_bipush (v := (10 : Int32)) hx hb dX9_lift_70 (by decide) ?_
          refine lv_iconst (v := (3 : Int32)) hx hb dX9_lift_72 (by decide) ?_
          refine lv_aload_n hx hb dX9_lift_73 rfl (lv_at hl 2 rfl) ?_
          refine lv_bipush (v := (9 : Int32)) hx hb dX9_lift_74 (by decide) ?_
          refine z_callV (mc := 0) (ms := 0) (As := [.int (9 : Int32)]) (rest := [.int (3 : Int32), .int (10 : Int32), .int (nI ((10 + (3 * (zi k))) + j69))]) (st2 := [.int (nI (zc (MNow 9) - 1)), .int (3 : Int32), .int (10 : Int32), .int (nI ((10 + (3 * (zi k))) + j69))]) (cs2 := [wMod g md v1 ((zf_X9_saves MNow MPast MSav).1) ((zf_X9_saves MNow MPast MSav).2) (zf_X9_refused_0) MThen MLev MFst MWay MMost MHash]) X Z [0] [] [0] 0 7 (zc_X9_many l g B md v1 ((zf_X9_saves MNow MPast MSav).1) ((zf_X9_saves MNow MPast MSav).2) (zf_X9_refused_0) MThen MLev MFst MWay MMost MHash 9 (zc (MNow 9) - 1) (by first | assumption | omega | decide) i1) wM_X9_66 wS_X9_many wV_X9_many wK_X9_many wZ_X9 1 1 1 rfl (by decide +kernel) rfl (by decide) rfl rfl rfl (by decide) rfl rfl (rfl : zCl[7]? = some (RX9, TX9, 10)) hl.1 rfl rfl (by rw [hRf, hRl]; exact ⟨Nat.le_of_ble_eq_true rfl, Nat.le_of_ble_eq_true rfl⟩) (Nat.le_of_ble_eq_true rfl) ⟨Nat.zero_le _, Nat.zero_le _⟩ dX9_lift_76 (fun H locs Z => ?_)
          refine z_imul (a := 3) (b := (zc (MNow 9) - 1)) X rfl rfl dX9_lift_79 ?_
          refine z_iadd (a := 10) (b := (3 * (zc (MNow 9) - 1))) X rfl rfl dX9_lift_80 ?_
          refine z_icmp_ge (a := ((10 + (3 * (zi k))) + j69)) (b := (10 + (3 * (zc (MNow 9) - 1)))) (tgt := 104) X rfl rfl (by omega) (by omega) dX9_lift_81 (by decide) (fun c_5 => ?_) (fun c_5 => ?_)
          · (exfalso; omega)
          · refine lv_aload_n hx hb dX9_lift_84 rfl (lv_at hl 2 rfl) ?_
            refine z_get X Z 0 rfl (rfl : zCl[7]? = some (RX9, TX9, 10)) zU_X9 0 (by decide) wF_X9_7 rfl rfl dX9_lift_85 ?_
            refine lv_iload_n hx hb dX9_lift_88 rfl (lv_at hl 0 rfl) ?_
            refine lv_aload_n hx hb dX9_lift_89 rfl (lv_at hl 2 rfl) ?_
            refine z_get X Z 0 rfl (rfl : zCl[7]? = some (RX9, TX9, 10)) zU_X9 0 (by decide) wF_X9_7 rfl rfl dX9_lift_90 ?_
            refine lv_iload_n hx hb dX9_lift_93 rfl (lv_at hl 0 rfl) ?_
            refine lv_iconst (v := (3 : Int32)) hx hb dX9_lift_94 (by decide) ?_
            refine z_iadd (a := ((10 + (3 * (zi k))) + j69)) (b := 3) X rfl rfl dX9_lift_95 ?_
            refine z_lald (j := (((10 + (3 * (zi k))) + j69) + 3)) X Z 1 rfl rfl (by omega) (by decide) dX9_lift_96 ?_
            refine z_last (cs2 := [wMod g md (vp_updL v1 ((10 + (3 * (zi k))) + j69) (v1 (((10 + (3 * (zi k))) + j69) + 3))) ((zf_X9_saves MNow MPast MSav).1) ((zf_X9_saves MNow MPast MSav).2) (zf_X9_refused_0) MThen MLev MFst MWay MMost MHash]) (j := ((10 + (3 * (zi k))) + j69)) (x := (v1 (((10 + (3 * (zi k))) + j69) + 3))) X Z 1 rfl rfl (by omega) (by decide) rfl dX9_lift_97 (fun H locs Z => ?_)
            refine z_iinc (b := ((10 + (3 * (zi k))) + (j69 + 1))) (st := 1) (lv' := [(3, .int (nI ((10 + (3 * (zi k))) + (j69 + 1)))), (2, .int ((MNow ((10 + (3 * (zi k))) + 2)).toInt32)), (0, .ref (md 0)), (1, .int (nI (zi k)))]) X dX9_lift_98 hl (k := 0) rfl rfl (by decide) (by omega) (by decide) rfl (fun ls hl => ?_)
            refine lv_goto (tgt := 69) hx hb dX9_lift_101 (by decide) ?_
            exact ih69 (j69 + 1) (vp_updL v1 ((10 + (3 * (zi k))) + j69) (v1 (((10 + (3 * (zi k))) + j69) + 3))) (by omega) (by have h9 := hR69; rw [zl_X9_lift_69_s] at h9; exact h9) ((zuL_ne (by omega)).trans i1) _ _ Z ls (lv_sub hl [0, 1, 2, 3] rfl)
      exact loop_69 ((10 + (3 * (zc (MNow 9) - 1))) - (10 + (3 * (zi k)))) 0 (vp_updL MNow 9 ((MNow 9) - (1 : Int64))) (by omega) rfl (zmanym (n := zc (MNow 9)) he9 (by omega)) _ _ Z ls (lv_sub hl [0, 1, 2, 3] rfl)
    · (exact absurd c_3 (by decide))
