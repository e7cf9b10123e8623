theorem zdiv_ne (x y : Int64) (hx : ¬ x = -9223372036854775808) (hy : ¬ y = -9223372036854775808) : ¬ zf_X9_divisor x y = -9223372036854775808 := by
  have key : ∀ (n : Nat) (a b : Int64), 0 ≤ a → 0 ≤ b → 0 ≤ (zl_X9_divisor_28 n a b).1 := by
    intro n
    induction n with
    | zero => intro a b ha hb; exact ha
    | succ n ih =>
      intro a b ha hb
      rw [zl_X9_divisor_28_s]
      split
      · exact ha
      · exact ih _ _ hb (zgl ha hb (by assumption)).1
  have fin : ∀ z : Int64, 0 ≤ z → ¬ z = -9223372036854775808 := fun z h q => by rw [q] at h; exact absurd h (by decide)
  apply fin
  rw [zf_X9_divisor_e]
  split <;> split
  · exact key _ _ _ (by assumption) (by assumption)
  · exact key _ _ _ (by assumption) (zneg_nn hy (by assumption))
  · exact key _ _ _ (zneg_nn hx (by assumption)) (by assumption)
  · exact key _ _ _ (zneg_nn hx (by assumption)) (zneg_nn hy (by assumption))
theorem zk13 {k : Int32} (h : zf_X9_within k.toInt64 (1 : Int64) (3 : Int64) = true) (h1 : ¬ k = 1) (h2 : ¬ k = 2) (h3 : ¬ k = 3) : False := by
  obtain ⟨e, a, b⟩ := zok_w2 (u := 1) (v := 3) rfl rfl h (by decide) (by decide)
  have : zi k = 1 ∨ zi k = 2 ∨ zi k = 3 := by omega
  rcases this with q | q | q <;> rw [q] at e
  · exact h1 e
  · exact h2 e
  · exact h3 e
theorem zk03 {k : Int32} (h : zf_X9_within k.toInt64 (0 : Int64) (3 : Int64) = true) (h0 : ¬ k = 0) (h1 : ¬ k = 1) (h2 : ¬ k = 2) (h3 : ¬ k = 3) : False := by
  obtain ⟨e, a, b⟩ := zok_w2 (u := 0) (v := 3) rfl rfl h (by decide) (by decide)
  have : zi k = 0 ∨ zi k = 1 ∨ zi k = 2 ∨ zi k = 3 := by omega
  rcases this with q | q | q | q <;> rw [q] at e
  · exact h0 e
  · exact h1 e
  · exact h2 e
  · exact h3 e
def zl_X9_laysThen_5 (MNow : Nat → Int64) (t : Nat) (k : Nat) : Nat → Nat → Int64 → (Nat → Int64) → Int64 × (Nat → Int64)
  | 0, _, x3, v1 => (x3, v1)
  | n5 + 1, j5, x3, v1 => zl_X9_laysThen_5 MNow t k n5 (j5 + 1) (zf_X9_divisor x3 ((vp_updL v1 j5 ((MNow (35 + j5)) * (MNow ((44 + 3 * (8 * t + j5)) + k)))) j5)) (vp_updL v1 j5 ((MNow (35 + j5)) * (MNow ((44 + 3 * (8 * t + j5)) + k))))
def zl_X9_laysThen_68 (MNow : Nat → Int64) (MThen : Nat → Int64) (t : Nat) (k : Nat) : Nat → Nat → Int64 → (Nat → Int64) → Int64 × (Nat → Int64)
  | 0, _, x5, v2 => (x5, v2)
  | n68 + 1, j68, x5, v2 => (if ((zl_X9_laysThen_5 MNow t k 8 0 (0 : Int64) MThen).1) = (0 : Int64) then (if ((vp_updL v2 j68 (0 : Int64)) j68) ≤ x5 then zl_X9_laysThen_68 MNow MThen t k n68 (j68 + 1) x5 (vp_updL v2 j68 (0 : Int64)) else zl_X9_laysThen_68 MNow MThen t k n68 (j68 + 1) ((vp_updL v2 j68 (0 : Int64)) j68) (vp_updL v2 j68 (0 : Int64))) else (if ((vp_updL v2 j68 ((v2 j68) / ((zl_X9_laysThen_5 MNow t k 8 0 (0 : Int64) MThen).1))) j68) ≤ x5 then zl_X9_laysThen_68 MNow MThen t k n68 (j68 + 1) x5 (vp_updL v2 j68 ((v2 j68) / ((zl_X9_laysThen_5 MNow t k 8 0 (0 : Int64) MThen).1))) else zl_X9_laysThen_68 MNow MThen t k n68 (j68 + 1) ((vp_updL v2 j68 ((v2 j68) / ((zl_X9_laysThen_5 MNow t k 8 0 (0 : Int64) MThen).1))) j68) (vp_updL v2 j68 ((v2 j68) / ((zl_X9_laysThen_5 MNow t k 8 0 (0 : Int64) MThen).1)))))
theorem zl_X9_laysThen_68_s (MNow : Nat → Int64) (MThen : Nat → Int64) (t : Nat) (k : Nat) (n68 : Nat) (j68 : Nat) (x5 : Int64) (v2 : Nat → Int64) : zl_X9_laysThen_68 MNow MThen t k (n68 + 1) j68 x5 v2 = (if ((zl_X9_laysThen_5 MNow t k 8 0 (0 : Int64) MThen).1) = (0 : Int64) then (if ((vp_updL v2 j68 (0 : Int64)) j68) ≤ x5 then zl_X9_laysThen_68 MNow MThen t k n68 (j68 + 1) x5 (vp_updL v2 j68 (0 : Int64)) else zl_X9_laysThen_68 MNow MThen t k n68 (j68 + 1) ((vp_updL v2 j68 (0 : Int64)) j68) (vp_updL v2 j68 (0 : Int64))) else (if ((vp_updL v2 j68 ((v2 j68) / ((zl_X9_laysThen_5 MNow t k 8 0 (0 : Int64) MThen).1))) j68) ≤ x5 then zl_X9_laysThen_68 MNow MThen t k n68 (j68 + 1) x5 (vp_updL v2 j68 ((v2 j68) / ((zl_X9_laysThen_5 MNow t k 8 0 (0 : Int64) MThen).1))) else zl_X9_laysThen_68 MNow MThen t k n68 (j68 + 1) ((vp_updL v2 j68 ((v2 j68) / ((zl_X9_laysThen_5 MNow t k 8 0 (0 : Int64) MThen).1))) j68) (vp_updL v2 j68 ((v2 j68) / ((zl_X9_laysThen_5 MNow t k 8 0 (0 : Int64) MThen).1))))) := rfl
theorem zl_X9_laysThen_5_s (MNow : Nat → Int64) (t : Nat) (k : Nat) (n5 : Nat) (j5 : Nat) (x3 : Int64) (v1 : Nat → Int64) : zl_X9_laysThen_5 MNow t k (n5 + 1) j5 x3 v1 = zl_X9_laysThen_5 MNow t k n5 (j5 + 1) (zf_X9_divisor x3 ((vp_updL v1 j5 ((MNow (35 + j5)) * (MNow ((44 + 3 * (8 * t + j5)) + k)))) j5)) (vp_updL v1 j5 ((MNow (35 + j5)) * (MNow ((44 + 3 * (8 * t + j5)) + k)))) := rfl
def zf_X9_laysThen (MNow : Nat → Int64) (MThen : Nat → Int64) (t : Nat) (k : Nat) : Int64 × (Nat → Int64) := (((zl_X9_laysThen_68 MNow MThen t k 8 0 (0 : Int64) ((zl_X9_laysThen_5 MNow t k 8 0 (0 : Int64) MThen).2)).1), ((zl_X9_laysThen_68 MNow MThen t k 8 0 (0 : Int64) ((zl_X9_laysThen_5 MNow t k 8 0 (0 : Int64) MThen).2)).2))
theorem zf_X9_laysThen_e (MNow : Nat → Int64) (MThen : Nat → Int64) (t : Nat) (k : Nat) : zf_X9_laysThen MNow MThen t k = (((zl_X9_laysThen_68 MNow MThen t k 8 0 (0 : Int64) ((zl_X9_laysThen_5 MNow t k 8 0 (0 : Int64) MThen).2)).1), ((zl_X9_laysThen_68 MNow MThen t k 8 0 (0 : Int64) ((zl_X9_laysThen_5 MNow t k 8 0 (0 : Int64) MThen).2)).2)) := rfl
set_option maxHeartbeats 4000000 in
set_option maxRecDepth 100000 in
theorem zc_X9_laysThen (l : Launch) (g : zG) (B : Nat) (md : Nat → Nat) (MNow : Nat → Int64) (MPast : Nat → Int64) (MSav : Nat) (MRef : Int32) (MThen : Nat → Int64) (MLev : Nat → Int64) (MFst : Int32) (MWay : Nat → Int64) (MMost : Nat → Int32) (MHash : Int64) (t : Nat) (k : Nat) (ht : t < 10) (hk : k < 3) (hw : ∀ j, j < 8 → zNM ((MNow (35 + j)) * (MNow ((44 + 3 * (8 * t + j)) + k)))) : zMet l g B yX9_laysThen cX9_laysThen 8 (some .long) 3 100 0 0 [.ref (md 0), .int (nI t), .int (nI k)] [wMod g md MNow MPast MSav MRef MThen MLev MFst MWay MMost MHash] (zDet (some (.long ((zf_X9_laysThen MNow MThen t k).1))) [wMod g md MNow MPast MSav MRef ((zf_X9_laysThen MNow MThen t k).2) MLev MFst MWay MMost MHash]) := by
  refine z_in (plainFor_of_name (by decide)) (Nat.le_of_ble_eq_true rfl) (fun p e R s m args below meth c A Q hRf hRl hRc hRs X Z hnm E ls hl => ?_)
  have hx := X.1
  have hb := X.2.1
  have hown := X.2.2.2.1
  have hts := X.2.2.2.2.1
  have hl : lv_has ls 8 [(0, .ref (md 0)), (1, .int (nI t)), (2, .int (nI k))] := hl
  refine lv_lconst (v := (0 : Int64)) hx hb dX9_laysThen_0 (by decide) ?_
  refine lv_lstore_n (lv' := [(3, .long (0 : Int64)), (0, .ref (md 0)), (1, .int (nI t)), (2, .int (nI k))]) hx hb dX9_laysThen_1 rfl hl (by decide) rfl (fun ls hl => ?_)
  refine lv_iconst (v := (0 : Int32)) hx hb dX9_laysThen_2 (by decide) ?_
  refine lv_istore (lv' := [(5, .int (0 : Int32)), (3, .long (0 : Int64)), (0, .ref (md 0)), (1, .int (nI t)), (2, .int (nI k))]) hx hb dX9_laysThen_3 hl (by decide) rfl (fun ls hl => ?_)
  have loop_5 : ∀ (n5 j5 : Nat) (x3 : Int64) (v1 : Nat → Int64), j5 + n5 = 8 → zl_X9_laysThen_5 MNow t k n5 j5 x3 v1 = (zl_X9_laysThen_5 MNow t k 8 0 (0 : Int64) MThen) → (zNM x3) → ∀ (H : Heap) (locs : List Loc), zM g B A s [wMod g md MNow MPast MSav MRef v1 MLev MFst MWay MMost MHash] H locs → ∀ ls : Array Slot, lv_has ls 8 [(5, .int (nI j5)), (3, .long x3), (0, .ref (md 0)), (1, .int (nI t)), (2, .int (nI k))] → W p l e R s m args below meth c H locs 0 0 Q (F0 m 5 ls []) := by
    intro n5
    induction n5 with
    | zero =>
      intro j5 x3 v1 hin5 hR5 i1 H locs Z ls hl
      have e_x3 : (zl_X9_laysThen_5 MNow t k 8 0 (0 : Int64) MThen).1 = x3 := (by rw [← hR5]; rfl)
      have e_v1 : (zl_X9_laysThen_5 MNow t k 8 0 (0 : Int64) MThen).2 = v1 := (by rw [← hR5]; rfl)
      subst e_x3
      subst e_v1
      refine lv_iload hx hb dX9_laysThen_5 (lv_at hl 0 rfl) ?_
      refine lv_bipush (v := (8 : Int32)) hx hb dX9_laysThen_7 (by decide) ?_
      refine z_icmp_ge (a := j5) (b := 8) (tgt := 62) X rfl rfl (by omega) (by omega) dX9_laysThen_9 (by decide) (fun c_1 => ?_) (fun c_1 => ?_)
      · refine lv_lconst (v := (0 : Int64)) hx hb dX9_laysThen_62 (by decide) ?_
        refine lv_lstore (lv' := [(5, .long (0 : Int64)), (3, .long ((zl_X9_laysThen_5 MNow t k 8 0 (0 : Int64) MThen).1)), (0, .ref (md 0)), (1, .int (nI t)), (2, .int (nI k))]) hx hb dX9_laysThen_63 hl (by decide) rfl (fun ls hl => ?_)
        refine lv_iconst (v := (0 : Int32)) hx hb dX9_laysThen_65 (by decide) ?_
        refine lv_istore (lv' := [(7, .int (0 : Int32)), (5, .long (0 : Int64)), (3, .long ((zl_X9_laysThen_5 MNow t k 8 0 (0 : Int64) MThen).1)), (0, .ref (md 0)), (1, .int (nI t)), (2, .int (nI k))]) hx hb dX9_laysThen_66 hl (by decide) rfl (fun ls hl => ?_)
        have loop_68 : ∀ (n68 j68 : Nat) (x5 : Int64) (v2 : Nat → Int64), j68 + n68 = 8 → zl_X9_laysThen_68 MNow MThen t k n68 j68 x5 v2 = (zl_X9_laysThen_68 MNow MThen t k 8 0 (0 : Int64) ((zl_X9_laysThen_5 MNow t k 8 0 (0 : Int64) MThen).2)) → ∀ (H : Heap) (locs : List Loc), zM g B A s [wMod g md MNow MPast MSav MRef v2 MLev MFst MWay MMost MHash] H locs → ∀ ls : Array Slot, lv_has ls 8 [(7, .int (nI j68)), (5, .long x5), (3, .long ((zl_X9_laysThen_5 MNow t k 8 0 (0 : Int64) MThen).1)), (0, .ref (md 0)), (1, .int (nI t)), (2, .int (nI k))] → W p l e R s m args below meth c H locs 0 0 Q (F0 m 68 ls []) := by
          intro n68
          induction n68 with
          | zero =>
            intro j68 x5 v2 hin68 hR68 H locs Z ls hl
            have e_x5 : (zl_X9_laysThen_68 MNow MThen t k 8 0 (0 : Int64) ((zl_X9_laysThen_5 MNow t k 8 0 (0 : Int64) MThen).2)).1 = x5 := (by rw [← hR68]; rfl)
            have e_v2 : (zl_X9_laysThen_68 MNow MThen t k 8 0 (0 : Int64) ((zl_X9_laysThen_5 MNow t k 8 0 (0 : Int64) MThen).2)).2 = v2 := (by rw [← hR68]; rfl)
            subst e_x5
            subst e_v2
            refine lv_iload hx hb dX9_laysThen_68 (lv_at hl 0 rfl) ?_
            refine lv_bipush (v := (8 : Int32)) hx hb dX9_laysThen_70 (by decide) ?_
            refine z_icmp_ge (a := j68) (b := 8) (tgt := 134) X rfl rfl (by omega) (by omega) dX9_laysThen_72 (by decide) (fun c_2 => ?_) (fun c_2 => ?_)
            · refine lv_lload hx hb dX9_laysThen_134 (lv_at hl 1 rfl) ?_
              exact z_rl (v := ((zl_X9_laysThen_68 MNow MThen t k 8 0 (0 : Int64) ((zl_X9_laysThen_5 MNow t k 8 0 (0 : Int64) MThen).2)).1)) E Z (by rw [zf_X9_laysThen_e]; dsimp only; exact ⟨rfl, rfl⟩) dX9_laysThen_136 (Nat.zero_le _) (Nat.zero_le _)
            · (exfalso; omega)
          | succ n68 ih68 =>
            intro j68 x5 v2 hin68 hR68 H locs Z ls hl
            refine lv_iload hx hb dX9_laysThen_68 (lv_at hl 0 rfl) ?_
            refine lv_bipush (v := (8 : Int32)) hx hb dX9_laysThen_70 (by decide) ?_
            refine z_icmp_ge (a := j68) (b := 8) (tgt := 134) X rfl rfl (by omega) (by omega) dX9_laysThen_72 (by decide) (fun c_3 => ?_) (fun c_3 => ?_)
            · (exfalso; omega)
            · refine lv_aload_n hx hb dX9_laysThen_75 rfl (lv_at hl 3 rfl) ?_
              refine z_get X Z 0 rfl (rfl : zCl[7]? = some (RX9, TX9, 10)) zU_X9 4 (by decide) wF_X9_16 rfl rfl dX9_laysThen_76 ?_
              refine lv_iload hx hb dX9_laysThen_79 (lv_at hl 0 rfl) ?_
              refine lv_lload_n hx hb dX9_laysThen_81 rfl (lv_at hl 2 rfl) ?_
              refine lv_lconst (v := (0 : Int64)) hx hb dX9_laysThen_82 (by decide) ?_
              refine z_lc_ne (tgt := 91) X dX9_laysThen_83 dX9_laysThen_84 (by decide) (fun c_4 => ?_) (fun c_4 => ?_)
              · refine lv_aload_n hx hb dX9_laysThen_91 rfl (lv_at hl 3 rfl) ?_
                refine z_get X Z 0 rfl (rfl : zCl[7]? = some (RX9, TX9, 10)) zU_X9 4 (by decide) wF_X9_16 rfl rfl dX9_laysThen_92 ?_
                refine lv_iload hx hb dX9_laysThen_95 (lv_at hl 0 rfl) ?_
                refine z_lald (j := j68) X Z 3 rfl rfl (by omega) (by decide) dX9_laysThen_97 ?_
                refine lv_lload_n hx hb dX9_laysThen_98 rfl (lv_at hl 2 rfl) ?_
                refine lv_ldiv hx hb dX9_laysThen_99 c_4 ?_
                refine z_last (cs2 := [wMod g md MNow MPast MSav MRef (vp_updL v2 j68 ((v2 j68) / ((zl_X9_laysThen_5 MNow t k 8 0 (0 : Int64) MThen).1))) MLev MFst MWay MMost MHash]) (j := j68) (x := ((v2 j68) / ((zl_X9_laysThen_5 MNow t k 8 0 (0 : Int64) MThen).1))) X Z 3 rfl rfl (by omega) (by decide) rfl dX9_laysThen_100 (fun H locs Z => ?_)
                refine lv_aload_n hx hb dX9_laysThen_101 rfl (lv_at hl 3 rfl) ?_
                refine z_get X Z 0 rfl (rfl : zCl[7]? = some (RX9, TX9, 10)) zU_X9 4 (by decide) wF_X9_16 rfl rfl dX9_laysThen_102 ?_
                refine lv_iload hx hb dX9_laysThen_105 (lv_at hl 0 rfl) ?_
                refine z_lald (j := j68) X Z 3 rfl rfl (by omega) (by decide) dX9_laysThen_107 ?_
                refine lv_lload hx hb dX9_laysThen_108 (lv_at hl 1 rfl) ?_
                refine z_lc_le (tgt := 124) X dX9_laysThen_110 dX9_laysThen_111 (by decide) (fun c_5 => ?_) (fun c_5 => ?_)
                · refine lv_lload hx hb dX9_laysThen_124 (lv_at hl 1 rfl) ?_
                  refine lv_lstore (lv' := [(5, .long x5), (7, .int (nI j68)), (3, .long ((zl_X9_laysThen_5 MNow t k 8 0 (0 : Int64) MThen).1)), (0, .ref (md 0)), (1, .int (nI t)), (2, .int (nI k))]) hx hb dX9_laysThen_126 hl (by decide) rfl (fun ls hl => ?_)
                  refine z_iinc (b := (j68 + 1)) (st := 1) (lv' := [(7, .int (nI (j68 + 1))), (5, .long x5), (3, .long ((zl_X9_laysThen_5 MNow t k 8 0 (0 : Int64) MThen).1)), (0, .ref (md 0)), (1, .int (nI t)), (2, .int (nI k))]) X dX9_laysThen_128 hl (k := 1) rfl rfl (by decide) (by omega) (by decide) rfl (fun ls hl => ?_)
                  refine lv_goto (tgt := 68) hx hb dX9_laysThen_131 (by decide) ?_
                  exact ih68 (j68 + 1) x5 (vp_updL v2 j68 ((v2 j68) / ((zl_X9_laysThen_5 MNow t k 8 0 (0 : Int64) MThen).1))) (by omega) (by have h9 := hR68; rw [zl_X9_laysThen_68_s, if_neg c_4, if_pos c_5] at h9; exact h9) _ _ Z ls (lv_sub hl [0, 1, 2, 3, 4, 5] rfl)
                · refine lv_aload_n hx hb dX9_laysThen_114 rfl (lv_at hl 3 rfl) ?_
                  refine z_get X Z 0 rfl (rfl : zCl[7]? = some (RX9, TX9, 10)) zU_X9 4 (by decide) wF_X9_16 rfl rfl dX9_laysThen_115 ?_
                  refine lv_iload hx hb dX9_laysThen_118 (lv_at hl 0 rfl) ?_
                  refine z_lald (j := j68) X Z 3 rfl rfl (by omega) (by decide) dX9_laysThen_120 ?_
                  refine lv_goto (tgt := 126) hx hb dX9_laysThen_121 (by decide) ?_
                  refine lv_lstore (lv' := [(5, .long ((vp_updL v2 j68 ((v2 j68) / ((zl_X9_laysThen_5 MNow t k 8 0 (0 : Int64) MThen).1))) j68)), (7, .int (nI j68)), (3, .long ((zl_X9_laysThen_5 MNow t k 8 0 (0 : Int64) MThen).1)), (0, .ref (md 0)), (1, .int (nI t)), (2, .int (nI k))]) hx hb dX9_laysThen_126 hl (by decide) rfl (fun ls hl => ?_)
                  refine z_iinc (b := (j68 + 1)) (st := 1) (lv' := [(7, .int (nI (j68 + 1))), (5, .long ((vp_updL v2 j68 ((v2 j68) / ((zl_X9_laysThen_5 MNow t k 8 0 (0 : Int64) MThen).1))) j68)), (3, .long ((zl_X9_laysThen_5 MNow t k 8 0 (0 : Int64) MThen).1)), (0, .ref (md 0)), (1, .int (nI t)), (2, .int (nI k))]) X dX9_laysThen_128 hl (k := 1) rfl rfl (by decide) (by omega) (by decide) rfl (fun ls hl => ?_)
                  refine lv_goto (tgt := 68) hx hb dX9_laysThen_131 (by decide) ?_
                  exact ih68 (j68 + 1) ((vp_updL v2 j68 ((v2 j68) / ((zl_X9_laysThen_5 MNow t k 8 0 (0 : Int64) MThen).1))) j68) (vp_updL v2 j68 ((v2 j68) / ((zl_X9_laysThen_5 MNow t k 8 0 (0 : Int64) MThen).1))) (by omega) (by have h9 := hR68; rw [zl_X9_laysThen_68_s, if_neg c_4, if_neg c_5] at h9; exact h9) _ _ Z ls (lv_sub hl [0, 1, 2, 3, 4, 5] rfl)
              · refine lv_lconst (v := (0 : Int64)) hx hb dX9_laysThen_87 (by decide) ?_
                refine lv_goto (tgt := 100) hx hb dX9_laysThen_88 (by decide) ?_
                refine z_last (cs2 := [wMod g md MNow MPast MSav MRef (vp_updL v2 j68 (0 : Int64)) MLev MFst MWay MMost MHash]) (j := j68) (x := (0 : Int64)) X Z 3 rfl rfl (by omega) (by decide) rfl dX9_laysThen_100 (fun H locs Z => ?_)
                refine lv_aload_n hx hb dX9_laysThen_101 rfl (lv_at hl 3 rfl) ?_
                refine z_get X Z 0 rfl (rfl : zCl[7]? = some (RX9, TX9, 10)) zU_X9 4 (by decide) wF_X9_16 rfl rfl dX9_laysThen_102 ?_
                refine lv_iload hx hb dX9_laysThen_105 (lv_at hl 0 rfl) ?_
                refine z_lald (j := j68) X Z 3 rfl rfl (by omega) (by decide) dX9_laysThen_107 ?_
                refine lv_lload hx hb dX9_laysThen_108 (lv_at hl 1 rfl) ?_
                refine z_lc_le (tgt := 124) X dX9_laysThen_110 dX9_laysThen_111 (by decide) (fun c_6 => ?_) (fun c_6 => ?_)
                · refine lv_lload hx hb dX9_laysThen_124 (lv_at hl 1 rfl) ?_
                  refine lv_lstore (lv' := [(5, .long x5), (7, .int (nI j68)), (3, .long ((zl_X9_laysThen_5 MNow t k 8 0 (0 : Int64) MThen).1)), (0, .ref (md 0)), (1, .int (nI t)), (2, .int (nI k))]) hx hb dX9_laysThen_126 hl (by decide) rfl (fun ls hl => ?_)
                  refine z_iinc (b := (j68 + 1)) (st := 1) (lv' := [(7, .int (nI (j68 + 1))), (5, .long x5), (3, .long ((zl_X9_laysThen_5 MNow t k 8 0 (0 : Int64) MThen).1)), (0, .ref (md 0)), (1, .int (nI t)), (2, .int (nI k))]) X dX9_laysThen_128 hl (k := 1) rfl rfl (by decide) (by omega) (by decide) rfl (fun ls hl => ?_)
                  refine lv_goto (tgt := 68) hx hb dX9_laysThen_131 (by decide) ?_
                  exact ih68 (j68 + 1) x5 (vp_updL v2 j68 (0 : Int64)) (by omega) (by have h9 := hR68; rw [zl_X9_laysThen_68_s, if_pos c_4, if_pos c_6] at h9; exact h9) _ _ Z ls (lv_sub hl [0, 1, 2, 3, 4, 5] rfl)
                · refine lv_aload_n hx hb dX9_laysThen_114 rfl (lv_at hl 3 rfl) ?_
                  refine z_get X Z 0 rfl (rfl : zCl[7]? = some (RX9, TX9, 10)) zU_X9 4 (by decide) wF_X9_16 rfl rfl dX9_laysThen_115 ?_
                  refine lv_iload hx hb dX9_laysThen_118 (lv_at hl 0 rfl) ?_
                  refine z_lald (j := j68) X Z 3 rfl rfl (by omega) (by decide) dX9_laysThen_120 ?_
                  refine lv_goto (tgt := 126) hx hb dX9_laysThen_121 (by decide) ?_
                  refine lv_lstore (lv' := [(5, .long ((vp_updL v2 j68 (0 : Int64)) j68)), (7, .int (nI j68)), (3, .long ((zl_X9_laysThen_5 MNow t k 8 0 (0 : Int64) MThen).1)), (0, .ref (md 0)), (1, .int (nI t)), (2, .int (nI k))]) hx hb dX9_laysThen_126 hl (by decide) rfl (fun ls hl => ?_)
                  refine z_iinc (b := (j68 + 1)) (st := 1) (lv' := [(7, .int (nI (j68 + 1))), (5, .long ((vp_updL v2 j68 (0 : Int64)) j68)), (3, .long ((zl_X9_laysThen_5 MNow t k 8 0 (0 : Int64) MThen).1)), (0, .ref (md 0)), (1, .int (nI t)), (2, .int (nI k))]) X dX9_laysThen_128 hl (k := 1) rfl rfl (by decide) (by omega) (by decide) rfl (fun ls hl => ?_)
                  refine lv_goto (tgt := 68) hx hb dX9_laysThen_131 (by decide) ?_
                  exact ih68 (j68 + 1) ((vp_updL v2 j68 (0 : Int64)) j68) (vp_updL v2 j68 (0 : Int64)) (by omega) (by have h9 := hR68; rw [zl_X9_laysThen_68_s, if_pos c_4, if_neg c_6] at h9; exact h9) _ _ Z ls (lv_sub hl [0, 1, 2, 3, 4, 5] rfl)
        exact loop_68 8 0 (0 : Int64) ((zl_X9_laysThen_5 MNow t k 8 0 (0 : Int64) MThen).2) (by omega) rfl _ _ Z ls (lv_sub hl [0, 1, 2, 3, 4, 5] rfl)
      · (exfalso; omega)
    | succ n5 ih5 =>
      intro j5 x3 v1 hin5 hR5 i1 H locs Z ls hl
      refine lv_iload hx hb dX9_laysThen_5 (lv_at hl 0 rfl) ?_
      refine lv_bipush (v := (8 : Int32)) hx hb dX9_laysThen_7 (by decide) ?_
      refine z_icmp_ge (a := j5) (b := 8) (tgt := 62) X rfl rfl (by omega) (by omega) dX9_laysThen_9 (by decide) (fun c_7 => ?_) (fun c_7 => ?_)
      · (exfalso; omega)
      · refine lv_aload_n hx hb dX9_laysThen_12 rfl (lv_at hl 2 rfl) ?_
        refine z_get X Z 0 rfl (rfl : zCl[7]? = some (RX9, TX9, 10)) zU_X9 4 (by decide) wF_X9_16 rfl rfl dX9_laysThen_13 ?_
        refine lv_iload hx hb dX9_laysThen_16 (lv_at hl 0 rfl) ?_
        refine lv_aload_n hx hb dX9_laysThen_18 rfl (lv_at hl 2 rfl) ?_
        refine z_get X Z 0 rfl (rfl : zCl[7]? = some (RX9, TX9, 10)) zU_X9 0 (by decide) wF_X9_7 rfl rfl dX9_laysThen_19 ?_
        refine lv_bipush (v := (35 : Int32)) hx hb dX9_laysThen_22 (by decide) ?_
        refine lv_iload hx hb dX9_laysThen_24 (lv_at hl 0 rfl) ?_
        refine z_iadd (a := 35) (b := j5) X rfl rfl dX9_laysThen_26 ?_
        refine z_lald (j := (35 + j5)) X Z 1 rfl rfl (by omega) (by decide) dX9_laysThen_27 ?_
        refine lv_aload_n hx hb dX9_laysThen_28 rfl (lv_at hl 2 rfl) ?_
        refine z_get X Z 0 rfl (rfl : zCl[7]? = some (RX9, TX9, 10)) zU_X9 0 (by decide) wF_X9_7 rfl rfl dX9_laysThen_29 ?_
        refine lv_aload_n hx hb dX9_laysThen_32 rfl (lv_at hl 2 rfl) ?_
        refine lv_iload_n hx hb dX9_laysThen_33 rfl (lv_at hl 3 rfl) ?_
        refine lv_iload hx hb dX9_laysThen_34 (lv_at hl 0 rfl) ?_
        refine z_callV (mc := 0) (ms := 0) (As := [.int (nI t), .int (nI j5)]) (rest := [.ref (md 1), .long (MNow (35 + j5)), .int (nI j5), .ref (md 3)]) (st2 := [.int (nI (44 + 3 * (8 * t + j5))), .ref (md 1), .long (MNow (35 + j5)), .int (nI j5), .ref (md 3)]) (cs2 := [wMod g md MNow MPast MSav MRef v1 MLev MFst MWay MMost MHash]) X Z [0] [] [0] 0 7 (zc_X9_chanceAt l g B md MNow MPast MSav MRef v1 MLev MFst MWay MMost MHash t j5) wM_X9_125 wS_X9_chanceAt wV_X9_chanceAt wK_X9_chanceAt wZ_X9 2 1 1 rfl (by decide +kernel) rfl (by decide) rfl rfl rfl (by decide) rfl rfl (rfl : zCl[7]? = some (RX9, TX9, 10)) hl.1 rfl rfl (by rw [hRf, hRl]; exact ⟨Nat.le_of_ble_eq_true rfl, Nat.le_of_ble_eq_true rfl⟩) (Nat.le_of_ble_eq_true rfl) ⟨Nat.zero_le _, Nat.zero_le _⟩ dX9_laysThen_36 (fun H locs Z => ?_)
        refine lv_iload_n hx hb dX9_laysThen_39 rfl (lv_at hl 4 rfl) ?_
        refine z_iadd (a := (44 + 3 * (8 * t + j5))) (b := k) X rfl rfl dX9_laysThen_40 ?_
        refine z_lald (j := ((44 + 3 * (8 * t + j5)) + k)) X Z 1 rfl rfl (by omega) (by decide) dX9_laysThen_41 ?_
        refine lv_lmul hx hb dX9_laysThen_42 ?_
        refine z_last (cs2 := [wMod g md MNow MPast MSav MRef (vp_updL v1 j5 ((MNow (35 + j5)) * (MNow ((44 + 3 * (8 * t + j5)) + k)))) MLev MFst MWay MMost MHash]) (j := j5) (x := ((MNow (35 + j5)) * (MNow ((44 + 3 * (8 * t + j5)) + k)))) X Z 3 rfl rfl (by omega) (by decide) rfl dX9_laysThen_43 (fun H locs Z => ?_)
        refine lv_lload_n hx hb dX9_laysThen_44 rfl (lv_at hl 1 rfl) ?_
        refine lv_aload_n hx hb dX9_laysThen_45 rfl (lv_at hl 2 rfl) ?_
        refine z_get X Z 0 rfl (rfl : zCl[7]? = some (RX9, TX9, 10)) zU_X9 4 (by decide) wF_X9_16 rfl rfl dX9_laysThen_46 ?_
        refine lv_iload hx hb dX9_laysThen_49 (lv_at hl 0 rfl) ?_
        refine z_lald (j := j5) X Z 3 rfl rfl (by omega) (by decide) dX9_laysThen_51 ?_
        refine z_callS (mc := 0) (ms := 0) (As := [.long x3, .long ((vp_updL v1 j5 ((MNow (35 + j5)) * (MNow ((44 + 3 * (8 * t + j5)) + k)))) j5)]) (rest := []) (st2 := [.long (zf_X9_divisor x3 ((vp_updL v1 j5 ((MNow (35 + j5)) * (MNow ((44 + 3 * (8 * t + j5)) + k)))) j5))]) (cs2 := [wMod g md MNow MPast MSav MRef (vp_updL v1 j5 ((MNow (35 + j5)) * (MNow ((44 + 3 * (8 * t + j5)) + k)))) MLev MFst MWay MMost MHash]) X Z [] [0] [0] (zc_X9_divisor l g B x3 ((vp_updL v1 j5 ((MNow (35 + j5)) * (MNow ((44 + 3 * (8 * t + j5)) + k)))) j5) i1 (by rw [zuL_eq]; exact hw _ (by omega))) wM_X9_48 wS_X9_divisor wK_X9_divisor wZ_X9 2 1 1 rfl (by decide +kernel) rfl (by decide) rfl rfl rfl (by decide) rfl hl.1 rfl rfl (by rw [hRf, hRl]; exact ⟨Nat.le_of_ble_eq_true rfl, Nat.le_of_ble_eq_true rfl⟩) (Nat.le_of_ble_eq_true rfl) ⟨Nat.zero_le _, Nat.zero_le _⟩ dX9_laysThen_52 (fun H locs Z => ?_)
        refine lv_lstore_n (lv' := [(3, .long (zf_X9_divisor x3 ((vp_updL v1 j5 ((MNow (35 + j5)) * (MNow ((44 + 3 * (8 * t + j5)) + k)))) j5))), (5, .int (nI j5)), (0, .ref (md 0)), (1, .int (nI t)), (2, .int (nI k))]) hx hb dX9_laysThen_55 rfl hl (by decide) rfl (fun ls hl => ?_)
        refine z_iinc (b := (j5 + 1)) (st := 1) (lv' := [(5, .int (nI (j5 + 1))), (3, .long (zf_X9_divisor x3 ((vp_updL v1 j5 ((MNow (35 + j5)) * (MNow ((44 + 3 * (8 * t + j5)) + k)))) j5))), (0, .ref (md 0)), (1, .int (nI t)), (2, .int (nI k))]) X dX9_laysThen_56 hl (k := 1) rfl rfl (by decide) (by omega) (by decide) rfl (fun ls hl => ?_)
        refine lv_goto (tgt := 5) hx hb dX9_laysThen_59 (by decide) ?_
        exact ih5 (j5 + 1) (zf_X9_divisor x3 ((vp_updL v1 j5 ((MNow (35 + j5)) * (MNow ((44 + 3 * (8 * t + j5)) + k)))) j5)) (vp_updL v1 j5 ((MNow (35 + j5)) * (MNow ((44 + 3 * (8 * t + j5)) + k)))) (by omega) (by have h9 := hR5; rw [zl_X9_laysThen_5_s] at h9; exact h9) (zdiv_ne _ _ i1 (by rw [zuL_eq]; exact hw _ (by omega))) _ _ Z ls (lv_sub hl [0, 1, 2, 3, 4] rfl)
  exact loop_5 8 0 (0 : Int64) MThen (by omega) rfl (show ¬ (0 : Int64) = -9223372036854775808 by decide) _ _ Z ls (lv_sub hl [0, 1, 2, 3, 4] rfl)
def zl_X9_observe_88 (MNow : Nat → Int64) (MThen : Nat → Int64) (t : Int32) (k : Int32) : Nat → Int32 → (Nat → Int64) → Int32 × (Nat → Int64)
  | 0, x5, v1 => (x5, v1)
  | n88 + 1, x5, v1 => (if (((zf_X9_laysThen MNow MThen (zi t) (zi k)).2) n88) = ((zf_X9_laysThen MNow MThen (zi t) (zi k)).1) then zl_X9_observe_88 MNow MThen t k n88 (nI n88) (vp_updL v1 (35 + n88) (((zf_X9_laysThen MNow MThen (zi t) (zi k)).2) n88)) else zl_X9_observe_88 MNow MThen t k n88 x5 (vp_updL v1 (35 + n88) (((zf_X9_laysThen MNow MThen (zi t) (zi k)).2) n88)))
theorem zl_X9_observe_88_s (MNow : Nat → Int64) (MThen : Nat → Int64) (t : Int32) (k : Int32) (n88 : Nat) (x5 : Int32) (v1 : Nat → Int64) : zl_X9_observe_88 MNow MThen t k (n88 + 1) x5 v1 = (if (((zf_X9_laysThen MNow MThen (zi t) (zi k)).2) n88) = ((zf_X9_laysThen MNow MThen (zi t) (zi k)).1) then zl_X9_observe_88 MNow MThen t k n88 (nI n88) (vp_updL v1 (35 + n88) (((zf_X9_laysThen MNow MThen (zi t) (zi k)).2) n88)) else zl_X9_observe_88 MNow MThen t k n88 x5 (vp_updL v1 (35 + n88) (((zf_X9_laysThen MNow MThen (zi t) (zi k)).2) n88))) := rfl
def zf_X9_observe (MNow : Nat → Int64) (MPast : Nat → Int64) (MSav : Nat) (MThen : Nat → Int64) (t : Int32) (k : Int32) : Int32 × Int32 × (Nat → Int64) × (Nat → Int64) × Nat × (Nat → Int64) := (if (zf_X9_isTest MNow t) = true then (if (zf_X9_within k.toInt64 (0 : Int64) (2 : Int64)) = true then (if ((zf_X9_laysThen MNow MThen (zi t) (zi k)).1) = (0 : Int64) then ((0 : Int32), (zf_X9_refused_3), MNow, MPast, MSav, ((zf_X9_laysThen MNow MThen (zi t) (zi k)).2)) else (if ((zf_X9_laysThen MNow MThen (zi t) (zi k)).1) ≤ (1000000000000000 : Int64) then (((zl_X9_observe_88 MNow MThen t k 8 (-1 : Int32) MNow).1), (zf_X9_refused_0), ((zl_X9_observe_88 MNow MThen t k 8 (-1 : Int32) MNow).2), ((zf_X9_saves MNow MPast MSav).1), ((zf_X9_saves MNow MPast MSav).2), ((zf_X9_laysThen MNow MThen (zi t) (zi k)).2)) else ((0 : Int32), (zf_X9_refused_4), MNow, MPast, MSav, ((zf_X9_laysThen MNow MThen (zi t) (zi k)).2)))) else ((0 : Int32), (zf_X9_refused_2), MNow, MPast, MSav, MThen)) else ((0 : Int32), (zf_X9_refused_1), MNow, MPast, MSav, MThen))
theorem zf_X9_observe_e (MNow : Nat → Int64) (MPast : Nat → Int64) (MSav : Nat) (MThen : Nat → Int64) (t : Int32) (k : Int32) : zf_X9_observe MNow MPast MSav MThen t k = (if (zf_X9_isTest MNow t) = true then (if (zf_X9_within k.toInt64 (0 : Int64) (2 : Int64)) = true then (if ((zf_X9_laysThen MNow MThen (zi t) (zi k)).1) = (0 : Int64) then ((0 : Int32), (zf_X9_refused_3), MNow, MPast, MSav, ((zf_X9_laysThen MNow MThen (zi t) (zi k)).2)) else (if ((zf_X9_laysThen MNow MThen (zi t) (zi k)).1) ≤ (1000000000000000 : Int64) then (((zl_X9_observe_88 MNow MThen t k 8 (-1 : Int32) MNow).1), (zf_X9_refused_0), ((zl_X9_observe_88 MNow MThen t k 8 (-1 : Int32) MNow).2), ((zf_X9_saves MNow MPast MSav).1), ((zf_X9_saves MNow MPast MSav).2), ((zf_X9_laysThen MNow MThen (zi t) (zi k)).2)) else ((0 : Int32), (zf_X9_refused_4), MNow, MPast, MSav, ((zf_X9_laysThen MNow MThen (zi t) (zi k)).2)))) else ((0 : Int32), (zf_X9_refused_2), MNow, MPast, MSav, MThen)) else ((0 : Int32), (zf_X9_refused_1), MNow, MPast, MSav, MThen)) := rfl
