theorem zdiv_ne (x y : Int64) (hx : ¬ x = -9223372036854775808) (hy : ¬ y = -9223372036854775808) : ¬ zf_X9_divisor x y = -9223372036854775808 := by
  have key : ∀ (n : Nat) (a b : Int64), 0 ≤ a → 0 ≤ b → 0 ≤ (zl_X9_divisor_28 n a b).1 := by
    intro n
    induction n with
    | zero => intro a b ha hb; exact ha
    | succ n ih =>
      intro a b ha hb
      rw [zl_X9_divisor_28_s]
      split
      · exact ha
      · exact ih _ _ hb (zgl ha hb (by assumption)).1
  have fin : ∀ z : Int64, 0 ≤ z → ¬ z = -9223372036854775808 := fun z h q => by rw [q] at h; exact absurd h (by decide)
  apply fin
  rw [zf_X9_divisor_e]
  split <;> split
  · exact key _ _ _ (by assumption) (by assumption)
  · exact key _ _ _ (by assumption) (zneg_nn hy (by assumption))
  · exact key _ _ _ (zneg_nn hx (by assumption)) (by assumption)
  · exact key _ _ _ (zneg_nn hx (by assumption)) (zneg_nn hy (by assumption))
theorem zk13 {k : Int32} (h : zf_X9_within k.toInt64 (1 : Int64) (3 : Int64) = true) (h1 : ¬ k = 1) (h2 : ¬ k = 2) (h3 : ¬ k = 3) : False := by
  obtain ⟨e, a, b⟩ := zok_w2 (u := 1) (v := 3) rfl rfl h (by decide) (by decide)
  have : zi k = 1 ∨ zi k = 2 ∨ zi k = 3 := by omega
  rcases this with q | q | q <;> rw [q] at e
  · exact h1 e
  · exact h2 e
  · exact h3 e
theorem zk03 {k : Int32} (h : zf_X9_within k.toInt64 (0 : Int64) (3 : Int64) = true) (h0 : ¬ k = 0) (h1 : ¬ k = 1) (h2 : ¬ k = 2) (h3 : ¬ k = 3) : False := by
  obtain ⟨e, a, b⟩ := zok_w2 (u := 0) (v := 3) rfl rfl h (by decide) (by decide)
  have : zi k = 0 ∨ zi k = 1 ∨ zi k = 2 ∨ zi k = 3 := by omega
  rcases this with q | q | q | q <;> rw [q] at e
  · exact h0 e
  · exact h1 e
  · exact h2 e
  · exact h3 e
def zl_X9_laysThen_5 (MNow : Nat → Int64) (t : Nat) (k : Nat) : Nat → Nat → Int64 → (Nat → Int64) → Int64 × (Nat → Int64)
  | 0, _, x3, v1 => (x3, v1)
  | n5 + 1, j5, x3, v1 => zl_X9_laysThen_5 MNow t k n5 (j5 + 1) (zf_X9_divisor x3 ((vp_updL v1 j5 ((MNow (35 + j5)) * (MNow ((44 + 3 * (8 * t + j5)) + k)))) j5)) (vp_updL v1 j5 ((MNow (35 + j5)) * (MNow ((44 + 3 * (8 * t + j5)) + k))))
def zl_X9_laysThen_68 (MNow : Nat → Int64) (MThen : Nat → Int64) (t : Nat) (k : Nat) : Nat → Nat → Int64 → (Nat → Int64) → Int64 × (Nat → Int64)
  | 0, _, x5, v2 => (x5, v2)
  | n68 + 1, j68, x5, v2 => (if ((zl_X9_laysThen_5 MNow t k 8 0 (0 : Int64) MThen).1) = (0 : Int64) then (if ((vp_updL v2 j68 (0 : Int64)) j68) ≤ x5 then zl_X9_laysThen_68 MNow MThen t k n68 (j68 + 1) x5 (vp_updL v2 j68 (0 : Int64)) else zl_X9_laysThen_68 MNow MThen t k n68 (j68 + 1) ((vp_updL v2 j68 (0 : Int64)) j68) (vp_updL v2 j68 (0 : Int64))) else (if ((vp_updL v2 j68 ((v2 j68) / ((zl_X9_laysThen_5 MNow t k 8 0 (0 : Int64) MThen).1))) j68) ≤ x5 then zl_X9_laysThen_68 MNow MThen t k n68 (j68 + 1) x5 (vp_updL v2 j68 ((v2 j68) / ((zl_X9_laysThen_5 MNow t k 8 0 (0 : Int64) MThen).1))) else zl_X9_laysThen_68 MNow MThen t k n68 (j68 + 1) ((vp_updL v2 j68 ((v2 j68) / ((zl_X9_laysThen_5 MNow t k 8 0 (0 : Int64) MThen).1))) j68) (vp_updL v2 j68 ((v2 j68) / ((zl_X9_laysThen_5 MNow t k 8 0 (0 : Int64) MThen).1)))))
theorem zl_X9_laysThen_68_s (MNow : Nat → Int64) (MThen : Nat → Int64) (t : Nat) (k : Nat) (n68 : Nat) (j68 : Nat) (x5 : Int64) (v2 : Nat → Int64) : zl_X9_laysThen_68 MNow MThen t k (n68 + 1) j68 x5 v2 = (if ((zl_X9_laysThen_5 MNow t k 8 0 (0 : Int64) MThen).1) = (0 : Int64) then (if ((vp_updL v2 j68 (0 : Int64)) j68) ≤ x5 then zl_X9_laysThen_68 MNow MThen t k n68 (j68 + 1) x5 (vp_updL v2 j68 (0 : Int64)) else zl_X9_laysThen_68 MNow MThen t k n68 (j68 + 1) ((vp_updL v2 j68 (0 : Int64)) j68) (vp_updL v2 j68 (0 : Int64))) else (if ((vp_updL v2 j68 ((v2 j68) / ((zl_X9_laysThen_5 MNow t k 8 0 (0 : Int64) MThen).1))) j68) ≤ x5 then zl_X9_laysThen_68 MNow MThen t k n68 (j68 + 1) x5 (vp_updL v2 j68 ((v2 j68) / ((zl_X9_laysThen_5 MNow t k 8 0 (0 : Int64) MThen).1))) else zl_X9_laysThen_68 MNow MThen t k n68 (j68 + 1) ((vp_updL v2 j68 ((v2 j68) / ((zl_X9_laysThen_5 MNow t k 8 0 (0 : Int64) MThen).1))) j68) (vp_updL v2 j68 ((v2 j68) / ((zl_X9_laysThen_5 MNow t k 8 0 (0 : Int64) MThen).1))))) := rfl
theorem zl_X9_laysThen_5_s (MNow : Nat → Int64) (t : Nat) (k : Nat) (n5 : Nat) (j5 : Nat) (x3 : Int64) (v1 : Nat → Int64) : zl_X9_laysThen_5 MNow t k (n5 + 1) j5 x3 v1 = zl_X9_laysThen_5 MNow t k n5 (j5 + 1) (zf_X9_divisor x3 ((vp_updL v1 j5 ((MNow (35 + j5)) * (MNow ((44 + 3 * (8 * t + j5)) + k)))) j5)) (vp_updL v1 j5 ((MNow (35 + j5)) * (MNow ((44 + 3 * (8 * t + j5)) + k)))) := rfl
def zf_X9_laysThen (MNow : Nat → Int64) (MThen : Nat → Int64) (t : Nat) (k : Nat) : Int64 × (Nat → Int64) := (((zl_X9_laysThen_68 MNow MThen t k 8 0 (0 : Int64) ((zl_X9_laysThen_5 MNow t k 8 0 (0 : Int64) MThen).2)).1), ((zl_X9_laysThen_68 MNow MThen t k 8 0 (0 : Int64) ((zl_X9_laysThen_5 MNow t k 8 0 (0 : Int64) MThen).2)).2))
theorem zf_X9_laysThen_e (MNow : Nat → Int64) (MThen : Nat → Int64) (t : Nat) (k : Nat) : zf_X9_laysThen MNow MThen t k = (((zl_X9_laysThen_68 MNow MThen t k 8 0 (0 : Int64) ((zl_X9_laysThen_5 MNow t k 8 0 (0 : Int64) MThen).2)).1), ((zl_X9_laysThen_68 MNow MThen t k 8 0 (0 : Int64) ((zl_X9_laysThen_5 MNow t k 8 0 (0 : Int64) MThen).2)).2)) := rfl
set_option maxHeartbeats 4000000 in
set_option maxRecDepth 100000 in
theorem zc_X9_laysThen (l : Launch) (g : zG) (B : Nat) (md : Nat → Nat) (MNow : Nat → Int64) (MPast : Nat → Int64) (MSav : Nat) (MRef : Int32) (MThen : Nat → Int64) (MLev : Nat → Int64) (MFst : Int32) (MWay : Nat → Int64) (MMost : Nat → Int32) (MHash : Int64) (t : Nat) (k : Nat) (ht : t < 10) (hk : k < 3) (hw : ∀ j, j < 8 → zNM ((MNow (35 + j)) * (MNow ((44 + 3 * (8 * t + j)) + k)))) : zMet l g B yX9_laysThen cX9_laysThen 8 (some .long) 3 100 0 0 [.ref (md 0), .int (nI t), .int (nI k)] [wMod g md MNow MPast MSav MRef MThen MLev MFst MWay MMost MHash] (zDet (some (.long ((zf_X9_laysThen MNow MThen t k).1))) [wMod g md MNow MPast MSav MRef ((zf_X9_laysThen MNow MThen t k).2) MLev MFst MWay MMost MHash]) := by
  refine z_in (plainFor_of_name (by decide)) (Nat.le_of_ble_eq_true rfl) (fun p e R s m args below meth c A Q hRf hRl hRc hRs X Z hnm E ls hl => ?_)
  have hx := X.1
  have hb := X.2.1
  have hown := X.2.2.2.1
  have hts := X.2.2.2.2.1
  have hl : lv_has ls 8 [(0, .ref (md 0)), (1, .int (nI t)), (2, .int (nI k))] := hl
  refine lv_lconst (v := (0 : Int64)) hx hb dX9_laysThen_0 (by decide) ?_
  refine lv_lstore_n (lv' := [(3, .long (0 : Int64)), (0, .ref (md 0)), (1, .int (nI t)), (2, .int (nI k))]) hx hb dX9_laysThen_1 rfl hl (by decide) rfl (fun ls hl => ?_)
  refine lv_iconst (v := (0 : Int32)) hx hb dX9_laysThen_2 (by decide) ?_
  refine lv_istore (lv' := [(5, .int (0 : Int32)), (3, .long (0 : Int64)), (0, .ref (md 0)), (1, .int (nI t)), (2, .int (nI k))]) hx hb dX9_laysThen_3 hl (by decide) rfl (fun ls hl => ?_)
  have loop_5 : ∀ (n5 j5 : Nat) (x3 : Int64) (v1 : Nat → Int64), j5 + n5 = 8 → zl_X9_laysThen_5 MNow t k n5 j5 x3 v1 = (zl_X9_laysThen_5 MNow t k 8 0 (0 : Int64) MThen) → (zNM x3) → ∀ (H : Heap) (locs : List Loc), zM g B A s [wMod g md MNow MPast MSav MRef v1 MLev MFst MWay MMost MHash] H locs → ∀ ls : Array Slot, lv_has ls 8 [(5, .int (nI j5)), (3, .long x3), (0, .ref (md 0)), (1, .int (nI t)), (2, .int (nI k))] → W p l e R s m args below meth c H locs 0 0 Q (F0 m 5 ls []) := by
    intro n5
    induction n5 with
    | zero =>
      intro j5 x3 v1 hin5 hR5 i1 H locs Z ls hl
      have e_x3 : (zl_X9_laysThen_5 MNow t k 8 0 (0 : Int64) MThen).1 = x3 := (by rw [← hR5]; rfl)
      have e_v1 : (zl_X9_laysThen_5 MNow t k 8 0 (0 : Int64) MThen).2 = v1 := (by rw [← hR5]; rfl)
      subst e_x3
      subst e_v1
      refine lv_iload hx hb dX9_laysThen_5 (lv_at hl 0 rfl) ?_
      refine lv_bipush (v := (8 : Int32)) hx hb dX9_laysThen_7 (by decide) ?_
      refine z_icmp_ge (a := j5) (b := 8) (tgt := 62) X rfl rfl (by omega) (by omega) dX9_laysThen_9 (by decide) (fun c_1 => ?_) (fun c_1 => ?_)
      · refine lv_lconst (v := (0 : Int64)) hx hb dX9_laysThen_62 (by decide) ?_
        refine lv_lstore (lv' := [(5, .long (0 : Int64)), (3, .long ((zl_X9_laysThen_5 MNow t k 8 0 (0 : Int64) MThen).1)), (0, .ref (md 0)), (1, .int (nI t)), (2, .int (nI k))]) hx hb dX9_laysThen_63 hl (by decide) rfl (fun ls hl => ?_)
        refine lv_iconst (v := (0 : Int32)) hx hb dX9_laysThen_65 (by decide) ?_
        refine lv_istore (lv' := [(7, .int (0 : Int32)), (5, .long (0 : Int64)), (3, .long ((zl_X9_laysThen_5 MNow t k 8 0 (0 : Int64) MThen).1)), (0, .ref (md 0)), (1, .int (nI t)), (2, .int (nI k))]) hx hb dX9_laysThen_66 hl (by decide) rfl (fun ls hl => ?_)
        have loop_68 : ∀ (n68 j68 : Nat) (x5 : Int64) (v2 : Nat → Int64), j68 + n68 = 8 → zl_X9_laysThen_68 MNow MThen t k n68 j68 x5 v2 = (zl_X9_laysThen_68 MNow MThen t k 8 0 (0 : Int64) ((zl_X9_laysThen_5 MNow t k 8 0 (0 : Int64) MThen).2)) → ∀ (H : Heap) (locs : List Loc), zM g B A s [wMod g md MNow MPast MSav MRef v2 MLev MFst MWay MMost MHash] H locs → ∀ ls : Array Slot, lv_has ls 8 [(7, .int (nI j68)), (5, .long x5), (3, .long ((zl_X9_laysThen_5 MNow t k 8 0 (0 : Int64) MThen).1)), (0, .ref (md 0)), (1, .int (nI t)), (2, .int (nI k))] → W p l e R s m args below meth c H locs 0 0 Q (F0 m 68 ls []) := by
          intro n68
          induction n68 with
          | zero =>
            intro j68 x5 v2 hin68 hR68 H locs Z ls hl
            have e_x5 : (zl_X9_laysThen_68 MNow MThen t k 8 0 (0 : Int64) ((zl_X9_laysThen_5 MNow t k 8 0 (0 : Int64) MThen).2)).1 = x5 := (by rw [← hR68]; rfl)
            have e_v2 : (zl_X9_laysThen_68 MNow MThen t k 8 0 (0 : Int64) ((zl_X9_laysThen_5 MNow t k 8 0 (0 : Int64) MThen).2)).2 = v2 := (by rw [← hR68]; rfl)
            subst e_x5
            subst e_v2
            refine lv_iload hx hb dX9_laysThen_68 (lv_at hl 0 rfl) ?_
            refine lv_bipush (v := (8 : Int32)) hx hb dX9_laysThen_70 (by decide) ?_
            refine z_icmp_ge (a := j68) (b := 8) (tgt := 134) X rfl rfl (by omega) (by omega) dX9_laysThen_72 (by decide) (fun c_2 => ?_) (fun c_2 => ?_)
            · refine lv_lload hx hb dX9_laysThen_134 (lv_at hl 1 rfl) ?_
              exact z_rl (v := ((zl_X9_laysThen_68 MNow MThen t k 8 0 (0 : Int64) ((zl_X9_laysThen_5 MNow t k 8 0 (0 : Int64) MThen).2)).1)) E Z (by rw [zf_X9_laysThen_e]; dsimp only; exact ⟨rfl, rfl⟩) dX9_laysThen_136 (Nat.zero_le _) (Nat.zero_le _)
            · (exfalso; omega)
          | succ n68 ih68 =>
            intro j68 x5 v2 hin68 hR68 H locs Z ls hl
            refine lv_iload hx hb dX9_laysThen_68 (lv_at hl 0 rfl) ?_
            refine lv_bipush (v := (8 : Int32)) hx hb dX9_laysThen_70 (by decide) ?_
            refine z_icmp_ge (a := j68) (b := 8) (tgt := 134) X rfl rfl (by omega) (by omega) dX9_laysThen_72 (by decide) (fun c_3 => ?_) (fun c_3 => ?_)
            · (exfalso; omega)
            · refine lv_aload_n hx hb dX9_laysThen_75 rfl (lv_at hl 3 rfl) ?_
              refine z_get X Z 0 rfl (rfl : zCl[7]? = some (RX9, TX9, 10)) zU_X9 4 (by decide) wF_X9_16 rfl rfl dX9_laysThen_76 ?_
              refine lv_iload hx hb dX9_laysThen_79 (lv_at hl 0 rfl) ?_
              refine lv_lload_n hx hb dX9_laysThen_81 rfl (lv_at hl 2 rfl) ?_
              refine lv_lconst (v := (0 : Int64)) hx hb dX9_laysThen_82 (by decide) ?_
              refine z_lc_ne (tgt := 91) X dX9_laysThen_83 dX9_laysThen_84 (by decide) (fun c_4 => ?_) (fun c_4 => ?_)
              · refine lv_aload_n hx hb dX9_laysThen_91 rfl (lv_at hl 3 rfl) ?_
                refine z_get X Z 0 rfl (rfl : zCl[7]? = some (RX9, TX9, 10)) zU_X9 4 (by decide) wF_X9_16 rfl rfl dX9_laysThen_92 ?_
                refine lv_iload hx hb dX9_laysThen_95 (lv_at hl 0 rfl) ?_
                refine z_lald (j := j68) X Z 3 rfl rfl (by omega) (by decide) dX9_laysThen_97 ?_
                refine lv_lload_n hx hb dX9_laysThen_98 rfl (lv_at hl 2 rfl) ?_
                refine lv_ldiv hx hb dX9_laysThen_99 c_4 ?_
                refine z_last (cs2 := [wMod g md MNow MPast MSav MRef (vp_updL v2 j68 ((v2 j68) / ((zl_X9_laysThen_5 MNow t k 8 0 (0 : Int64) MThen).1))) MLev MFst MWay MMost MHash]) (j := j68) (x := ((v2 j68) / ((zl_X9_laysThen_5 MNow t k 8 0 (0 : Int64) MThen).1))) X Z 3 rfl rfl (by omega) (by decide) rfl dX9_laysThen_100 (fun H locs Z => ?_)
                refine lv_aload_n hx hb dX9_laysThen_101 rfl (lv_at hl 3 rfl) ?_
                refine z_get X Z 0 rfl (rfl : zCl[7]? = some (RX9, TX9, 10)) zU_X9 4 (by decide) wF_X9_16 rfl rfl dX9_laysThen_102 ?_
                refine lv_iload hx hb dX9_laysThen_105 (lv_at hl 0 rfl) ?_
                refine z_lald (j := j68) X Z 3 rfl rfl (by omega) (by decide) dX9_laysThen_107 ?_
                refine lv_lload hx hb dX9_laysThen_108 (lv_at hl 1 rfl) ?_
                refine z_lc_le (tgt := 124) X dX9_laysThen_110 dX9_laysThen_111 (by decide) (fun c_5 => ?_) (fun c_5 => ?_)
                · refine lv_lload hx hb dX9_laysThen_124 (lv_at hl 1 rfl) ?_
                  refine lv_lstore (lv' := [(5, .long x5), (7, .int (nI j68)), (3, .long ((zl_X9_laysThen_5 MNow t k 8 0 (0 : Int64) MThen).1)), (0, .ref (md 0)), (1, .int (nI t)), (2, .int (nI k))]) hx hb dX9_laysThen_126 hl (by decide) rfl (fun ls hl => ?_)
                  refine z_iinc (b := (j68 + 1)) (st := 1) (lv' := [(7, .int (nI (j68 + 1))), (5, .long x5), (3, .long ((zl_X9_laysThen_5 MNow t k 8 0 (0 : Int64) MThen).1)), (0, .ref (md 0)), (1, .int (nI t)), (2, .int (nI k))]) X dX9_laysThen_128 hl (k := 1) rfl rfl (by decide) (by omega) (by decide) rfl (fun ls hl => ?_)
                  refine lv_goto (tgt := 68) hx hb dX9_laysThen_131 (by decide) ?_
                  exact ih68 (j68 + 1) x5 (vp_updL v2 j68 ((v2 j68) / ((zl_X9_laysThen_5 MNow t k 8 0 (0 : Int64) MThen).1))) (by omega) (by have h9 := hR68; rw [zl_X9_laysThen_68_s, if_neg c_4, if_pos c_5] at h9; exact h9) _ _ Z ls (lv_sub hl [0, 1, 2, 3, 4, 5] rfl)
                · refine lv_aload_n hx hb dX9_laysThen_114 rfl (lv_at hl 3 rfl) ?_
                  refine z_get X Z 0 rfl (rfl : zCl[7]? = some (RX9, TX9, 10)) zU_X9 4 (by decide) wF_X9_16 rfl rfl dX9_laysThen_115 ?_
                  refine lv_iload hx hb dX9_laysThen_118 (lv_at hl 0 rfl) ?_
                  refine z_lald (j := j68) X Z 3 rfl rfl (by omega) (by decide) dX9_laysThen_120 ?_
                  refine lv_goto (tgt := 126) hx hb dX9_laysThen_121 (by decide) ?_
                  refine lv_lstore (lv' := [(5, .long ((vp_updL v2 j68 ((v2 j68) / ((zl_X9_laysThen_5 MNow t k 8 0 (0 : Int64) MThen).1))) j68)), (7, .int (nI j68)), (3, .long ((zl_X9_laysThen_5 MNow t k 8 0 (0 : Int64) MThen).1)), (0, .ref (md 0)), (1, .int (nI t)), (2, .int (nI k))]) hx hb dX9_laysThen_126 hl (by decide) rfl (fun ls hl => ?_)
                  refine z_iinc (b := (j68 + 1)) (st := 1) (lv' := [(7, .int (nI (j68 + 1))), (5, .long ((vp_updL v2 j68 ((v2 j68) / ((zl_X9_laysThen_5 MNow t k 8 0 (0 : Int64) MThen).1))) j68)), (3, .long ((zl_X9_laysThen_5 MNow t k 8 0 (0 : Int64) MThen).1)), (0, .ref (md 0)), (1, .int (nI t)), (2, .int (nI k))]) X dX9_laysThen_128 hl (k := 1) rfl rfl (by decide) (by omega) (by decide) rfl (fun ls hl => ?_)
                  refine lv_goto (tgt := 68) hx hb dX9_laysThen_131 (by decide) ?_
                  exact ih68 (j68 + 1) ((vp_updL v2 j68 ((v2 j68) / ((zl_X9_laysThen_5 MNow t k 8 0 (0 : Int64) MThen).1))) j68) (vp_updL v2 j68 ((v2 j68) / ((zl_X9_laysThen_5 MNow t k 8 0 (0 : Int64) MThen).1))) (by omega) (by have h9 := hR68; rw [zl_X9_laysThen_68_s, if_neg c_4, if_neg c_5] at h9; exact h9) _ _ Z ls (lv_sub hl [0, 1, 2, 3, 4, 5] rfl)
              · refine lv_lconst (v := (0 : Int64)) hx hb dX9_laysThen_87 (by decide) ?_
                refine lv_goto (tgt := 100) hx hb dX9_laysThen_88 (by decide) ?_
                refine z_last (cs2 := [wMod g md MNow MPast MSav MRef (vp_updL v2 j68 (0 : Int64)) MLev MFst MWay MMost MHash]) (j := j68) (x := (0 : Int64)) X Z 3 rfl rfl (by omega) (by decide) rfl dX9_laysThen_100 (fun H locs Z => ?_)
                refine lv_aload_n hx hb dX9_laysThen_101 rfl (lv_at hl 3 rfl) ?_
                refine z_get X Z 0 rfl (rfl : zCl[7]? = some (RX9, TX9, 10)) zU_X9 4 (by decide) wF_X9_16 rfl rfl dX9_laysThen_102 ?_
                refine lv_iload hx hb dX9_laysThen_105 (lv_at hl 0 rfl) ?_
                refine z_lald (j := j68) X Z 3 rfl rfl (by omega) (by decide) dX9_laysThen_107 ?_
                refine lv_lload hx hb dX9_laysThen_108 (lv_at hl 1 rfl) ?_
                refine z_lc_le (tgt := 124) X dX9_laysThen_110 dX9_laysThen_111 (by decide) (fun c_6 => ?_) (fun c_6 => ?_)
                · refine lv_lload hx hb dX9_laysThen_124 (lv_at hl 1 rfl) ?_
                  refine lv_lstore (lv' := [(5, .long x5), (7, .int (nI j68)), (3, .long ((zl_X9_laysThen_5 MNow t k 8 0 (0 : Int64) MThen).1)), (0, .ref (md 0)), (1, .int (nI t)), (2, .int (nI k))]) hx hb dX9_laysThen_126 hl (by decide) rfl (fun ls hl => ?_)
                  refine z_iinc (b := (j68 + 1)) (st := 1) (lv' := [(7, .int (nI (j68 + 1))), (5, .long x5), (3, .long ((zl_X9_laysThen_5 MNow t k 8 0 (0 : Int64) MThen).1)), (0, .ref (md 0)), (1, .int (nI t)), (2, .int (nI k))]) X dX9_laysThen_128 hl (k := 1) rfl rfl (by decide) (by omega) (by decide) rfl (fun ls hl => ?_)
                  refine lv_goto (tgt := 68) hx hb dX9_laysThen_131 (by decide) ?_
                  exact ih68 (j68 + 1) x5 (vp_updL v2 j68 (0 : Int64)) (by omega) (by have h9 := hR68; rw [zl_X9_laysThen_68_s, if_pos c_4, if_pos c_6] at h9; exact h9) _ _ Z ls (lv_sub hl [0, 1, 2, 3, 4, 5] rfl)
                · refine lv_aload_n hx hb dX9_laysThen_114 rfl (lv_at hl 3 rfl) ?_
                  refine z_get X Z 0 rfl (rfl : zCl[7]? = some (RX9, TX9, 10)) zU_X9 4 (by decide) wF_X9_16 rfl rfl dX9_laysThen_115 ?_
                  refine lv_iload hx hb dX9_laysThen_118 (lv_at hl 0 rfl) ?_
                  refine z_lald (j := j68) X Z 3 rfl rfl (by omega) (by decide) dX9_laysThen_120 ?_
                  refine lv_goto (tgt := 126) hx hb dX9_laysThen_121 (by decide) ?_
                  refine lv_lstore (lv' := [(5, .long ((vp_updL v2 j68 (0 : Int64)) j68)), (7, .int (nI j68)), (3, .long ((zl_X9_laysThen_5 MNow t k 8 0 (0 : Int64) MThen).1)), (0, .ref (md 0)), (1, .int (nI t)), (2, .int (nI k))]) hx hb dX9_laysThen_126 hl (by decide) rfl (fun ls hl => ?_)
                  refine z_iinc (b := (j68 + 1)) (st := 1) (lv' := [(7, .int (nI (j68 + 1))), (5, .long ((vp_updL v2 j68 (0 : Int64)) j68)), (3, .long ((zl_X9_laysThen_5 MNow t k 8 0 (0 : Int64) MThen).1)), (0, .ref (md 0)), (1, .int (nI t)), (2, .int (nI k))]) X dX9_laysThen_128 hl (k := 1) rfl rfl (by decide) (by omega) (by decide) rfl (fun ls hl => ?_)
                  refine lv_goto (tgt := 68) hx hb dX9_laysThen_131 (by decide) ?_
                  exact ih68 (j68 + 1) ((vp_updL v2 j68 (0 : Int64)) j68) (vp_updL v2 j68 (0 : Int64)) (by omega) (by have h9 := hR68; rw [zl_X9_laysThen_68_s, if_pos c_4, if_neg c_6] at h9; exact h9) _ _ Z ls (lv_sub hl [0, 1, 2, 3, 4, 5] rfl)
        exact loop_68 8 0 (0 : Int64) ((zl_X9_laysThen_5 MNow t k 8 0 (0 : Int64) MThen).2) (by omega) rfl _ _ Z ls (lv_sub hl [0, 1, 2, 3, 4, 5] rfl)
      · (exfalso; omega)
    | succ n5 ih5 =>
      intro j5 x3 v1 hin5 hR5 i1 H locs Z ls hl
      refine lv_iload hx hb dX9_laysThen_5 (lv_at hl 0 rfl) ?_
      refine lv_bipush (v := (8 : Int32)) hx hb dX9_laysThen_7 (by decide) ?_
      refine z_icmp_ge (a := j5) (b := 8) (tgt := 62) X rfl rfl (by omega) (by omega) dX9_laysThen_9 (by decide) (fun c_7 => ?_) (fun c_7 => ?_)
      · (exfalso; omega)
      · refine lv_aload_n hx hb dX9_laysThen_12 rfl (lv_at hl 2 rfl) ?_
        refine z_get X Z 0 rfl (rfl : zCl[7]? = some (RX9, TX9, 10)) zU_X9 4 (by decide) wF_X9_16 rfl rfl dX9_laysThen_13 ?_
        refine lv_iload hx hb dX9_laysThen_16 (lv_at hl 0 rfl) ?_
        refine lv_aload_n hx hb dX9_laysThen_18 rfl (lv_at hl 2 rfl) ?_
        refine z_get X Z 0 rfl (rfl : zCl[7]? = some (RX9, TX9, 10)) zU_X9 0 (by decide) wF_X9_7 rfl rfl dX9_laysThen_19 ?_
        refine lv_bipush (v := (35 : Int32)) hx hb dX9_laysThen_22 (by decide) ?_
        refine lv_iload hx hb dX9_laysThen_24 (lv_at hl 0 rfl) ?_
        refine z_iadd (a := 35) (b := j5) X rfl rfl dX9_laysThen_26 ?_
        refine z_lald (j := (35 + j5)) X Z 1 rfl rfl (by omega) (by decide) dX9_laysThen_27 ?_
        refine lv_aload_n hx hb dX9_laysThen_28 rfl (lv_at hl 2 rfl) ?_
        refine z_get X Z 0 rfl (rfl : zCl[7]? = some (RX9, TX9, 10)) zU_X9 0 (by decide) wF_X9_7 rfl rfl dX9_laysThen_29 ?_
        refine lv_aload_n hx hb dX9_laysThen_32 rfl (lv_at hl 2 rfl) ?_
        refine lv_iload_n hx hb dX9_laysThen_33 rfl (lv_at hl 3 rfl) ?_
        refine lv_iload hx hb dX9_laysThen_34 (lv_at hl 0 rfl) ?_
        refine z_callV (mc := 0) (ms := 0) (As := [.int (nI t), .int (nI j5)]) (rest := [.ref (md 1), .long (MNow (35 + j5)), .int (nI j5), .ref (md 3)]) (st2 := [.int (nI (44 + 3 * (8 * t + j5))), .ref (md 1), .long (MNow (35 + j5)), .int (nI j5), .ref (md 3)]) (cs2 := [wMod g md MNow MPast MSav MRef v1 MLev MFst MWay MMost MHash]) X Z [0] [] [0] 0 7 (zc_X9_chanceAt l g B md MNow MPast MSav MRef v1 MLev MFst MWay MMost MHash t j5) wM_X9_125 wS_X9_chanceAt wV_X9_chanceAt wK_X9_chanceAt wZ_X9 2 1 1 rfl (by decide +kernel) rfl (by decide) rfl rfl rfl (by decide) rfl rfl (rfl : zCl[7]? = some (RX9, TX9, 10)) hl.1 rfl rfl (by rw [hRf, hRl]; exact ⟨Nat.le_of_ble_eq_true rfl, Nat.le_of_ble_eq_true rfl⟩) (Nat.le_of_ble_eq_true rfl) ⟨Nat.zero_le _, Nat.zero_le _⟩ dX9_laysThen_36 (fun H locs Z => ?_)
        refine lv_iload_n hx hb dX9_laysThen_39 rfl (lv_at hl 4 rfl) ?_
        refine z_iadd (a := (44 + 3 * (8 * t + j5))) (b := k) X rfl rfl dX9_laysThen_40 ?_
        refine z_lald (j := ((44 + 3 * (8 * t + j5)) + k)) X Z 1 rfl rfl (by omega) (by decide) dX9_laysThen_41 ?_
        refine lv_lmul hx hb dX9_laysThen_42 ?_
        refine z_last (cs2 := [wMod g md MNow MPast MSav MRef (vp_updL v1 j5 ((MNow (35 + j5)) * (MNow ((44 + 3 * (8 * t + j5)) + k)))) MLev MFst MWay MMost MHash]) (j := j5) (x := ((MNow (35 + j5)) * (MNow ((44 + 3 * (8 * t + j5)) + k)))) X Z 3 rfl rfl (by omega) (by decide) rfl dX9_laysThen_43 (fun H locs Z => ?_)
        refine lv_lload_n hx hb dX9_laysThen_44 rfl (lv_at hl 1 rfl) ?_
        refine lv_aload_n hx hb dX9_laysThen_45 rfl (lv_at hl 2 rfl) ?_
        refine z_get X Z 0 rfl (rfl : zCl[7]? = some (RX9, TX9, 10)) zU_X9 4 (by decide) wF_X9_16 rfl rfl dX9_laysThen_46 ?_
        refine lv_iload hx hb dX9_laysThen_49 (lv_at hl 0 rfl) ?_
        refine z_lald (j := j5) X Z 3 rfl rfl (by omega) (by decide) dX9_laysThen_51 ?_
        refine z_callS (mc := 0) (ms := 0) (As := [.long x3, .long ((vp_updL v1 j5 ((MNow (35 + j5)) * (MNow ((44 + 3 * (8 * t + j5)) + k)))) j5)]) (rest := []) (st2 := [.long (zf_X9_divisor x3 ((vp_updL v1 j5 ((MNow (35 + j5)) * (MNow ((44 + 3 * (8 * t + j5)) + k)))) j5))]) (cs2 := [wMod g md MNow MPast MSav MRef (vp_updL v1 j5 ((MNow (35 + j5)) * (MNow ((44 + 3 * (8 * t + j5)) + k)))) MLev MFst MWay MMost MHash]) X Z [] [0] [0] (zc_X9_divisor l g B x3 ((vp_updL v1 j5 ((MNow (35 + j5)) * (MNow ((44 + 3 * (8 * t + j5)) + k)))) j5) i1 (by rw [zuL_eq]; exact hw _ (by omega))) wM_X9_48 wS_X9_divisor wK_X9_divisor wZ_X9 2 1 1 rfl (by decide +kernel) rfl (by decide) rfl rfl rfl (by decide) rfl hl.1 rfl rfl (by rw [hRf, hRl]; exact ⟨Nat.le_of_ble_eq_true rfl, Nat.le_of_ble_eq_true rfl⟩) (Nat.le_of_ble_eq_true rfl) ⟨Nat.zero_le _, Nat.zero_le _⟩ dX9_laysThen_52 (fun H locs Z => ?_)
        refine lv_lstore_n (lv' := [(3, .long (zf_X9_divisor x3 ((vp_updL v1 j5 ((MNow (35 + j5)) * (MNow ((44 + 3 * (8 * t + j5)) + k)))) j5))), (5, .int (nI j5)), (0, .ref (md 0)), (1, .int (nI t)), (2, .int (nI k))]) hx hb dX9_laysThen_55 rfl hl (by decide) rfl (fun ls hl => ?_)
        refine z_iinc (b := (j5 + 1)) (st := 1) (lv' := [(5, .int (nI (j5 + 1))), (3, .long (zf_X9_divisor x3 ((vp_updL v1 j5 ((MNow (35 + j5)) * (MNow ((44 + 3 * (8 * t + j5)) + k)))) j5))), (0, .ref (md 0)), (1, .int (nI t)), (2, .int (nI k))]) X dX9_laysThen_56 hl (k := 1) rfl rfl (by decide) (by omega) (by decide) rfl (fun ls hl => ?_)
        refine lv_goto (tgt := 5) hx hb dX9_laysThen_59 (by decide) ?_
        exact ih5 (j5 + 1) (zf_X9_divisor x3 ((vp_updL v1 j5 ((MNow (35 + j5)) * (MNow ((44 + 3 * (8 * t + j5)) + k)))) j5)) (vp_updL v1 j5 ((MNow (35 + j5)) * (MNow ((44 + 3 * (8 * t + j5)) + k)))) (by omega) (by have h9 := hR5; rw [zl_X9_laysThen_5_s] at h9; exact h9) (zdiv_ne _ _ i1 (by rw [zuL_eq]; exact hw _ (by omega))) _ _ Z ls (lv_sub hl [0, 1, 2, 3, 4] rfl)
  exact loop_5 8 0 (0 : Int64) MThen (by omega) rfl (show ¬ (0 : Int64) = -9223372036854775808 by decide) _ _ Z ls (lv_sub hl [0, 1, 2, 3, 4] rfl)
def zl_X9_observe_88 (MNow : Nat → Int64) (MThen : Nat → Int64) (t : Int32) (k : Int32) : Nat → Int32 → (Nat → Int64) → Int32 × (Nat → Int64)
  | 0, x5, v1 => (x5, v1)
  | n88 + 1, x5, v1 => (if (((zf_X9_laysThen MNow MThen (zi t) (zi k)).2) n88) = ((zf_X9_laysThen MNow MThen (zi t) (zi k)).1) then zl_X9_observe_88 MNow MThen t k n88 (nI n88) (vp_updL v1 (35 + n88) (((zf_X9_laysThen MNow MThen (zi t) (zi k)).2) n88)) else zl_X9_observe_88 MNow MThen t k n88 x5 (vp_updL v1 (35 + n88) (((zf_X9_laysThen MNow MThen (zi t) (zi k)).2) n88)))
theorem zl_X9_observe_88_s (MNow : Nat → Int64) (MThen : Nat → Int64) (t : Int32) (k : Int32) (n88 : Nat) (x5 : Int32) (v1 : Nat → Int64) : zl_X9_observe_88 MNow MThen t k (n88 + 1) x5 v1 = (if (((zf_X9_laysThen MNow MThen (zi t) (zi k)).2) n88) = ((zf_X9_laysThen MNow MThen (zi t) (zi k)).1) then zl_X9_observe_88 MNow MThen t k n88 (nI n88) (vp_updL v1 (35 + n88) (((zf_X9_laysThen MNow MThen (zi t) (zi k)).2) n88)) else zl_X9_observe_88 MNow MThen t k n88 x5 (vp_updL v1 (35 + n88) (((zf_X9_laysThen MNow MThen (zi t) (zi k)).2) n88))) := by rw [zl_X9_observe_88]
def zf_X9_observe (MNow : Nat → Int64) (MPast : Nat → Int64) (MSav : Nat) (MThen : Nat → Int64) (t : Int32) (k : Int32) : Int32 × Int32 × (Nat → Int64) × (Nat → Int64) × Nat × (Nat → Int64) := (if (zf_X9_isTest MNow t) = true then (if (zf_X9_within k.toInt64 (0 : Int64) (2 : Int64)) = true then (if ((zf_X9_laysThen MNow MThen (zi t) (zi k)).1) = (0 : Int64) then ((0 : Int32), (zf_X9_refused_3), MNow, MPast, MSav, ((zf_X9_laysThen MNow MThen (zi t) (zi k)).2)) else (if ((zf_X9_laysThen MNow MThen (zi t) (zi k)).1) ≤ (1000000000000000 : Int64) then (((zl_X9_observe_88 MNow MThen t k 8 (-1 : Int32) MNow).1), (zf_X9_refused_0), ((zl_X9_observe_88 MNow MThen t k 8 (-1 : Int32) MNow).2), ((zf_X9_saves MNow MPast MSav).1), ((zf_X9_saves MNow MPast MSav).2), ((zf_X9_laysThen MNow MThen (zi t) (zi k)).2)) else ((0 : Int32), (zf_X9_refused_4), MNow, MPast, MSav, ((zf_X9_laysThen MNow MThen (zi t) (zi k)).2)))) else ((0 : Int32), (zf_X9_refused_2), MNow, MPast, MSav, MThen)) else ((0 : Int32), (zf_X9_refused_1), MNow, MPast, MSav, MThen))
theorem zf_X9_observe_e (MNow : Nat → Int64) (MPast : Nat → Int64) (MSav : Nat) (MThen : Nat → Int64) (t : Int32) (k : Int32) : zf_X9_observe MNow MPast MSav MThen t k = (if (zf_X9_isTest MNow t) = true then (if (zf_X9_within k.toInt64 (0 : Int64) (2 : Int64)) = true then (if ((zf_X9_laysThen MNow MThen (zi t) (zi k)).1) = (0 : Int64) then ((0 : Int32), (zf_X9_refused_3), MNow, MPast, MSav, ((zf_X9_laysThen MNow MThen (zi t) (zi k)).2)) else (if ((zf_X9_laysThen MNow MThen (zi t) (zi k)).1) ≤ (1000000000000000 : Int64) then (((zl_X9_observe_88 MNow MThen t k 8 (-1 : Int32) MNow).1), (zf_X9_refused_0), ((zl_X9_observe_88 MNow MThen t k 8 (-1 : Int32) MNow).2), ((zf_X9_saves MNow MPast MSav).1), ((zf_X9_saves MNow MPast MSav).2), ((zf_X9_laysThen MNow MThen (zi t) (zi k)).2)) else ((0 : Int32), (zf_X9_refused_4), MNow, MPast, MSav, ((zf_X9_laysThen MNow MThen (zi t) (zi k)).2)))) else ((0 : Int32), (zf_X9_refused_2), MNow, MPast, MSav, MThen)) else ((0 : Int32), (zf_X9_refused_1), MNow, MPast, MSav, MThen)) := by rw [zf_X9_observe]
set_option maxHeartbeats 4000000 in
set_option maxRecDepth 100000 in
theorem zc_X9_observe (l : Launch) (g : zG) (B : Nat) (md : Nat → Nat) (MNow : Nat → Int64) (MPast : Nat → Int64) (MSav : Nat) (MRef : Int32) (MThen : Nat → Int64) (MLev : Nat → Int64) (MFst : Int32) (MWay : Nat → Int64) (MMost : Nat → Int32) (MHash : Int64) (t : Int32) (k : Int32) (hN : zNow MNow) (hs : MSav ≤ 4) (hw : ∀ t k j, t < 10 → k < 3 → j < 8 → zNM ((MNow (35 + j)) * (MNow ((44 + 3 * (8 * t + j)) + k)))) : zMet l g B yX9_observe cX9_observe 7 (some .int) 4 160 0 0 [.ref (md 0), .int t, .int k] [wMod g md MNow MPast MSav MRef MThen MLev MFst MWay MMost MHash] (zDet (some (.int ((zf_X9_observe MNow MPast MSav MThen t k).1))) [wMod g md ((zf_X9_observe MNow MPast MSav MThen t k).2.2.1) ((zf_X9_observe MNow MPast MSav MThen t k).2.2.2.1) ((zf_X9_observe MNow MPast MSav MThen t k).2.2.2.2.1) ((zf_X9_observe MNow MPast MSav MThen t k).2.1) ((zf_X9_observe MNow MPast MSav MThen t k).2.2.2.2.2) MLev MFst MWay MMost MHash]) := by
  refine z_in (plainFor_of_name (by decide)) (Nat.le_of_ble_eq_true rfl) (fun p e R s m args below meth c A Q hRf hRl hRc hRs X Z hnm E ls hl => ?_)
  have hx := X.1
  have hb := X.2.1
  have hown := X.2.2.2.1
  have hts := X.2.2.2.2.1
  have hl : lv_has ls 7 [(0, .ref (md 0)), (1, .int t), (2, .int k)] := hl
  have hN2 := hN; obtain ⟨he9, hb9, he34, hb34, he43, hb43, he284, hb284, he301, hb301⟩ := hN2
  refine lv_aload_n hx hb dX9_observe_0 rfl (lv_at hl 0 rfl) ?_
  refine lv_aload_n hx hb dX9_observe_1 rfl (lv_at hl 0 rfl) ?_
  refine lv_iload_n hx hb dX9_observe_2 rfl (lv_at hl 1 rfl) ?_
  refine z_callV (mc := 0) (ms := 0) (As := [.int t]) (rest := [.ref (md 0)]) (st2 := [.int (zB (zf_X9_isTest MNow t)), .ref (md 0)]) (cs2 := [wMod g md MNow MPast MSav MRef MThen MLev MFst MWay MMost MHash]) X Z [0] [] [0] 0 7 (zc_X9_isTest l g B md MNow MPast MSav MRef MThen MLev MFst MWay MMost MHash t (by first | assumption | omega | decide)) wM_X9_139 wS_X9_isTest wV_X9_isTest wK_X9_isTest wZ_X9 1 1 1 rfl (by decide +kernel) rfl (by decide) rfl rfl rfl (by decide) rfl rfl (rfl : zCl[7]? = some (RX9, TX9, 10)) hl.1 rfl rfl (by rw [hRf, hRl]; exact ⟨Nat.le_of_ble_eq_true rfl, Nat.le_of_ble_eq_true rfl⟩) (Nat.le_of_ble_eq_true rfl) ⟨Nat.zero_le _, Nat.zero_le _⟩ dX9_observe_3 (fun H locs Z => ?_)
  refine z_ifneB (b := (zf_X9_isTest MNow t)) (tgt := 13) X dX9_observe_6 (by decide) (fun c_1 => ?_) (fun c_1 => ?_)
  · refine lv_iload_n hx hb dX9_observe_13 rfl (lv_at hl 2 rfl) ?_
    refine lv_i2l hx hb dX9_observe_14 rfl ?_
    refine lv_lconst (v := (0 : Int64)) hx hb dX9_observe_15 (by decide) ?_
    refine lv_ldc2 (v := (2 : Int64)) hx hb hown (hts _ wL_X9_33) dX9_observe_16 ?_
    refine z_callS (mc := 0) (ms := 0) (As := [.long k.toInt64, .long (0 : Int64), .long (2 : Int64)]) (rest := [.ref (md 0)]) (st2 := [.int (zB (zf_X9_within k.toInt64 (0 : Int64) (2 : Int64))), .ref (md 0)]) (cs2 := [wMod g md MNow MPast MSav MRef MThen MLev MFst MWay MMost MHash]) X Z [] [0] [0] (zc_X9_within l g B k.toInt64 (0 : Int64) (2 : Int64)) wM_X9_44 wS_X9_within wK_X9_within wZ_X9 3 1 1 rfl (by decide +kernel) rfl (by decide) rfl rfl rfl (by decide) rfl hl.1 rfl rfl (by rw [hRf, hRl]; exact ⟨Nat.le_of_ble_eq_true rfl, Nat.le_of_ble_eq_true rfl⟩) (Nat.le_of_ble_eq_true rfl) ⟨Nat.zero_le _, Nat.zero_le _⟩ dX9_observe_19 (fun H locs Z => ?_)
    refine z_ifeqB (b := (zf_X9_within k.toInt64 (0 : Int64) (2 : Int64))) (tgt := 29) X dX9_observe_22 (by decide) (fun c_2 => ?_) (fun c_2 => ?_)
    · refine lv_iconst (v := (2 : Int32)) hx hb dX9_observe_29 (by decide) ?_
      refine z_callV (mc := 0) (ms := 0) (As := [.int (2 : Int32)]) (rest := []) (st2 := [.int (1 : Int32)]) (cs2 := [wMod g md MNow MPast MSav (zf_X9_refused_2) MThen MLev MFst MWay MMost MHash]) X Z [0] [] [0] 0 7 (zc_X9_refused_2 l g B md MNow MPast MSav MRef MThen MLev MFst MWay MMost MHash) wM_X9_55 wS_X9_refused wV_X9_refused wK_X9_refused wZ_X9 1 1 1 rfl (by decide +kernel) rfl (by decide) rfl rfl rfl (by decide) rfl rfl (rfl : zCl[7]? = some (RX9, TX9, 10)) hl.1 rfl rfl (by rw [hRf, hRl]; exact ⟨Nat.le_of_ble_eq_true rfl, Nat.le_of_ble_eq_true rfl⟩) (Nat.le_of_ble_eq_true rfl) ⟨Nat.zero_le _, Nat.zero_le _⟩ dX9_observe_30 (fun H locs Z => ?_)
      refine lv_if_eq (tgt := 38) hx hb dX9_observe_33 (by decide) (fun c_3 => ?_) (fun c_3 => ?_)
      · (exact absurd c_3 (by decide))
      · refine lv_iconst (v := (0 : Int32)) hx hb dX9_observe_36 (by decide) ?_
        exact z_ri (v := (0 : Int32)) E Z rfl (by rw [zf_X9_observe_e, if_pos c_1, if_neg (zBf c_2)]; dsimp only; exact ⟨rfl, rfl⟩) dX9_observe_37 (Nat.zero_le _) (Nat.zero_le _)
    · refine lv_iconst (v := (0 : Int32)) hx hb dX9_observe_25 (by decide) ?_
      refine lv_goto (tgt := 30) hx hb dX9_observe_26 (by decide) ?_
      refine z_callV (mc := 0) (ms := 0) (As := [.int (0 : Int32)]) (rest := []) (st2 := [.int (0 : Int32)]) (cs2 := [wMod g md MNow MPast MSav (zf_X9_refused_0) MThen MLev MFst MWay MMost MHash]) X Z [0] [] [0] 0 7 (zc_X9_refused_0 l g B md MNow MPast MSav MRef MThen MLev MFst MWay MMost MHash) wM_X9_55 wS_X9_refused wV_X9_refused wK_X9_refused wZ_X9 1 1 1 rfl (by decide +kernel) rfl (by decide) rfl rfl rfl (by decide) rfl rfl (rfl : zCl[7]? = some (RX9, TX9, 10)) hl.1 rfl rfl (by rw [hRf, hRl]; exact ⟨Nat.le_of_ble_eq_true rfl, Nat.le_of_ble_eq_true rfl⟩) (Nat.le_of_ble_eq_true rfl) ⟨Nat.zero_le _, Nat.zero_le _⟩ dX9_observe_30 (fun H locs Z => ?_)
      refine lv_if_eq (tgt := 38) hx hb dX9_observe_33 (by decide) (fun c_4 => ?_) (fun c_4 => ?_)
      · obtain ⟨ek1, hk1⟩ := (zok_test c_1 hb43 : t = nI (zi t) ∧ _)
        have hl : lv_has ls 7 [(0, .ref (md 0)), (1, .int (nI (zi t))), (2, .int k)] := by rw [← ek1]; exact hl
        obtain ⟨ek2, hk2⟩ := (zok_w2 (u := 0) (v := 2) rfl rfl c_2 (by decide) (by decide) : k = nI (zi k) ∧ _)
        have hl : lv_has ls 7 [(0, .ref (md 0)), (1, .int (nI (zi t))), (2, .int (nI (zi k)))] := by rw [← ek2]; exact hl
        refine lv_aload_n hx hb dX9_observe_38 rfl (lv_at hl 0 rfl) ?_
        refine lv_iload_n hx hb dX9_observe_39 rfl (lv_at hl 1 rfl) ?_
        refine lv_iload_n hx hb dX9_observe_40 rfl (lv_at hl 2 rfl) ?_
        refine z_callV (mc := 0) (ms := 0) (As := [.int (nI (zi t)), .int (nI (zi k))]) (rest := []) (st2 := [.long ((zf_X9_laysThen MNow MThen (zi t) (zi k)).1)]) (cs2 := [wMod g md MNow MPast MSav (zf_X9_refused_0) ((zf_X9_laysThen MNow MThen (zi t) (zi k)).2) MLev MFst MWay MMost MHash]) X Z [0] [] [0] 0 7 (zc_X9_laysThen l g B md MNow MPast MSav (zf_X9_refused_0) MThen MLev MFst MWay MMost MHash (zi t) (zi k) (by first | assumption | omega | decide) (by first | assumption | omega | decide) (fun j hj => hw (zi t) (zi k) j (by omega) (by omega) hj)) wM_X9_144 wS_X9_laysThen wV_X9_laysThen wK_X9_laysThen wZ_X9 2 1 1 rfl (by decide +kernel) rfl (by decide) rfl rfl rfl (by decide) rfl rfl (rfl : zCl[7]? = some (RX9, TX9, 10)) hl.1 rfl rfl (by rw [hRf, hRl]; exact ⟨Nat.le_of_ble_eq_true rfl, Nat.le_of_ble_eq_true rfl⟩) (Nat.le_of_ble_eq_true rfl) ⟨Nat.zero_le _, Nat.zero_le _⟩ dX9_observe_41 (fun H locs Z => ?_)
        refine lv_lstore_n (lv' := [(3, .long ((zf_X9_laysThen MNow MThen (zi t) (zi k)).1)), (0, .ref (md 0)), (1, .int (nI (zi t))), (2, .int (nI (zi k)))]) hx hb dX9_observe_44 rfl hl (by decide) rfl (fun ls hl => ?_)
        refine lv_aload_n hx hb dX9_observe_45 rfl (lv_at hl 1 rfl) ?_
        refine lv_lload_n hx hb dX9_observe_46 rfl (lv_at hl 0 rfl) ?_
        refine lv_lconst (v := (0 : Int64)) hx hb dX9_observe_47 (by decide) ?_
        refine z_lc_ne (tgt := 56) X dX9_observe_48 dX9_observe_49 (by decide) (fun c_5 => ?_) (fun c_5 => ?_)
        · refine lv_lload_n hx hb dX9_observe_56 rfl (lv_at hl 0 rfl) ?_
          refine lv_ldc2 (v := (1000000000000000 : Int64)) hx hb hown (hts _ wL_X9_119) dX9_observe_57 ?_
          refine z_lc_le (tgt := 68) X dX9_observe_60 dX9_observe_61 (by decide) (fun c_6 => ?_) (fun c_6 => ?_)
          · refine lv_iconst (v := (0 : Int32)) hx hb dX9_observe_68 (by decide) ?_
            refine z_callV (mc := 0) (ms := 0) (As := [.int (0 : Int32)]) (rest := []) (st2 := [.int (0 : Int32)]) (cs2 := [wMod g md MNow MPast MSav (zf_X9_refused_0) ((zf_X9_laysThen MNow MThen (zi t) (zi k)).2) MLev MFst MWay MMost MHash]) X Z [0] [] [0] 0 7 (zc_X9_refused_0 l g B md MNow MPast MSav (zf_X9_refused_0) ((zf_X9_laysThen MNow MThen (zi t) (zi k)).2) MLev MFst MWay MMost MHash) wM_X9_55 wS_X9_refused wV_X9_refused wK_X9_refused wZ_X9 1 1 1 rfl (by decide +kernel) rfl (by decide) rfl rfl rfl (by decide) rfl rfl (rfl : zCl[7]? = some (RX9, TX9, 10)) hl.1 rfl rfl (by rw [hRf, hRl]; exact ⟨Nat.le_of_ble_eq_true rfl, Nat.le_of_ble_eq_true rfl⟩) (Nat.le_of_ble_eq_true rfl) ⟨Nat.zero_le _, Nat.zero_le _⟩ dX9_observe_69 (fun H locs Z => ?_)
            refine lv_if_eq (tgt := 77) hx hb dX9_observe_72 (by decide) (fun c_7 => ?_) (fun c_7 => ?_)
            · refine lv_aload_n hx hb dX9_observe_77 rfl (lv_at hl 1 rfl) ?_
              refine z_callV (mc := 0) (ms := 0) (As := []) (rest := []) (st2 := []) (cs2 := [wMod g md MNow ((zf_X9_saves MNow MPast MSav).1) ((zf_X9_saves MNow MPast MSav).2) (zf_X9_refused_0) ((zf_X9_laysThen MNow MThen (zi t) (zi k)).2) MLev MFst MWay MMost MHash]) X Z [0] [] [0] 0 7 (zc_X9_saves l g B md MNow MPast MSav (zf_X9_refused_0) ((zf_X9_laysThen MNow MThen (zi t) (zi k)).2) MLev MFst MWay MMost MHash (by first | assumption | omega | decide)) wM_X9_87 wS_X9_saves wV_X9_saves wK_X9_saves wZ_X9 0 1 1 rfl (by decide +kernel) rfl (by decide) rfl rfl rfl (by decide) rfl rfl (rfl : zCl[7]? = some (RX9, TX9, 10)) hl.1 rfl rfl (by rw [hRf, hRl]; exact ⟨Nat.le_of_ble_eq_true rfl, Nat.le_of_ble_eq_true rfl⟩) (Nat.le_of_ble_eq_true rfl) ⟨Nat.zero_le _, Nat.zero_le _⟩ dX9_observe_78 (fun H locs Z => ?_)
              refine lv_iconst (v := (-1 : Int32)) hx hb dX9_observe_81 (by decide) ?_
              refine lv_istore (lv' := [(5, .int (-1 : Int32)), (3, .long ((zf_X9_laysThen MNow MThen (zi t) (zi k)).1)), (0, .ref (md 0)), (1, .int (nI (zi t))), (2, .int (nI (zi k)))]) hx hb dX9_observe_82 hl (by decide) rfl (fun ls hl => ?_)
              refine lv_bipush (v := (7 : Int32)) hx hb dX9_observe_84 (by decide) ?_
              refine lv_istore (lv' := [(6, .int (7 : Int32)), (5, .int (-1 : Int32)), (3, .long ((zf_X9_laysThen MNow MThen (zi t) (zi k)).1)), (0, .ref (md 0)), (1, .int (nI (zi t))), (2, .int (nI (zi k)))]) hx hb dX9_observe_86 hl (by decide) rfl (fun ls hl => ?_)
              have loop_88 : ∀ (n88 : Nat) (x5 : Int32) (v1 : Nat → Int64), n88 ≤ 8 → zl_X9_observe_88 MNow MThen t k n88 x5 v1 = (zl_X9_observe_88 MNow MThen t k 8 (-1 : Int32) MNow) → ∀ (H : Heap) (locs : List Loc), zM g B A s [wMod g md v1 ((zf_X9_saves MNow MPast MSav).1) ((zf_X9_saves MNow MPast MSav).2) (zf_X9_refused_0) ((zf_X9_laysThen MNow MThen (zi t) (zi k)).2) MLev MFst MWay MMost MHash] H locs → ∀ ls : Array Slot, lv_has ls 7 [(6, .int (nI n88 - 1)), (5, .int x5), (3, .long ((zf_X9_laysThen MNow MThen (zi t) (zi k)).1)), (0, .ref (md 0)), (1, .int (nI (zi t))), (2, .int (nI (zi k)))] → W p l e R s m args below meth c H locs 0 0 Q (F0 m 88 ls []) := by
                intro n88
                induction n88 with
                | zero =>
                  intro x5 v1 hin88 hR88 H locs Z ls hl
                  have e_x5 : (zl_X9_observe_88 MNow MThen t k 8 (-1 : Int32) MNow).1 = x5 := (by rw [← hR88]; rfl)
                  have e_v1 : (zl_X9_observe_88 MNow MThen t k 8 (-1 : Int32) MNow).2 = v1 := (by rw [← hR88]; rfl)
                  subst e_x5
                  subst e_v1
                  have hl : lv_has ls 7 [(6, .int (-1 : Int32)), (5, .int ((zl_X9_observe_88 MNow MThen t k 8 (-1 : Int32) MNow).1)), (3, .long ((zf_X9_laysThen MNow MThen (zi t) (zi k)).1)), (0, .ref (md 0)), (1, .int (nI (zi t))), (2, .int (nI (zi k)))] := hl
                  refine lv_iload hx hb dX9_observe_88 (lv_at hl 0 rfl) ?_
                  refine lv_if_lt (tgt := 137) hx hb dX9_observe_90 (by decide) (fun c_8 => ?_) (fun c_8 => ?_)
                  · refine lv_iload hx hb dX9_observe_137 (lv_at hl 1 rfl) ?_
                    exact z_ri (v := ((zl_X9_observe_88 MNow MThen t k 8 (-1 : Int32) MNow).1)) E Z rfl (by rw [zf_X9_observe_e, if_pos c_1, if_pos c_2, if_neg c_5, if_pos c_6]; dsimp only; exact ⟨rfl, rfl⟩) dX9_observe_139 (Nat.zero_le _) (Nat.zero_le _)
                  · (exact absurd c_8 (by decide))
                | succ n88 ih88 =>
                  intro x5 v1 hin88 hR88 H locs Z ls hl
                  rw [nI_pred] at hl
                  refine lv_iload hx hb dX9_observe_88 (lv_at hl 0 rfl) ?_
                  refine z_ifltN (a := n88) (tgt := 137) X rfl (by omega) dX9_observe_90 (by decide) (fun c_9 => ?_) (fun c_9 => ?_)
                  · exact (c_9).elim
                  · refine lv_aload_n hx hb dX9_observe_93 rfl (lv_at hl 3 rfl) ?_
                    refine z_get X Z 0 rfl (rfl : zCl[7]? = some (RX9, TX9, 10)) zU_X9 0 (by decide) wF_X9_7 rfl rfl dX9_observe_94 ?_
                    refine lv_bipush (v := (35 : Int32)) hx hb dX9_observe_97 (by decide) ?_
                    refine lv_iload hx hb dX9_observe_99 (lv_at hl 0 rfl) ?_
                    refine z_iadd (a := 35) (b := n88) X rfl rfl dX9_observe_101 ?_
                    refine lv_aload_n hx hb dX9_observe_102 rfl (lv_at hl 3 rfl) ?_
                    refine z_get X Z 0 rfl (rfl : zCl[7]? = some (RX9, TX9, 10)) zU_X9 4 (by decide) wF_X9_16 rfl rfl dX9_observe_103 ?_
                    refine lv_iload hx hb dX9_observe_106 (lv_at hl 0 rfl) ?_
                    refine z_lald (j := n88) X Z 3 rfl rfl (by omega) (by decide) dX9_observe_108 ?_
                    refine z_last (cs2 := [wMod g md (vp_updL v1 (35 + n88) (((zf_X9_laysThen MNow MThen (zi t) (zi k)).2) n88)) ((zf_X9_saves MNow MPast MSav).1) ((zf_X9_saves MNow MPast MSav).2) (zf_X9_refused_0) ((zf_X9_laysThen MNow MThen (zi t) (zi k)).2) MLev MFst MWay MMost MHash]) (j := (35 + n88)) (x := (((zf_X9_laysThen MNow MThen (zi t) (zi k)).2) n88)) X Z 1 rfl rfl (by omega) (by decide) rfl dX9_observe_109 (fun H locs Z => ?_)
                    refine lv_aload_n hx hb dX9_observe_110 rfl (lv_at hl 3 rfl) ?_
                    refine z_get X Z 0 rfl (rfl : zCl[7]? = some (RX9, TX9, 10)) zU_X9 4 (by decide) wF_X9_16 rfl rfl dX9_observe_111 ?_
                    refine lv_iload hx hb dX9_observe_114 (lv_at hl 0 rfl) ?_
                    refine z_lald (j := n88) X Z 3 rfl rfl (by omega) (by decide) dX9_observe_116 ?_
                    refine lv_lload_n hx hb dX9_observe_117 rfl (lv_at hl 2 rfl) ?_
                    refine z_lc_ne (tgt := 127) X dX9_observe_118 dX9_observe_119 (by decide) (fun c_10 => ?_) (fun c_10 => ?_)
                    · refine lv_iload hx hb dX9_observe_127 (lv_at hl 1 rfl) ?_
                      refine lv_istore (lv' := [(5, .int x5), (6, .int (nI n88)), (3, .long ((zf_X9_laysThen MNow MThen (zi t) (zi k)).1)), (0, .ref (md 0)), (1, .int (nI (zi t))), (2, .int (nI (zi k)))]) hx hb dX9_observe_129 hl (by decide) rfl (fun ls hl => ?_)
                      refine lv_iinc (v := (nI n88 - 1)) (lv' := [(6, .int (nI n88 - 1)), (5, .int x5), (3, .long ((zf_X9_laysThen MNow MThen (zi t) (zi k)).1)), (0, .ref (md 0)), (1, .int (nI (zi t))), (2, .int (nI (zi k)))]) hx hb dX9_observe_131 hl (k := 1) rfl (zdn _) (by decide) rfl (fun ls hl => ?_)
                      refine lv_goto (tgt := 88) hx hb dX9_observe_134 (by decide) ?_
                      exact ih88 x5 (vp_updL v1 (35 + n88) (((zf_X9_laysThen MNow MThen (zi t) (zi k)).2) n88)) (by omega) (by have h9 := hR88; rw [zl_X9_observe_88_s, if_neg c_10] at h9; exact h9) _ _ Z ls (lv_sub hl [0, 1, 2, 3, 4, 5] rfl)
                    · refine lv_iload hx hb dX9_observe_122 (lv_at hl 0 rfl) ?_
                      refine lv_goto (tgt := 129) hx hb dX9_observe_124 (by decide) ?_
                      refine lv_istore (lv' := [(5, .int (nI n88)), (6, .int (nI n88)), (3, .long ((zf_X9_laysThen MNow MThen (zi t) (zi k)).1)), (0, .ref (md 0)), (1, .int (nI (zi t))), (2, .int (nI (zi k)))]) hx hb dX9_observe_129 hl (by decide) rfl (fun ls hl => ?_)
                      refine lv_iinc (v := (nI n88 - 1)) (lv' := [(6, .int (nI n88 - 1)), (5, .int (nI n88)), (3, .long ((zf_X9_laysThen MNow MThen (zi t) (zi k)).1)), (0, .ref (md 0)), (1, .int (nI (zi t))), (2, .int (nI (zi k)))]) hx hb dX9_observe_131 hl (k := 1) rfl (zdn _) (by decide) rfl (fun ls hl => ?_)
                      refine lv_goto (tgt := 88) hx hb dX9_observe_134 (by decide) ?_
                      exact ih88 (nI n88) (vp_updL v1 (35 + n88) (((zf_X9_laysThen MNow MThen (zi t) (zi k)).2) n88)) (by omega) (by have h9 := hR88; rw [zl_X9_observe_88_s, if_pos c_10] at h9; exact h9) _ _ Z ls (lv_sub hl [0, 1, 2, 3, 4, 5] rfl)
              have hl : lv_has ls 7 [(6, .int (nI 8 - 1)), (5, .int (-1 : Int32)), (3, .long ((zf_X9_laysThen MNow MThen (zi t) (zi k)).1)), (0, .ref (md 0)), (1, .int (nI (zi t))), (2, .int (nI (zi k)))] := by rw [show nI 8 - (1 : Int32) = (7 : Int32) from by decide]; exact hl
              exact loop_88 8 (-1 : Int32) MNow (Nat.le_refl _) rfl _ _ Z ls (lv_sub hl [0, 1, 2, 3, 4, 5] rfl)
            · (exact absurd c_7 (by decide))
          · refine lv_iconst (v := (4 : Int32)) hx hb dX9_observe_64 (by decide) ?_
            refine lv_goto (tgt := 69) hx hb dX9_observe_65 (by decide) ?_
            refine z_callV (mc := 0) (ms := 0) (As := [.int (4 : Int32)]) (rest := []) (st2 := [.int (1 : Int32)]) (cs2 := [wMod g md MNow MPast MSav (zf_X9_refused_4) ((zf_X9_laysThen MNow MThen (zi t) (zi k)).2) MLev MFst MWay MMost MHash]) X Z [0] [] [0] 0 7 (zc_X9_refused_4 l g B md MNow MPast MSav (zf_X9_refused_0) ((zf_X9_laysThen MNow MThen (zi t) (zi k)).2) MLev MFst MWay MMost MHash) wM_X9_55 wS_X9_refused wV_X9_refused wK_X9_refused wZ_X9 1 1 1 rfl (by decide +kernel) rfl (by decide) rfl rfl rfl (by decide) rfl rfl (rfl : zCl[7]? = some (RX9, TX9, 10)) hl.1 rfl rfl (by rw [hRf, hRl]; exact ⟨Nat.le_of_ble_eq_true rfl, Nat.le_of_ble_eq_true rfl⟩) (Nat.le_of_ble_eq_true rfl) ⟨Nat.zero_le _, Nat.zero_le _⟩ dX9_observe_69 (fun H locs Z => ?_)
            refine lv_if_eq (tgt := 77) hx hb dX9_observe_72 (by decide) (fun c_11 => ?_) (fun c_11 => ?_)
            · (exact absurd c_11 (by decide))
            · refine lv_iconst (v := (0 : Int32)) hx hb dX9_observe_75 (by decide) ?_
              exact z_ri (v := (0 : Int32)) E Z rfl (by rw [zf_X9_observe_e, if_pos c_1, if_pos c_2, if_neg c_5, if_neg c_6]; dsimp only; exact ⟨rfl, rfl⟩) dX9_observe_76 (Nat.zero_le _) (Nat.zero_le _)
        · refine lv_iconst (v := (3 : Int32)) hx hb dX9_observe_52 (by decide) ?_
          refine lv_goto (tgt := 69) hx hb dX9_observe_53 (by decide) ?_
          refine z_callV (mc := 0) (ms := 0) (As := [.int (3 : Int32)]) (rest := []) (st2 := [.int (1 : Int32)]) (cs2 := [wMod g md MNow MPast MSav (zf_X9_refused_3) ((zf_X9_laysThen MNow MThen (zi t) (zi k)).2) MLev MFst MWay MMost MHash]) X Z [0] [] [0] 0 7 (zc_X9_refused_3 l g B md MNow MPast MSav (zf_X9_refused_0) ((zf_X9_laysThen MNow MThen (zi t) (zi k)).2) MLev MFst MWay MMost MHash) wM_X9_55 wS_X9_refused wV_X9_refused wK_X9_refused wZ_X9 1 1 1 rfl (by decide +kernel) rfl (by decide) rfl rfl rfl (by decide) rfl rfl (rfl : zCl[7]? = some (RX9, TX9, 10)) hl.1 rfl rfl (by rw [hRf, hRl]; exact ⟨Nat.le_of_ble_eq_true rfl, Nat.le_of_ble_eq_true rfl⟩) (Nat.le_of_ble_eq_true rfl) ⟨Nat.zero_le _, Nat.zero_le _⟩ dX9_observe_69 (fun H locs Z => ?_)
          refine lv_if_eq (tgt := 77) hx hb dX9_observe_72 (by decide) (fun c_12 => ?_) (fun c_12 => ?_)
          · (exact absurd c_12 (by decide))
          · refine lv_iconst (v := (0 : Int32)) hx hb dX9_observe_75 (by decide) ?_
            exact z_ri (v := (0 : Int32)) E Z rfl (by rw [zf_X9_observe_e, if_pos c_1, if_pos c_2, if_pos c_5]; dsimp only; exact ⟨rfl, rfl⟩) dX9_observe_76 (Nat.zero_le _) (Nat.zero_le _)
      · (exact absurd c_4 (by decide))
  · refine lv_iconst (v := (1 : Int32)) hx hb dX9_observe_9 (by decide) ?_
    refine lv_goto (tgt := 30) hx hb dX9_observe_10 (by decide) ?_
    refine z_callV (mc := 0) (ms := 0) (As := [.int (1 : Int32)]) (rest := []) (st2 := [.int (1 : Int32)]) (cs2 := [wMod g md MNow MPast MSav (zf_X9_refused_1) MThen MLev MFst MWay MMost MHash]) X Z [0] [] [0] 0 7 (zc_X9_refused_1 l g B md MNow MPast MSav MRef MThen MLev MFst MWay MMost MHash) wM_X9_55 wS_X9_refused wV_X9_refused wK_X9_refused wZ_X9 1 1 1 rfl (by decide +kernel) rfl (by decide) rfl rfl rfl (by decide) rfl rfl (rfl : zCl[7]? = some (RX9, TX9, 10)) hl.1 rfl rfl (by rw [hRf, hRl]; exact ⟨Nat.le_of_ble_eq_true rfl, Nat.le_of_ble_eq_true rfl⟩) (Nat.le_of_ble_eq_true rfl) ⟨Nat.zero_le _, Nat.zero_le _⟩ dX9_observe_30 (fun H locs Z => ?_)
    refine lv_if_eq (tgt := 38) hx hb dX9_observe_33 (by decide) (fun c_13 => ?_) (fun c_13 => ?_)
    · (exact absurd c_13 (by decide))
    · refine lv_iconst (v := (0 : Int32)) hx hb dX9_observe_36 (by decide) ?_
      exact z_ri (v := (0 : Int32)) E Z rfl (by rw [zf_X9_observe_e, if_neg (zBf c_1)]; dsimp only; exact ⟨rfl, rfl⟩) dX9_observe_37 (Nat.zero_le _) (Nat.zero_le _)
