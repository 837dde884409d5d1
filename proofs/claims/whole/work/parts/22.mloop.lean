set_option maxRecDepth 100000 in
set_option maxHeartbeats 4000000 in
theorem c_X8_behindOf (X : XW) (l : Launch) (σ : Mm) (z1 z2 : Int) (b0 : 0 ≤ z1) (b1 : z1 < 4) (b2 : -1 ≤ z2) (b3 : z2 < 36) : Ct X l yX8_behindOf cX8_behindOf 5 (Option.some FieldType.int) 0 0 σ [.inr (.inr (28, 0)), .inl z1, .inl z2] (Ans (some (.inl (bhM σ z1 z2))) (σ)) := by
  refine Ct.intro (own := RX8) (by decide) rfl (Nat.le_of_ble_eq_true rfl) (fun M hM ok hq => ?_)
  subst hM
  show G X M cX8_behindOf 5 σ 0 [(0, .inr (.inr (28, 0))), (1, .inl z1), (2, .inl z2)] []
  refine g_aload_n ok dX8_behindOf_0 rfl rfl ?_
  refine g_getr ok dX8_behindOf_1 fl_X8_36 (Vd.one rfl) rfl rfl ?_
  refine g_iload_n ok dX8_behindOf_4 rfl rfl ?_
  refine g_iald ok dX8_behindOf_5 (Vd.one rfl) (fun _ => rfl) ⟨by omega, by omega⟩ (by decide) rfl (fun h1 h2 => ?_)
  refine g_istore_n ok dX8_behindOf_6 rfl (Nat.le_of_ble_eq_true rfl) ?_
  refine g_iconst (v := 0) ok dX8_behindOf_7 (by decide +kernel) ?_
  refine g_istore ok dX8_behindOf_8 (Nat.le_of_ble_eq_true rfl) ?_
  have L10 : ∀ (n : Nat) (k : Int) (c : Int), (0 ≤ k) → (k ≤ z2 + 1) → (c = σ 36 0 z1 + sm (fun k => σ 43 0 (36 * z1 + k)) k) → (z2 + 1 - k < n) → G X M cX8_behindOf 5 σ 10 [(0, .inr (.inr (28, 0))), (1, .inl z1), (2, .inl z2), (3, .inl c), (4, .inl k)] [] := by
    intro n
    induction n with
    | zero => intro k c hk0 hk1 hc hm; exact absurd hm (by omega)
    | succ n L10ih =>
      intro k c hk0 hk1 hc hm
      refine g_iload ok dX8_behindOf_10 rfl ?_
      refine g_iload_n ok dX8_behindOf_12 rfl rfl ?_
      refine g_icmp_gt (tgt := 37) ok dX8_behindOf_13 (by decide) ⟨by omega, by omega⟩ ⟨by omega, by omega⟩ (fun c3 => ?_) (fun c3 => ?_)
      · skip
        refine g_iload_n ok dX8_behindOf_37 rfl rfl ?_
        exact g_iret ok hq dX8_behindOf_38 (ansI (by (unfold bhM; rw [hc, show k = z2 + 1 by omega])) (by rfl))
      · skip
        refine g_iload_n ok dX8_behindOf_16 rfl rfl ?_
        refine g_aload_n ok dX8_behindOf_17 rfl rfl ?_
        refine g_getr ok dX8_behindOf_18 fl_X8_57 (Vd.one rfl) rfl rfl ?_
        refine g_bipush (v := 36) ok dX8_behindOf_21 (by decide +kernel) ?_
        refine g_iload_n ok dX8_behindOf_23 rfl rfl ?_
        refine g_imul ok dX8_behindOf_24 ?_
        refine g_iload ok dX8_behindOf_25 rfl ?_
        refine g_iadd ok dX8_behindOf_27 ?_
        refine g_iald ok dX8_behindOf_28 (Vd.one rfl) (fun _ => rfl) ⟨by omega, by omega⟩ (by decide) rfl (fun h4 h5 => ?_)
        refine g_iadd ok dX8_behindOf_29 ?_
        refine g_istore_n ok dX8_behindOf_30 rfl (Nat.le_of_ble_eq_true rfl) ?_
        refine g_iinc ok dX8_behindOf_31 rfl rfl (Nat.le_of_ble_eq_true rfl) ?_
        refine g_goto (tgt := 10) ok dX8_behindOf_34 (by decide) ?_
        refine G.norm [(0, .inr (.inr (28, 0))), (1, .inl z1), (2, .inl z2), (3, .inl _), (4, .inl _)] ⟨rfl, rfl, rfl, rfl, rfl, trivial⟩ (L10ih _ _ ?_ ?_ ?_ ?_)
        · omega
        · omega
        · (rw [sm_s (by omega)]; (try dsimp only); omega)
        · omega
  refine G.norm [(0, .inr (.inr (28, 0))), (1, .inl z1), (2, .inl z2), (3, .inl _), (4, .inl _)] ⟨rfl, rfl, rfl, rfl, rfl, trivial⟩ (L10 (z2 + 2).toNat _ _ ?_ ?_ ?_ ?_)
  · omega
  · omega
  · (rw [sm_0]; omega)
  · omega

set_option maxRecDepth 100000 in
set_option maxHeartbeats 4000000 in
theorem c_X8_behind (X : XW) (l : Launch) (σ : Mm) (z1 z2 : Int) (rz1 : R32 z1) (rz2 : R32 z2) (hS : MSt σ) (hT : MT σ) (hL : ML σ) : Ct X l yX8_behind cX8_behind 5 (Option.some FieldType.long) 3 66 σ [.inr (.inr (28, 0)), .inl z1, .inl z2] (Ans (some (.inr (.inl (rm_behind σ z1 z2)))) (σ)) := by
  refine Ct.intro (own := RX8) (by decide) rfl (Nat.le_of_ble_eq_true rfl) (fun M hM ok hq => ?_)
  subst hM
  have rz1l := rz1.1
  have rz1r := rz1.2
  have rz2l := rz2.1
  have rz2r := rz2.2
  show G X M cX8_behind 5 σ 0 [(0, .inr (.inr (28, 0))), (1, .inl z1), (2, .inl z2)] []
  have aT := hT.1
  have aT2 := hT.2
  refine g_aload_n ok dX8_behind_0 rfl rfl ?_
  refine g_iload_n ok dX8_behind_1 rfl rfl ?_
  refine g_cV3 ok dX8_behind_2 mv_X8_142 (c_X8_asked X _ _ _ ⟨by omega, by omega⟩) rfl (Vd.one rfl) rfl rfl (by decide) rfl (Nat.le_of_ble_eq_true rfl) (fun q1 => ?_) (fun q1 => ?_) (fun q1 => ?_)
  · skip
    refine g_lstore_n ok dX8_behind_5 rfl (Nat.le_of_ble_eq_true rfl) ?_
    refine g_lload_n ok dX8_behind_6 rfl rfl ?_
    refine g_lconst (v := 0) ok dX8_behind_7 (by decide +kernel) ?_
    refine g_lcmp_eq (tgt := 14) ok dX8_behind_8 dX8_behind_9 (by decide) ⟨by omega, by omega⟩ ⟨by omega, by omega⟩ (fun c2 => ?_) (fun c2 => ?_)
    · skip
      exfalso
      omega
    · skip
      refine g_lload_n ok dX8_behind_12 rfl rfl ?_
      exact g_lret ok hq dX8_behind_13 (ansL (by (simp only [rm_behind, BAD, NO, FULL, NONE, NOTHING, INDEX, SIZE] <;> (repeat (first | rw [if_pos (by omega)] | rw [if_neg (by omega)])) <;> omega)) (by rfl))
  · skip
    refine g_lstore_n ok dX8_behind_5 rfl (Nat.le_of_ble_eq_true rfl) ?_
    refine g_lload_n ok dX8_behind_6 rfl rfl ?_
    refine g_lconst (v := 0) ok dX8_behind_7 (by decide +kernel) ?_
    refine g_lcmp_eq (tgt := 14) ok dX8_behind_8 dX8_behind_9 (by decide) ⟨by omega, by omega⟩ ⟨by omega, by omega⟩ (fun c3 => ?_) (fun c3 => ?_)
    · skip
      exfalso
      omega
    · skip
      refine g_lload_n ok dX8_behind_12 rfl rfl ?_
      exact g_lret ok hq dX8_behind_13 (ansL (by (simp only [rm_behind, BAD, NO, FULL, NONE, NOTHING, INDEX, SIZE] <;> (repeat (first | rw [if_pos (by omega)] | rw [if_neg (by omega)])) <;> omega)) (by rfl))
  · skip
    refine g_lstore_n ok dX8_behind_5 rfl (Nat.le_of_ble_eq_true rfl) ?_
    refine g_lload_n ok dX8_behind_6 rfl rfl ?_
    refine g_lconst (v := 0) ok dX8_behind_7 (by decide +kernel) ?_
    refine g_lcmp_eq (tgt := 14) ok dX8_behind_8 dX8_behind_9 (by decide) ⟨by omega, by omega⟩ ⟨by omega, by omega⟩ (fun c4 => ?_) (fun c4 => ?_)
    · skip
      refine g_iload_n ok dX8_behind_14 rfl rfl ?_
      refine g_iconst (v := -1) ok dX8_behind_15 (by decide +kernel) ?_
      refine g_icmp_eq (tgt := 27) ok dX8_behind_16 (by decide) ⟨by omega, by omega⟩ ⟨by omega, by omega⟩ (fun c5 => ?_) (fun c5 => ?_)
      · skip
        refine g_aload_n ok dX8_behind_27 rfl rfl ?_
        refine g_iload_n ok dX8_behind_28 rfl rfl ?_
        refine g_iload_n ok dX8_behind_29 rfl rfl ?_
        refine g_cV ok dX8_behind_30 mv_X8_165 (c_X8_behindOf X _ _ _ _ (by omega) (by omega) (by omega) (by omega)) rfl (Vd.one rfl) rfl rfl (by decide) rfl (Nat.le_of_ble_eq_true rfl) ?_
        have aB := bhM_b hS hL z1 (t := z2) (by omega) (by omega)
        refine g_i2l ok dX8_behind_33 ⟨by omega, by omega⟩ ?_
        refine g_goto (tgt := 40) ok dX8_behind_34 (by decide) ?_
        exact g_lret ok hq dX8_behind_40 (ansL (by (simp only [rm_behind, BAD, NO, FULL, NONE, NOTHING, INDEX, SIZE] <;> (repeat (first | rw [if_pos (by omega)] | rw [if_neg (by omega)])) <;> omega)) (by rfl))
      · skip
        refine g_aload_n ok dX8_behind_19 rfl rfl ?_
        refine g_iload_n ok dX8_behind_20 rfl rfl ?_
        refine g_cV ok dX8_behind_21 mv_X8_158 (c_X8_isStep X _ _ _ ⟨by omega, by omega⟩ hT) rfl (Vd.one rfl) rfl rfl (by decide) rfl (Nat.le_of_ble_eq_true rfl) ?_
        refine g_ifb_eq (tgt := 37) ok dX8_behind_24 (by decide) (fun c6 => ?_) (fun c6 => ?_)
        · skip
          refine g_ldc2 (v := -9000000000000000013) ok dX8_behind_37 wd4_99 (by decide +kernel) ?_
          exact g_lret ok hq dX8_behind_40 (ansL (by (simp only [rm_behind, BAD, NO, FULL, NONE, NOTHING, INDEX, SIZE] <;> (repeat (first | rw [if_pos (by omega)] | rw [if_neg (by omega)])) <;> omega)) (by rfl))
        · skip
          refine g_aload_n ok dX8_behind_27 rfl rfl ?_
          refine g_iload_n ok dX8_behind_28 rfl rfl ?_
          refine g_iload_n ok dX8_behind_29 rfl rfl ?_
          refine g_cV ok dX8_behind_30 mv_X8_165 (c_X8_behindOf X _ _ _ _ (by omega) (by omega) (by omega) (by omega)) rfl (Vd.one rfl) rfl rfl (by decide) rfl (Nat.le_of_ble_eq_true rfl) ?_
          have aB := bhM_b hS hL z1 (t := z2) (by omega) (by omega)
          refine g_i2l ok dX8_behind_33 ⟨by omega, by omega⟩ ?_
          refine g_goto (tgt := 40) ok dX8_behind_34 (by decide) ?_
          exact g_lret ok hq dX8_behind_40 (ansL (by (simp only [rm_behind, BAD, NO, FULL, NONE, NOTHING, INDEX, SIZE] <;> (repeat (first | rw [if_pos (by omega)] | rw [if_neg (by omega)])) <;> omega)) (by rfl))
    · skip
      exfalso
      omega

set_option maxRecDepth 100000 in
set_option maxHeartbeats 4000000 in
theorem c_X8_fault (X : XW) (l : Launch) (σ : Mm) (z1 z2 z3 z4 : Int) (b0 : 0 ≤ z1) (b1 : z1 < 4) (b2 : 0 ≤ z2) (b3 : z2 < 36) (rz3 : R32 z3) (rz4 : R32 z4) (hS : MSt σ) (hT : MT σ) (hK : MK σ) : Ct X l yX8_fault cX8_fault 6 (Option.some FieldType.int) 2 42 σ [.inr (.inr (28, 0)), .inl z1, .inl z2, .inl z3, .inl z4] (Ans (some (.inl (ftM σ z1 z2 z3 z4))) (σ)) := by
  refine Ct.intro (own := RX8) (by decide) rfl (Nat.le_of_ble_eq_true rfl) (fun M hM ok hq => ?_)
  subst hM
  have rz3l := rz3.1
  have rz3r := rz3.2
  have rz4l := rz4.1
  have rz4r := rz4.2
  show G X M cX8_fault 6 σ 0 [(0, .inr (.inr (28, 0))), (1, .inl z1), (2, .inl z2), (3, .inl z3), (4, .inl z4)] []
  have aT := hT.1
  have aT2 := hT.2
  have aM := bM hS z1
  have aR := rmM_b hK z2
  refine g_aload_n ok dX8_fault_0 rfl rfl ?_
  refine g_iload_n ok dX8_fault_1 rfl rfl ?_
  refine g_cV ok dX8_fault_2 mv_X8_168 (c_X8_room X _ _ _ (by omega) (by omega)) rfl (Vd.one rfl) rfl rfl (by decide) rfl (Nat.le_of_ble_eq_true rfl) ?_
  refine g_istore ok dX8_fault_5 (Nat.le_of_ble_eq_true rfl) ?_
  refine g_aload_n ok dX8_fault_7 rfl rfl ?_
  refine g_getr ok dX8_fault_8 fl_X8_13 (Vd.one rfl) rfl rfl ?_
  refine g_iload_n ok dX8_fault_11 rfl rfl ?_
  refine g_zald ok dX8_fault_12 (Vd.one rfl) (fun _ => rfl) ⟨by omega, by omega⟩ (by decide) rfl (fun h1 h2 => ?_)
  refine g_if_eq (tgt := 22) ok dX8_fault_13 (by decide) ⟨by omega, by omega⟩ (fun c3 => ?_) (fun c3 => ?_)
  · skip
    refine g_iload_n ok dX8_fault_22 rfl rfl ?_
    refine g_if_eq (tgt := 52) ok dX8_fault_23 (by decide) ⟨by omega, by omega⟩ (fun c4 => ?_) (fun c4 => ?_)
    · skip
      refine g_iload ok dX8_fault_52 rfl ?_
      refine g_aload_n ok dX8_fault_54 rfl rfl ?_
      refine g_iload_n ok dX8_fault_55 rfl rfl ?_
      refine g_cV ok dX8_fault_56 mv_X8_132 (c_X8_floorOf X _ _ _ (by omega) (by omega) hS) rfl (Vd.one rfl) rfl rfl (by decide) rfl (Nat.le_of_ble_eq_true rfl) ?_
      refine g_iload ok dX8_fault_59 rfl ?_
      refine g_iadd ok dX8_fault_61 ?_
      refine g_icmp_ge (tgt := 67) ok dX8_fault_62 (by decide) ⟨by omega, by omega⟩ ⟨by omega, by omega⟩ (fun c5 => ?_) (fun c5 => ?_)
      · skip
        refine g_iload ok dX8_fault_67 rfl ?_
        refine g_aload_n ok dX8_fault_69 rfl rfl ?_
        refine g_iload_n ok dX8_fault_70 rfl rfl ?_
        refine g_cV ok dX8_fault_71 mv_X8_146 (c_X8_topOf X _ _ _ (by omega) (by omega) hS) rfl (Vd.one rfl) rfl rfl (by decide) rfl (Nat.le_of_ble_eq_true rfl) ?_
        refine g_iload ok dX8_fault_74 rfl ?_
        refine g_isub ok dX8_fault_76 ?_
        refine g_icmp_le (tgt := 82) ok dX8_fault_77 (by decide) ⟨by omega, by omega⟩ ⟨by omega, by omega⟩ (fun c6 => ?_) (fun c6 => ?_)
        · skip
          refine g_iload_n ok dX8_fault_82 rfl rfl ?_
          refine g_aload_n ok dX8_fault_83 rfl rfl ?_
          refine g_geti (z := 0) ok dX8_fault_84 fl_X8_7 (Vd.one rfl) rfl rfl rfl (fun h7 h8 => ?_)
          refine g_iconst (v := 1) ok dX8_fault_87 (by decide +kernel) ?_
          refine g_isub ok dX8_fault_88 ?_
          refine g_icmp_ne (tgt := 107) ok dX8_fault_89 (by decide) ⟨by omega, by omega⟩ ⟨by omega, by omega⟩ (fun c9 => ?_) (fun c9 => ?_)
          · skip
            refine g_iconst (v := 0) ok dX8_fault_107 (by decide +kernel) ?_
            exact g_iret ok hq dX8_fault_108 (ansI (by (simp only [ftM, BAD, NO, FULL, NONE, NOTHING, INDEX, SIZE] <;> (repeat (first | rw [if_pos (by omega)] | rw [if_neg (by omega)])) <;> omega)) (by rfl))
          · skip
            refine g_iload ok dX8_fault_92 rfl ?_
            refine g_aload_n ok dX8_fault_94 rfl rfl ?_
            refine g_getr ok dX8_fault_95 fl_X8_51 (Vd.one rfl) rfl rfl ?_
            refine g_iload_n ok dX8_fault_98 rfl rfl ?_
            refine g_iald ok dX8_fault_99 (Vd.one rfl) (fun _ => rfl) ⟨by omega, by omega⟩ (by decide) rfl (fun h10 h11 => ?_)
            refine g_icmp_ge (tgt := 107) ok dX8_fault_100 (by decide) ⟨by omega, by omega⟩ ⟨by omega, by omega⟩ (fun c12 => ?_) (fun c12 => ?_)
            · skip
              refine g_iconst (v := 0) ok dX8_fault_107 (by decide +kernel) ?_
              exact g_iret ok hq dX8_fault_108 (ansI (by (simp only [ftM, BAD, NO, FULL, NONE, NOTHING, INDEX, SIZE] <;> (repeat (first | rw [if_pos (by omega)] | rw [if_neg (by omega)])) <;> omega)) (by rfl))
            · skip
              refine g_iconst (v := 5) ok dX8_fault_103 (by decide +kernel) ?_
              refine g_goto (tgt := 108) ok dX8_fault_104 (by decide) ?_
              exact g_iret ok hq dX8_fault_108 (ansI (by (simp only [ftM, BAD, NO, FULL, NONE, NOTHING, INDEX, SIZE] <;> (repeat (first | rw [if_pos (by omega)] | rw [if_neg (by omega)])) <;> omega)) (by rfl))
        · skip
          refine g_iconst (v := 4) ok dX8_fault_80 (by decide +kernel) ?_
          exact g_iret ok hq dX8_fault_81 (ansI (by (simp only [ftM, BAD, NO, FULL, NONE, NOTHING, INDEX, SIZE] <;> (repeat (first | rw [if_pos (by omega)] | rw [if_neg (by omega)])) <;> omega)) (by rfl))
      · skip
        refine g_iconst (v := 3) ok dX8_fault_65 (by decide +kernel) ?_
        exact g_iret ok hq dX8_fault_66 (ansI (by (simp only [ftM, BAD, NO, FULL, NONE, NOTHING, INDEX, SIZE] <;> (repeat (first | rw [if_pos (by omega)] | rw [if_neg (by omega)])) <;> omega)) (by rfl))
    · skip
      refine g_iload_n ok dX8_fault_26 rfl rfl ?_
      refine g_aload_n ok dX8_fault_27 rfl rfl ?_
      refine g_iload_n ok dX8_fault_28 rfl rfl ?_
      refine g_cV ok dX8_fault_29 mv_X8_149 (c_X8_in X _ _ _ (by omega) (by omega)) rfl (Vd.one rfl) rfl rfl (by decide) rfl (Nat.le_of_ble_eq_true rfl) ?_
      refine g_iload ok dX8_fault_32 rfl ?_
      refine g_isub ok dX8_fault_34 ?_
      refine g_icmp_gt (tgt := 50) ok dX8_fault_35 (by decide) ⟨by omega, by omega⟩ ⟨by omega, by omega⟩ (fun c13 => ?_) (fun c13 => ?_)
      · skip
        refine g_iconst (v := 2) ok dX8_fault_50 (by decide +kernel) ?_
        exact g_iret ok hq dX8_fault_51 (ansI (by (simp only [ftM, BAD, NO, FULL, NONE, NOTHING, INDEX, SIZE] <;> (repeat (first | rw [if_pos (by omega)] | rw [if_neg (by omega)])) <;> omega)) (by rfl))
      · skip
        refine g_iload_n ok dX8_fault_38 rfl rfl ?_
        refine g_iload ok dX8_fault_39 rfl ?_
        refine g_aload_n ok dX8_fault_41 rfl rfl ?_
        refine g_iload_n ok dX8_fault_42 rfl rfl ?_
        refine g_cV ok dX8_fault_43 mv_X8_152 (c_X8_out X _ _ _ (by omega) (by omega)) rfl (Vd.one rfl) rfl rfl (by decide) rfl (Nat.le_of_ble_eq_true rfl) ?_
        refine g_isub ok dX8_fault_46 ?_
        refine g_icmp_ge (tgt := 52) ok dX8_fault_47 (by decide) ⟨by omega, by omega⟩ ⟨by omega, by omega⟩ (fun c14 => ?_) (fun c14 => ?_)
        · skip
          refine g_iload ok dX8_fault_52 rfl ?_
          refine g_aload_n ok dX8_fault_54 rfl rfl ?_
          refine g_iload_n ok dX8_fault_55 rfl rfl ?_
          refine g_cV ok dX8_fault_56 mv_X8_132 (c_X8_floorOf X _ _ _ (by omega) (by omega) hS) rfl (Vd.one rfl) rfl rfl (by decide) rfl (Nat.le_of_ble_eq_true rfl) ?_
          refine g_iload ok dX8_fault_59 rfl ?_
          refine g_iadd ok dX8_fault_61 ?_
          refine g_icmp_ge (tgt := 67) ok dX8_fault_62 (by decide) ⟨by omega, by omega⟩ ⟨by omega, by omega⟩ (fun c15 => ?_) (fun c15 => ?_)
          · skip
            refine g_iload ok dX8_fault_67 rfl ?_
            refine g_aload_n ok dX8_fault_69 rfl rfl ?_
            refine g_iload_n ok dX8_fault_70 rfl rfl ?_
            refine g_cV ok dX8_fault_71 mv_X8_146 (c_X8_topOf X _ _ _ (by omega) (by omega) hS) rfl (Vd.one rfl) rfl rfl (by decide) rfl (Nat.le_of_ble_eq_true rfl) ?_
            refine g_iload ok dX8_fault_74 rfl ?_
            refine g_isub ok dX8_fault_76 ?_
            refine g_icmp_le (tgt := 82) ok dX8_fault_77 (by decide) ⟨by omega, by omega⟩ ⟨by omega, by omega⟩ (fun c16 => ?_) (fun c16 => ?_)
            · skip
              refine g_iload_n ok dX8_fault_82 rfl rfl ?_
              refine g_aload_n ok dX8_fault_83 rfl rfl ?_
              refine g_geti (z := 0) ok dX8_fault_84 fl_X8_7 (Vd.one rfl) rfl rfl rfl (fun h17 h18 => ?_)
              refine g_iconst (v := 1) ok dX8_fault_87 (by decide +kernel) ?_
              refine g_isub ok dX8_fault_88 ?_
              refine g_icmp_ne (tgt := 107) ok dX8_fault_89 (by decide) ⟨by omega, by omega⟩ ⟨by omega, by omega⟩ (fun c19 => ?_) (fun c19 => ?_)
              · skip
                refine g_iconst (v := 0) ok dX8_fault_107 (by decide +kernel) ?_
                exact g_iret ok hq dX8_fault_108 (ansI (by (simp only [ftM, BAD, NO, FULL, NONE, NOTHING, INDEX, SIZE] <;> (repeat (first | rw [if_pos (by omega)] | rw [if_neg (by omega)])) <;> omega)) (by rfl))
              · skip
                refine g_iload ok dX8_fault_92 rfl ?_
                refine g_aload_n ok dX8_fault_94 rfl rfl ?_
                refine g_getr ok dX8_fault_95 fl_X8_51 (Vd.one rfl) rfl rfl ?_
                refine g_iload_n ok dX8_fault_98 rfl rfl ?_
                refine g_iald ok dX8_fault_99 (Vd.one rfl) (fun _ => rfl) ⟨by omega, by omega⟩ (by decide) rfl (fun h20 h21 => ?_)
                refine g_icmp_ge (tgt := 107) ok dX8_fault_100 (by decide) ⟨by omega, by omega⟩ ⟨by omega, by omega⟩ (fun c22 => ?_) (fun c22 => ?_)
                · skip
                  refine g_iconst (v := 0) ok dX8_fault_107 (by decide +kernel) ?_
                  exact g_iret ok hq dX8_fault_108 (ansI (by (simp only [ftM, BAD, NO, FULL, NONE, NOTHING, INDEX, SIZE] <;> (repeat (first | rw [if_pos (by omega)] | rw [if_neg (by omega)])) <;> omega)) (by rfl))
                · skip
                  refine g_iconst (v := 5) ok dX8_fault_103 (by decide +kernel) ?_
                  refine g_goto (tgt := 108) ok dX8_fault_104 (by decide) ?_
                  exact g_iret ok hq dX8_fault_108 (ansI (by (simp only [ftM, BAD, NO, FULL, NONE, NOTHING, INDEX, SIZE] <;> (repeat (first | rw [if_pos (by omega)] | rw [if_neg (by omega)])) <;> omega)) (by rfl))
            · skip
              refine g_iconst (v := 4) ok dX8_fault_80 (by decide +kernel) ?_
              exact g_iret ok hq dX8_fault_81 (ansI (by (simp only [ftM, BAD, NO, FULL, NONE, NOTHING, INDEX, SIZE] <;> (repeat (first | rw [if_pos (by omega)] | rw [if_neg (by omega)])) <;> omega)) (by rfl))
          · skip
            refine g_iconst (v := 3) ok dX8_fault_65 (by decide +kernel) ?_
            exact g_iret ok hq dX8_fault_66 (ansI (by (simp only [ftM, BAD, NO, FULL, NONE, NOTHING, INDEX, SIZE] <;> (repeat (first | rw [if_pos (by omega)] | rw [if_neg (by omega)])) <;> omega)) (by rfl))
        · skip
          refine g_iconst (v := 2) ok dX8_fault_50 (by decide +kernel) ?_
          exact g_iret ok hq dX8_fault_51 (ansI (by (simp only [ftM, BAD, NO, FULL, NONE, NOTHING, INDEX, SIZE] <;> (repeat (first | rw [if_pos (by omega)] | rw [if_neg (by omega)])) <;> omega)) (by rfl))
  · skip
    refine g_iload_n ok dX8_fault_16 rfl rfl ?_
    refine g_if_eq (tgt := 22) ok dX8_fault_17 (by decide) ⟨by omega, by omega⟩ (fun c23 => ?_) (fun c23 => ?_)
    · skip
      refine g_iload_n ok dX8_fault_22 rfl rfl ?_
      refine g_if_eq (tgt := 52) ok dX8_fault_23 (by decide) ⟨by omega, by omega⟩ (fun c24 => ?_) (fun c24 => ?_)
      · skip
        refine g_iload ok dX8_fault_52 rfl ?_
        refine g_aload_n ok dX8_fault_54 rfl rfl ?_
        refine g_iload_n ok dX8_fault_55 rfl rfl ?_
        refine g_cV ok dX8_fault_56 mv_X8_132 (c_X8_floorOf X _ _ _ (by omega) (by omega) hS) rfl (Vd.one rfl) rfl rfl (by decide) rfl (Nat.le_of_ble_eq_true rfl) ?_
        refine g_iload ok dX8_fault_59 rfl ?_
        refine g_iadd ok dX8_fault_61 ?_
        refine g_icmp_ge (tgt := 67) ok dX8_fault_62 (by decide) ⟨by omega, by omega⟩ ⟨by omega, by omega⟩ (fun c25 => ?_) (fun c25 => ?_)
        · skip
          refine g_iload ok dX8_fault_67 rfl ?_
          refine g_aload_n ok dX8_fault_69 rfl rfl ?_
          refine g_iload_n ok dX8_fault_70 rfl rfl ?_
          refine g_cV ok dX8_fault_71 mv_X8_146 (c_X8_topOf X _ _ _ (by omega) (by omega) hS) rfl (Vd.one rfl) rfl rfl (by decide) rfl (Nat.le_of_ble_eq_true rfl) ?_
          refine g_iload ok dX8_fault_74 rfl ?_
          refine g_isub ok dX8_fault_76 ?_
          refine g_icmp_le (tgt := 82) ok dX8_fault_77 (by decide) ⟨by omega, by omega⟩ ⟨by omega, by omega⟩ (fun c26 => ?_) (fun c26 => ?_)
          · skip
            refine g_iload_n ok dX8_fault_82 rfl rfl ?_
            refine g_aload_n ok dX8_fault_83 rfl rfl ?_
            refine g_geti (z := 0) ok dX8_fault_84 fl_X8_7 (Vd.one rfl) rfl rfl rfl (fun h27 h28 => ?_)
            refine g_iconst (v := 1) ok dX8_fault_87 (by decide +kernel) ?_
            refine g_isub ok dX8_fault_88 ?_
            refine g_icmp_ne (tgt := 107) ok dX8_fault_89 (by decide) ⟨by omega, by omega⟩ ⟨by omega, by omega⟩ (fun c29 => ?_) (fun c29 => ?_)
            · skip
              refine g_iconst (v := 0) ok dX8_fault_107 (by decide +kernel) ?_
              exact g_iret ok hq dX8_fault_108 (ansI (by (simp only [ftM, BAD, NO, FULL, NONE, NOTHING, INDEX, SIZE] <;> (repeat (first | rw [if_pos (by omega)] | rw [if_neg (by omega)])) <;> omega)) (by rfl))
            · skip
              refine g_iload ok dX8_fault_92 rfl ?_
              refine g_aload_n ok dX8_fault_94 rfl rfl ?_
              refine g_getr ok dX8_fault_95 fl_X8_51 (Vd.one rfl) rfl rfl ?_
              refine g_iload_n ok dX8_fault_98 rfl rfl ?_
              refine g_iald ok dX8_fault_99 (Vd.one rfl) (fun _ => rfl) ⟨by omega, by omega⟩ (by decide) rfl (fun h30 h31 => ?_)
              refine g_icmp_ge (tgt := 107) ok dX8_fault_100 (by decide) ⟨by omega, by omega⟩ ⟨by omega, by omega⟩ (fun c32 => ?_) (fun c32 => ?_)
              · skip
                refine g_iconst (v := 0) ok dX8_fault_107 (by decide +kernel) ?_
                exact g_iret ok hq dX8_fault_108 (ansI (by (simp only [ftM, BAD, NO, FULL, NONE, NOTHING, INDEX, SIZE] <;> (repeat (first | rw [if_pos (by omega)] | rw [if_neg (by omega)])) <;> omega)) (by rfl))
              · skip
                refine g_iconst (v := 5) ok dX8_fault_103 (by decide +kernel) ?_
                refine g_goto (tgt := 108) ok dX8_fault_104 (by decide) ?_
                exact g_iret ok hq dX8_fault_108 (ansI (by (simp only [ftM, BAD, NO, FULL, NONE, NOTHING, INDEX, SIZE] <;> (repeat (first | rw [if_pos (by omega)] | rw [if_neg (by omega)])) <;> omega)) (by rfl))
          · skip
            refine g_iconst (v := 4) ok dX8_fault_80 (by decide +kernel) ?_
            exact g_iret ok hq dX8_fault_81 (ansI (by (simp only [ftM, BAD, NO, FULL, NONE, NOTHING, INDEX, SIZE] <;> (repeat (first | rw [if_pos (by omega)] | rw [if_neg (by omega)])) <;> omega)) (by rfl))
        · skip
          refine g_iconst (v := 3) ok dX8_fault_65 (by decide +kernel) ?_
          exact g_iret ok hq dX8_fault_66 (ansI (by (simp only [ftM, BAD, NO, FULL, NONE, NOTHING, INDEX, SIZE] <;> (repeat (first | rw [if_pos (by omega)] | rw [if_neg (by omega)])) <;> omega)) (by rfl))
      · skip
        refine g_iload_n ok dX8_fault_26 rfl rfl ?_
        refine g_aload_n ok dX8_fault_27 rfl rfl ?_
        refine g_iload_n ok dX8_fault_28 rfl rfl ?_
        refine g_cV ok dX8_fault_29 mv_X8_149 (c_X8_in X _ _ _ (by omega) (by omega)) rfl (Vd.one rfl) rfl rfl (by decide) rfl (Nat.le_of_ble_eq_true rfl) ?_
        refine g_iload ok dX8_fault_32 rfl ?_
        refine g_isub ok dX8_fault_34 ?_
        refine g_icmp_gt (tgt := 50) ok dX8_fault_35 (by decide) ⟨by omega, by omega⟩ ⟨by omega, by omega⟩ (fun c33 => ?_) (fun c33 => ?_)
        · skip
          refine g_iconst (v := 2) ok dX8_fault_50 (by decide +kernel) ?_
          exact g_iret ok hq dX8_fault_51 (ansI (by (simp only [ftM, BAD, NO, FULL, NONE, NOTHING, INDEX, SIZE] <;> (repeat (first | rw [if_pos (by omega)] | rw [if_neg (by omega)])) <;> omega)) (by rfl))
        · skip
          refine g_iload_n ok dX8_fault_38 rfl rfl ?_
          refine g_iload ok dX8_fault_39 rfl ?_
          refine g_aload_n ok dX8_fault_41 rfl rfl ?_
          refine g_iload_n ok dX8_fault_42 rfl rfl ?_
          refine g_cV ok dX8_fault_43 mv_X8_152 (c_X8_out X _ _ _ (by omega) (by omega)) rfl (Vd.one rfl) rfl rfl (by decide) rfl (Nat.le_of_ble_eq_true rfl) ?_
          refine g_isub ok dX8_fault_46 ?_
          refine g_icmp_ge (tgt := 52) ok dX8_fault_47 (by decide) ⟨by omega, by omega⟩ ⟨by omega, by omega⟩ (fun c34 => ?_) (fun c34 => ?_)
          · skip
            refine g_iload ok dX8_fault_52 rfl ?_
            refine g_aload_n ok dX8_fault_54 rfl rfl ?_
            refine g_iload_n ok dX8_fault_55 rfl rfl ?_
            refine g_cV ok dX8_fault_56 mv_X8_132 (c_X8_floorOf X _ _ _ (by omega) (by omega) hS) rfl (Vd.one rfl) rfl rfl (by decide) rfl (Nat.le_of_ble_eq_true rfl) ?_
            refine g_iload ok dX8_fault_59 rfl ?_
            refine g_iadd ok dX8_fault_61 ?_
            refine g_icmp_ge (tgt := 67) ok dX8_fault_62 (by decide) ⟨by omega, by omega⟩ ⟨by omega, by omega⟩ (fun c35 => ?_) (fun c35 => ?_)
            · skip
              refine g_iload ok dX8_fault_67 rfl ?_
              refine g_aload_n ok dX8_fault_69 rfl rfl ?_
              refine g_iload_n ok dX8_fault_70 rfl rfl ?_
              refine g_cV ok dX8_fault_71 mv_X8_146 (c_X8_topOf X _ _ _ (by omega) (by omega) hS) rfl (Vd.one rfl) rfl rfl (by decide) rfl (Nat.le_of_ble_eq_true rfl) ?_
              refine g_iload ok dX8_fault_74 rfl ?_
              refine g_isub ok dX8_fault_76 ?_
              refine g_icmp_le (tgt := 82) ok dX8_fault_77 (by decide) ⟨by omega, by omega⟩ ⟨by omega, by omega⟩ (fun c36 => ?_) (fun c36 => ?_)
              · skip
                refine g_iload_n ok dX8_fault_82 rfl rfl ?_
                refine g_aload_n ok dX8_fault_83 rfl rfl ?_
                refine g_geti (z := 0) ok dX8_fault_84 fl_X8_7 (Vd.one rfl) rfl rfl rfl (fun h37 h38 => ?_)
                refine g_iconst (v := 1) ok dX8_fault_87 (by decide +kernel) ?_
                refine g_isub ok dX8_fault_88 ?_
                refine g_icmp_ne (tgt := 107) ok dX8_fault_89 (by decide) ⟨by omega, by omega⟩ ⟨by omega, by omega⟩ (fun c39 => ?_) (fun c39 => ?_)
                · skip
                  refine g_iconst (v := 0) ok dX8_fault_107 (by decide +kernel) ?_
                  exact g_iret ok hq dX8_fault_108 (ansI (by (simp only [ftM, BAD, NO, FULL, NONE, NOTHING, INDEX, SIZE] <;> (repeat (first | rw [if_pos (by omega)] | rw [if_neg (by omega)])) <;> omega)) (by rfl))
                · skip
                  refine g_iload ok dX8_fault_92 rfl ?_
                  refine g_aload_n ok dX8_fault_94 rfl rfl ?_
                  refine g_getr ok dX8_fault_95 fl_X8_51 (Vd.one rfl) rfl rfl ?_
                  refine g_iload_n ok dX8_fault_98 rfl rfl ?_
                  refine g_iald ok dX8_fault_99 (Vd.one rfl) (fun _ => rfl) ⟨by omega, by omega⟩ (by decide) rfl (fun h40 h41 => ?_)
                  refine g_icmp_ge (tgt := 107) ok dX8_fault_100 (by decide) ⟨by omega, by omega⟩ ⟨by omega, by omega⟩ (fun c42 => ?_) (fun c42 => ?_)
                  · skip
                    refine g_iconst (v := 0) ok dX8_fault_107 (by decide +kernel) ?_
                    exact g_iret ok hq dX8_fault_108 (ansI (by (simp only [ftM, BAD, NO, FULL, NONE, NOTHING, INDEX, SIZE] <;> (repeat (first | rw [if_pos (by omega)] | rw [if_neg (by omega)])) <;> omega)) (by rfl))
                  · skip
                    refine g_iconst (v := 5) ok dX8_fault_103 (by decide +kernel) ?_
                    refine g_goto (tgt := 108) ok dX8_fault_104 (by decide) ?_
                    exact g_iret ok hq dX8_fault_108 (ansI (by (simp only [ftM, BAD, NO, FULL, NONE, NOTHING, INDEX, SIZE] <;> (repeat (first | rw [if_pos (by omega)] | rw [if_neg (by omega)])) <;> omega)) (by rfl))
              · skip
                refine g_iconst (v := 4) ok dX8_fault_80 (by decide +kernel) ?_
                exact g_iret ok hq dX8_fault_81 (ansI (by (simp only [ftM, BAD, NO, FULL, NONE, NOTHING, INDEX, SIZE] <;> (repeat (first | rw [if_pos (by omega)] | rw [if_neg (by omega)])) <;> omega)) (by rfl))
            · skip
              refine g_iconst (v := 3) ok dX8_fault_65 (by decide +kernel) ?_
              exact g_iret ok hq dX8_fault_66 (ansI (by (simp only [ftM, BAD, NO, FULL, NONE, NOTHING, INDEX, SIZE] <;> (repeat (first | rw [if_pos (by omega)] | rw [if_neg (by omega)])) <;> omega)) (by rfl))
          · skip
            refine g_iconst (v := 2) ok dX8_fault_50 (by decide +kernel) ?_
            exact g_iret ok hq dX8_fault_51 (ansI (by (simp only [ftM, BAD, NO, FULL, NONE, NOTHING, INDEX, SIZE] <;> (repeat (first | rw [if_pos (by omega)] | rw [if_neg (by omega)])) <;> omega)) (by rfl))
    · skip
      refine g_iconst (v := 1) ok dX8_fault_20 (by decide +kernel) ?_
      exact g_iret ok hq dX8_fault_21 (ansI (by (simp only [ftM, BAD, NO, FULL, NONE, NOTHING, INDEX, SIZE] <;> (repeat (first | rw [if_pos (by omega)] | rw [if_neg (by omega)])) <;> omega)) (by rfl))

set_option maxRecDepth 100000 in
set_option maxHeartbeats 4000000 in
theorem c_X8_whyNot (X : XW) (l : Launch) (σ : Mm) (z1 : Int) (b0 : 0 ≤ z1) (b1 : z1 < 4) (hS : MSt σ) (hT : MT σ) (hK : MK σ) (hL : ML σ) : Ct X l yX8_whyNot cX8_whyNot 4 (Option.some FieldType.long) 3 67 σ [.inr (.inr (28, 0)), .inl z1] (Ans (some (.inr (.inl (whM σ z1)))) (σ)) := by
  refine Ct.intro (own := RX8) (by decide) rfl (Nat.le_of_ble_eq_true rfl) (fun M hM ok hq => ?_)
  subst hM
  show G X M cX8_whyNot 4 σ 0 [(0, .inr (.inr (28, 0))), (1, .inl z1)] []
  have aT := hT.1
  have aT2 := hT.2
  refine g_iconst (v := 0) ok dX8_whyNot_0 (by decide +kernel) ?_
  refine g_istore_n ok dX8_whyNot_1 rfl (Nat.le_of_ble_eq_true rfl) ?_
  have L2 : ∀ (n : Nat) (t : Int), (0 ≤ t) → (t ≤ σ 28 0 0) → (whM σ z1 = fst (fun t => ftM σ z1 t (σ 43 0 (36 * z1 + t)) (bhM σ z1 t)) t (σ 28 0 0 - t).toNat) → (σ 28 0 0 - t < n) → G X M cX8_whyNot 4 σ 2 [(0, .inr (.inr (28, 0))), (1, .inl z1), (2, .inl t)] [] := by
    intro n
    induction n with
    | zero => intro t hk0 hk1 hw hm; exact absurd hm (by omega)
    | succ n L2ih =>
      intro t hk0 hk1 hw hm
      refine g_iload_n ok dX8_whyNot_2 rfl rfl ?_
      refine g_aload_n ok dX8_whyNot_3 rfl rfl ?_
      refine g_geti (z := 0) ok dX8_whyNot_4 fl_X8_7 (Vd.one rfl) rfl rfl rfl (fun h1 h2 => ?_)
      refine g_icmp_ge (tgt := 54) ok dX8_whyNot_7 (by decide) ⟨by omega, by omega⟩ ⟨by omega, by omega⟩ (fun c3 => ?_) (fun c3 => ?_)
      · skip
        refine g_ldc2 (v := -9000000000000000005) ok dX8_whyNot_54 wd4_214 (by decide +kernel) ?_
        exact g_lret ok hq dX8_whyNot_57 (ansL (by (rw [hw]; exact (fst_end (by omega)).symm)) (by rfl))
      · skip
        refine g_aload_n ok dX8_whyNot_10 rfl rfl ?_
        refine g_iload_n ok dX8_whyNot_11 rfl rfl ?_
        refine g_iload_n ok dX8_whyNot_12 rfl rfl ?_
        refine g_aload_n ok dX8_whyNot_13 rfl rfl ?_
        refine g_getr ok dX8_whyNot_14 fl_X8_57 (Vd.one rfl) rfl rfl ?_
        refine g_bipush (v := 36) ok dX8_whyNot_17 (by decide +kernel) ?_
        refine g_iload_n ok dX8_whyNot_19 rfl rfl ?_
        refine g_imul ok dX8_whyNot_20 ?_
        refine g_iload_n ok dX8_whyNot_21 rfl rfl ?_
        refine g_iadd ok dX8_whyNot_22 ?_
        refine g_iald ok dX8_whyNot_23 (Vd.one rfl) (fun _ => rfl) ⟨by omega, by omega⟩ (by decide) rfl (fun h4 h5 => ?_)
        refine g_aload_n ok dX8_whyNot_24 rfl rfl ?_
        refine g_iload_n ok dX8_whyNot_25 rfl rfl ?_
        refine g_iload_n ok dX8_whyNot_26 rfl rfl ?_
        refine g_cV ok dX8_whyNot_27 mv_X8_165 (c_X8_behindOf X _ _ _ _ (by omega) (by omega) (by omega) (by omega)) rfl (Vd.one rfl) rfl rfl (by decide) rfl (Nat.le_of_ble_eq_true rfl) ?_
        have aB := bhM_b hS hL z1 (t := t) (by omega) (by omega)
        refine g_cV ok dX8_whyNot_30 mv_X8_171 (c_X8_fault X _ _ _ _ _ _ (by omega) (by omega) (by omega) (by omega) ⟨by omega, by omega⟩ ⟨by omega, by omega⟩ hS hT hK) rfl (Vd.one rfl) rfl rfl (by decide) rfl (Nat.le_of_ble_eq_true rfl) ?_
        have aF : 0 ≤ ftM σ z1 t (σ 43 0 (36 * z1 + t)) (bhM σ z1 t) ∧ ftM σ z1 t (σ 43 0 (36 * z1 + t)) (bhM σ z1 t) ≤ 5 := by unfold ftM; (repeat' split) <;> omega
        refine g_istore_n ok dX8_whyNot_33 rfl (Nat.le_of_ble_eq_true rfl) ?_
        refine g_iload_n ok dX8_whyNot_34 rfl rfl ?_
        refine g_if_eq (tgt := 48) ok dX8_whyNot_35 (by decide) ⟨by omega, by omega⟩ (fun c6 => ?_) (fun c6 => ?_)
        · skip
          refine g_iinc ok dX8_whyNot_48 rfl rfl (Nat.le_of_ble_eq_true rfl) ?_
          refine g_goto (tgt := 2) ok dX8_whyNot_51 (by decide) ?_
          refine G.norm [(0, .inr (.inr (28, 0))), (1, .inl z1), (2, .inl _)] ⟨rfl, rfl, rfl, trivial⟩ (L2ih _ ?_ ?_ ?_ ?_)
          · omega
          · omega
          · (rw [hw]; exact fst_go (by omega) (by assumption))
          · omega
        · skip
          refine g_ldc2 (v := 10) ok dX8_whyNot_38 wd4_79 (by decide +kernel) ?_
          refine g_iload_n ok dX8_whyNot_41 rfl rfl ?_
          refine g_i2l ok dX8_whyNot_42 ⟨by omega, by omega⟩ ?_
          refine g_lmul ok dX8_whyNot_43 ?_
          refine g_iload_n ok dX8_whyNot_44 rfl rfl ?_
          refine g_i2l ok dX8_whyNot_45 ⟨by omega, by omega⟩ ?_
          refine g_ladd ok dX8_whyNot_46 ?_
          exact g_lret ok hq dX8_whyNot_47 (ansL (by (rw [hw, fst_stop (by omega) (by assumption)])) (by rfl))
  refine G.norm [(0, .inr (.inr (28, 0))), (1, .inl z1), (2, .inl _)] ⟨rfl, rfl, rfl, trivial⟩ (L2 (σ 28 0 0 + 1).toNat _ ?_ ?_ ?_ ?_)
  · omega
  · omega
  · (unfold whM; rw [Int.sub_zero])
  · omega

set_option maxRecDepth 100000 in
set_option maxHeartbeats 4000000 in
theorem c_X8_why (X : XW) (l : Launch) (σ : Mm) (z1 : Int) (rz1 : R32 z1) (hS : MSt σ) (hT : MT σ) (hK : MK σ) (hL : ML σ) : Ct X l yX8_why cX8_why 4 (Option.some FieldType.long) 4 90 σ [.inr (.inr (28, 0)), .inl z1] (Ans (some (.inr (.inl (rm_why σ z1)))) (σ)) := by
  refine Ct.intro (own := RX8) (by decide) rfl (Nat.le_of_ble_eq_true rfl) (fun M hM ok hq => ?_)
  subst hM
  have rz1l := rz1.1
  have rz1r := rz1.2
  show G X M cX8_why 4 σ 0 [(0, .inr (.inr (28, 0))), (1, .inl z1)] []
  have aT := hT.1
  have aT2 := hT.2
  refine g_aload_n ok dX8_why_0 rfl rfl ?_
  refine g_iload_n ok dX8_why_1 rfl rfl ?_
  refine g_cV3 ok dX8_why_2 mv_X8_142 (c_X8_asked X _ _ _ ⟨by omega, by omega⟩) rfl (Vd.one rfl) rfl rfl (by decide) rfl (Nat.le_of_ble_eq_true rfl) (fun q1 => ?_) (fun q1 => ?_) (fun q1 => ?_)
  · skip
    refine g_lstore_n ok dX8_why_5 rfl (Nat.le_of_ble_eq_true rfl) ?_
    refine g_lload_n ok dX8_why_6 rfl rfl ?_
    refine g_lconst (v := 0) ok dX8_why_7 (by decide +kernel) ?_
    refine g_lcmp_eq (tgt := 16) ok dX8_why_8 dX8_why_9 (by decide) ⟨by omega, by omega⟩ ⟨by omega, by omega⟩ (fun c2 => ?_) (fun c2 => ?_)
    · skip
      exfalso
      omega
    · skip
      refine g_lload_n ok dX8_why_12 rfl rfl ?_
      refine g_goto (tgt := 21) ok dX8_why_13 (by decide) ?_
      exact g_lret ok hq dX8_why_21 (ansL (by (simp only [rm_why, BAD, NO, FULL, NONE, NOTHING, INDEX, SIZE] <;> (repeat (first | rw [if_pos (by omega)] | rw [if_neg (by omega)])) <;> omega)) (by rfl))
  · skip
    refine g_lstore_n ok dX8_why_5 rfl (Nat.le_of_ble_eq_true rfl) ?_
    refine g_lload_n ok dX8_why_6 rfl rfl ?_
    refine g_lconst (v := 0) ok dX8_why_7 (by decide +kernel) ?_
    refine g_lcmp_eq (tgt := 16) ok dX8_why_8 dX8_why_9 (by decide) ⟨by omega, by omega⟩ ⟨by omega, by omega⟩ (fun c3 => ?_) (fun c3 => ?_)
    · skip
      exfalso
      omega
    · skip
      refine g_lload_n ok dX8_why_12 rfl rfl ?_
      refine g_goto (tgt := 21) ok dX8_why_13 (by decide) ?_
      exact g_lret ok hq dX8_why_21 (ansL (by (simp only [rm_why, BAD, NO, FULL, NONE, NOTHING, INDEX, SIZE] <;> (repeat (first | rw [if_pos (by omega)] | rw [if_neg (by omega)])) <;> omega)) (by rfl))
  · skip
    refine g_lstore_n ok dX8_why_5 rfl (Nat.le_of_ble_eq_true rfl) ?_
    refine g_lload_n ok dX8_why_6 rfl rfl ?_
    refine g_lconst (v := 0) ok dX8_why_7 (by decide +kernel) ?_
    refine g_lcmp_eq (tgt := 16) ok dX8_why_8 dX8_why_9 (by decide) ⟨by omega, by omega⟩ ⟨by omega, by omega⟩ (fun c4 => ?_) (fun c4 => ?_)
    · skip
      refine g_aload_n ok dX8_why_16 rfl rfl ?_
      refine g_iload_n ok dX8_why_17 rfl rfl ?_
      refine g_cV ok dX8_why_18 mv_X8_177 (c_X8_whyNot X _ _ _ (by omega) (by omega) hS hT hK hL) rfl (Vd.one rfl) rfl rfl (by decide) rfl (Nat.le_of_ble_eq_true rfl) ?_
      exact g_lret ok hq dX8_why_21 (ansL (by (simp only [rm_why, BAD, NO, FULL, NONE, NOTHING, INDEX, SIZE] <;> (repeat (first | rw [if_pos (by omega)] | rw [if_neg (by omega)])) <;> omega)) (by rfl))
    · skip
      exfalso
      omega

set_option maxRecDepth 100000 in
set_option maxHeartbeats 4000000 in
theorem c_X8_moneyOf (X : XW) (l : Launch) (σ : Mm) (z1 z2 z3 : Int) (b0 : 0 ≤ z1) (b1 : z1 < 4) (b2 : -100 ≤ z2) (b3 : z2 ≤ 100) (b4 : -10000 ≤ z3) (b5 : z3 ≤ 10000) (hS : MSt σ) : Ct X l yX8_moneyOf cX8_moneyOf 4 (Option.some FieldType.long) 1 21 σ [.inr (.inr (28, 0)), .inl z1, .inl z2, .inl z3] (Ans (some (.inr (.inl (monM σ z1 z2 z3)))) (σ)) := by
  refine Ct.intro (own := RX8) (by decide) rfl (Nat.le_of_ble_eq_true rfl) (fun M hM ok hq => ?_)
  subst hM
  show G X M cX8_moneyOf 4 σ 0 [(0, .inr (.inr (28, 0))), (1, .inl z1), (2, .inl z2), (3, .inl z3)] []
  have aM := bM hS z1
  have aS := hS z1
  have aN : 0 < z2 → 0 ≤ z2 * lossM σ z1 ∧ z2 * lossM σ z1 ≤ 5000 := fun h => ⟨Int.mul_nonneg (by omega) (by omega), by have := Int.mul_le_mul (a := z2) (b := lossM σ z1) (c := 100) (d := 50) (by omega) (by omega) (by omega) (by omega); omega⟩
  refine g_iload_n ok dX8_moneyOf_0 rfl rfl ?_
  refine g_if_le (tgt := 25) ok dX8_moneyOf_1 (by decide) ⟨by omega, by omega⟩ (fun c1 => ?_) (fun c1 => ?_)
  · skip
    refine g_iload_n ok dX8_moneyOf_25 rfl rfl ?_
    refine g_aload_n ok dX8_moneyOf_26 rfl rfl ?_
    refine g_getr ok dX8_moneyOf_27 fl_X8_48 (Vd.one rfl) rfl rfl ?_
    refine g_iload_n ok dX8_moneyOf_30 rfl rfl ?_
    refine g_iald ok dX8_moneyOf_31 (Vd.one rfl) (fun _ => rfl) ⟨by omega, by omega⟩ (by decide) rfl (fun h2 h3 => ?_)
    refine g_isub ok dX8_moneyOf_32 ?_
    refine g_i2l ok dX8_moneyOf_33 ⟨by omega, by omega⟩ ?_
    refine g_iload_n ok dX8_moneyOf_34 rfl rfl ?_
    refine g_ineg ok dX8_moneyOf_35 ?_
    refine g_i2l ok dX8_moneyOf_36 ⟨by omega, by omega⟩ ?_
    refine g_lmul ok dX8_moneyOf_37 ?_
    exact g_lret ok hq dX8_moneyOf_38 (ansL (by (simp only [monM, mon] <;> (repeat (first | rw [if_pos (by omega)] | rw [if_neg (by omega)])))) (by rfl))
  · skip
    refine g_iload_n ok dX8_moneyOf_4 rfl rfl ?_
    refine g_i2l ok dX8_moneyOf_5 ⟨by omega, by omega⟩ ?_
    refine g_lneg ok dX8_moneyOf_6 ?_
    refine g_iload_n ok dX8_moneyOf_7 rfl rfl ?_
    refine g_iload_n ok dX8_moneyOf_8 rfl rfl ?_
    refine g_aload_n ok dX8_moneyOf_9 rfl rfl ?_
    refine g_iload_n ok dX8_moneyOf_10 rfl rfl ?_
    refine g_cV ok dX8_moneyOf_11 mv_X8_155 (c_X8_loss X _ _ _ (by omega) (by omega) hS) rfl (Vd.one rfl) rfl rfl (by decide) rfl (Nat.le_of_ble_eq_true rfl) ?_
    refine g_imul ok dX8_moneyOf_14 ?_
    refine g_bipush (v := 99) ok dX8_moneyOf_15 (by decide +kernel) ?_
    refine g_iadd ok dX8_moneyOf_17 ?_
    refine g_bipush (v := 100) ok dX8_moneyOf_18 (by decide +kernel) ?_
    refine g_idivP ok dX8_moneyOf_20 ⟨by omega, by omega⟩ ⟨by omega, by omega⟩ (by omega) (by omega) ?_
    refine g_iadd ok dX8_moneyOf_21 ?_
    refine g_i2l ok dX8_moneyOf_22 ⟨by omega, by omega⟩ ?_
    refine g_lmul ok dX8_moneyOf_23 ?_
    exact g_lret ok hq dX8_moneyOf_24 (ansL (by (simp only [monM, mon] <;> (repeat (first | rw [if_pos (by omega)] | rw [if_neg (by omega)])))) (by rfl))

set_option maxRecDepth 100000 in
set_option maxHeartbeats 4000000 in
theorem c_X8_moneyIn (X : XW) (l : Launch) (σ : Mm) (z1 z2 : Int) (b0 : 0 ≤ z1) (b1 : z1 < 4) (b2 : 0 ≤ z2) (b3 : z2 < 4) (hS : MSt σ) (hT : MT σ) (hL : ML σ) (hP : MP σ) : Ct X l yX8_moneyIn cX8_moneyIn 6 (Option.some FieldType.long) 2 44 σ [.inr (.inr (28, 0)), .inl z1, .inl z2] (Ans (some (.inr (.inl (mnM σ z1 z2)))) (σ)) := by
  refine Ct.intro (own := RX8) (by decide) rfl (Nat.le_of_ble_eq_true rfl) (fun M hM ok hq => ?_)
  subst hM
  show G X M cX8_moneyIn 6 σ 0 [(0, .inr (.inr (28, 0))), (1, .inl z1), (2, .inl z2)] []
  have aT := hT.1
  have aT2 := hT.2
  refine g_lconst (v := 0) ok dX8_moneyIn_0 (by decide +kernel) ?_
  refine g_lstore_n ok dX8_moneyIn_1 rfl (Nat.le_of_ble_eq_true rfl) ?_
  refine g_iconst (v := 0) ok dX8_moneyIn_2 (by decide +kernel) ?_
  refine g_istore ok dX8_moneyIn_3 (Nat.le_of_ble_eq_true rfl) ?_
  have L5 : ∀ (n : Nat) (t : Int) (c : Int), (0 ≤ t) → (t ≤ σ 28 0 0) → (c = sm (fun t => monM σ z1 (σ 43 0 (36 * z1 + t)) (pM σ z2 t)) t) → (σ 28 0 0 - t < n) → G X M cX8_moneyIn 6 σ 5 [(0, .inr (.inr (28, 0))), (1, .inl z1), (2, .inl z2), (3, .inr (.inl c)), (5, .inl t)] [] := by
    intro n
    induction n with
    | zero => intro t c hk0 hk1 hc hm; exact absurd hm (by omega)
    | succ n L5ih =>
      intro t c hk0 hk1 hc hm
      refine g_iload ok dX8_moneyIn_5 rfl ?_
      refine g_aload_n ok dX8_moneyIn_7 rfl rfl ?_
      refine g_geti (z := 0) ok dX8_moneyIn_8 fl_X8_7 (Vd.one rfl) rfl rfl rfl (fun h1 h2 => ?_)
      refine g_icmp_ge (tgt := 47) ok dX8_moneyIn_11 (by decide) ⟨by omega, by omega⟩ ⟨by omega, by omega⟩ (fun c3 => ?_) (fun c3 => ?_)
      · skip
        refine g_lload_n ok dX8_moneyIn_47 rfl rfl ?_
        exact g_lret ok hq dX8_moneyIn_48 (ansL (by (unfold mnM; rw [hc, show t = σ 28 0 0 by omega])) (by rfl))
      · skip
        have aL := hL (36 * z1 + t)
        have aP := pM_b hP z2 t
        refine g_lload_n ok dX8_moneyIn_14 rfl rfl ?_
        refine g_aload_n ok dX8_moneyIn_15 rfl rfl ?_
        refine g_iload_n ok dX8_moneyIn_16 rfl rfl ?_
        refine g_aload_n ok dX8_moneyIn_17 rfl rfl ?_
        refine g_getr ok dX8_moneyIn_18 fl_X8_57 (Vd.one rfl) rfl rfl ?_
        refine g_bipush (v := 36) ok dX8_moneyIn_21 (by decide +kernel) ?_
        refine g_iload_n ok dX8_moneyIn_23 rfl rfl ?_
        refine g_imul ok dX8_moneyIn_24 ?_
        refine g_iload ok dX8_moneyIn_25 rfl ?_
        refine g_iadd ok dX8_moneyIn_27 ?_
        refine g_iald ok dX8_moneyIn_28 (Vd.one rfl) (fun _ => rfl) ⟨by omega, by omega⟩ (by decide) rfl (fun h4 h5 => ?_)
        refine g_aload_n ok dX8_moneyIn_29 rfl rfl ?_
        refine g_iload_n ok dX8_moneyIn_30 rfl rfl ?_
        refine g_iload ok dX8_moneyIn_31 rfl ?_
        refine g_cV ok dX8_moneyIn_33 mv_X8_110 (c_X8_priceOf X _ _ _ _ (by omega) (by omega) (by omega) (by omega) hP) rfl (Vd.one rfl) rfl rfl (by decide) rfl (Nat.le_of_ble_eq_true rfl) ?_
        refine g_cV ok dX8_moneyIn_36 mv_X8_180 (c_X8_moneyOf X _ _ _ _ _ (by omega) (by omega) (by omega) (by omega) (by omega) (by omega) hS) rfl (Vd.one rfl) rfl rfl (by decide) rfl (Nat.le_of_ble_eq_true rfl) ?_
        refine g_ladd ok dX8_moneyIn_39 ?_
        refine g_lstore_n ok dX8_moneyIn_40 rfl (Nat.le_of_ble_eq_true rfl) ?_
        refine g_iinc ok dX8_moneyIn_41 rfl rfl (Nat.le_of_ble_eq_true rfl) ?_
        refine g_goto (tgt := 5) ok dX8_moneyIn_44 (by decide) ?_
        refine G.norm [(0, .inr (.inr (28, 0))), (1, .inl z1), (2, .inl z2), (3, .inr (.inl _)), (5, .inl _)] ⟨rfl, rfl, rfl, rfl, rfl, trivial⟩ (L5ih _ _ ?_ ?_ ?_ ?_)
        · omega
        · omega
        · (rw [sm_s (by omega), hc])
        · omega
  refine G.norm [(0, .inr (.inr (28, 0))), (1, .inl z1), (2, .inl z2), (3, .inr (.inl _)), (5, .inl _)] ⟨rfl, rfl, rfl, rfl, rfl, trivial⟩ (L5 (σ 28 0 0 + 1).toNat _ _ ?_ ?_ ?_ ?_)
  · omega
  · omega
  · rfl
  · omega

set_option maxRecDepth 100000 in
set_option maxHeartbeats 4000000 in
theorem c_X8_money (X : XW) (l : Launch) (σ : Mm) (z1 z2 : Int) (rz1 : R32 z1) (rz2 : R32 z2) (hS : MSt σ) (hT : MT σ) (hL : ML σ) (hP : MP σ) : Ct X l yX8_money cX8_money 3 (Option.some FieldType.long) 3 69 σ [.inr (.inr (28, 0)), .inl z1, .inl z2] (Ans (some (.inr (.inl (rm_money σ z1 z2)))) (σ)) := by
  refine Ct.intro (own := RX8) (by decide) rfl (Nat.le_of_ble_eq_true rfl) (fun M hM ok hq => ?_)
  subst hM
  have rz1l := rz1.1
  have rz1r := rz1.2
  have rz2l := rz2.1
  have rz2r := rz2.2
  show G X M cX8_money 3 σ 0 [(0, .inr (.inr (28, 0))), (1, .inl z1), (2, .inl z2)] []
  have aT := hT.1
  have aT2 := hT.2
  refine g_iload_n ok dX8_money_0 rfl rfl ?_
  refine g_cS ok dX8_money_1 ms_X8_124 (c_X8_isStore X _ _ _ ⟨by omega, by omega⟩) rfl (by decide) rfl (Nat.le_of_ble_eq_true rfl) ?_
  refine g_ifb_eq (tgt := 14) ok dX8_money_4 (by decide) (fun c1 => ?_) (fun c1 => ?_)
  · skip
    refine g_ldc2 (v := -9000000000000000001) ok dX8_money_14 wd4_69 (by decide +kernel) ?_
    exact g_lret ok hq dX8_money_17 (ansL (by (simp only [rm_money, BAD, NO, FULL, NONE, NOTHING, INDEX, SIZE] <;> (repeat (first | rw [if_pos (by omega)] | rw [if_neg (by omega)])) <;> omega)) (by rfl))
  · skip
    refine g_iload_n ok dX8_money_7 rfl rfl ?_
    refine g_cS ok dX8_money_8 ms_X8_96 (c_X8_isWorld X _ _ _ ⟨by omega, by omega⟩) rfl (by decide) rfl (Nat.le_of_ble_eq_true rfl) ?_
    refine g_ifb_ne (tgt := 18) ok dX8_money_11 (by decide) (fun c2 => ?_) (fun c2 => ?_)
    · skip
      refine g_aload_n ok dX8_money_18 rfl rfl ?_
      refine g_getr ok dX8_money_19 fl_X8_30 (Vd.one rfl) rfl rfl ?_
      refine g_iload_n ok dX8_money_22 rfl rfl ?_
      refine g_iald ok dX8_money_23 (Vd.one rfl) (fun _ => rfl) ⟨by omega, by omega⟩ (by decide) rfl (fun h3 h4 => ?_)
      refine g_if_ge (tgt := 33) ok dX8_money_24 (by decide) ⟨by omega, by omega⟩ (fun c5 => ?_) (fun c5 => ?_)
      · skip
        refine g_aload_n ok dX8_money_33 rfl rfl ?_
        refine g_iload_n ok dX8_money_34 rfl rfl ?_
        refine g_iload_n ok dX8_money_35 rfl rfl ?_
        refine g_cV ok dX8_money_36 mv_X8_184 (c_X8_moneyIn X _ _ _ _ (by omega) (by omega) (by omega) (by omega) hS hT hL hP) rfl (Vd.one rfl) rfl rfl (by decide) rfl (Nat.le_of_ble_eq_true rfl) ?_
        exact g_lret ok hq dX8_money_39 (ansL (by (simp only [rm_money, BAD, NO, FULL, NONE, NOTHING, INDEX, SIZE] <;> (repeat (first | rw [if_pos (by omega)] | rw [if_neg (by omega)])) <;> omega)) (by rfl))
      · skip
        refine g_ldc2 (v := -9000000000000000002) ok dX8_money_27 wd4_104 (by decide +kernel) ?_
        refine g_goto (tgt := 39) ok dX8_money_30 (by decide) ?_
        exact g_lret ok hq dX8_money_39 (ansL (by (simp only [rm_money, BAD, NO, FULL, NONE, NOTHING, INDEX, SIZE] <;> (repeat (first | rw [if_pos (by omega)] | rw [if_neg (by omega)])) <;> omega)) (by rfl))
    · skip
      refine g_ldc2 (v := -9000000000000000001) ok dX8_money_14 wd4_69 (by decide +kernel) ?_
      exact g_lret ok hq dX8_money_17 (ansL (by (simp only [rm_money, BAD, NO, FULL, NONE, NOTHING, INDEX, SIZE] <;> (repeat (first | rw [if_pos (by omega)] | rw [if_neg (by omega)])) <;> omega)) (by rfl))

set_option maxRecDepth 100000 in
set_option maxHeartbeats 4000000 in
theorem c_X8_isTaken (X : XW) (l : Launch) (σ : Mm) (z1 z2 : Int) (b0 : 0 ≤ z1) (b1 : z1 < 12) (b2 : 0 ≤ z2) (b3 : z2 < 4) (hP : MP σ) (hD : MD σ) : Ct X l yX8_isTaken cX8_isTaken 6 (Option.some FieldType.boolean) 1 22 σ [.inr (.inr (28, 0)), .inl z1, .inl z2] (Ans (some (.inl (bI (takM σ z1 z2)))) (σ)) := by
  refine Ct.intro (own := RX8) (by decide) rfl (Nat.le_of_ble_eq_true rfl) (fun M hM ok hq => ?_)
  subst hM
  show G X M cX8_isTaken 6 σ 0 [(0, .inr (.inr (28, 0))), (1, .inl z1), (2, .inl z2)] []
  have aD := hD.2 z1
  refine g_lconst (v := 0) ok dX8_isTaken_0 (by decide +kernel) ?_
  refine g_lstore_n ok dX8_isTaken_1 rfl (Nat.le_of_ble_eq_true rfl) ?_
  refine g_aload_n ok dX8_isTaken_2 rfl rfl ?_
  refine g_getr ok dX8_isTaken_3 fl_X8_60 (Vd.one rfl) rfl rfl ?_
  refine g_iconst (v := 4) ok dX8_isTaken_6 (by decide +kernel) ?_
  refine g_iload_n ok dX8_isTaken_7 rfl rfl ?_
  refine g_imul ok dX8_isTaken_8 ?_
  refine g_iald ok dX8_isTaken_9 (Vd.one rfl) (fun _ => rfl) ⟨by omega, by omega⟩ (by decide) rfl (fun h1 h2 => ?_)
  refine g_istore ok dX8_isTaken_10 (Nat.le_of_ble_eq_true rfl) ?_
  have L12 : ∀ (n : Nat) (t : Int) (c : Int), (σ 44 0 (4 * z1) ≤ t) → (t ≤ σ 44 0 (4 * z1 + 1) + 1) → (c = sm (fun k => pM σ z2 (σ 44 0 (4 * z1) + k) - σ 44 0 (4 * z1 + 3)) (t - σ 44 0 (4 * z1))) → (-20000 * (t - σ 44 0 (4 * z1)) ≤ c ∧ c ≤ 20000 * (t - σ 44 0 (4 * z1))) → (σ 44 0 (4 * z1 + 1) + 1 - t < n) → G X M cX8_isTaken 6 σ 12 [(0, .inr (.inr (28, 0))), (1, .inl z1), (2, .inl z2), (3, .inr (.inl c)), (5, .inl t)] [] := by
    intro n
    induction n with
    | zero => intro t c hk0 hk1 hc hb hm; exact absurd hm (by omega)
    | succ n L12ih =>
      intro t c hk0 hk1 hc hb hm
      refine g_iload ok dX8_isTaken_12 rfl ?_
      refine g_aload_n ok dX8_isTaken_14 rfl rfl ?_
      refine g_getr ok dX8_isTaken_15 fl_X8_60 (Vd.one rfl) rfl rfl ?_
      refine g_iconst (v := 4) ok dX8_isTaken_18 (by decide +kernel) ?_
      refine g_iload_n ok dX8_isTaken_19 rfl rfl ?_
      refine g_imul ok dX8_isTaken_20 ?_
      refine g_iconst (v := 1) ok dX8_isTaken_21 (by decide +kernel) ?_
      refine g_iadd ok dX8_isTaken_22 ?_
      refine g_iald ok dX8_isTaken_23 (Vd.one rfl) (fun _ => rfl) ⟨by omega, by omega⟩ (by decide) rfl (fun h3 h4 => ?_)
      refine g_icmp_gt (tgt := 55) ok dX8_isTaken_24 (by decide) ⟨by omega, by omega⟩ ⟨by omega, by omega⟩ (fun c5 => ?_) (fun c5 => ?_)
      · skip
        refine g_aload_n ok dX8_isTaken_55 rfl rfl ?_
        refine g_getr ok dX8_isTaken_56 fl_X8_60 (Vd.one rfl) rfl rfl ?_
        refine g_iconst (v := 4) ok dX8_isTaken_59 (by decide +kernel) ?_
        refine g_iload_n ok dX8_isTaken_60 rfl rfl ?_
        refine g_imul ok dX8_isTaken_61 ?_
        refine g_iconst (v := 2) ok dX8_isTaken_62 (by decide +kernel) ?_
        refine g_iadd ok dX8_isTaken_63 ?_
        refine g_iald ok dX8_isTaken_64 (Vd.one rfl) (fun _ => rfl) ⟨by omega, by omega⟩ (by decide) rfl (fun h6 h7 => ?_)
        refine g_if_ge (tgt := 82) ok dX8_isTaken_65 (by decide) ⟨by omega, by omega⟩ (fun c8 => ?_) (fun c8 => ?_)
        · skip
          refine g_lload_n ok dX8_isTaken_82 rfl rfl ?_
          refine g_lconst (v := 0) ok dX8_isTaken_83 (by decide +kernel) ?_
          refine g_lcmp_gt (tgt := 92) ok dX8_isTaken_84 dX8_isTaken_85 (by decide) ⟨by omega, by omega⟩ ⟨by omega, by omega⟩ (fun c9 => ?_) (fun c9 => ?_)
          · skip
            refine g_iconst (v := 0) ok dX8_isTaken_92 (by decide +kernel) ?_
            exact g_zret ok hq dX8_isTaken_93 (by omega) (by omega) (ansI (by first | (rw [bI_t (by unfold takM tkM; rw [show σ 44 0 (4 * z1 + 1) - σ 44 0 (4 * z1) + 1 = t - σ 44 0 (4 * z1) by omega, ← hc]; omega)]) | (rw [bI_f (by unfold takM tkM; rw [show σ 44 0 (4 * z1 + 1) - σ 44 0 (4 * z1) + 1 = t - σ 44 0 (4 * z1) by omega, ← hc]; omega)])) (by rfl))
          · skip
            refine g_iconst (v := 1) ok dX8_isTaken_88 (by decide +kernel) ?_
            refine g_goto (tgt := 93) ok dX8_isTaken_89 (by decide) ?_
            exact g_zret ok hq dX8_isTaken_93 (by omega) (by omega) (ansI (by first | (rw [bI_t (by unfold takM tkM; rw [show σ 44 0 (4 * z1 + 1) - σ 44 0 (4 * z1) + 1 = t - σ 44 0 (4 * z1) by omega, ← hc]; omega)]) | (rw [bI_f (by unfold takM tkM; rw [show σ 44 0 (4 * z1 + 1) - σ 44 0 (4 * z1) + 1 = t - σ 44 0 (4 * z1) by omega, ← hc]; omega)])) (by rfl))
        · skip
          refine g_lload_n ok dX8_isTaken_68 rfl rfl ?_
          refine g_lconst (v := 0) ok dX8_isTaken_69 (by decide +kernel) ?_
          refine g_lcmp_lt (tgt := 78) ok dX8_isTaken_70 dX8_isTaken_71 (by decide) ⟨by omega, by omega⟩ ⟨by omega, by omega⟩ (fun c10 => ?_) (fun c10 => ?_)
          · skip
            refine g_iconst (v := 0) ok dX8_isTaken_78 (by decide +kernel) ?_
            refine g_goto (tgt := 93) ok dX8_isTaken_79 (by decide) ?_
            exact g_zret ok hq dX8_isTaken_93 (by omega) (by omega) (ansI (by first | (rw [bI_t (by unfold takM tkM; rw [show σ 44 0 (4 * z1 + 1) - σ 44 0 (4 * z1) + 1 = t - σ 44 0 (4 * z1) by omega, ← hc]; omega)]) | (rw [bI_f (by unfold takM tkM; rw [show σ 44 0 (4 * z1 + 1) - σ 44 0 (4 * z1) + 1 = t - σ 44 0 (4 * z1) by omega, ← hc]; omega)])) (by rfl))
          · skip
            refine g_iconst (v := 1) ok dX8_isTaken_74 (by decide +kernel) ?_
            refine g_goto (tgt := 93) ok dX8_isTaken_75 (by decide) ?_
            exact g_zret ok hq dX8_isTaken_93 (by omega) (by omega) (ansI (by first | (rw [bI_t (by unfold takM tkM; rw [show σ 44 0 (4 * z1 + 1) - σ 44 0 (4 * z1) + 1 = t - σ 44 0 (4 * z1) by omega, ← hc]; omega)]) | (rw [bI_f (by unfold takM tkM; rw [show σ 44 0 (4 * z1 + 1) - σ 44 0 (4 * z1) + 1 = t - σ 44 0 (4 * z1) by omega, ← hc]; omega)])) (by rfl))
      · skip
        refine g_lload_n ok dX8_isTaken_27 rfl rfl ?_
        refine g_aload_n ok dX8_isTaken_28 rfl rfl ?_
        refine g_iload_n ok dX8_isTaken_29 rfl rfl ?_
        refine g_iload ok dX8_isTaken_30 rfl ?_
        refine g_cV ok dX8_isTaken_32 mv_X8_110 (c_X8_priceOf X _ _ _ _ (by omega) (by omega) (by omega) (by omega) hP) rfl (Vd.one rfl) rfl rfl (by decide) rfl (Nat.le_of_ble_eq_true rfl) ?_
        have aP := pM_b hP z2 t
        refine g_aload_n ok dX8_isTaken_35 rfl rfl ?_
        refine g_getr ok dX8_isTaken_36 fl_X8_60 (Vd.one rfl) rfl rfl ?_
        refine g_iconst (v := 4) ok dX8_isTaken_39 (by decide +kernel) ?_
        refine g_iload_n ok dX8_isTaken_40 rfl rfl ?_
        refine g_imul ok dX8_isTaken_41 ?_
        refine g_iconst (v := 3) ok dX8_isTaken_42 (by decide +kernel) ?_
        refine g_iadd ok dX8_isTaken_43 ?_
        refine g_iald ok dX8_isTaken_44 (Vd.one rfl) (fun _ => rfl) ⟨by omega, by omega⟩ (by decide) rfl (fun h11 h12 => ?_)
        refine g_isub ok dX8_isTaken_45 ?_
        refine g_i2l ok dX8_isTaken_46 ⟨by omega, by omega⟩ ?_
        refine g_ladd ok dX8_isTaken_47 ?_
        refine g_lstore_n ok dX8_isTaken_48 rfl (Nat.le_of_ble_eq_true rfl) ?_
        refine g_iinc ok dX8_isTaken_49 rfl rfl (Nat.le_of_ble_eq_true rfl) ?_
        refine g_goto (tgt := 12) ok dX8_isTaken_52 (by decide) ?_
        refine G.norm [(0, .inr (.inr (28, 0))), (1, .inl z1), (2, .inl z2), (3, .inr (.inl _)), (5, .inl _)] ⟨rfl, rfl, rfl, rfl, rfl, trivial⟩ (L12ih _ _ ?_ ?_ ?_ ?_ ?_)
        · omega
        · omega
        · (rw [show t + 1 - σ 44 0 (4 * z1) = (t - σ 44 0 (4 * z1)) + 1 by omega, sm_s (by omega), hc]; (try dsimp only); rw [show σ 44 0 (4 * z1) + (t - σ 44 0 (4 * z1)) = t by omega])
        · omega
        · omega
  refine G.norm [(0, .inr (.inr (28, 0))), (1, .inl z1), (2, .inl z2), (3, .inr (.inl _)), (5, .inl _)] ⟨rfl, rfl, rfl, rfl, rfl, trivial⟩ (L12 (38 : Nat) _ _ ?_ ?_ ?_ ?_ ?_)
  · omega
  · omega
  · (rw [Int.sub_self, sm_0])
  · omega
  · omega

set_option maxRecDepth 100000 in
set_option maxHeartbeats 4000000 in
theorem c_X8_taken (X : XW) (l : Launch) (σ : Mm) (z1 z2 : Int) (rz1 : R32 z1) (rz2 : R32 z2) (hP : MP σ) (hD : MD σ) : Ct X l yX8_taken cX8_taken 3 (Option.some FieldType.long) 2 47 σ [.inr (.inr (28, 0)), .inl z1, .inl z2] (Ans (some (.inr (.inl (rm_taken σ z1 z2)))) (σ)) := by
  refine Ct.intro (own := RX8) (by decide) rfl (Nat.le_of_ble_eq_true rfl) (fun M hM ok hq => ?_)
  subst hM
  have rz1l := rz1.1
  have rz1r := rz1.2
  have rz2l := rz2.1
  have rz2r := rz2.2
  show G X M cX8_taken 3 σ 0 [(0, .inr (.inr (28, 0))), (1, .inl z1), (2, .inl z2)] []
  have aD := hD.1
  refine g_iload_n ok dX8_taken_0 rfl rfl ?_
  refine g_i2l ok dX8_taken_1 ⟨by omega, by omega⟩ ?_
  refine g_lconst (v := 0) ok dX8_taken_2 (by decide +kernel) ?_
  refine g_aload_n ok dX8_taken_3 rfl rfl ?_
  refine g_geti (z := 17) ok dX8_taken_4 fl_X8_89 (Vd.one rfl) rfl rfl rfl (fun h1 h2 => ?_)
  refine g_iconst (v := 1) ok dX8_taken_7 (by decide +kernel) ?_
  refine g_isub ok dX8_taken_8 ?_
  refine g_i2l ok dX8_taken_9 ⟨by omega, by omega⟩ ?_
  refine g_cS ok dX8_taken_10 ms_X8_81 (c_X8_isIn X _ _ _ _ _ ⟨by omega, by omega⟩ ⟨by omega, by omega⟩ ⟨by omega, by omega⟩) rfl (by decide) rfl (Nat.le_of_ble_eq_true rfl) ?_
  refine g_ifb_eq (tgt := 23) ok dX8_taken_13 (by decide) (fun c3 => ?_) (fun c3 => ?_)
  · skip
    refine g_ldc2 (v := -9000000000000000001) ok dX8_taken_23 wd4_69 (by decide +kernel) ?_
    exact g_lret ok hq dX8_taken_26 (ansL (by (simp only [rm_taken, takMi, BAD] <;> first | (rw [if_pos (by omega), bI_t (by assumption)]) | (rw [if_pos (by omega), bI_f (by assumption)]) | (rw [if_neg (by omega)]))) (by rfl))
  · skip
    refine g_iload_n ok dX8_taken_16 rfl rfl ?_
    refine g_cS ok dX8_taken_17 ms_X8_96 (c_X8_isWorld X _ _ _ ⟨by omega, by omega⟩) rfl (by decide) rfl (Nat.le_of_ble_eq_true rfl) ?_
    refine g_ifb_ne (tgt := 27) ok dX8_taken_20 (by decide) (fun c4 => ?_) (fun c4 => ?_)
    · skip
      refine g_aload_n ok dX8_taken_27 rfl rfl ?_
      refine g_iload_n ok dX8_taken_28 rfl rfl ?_
      refine g_iload_n ok dX8_taken_29 rfl rfl ?_
      refine g_cV ok dX8_taken_30 mv_X8_219 (c_X8_isTaken X _ _ _ _ (by omega) (by omega) (by omega) (by omega) hP hD) rfl (Vd.one rfl) rfl rfl (by decide) rfl (Nat.le_of_ble_eq_true rfl) ?_
      refine g_ifb_eq (tgt := 40) ok dX8_taken_33 (by decide) (fun c5 => ?_) (fun c5 => ?_)
      · skip
        refine g_lconst (v := 0) ok dX8_taken_40 (by decide +kernel) ?_
        exact g_lret ok hq dX8_taken_41 (ansL (by (simp only [rm_taken, takMi, BAD] <;> first | (rw [if_pos (by omega), bI_t (by assumption)]) | (rw [if_pos (by omega), bI_f (by assumption)]) | (rw [if_neg (by omega)]))) (by rfl))
      · skip
        refine g_lconst (v := 1) ok dX8_taken_36 (by decide +kernel) ?_
        refine g_goto (tgt := 41) ok dX8_taken_37 (by decide) ?_
        exact g_lret ok hq dX8_taken_41 (ansL (by (simp only [rm_taken, takMi, BAD] <;> first | (rw [if_pos (by omega), bI_t (by assumption)]) | (rw [if_pos (by omega), bI_f (by assumption)]) | (rw [if_neg (by omega)]))) (by rfl))
    · skip
      refine g_ldc2 (v := -9000000000000000001) ok dX8_taken_23 wd4_69 (by decide +kernel) ?_
      exact g_lret ok hq dX8_taken_26 (ansL (by (simp only [rm_taken, takMi, BAD] <;> first | (rw [if_pos (by omega), bI_t (by assumption)]) | (rw [if_pos (by omega), bI_f (by assumption)]) | (rw [if_neg (by omega)]))) (by rfl))

set_option maxRecDepth 100000 in
set_option maxHeartbeats 4000000 in
theorem c_X8_wantedOf (X : XW) (l : Launch) (σ : Mm) (z1 z2 : Int) (b0 : 0 ≤ z1) (b1 : z1 < 4) (b2 : 0 ≤ z2) (b3 : z2 < 36) (hP : MP σ) (hD : MD σ) : Ct X l yX8_wantedOf cX8_wantedOf 5 (Option.some FieldType.int) 2 47 σ [.inr (.inr (28, 0)), .inl z1, .inl z2] (Ans (some (.inl (waM σ z1 z2))) (σ)) := by
  refine Ct.intro (own := RX8) (by decide) rfl (Nat.le_of_ble_eq_true rfl) (fun M hM ok hq => ?_)
  subst hM
  show G X M cX8_wantedOf 5 σ 0 [(0, .inr (.inr (28, 0))), (1, .inl z1), (2, .inl z2)] []
  have aD := hD.1
  refine g_iconst (v := 0) ok dX8_wantedOf_0 (by decide +kernel) ?_
  refine g_istore_n ok dX8_wantedOf_1 rfl (Nat.le_of_ble_eq_true rfl) ?_
  refine g_iconst (v := 0) ok dX8_wantedOf_2 (by decide +kernel) ?_
  refine g_istore ok dX8_wantedOf_3 (Nat.le_of_ble_eq_true rfl) ?_
  have L5 : ∀ (n : Nat) (k : Int) (c : Int), (0 ≤ k) → (k ≤ σ 28 0 17) → (c = sm (fun b => if (σ 44 0 (4 * b) ≤ z2 ∧ z2 ≤ σ 44 0 (4 * b + 1)) ∧ takM σ b z1 then σ 44 0 (4 * b + 2) else 0) k) → (σ 28 0 17 - k < n) → G X M cX8_wantedOf 5 σ 5 [(0, .inr (.inr (28, 0))), (1, .inl z1), (2, .inl z2), (3, .inl c), (4, .inl k)] [] := by
    intro n
    induction n with
    | zero => intro k c hk0 hk1 hc hm; exact absurd hm (by omega)
    | succ n L5ih =>
      intro k c hk0 hk1 hc hm
      refine g_iload ok dX8_wantedOf_5 rfl ?_
      refine g_aload_n ok dX8_wantedOf_7 rfl rfl ?_
      refine g_geti (z := 17) ok dX8_wantedOf_8 fl_X8_89 (Vd.one rfl) rfl rfl rfl (fun h1 h2 => ?_)
      refine g_icmp_ge (tgt := 76) ok dX8_wantedOf_11 (by decide) ⟨by omega, by omega⟩ ⟨by omega, by omega⟩ (fun c3 => ?_) (fun c3 => ?_)
      · skip
        refine g_iload_n ok dX8_wantedOf_76 rfl rfl ?_
        exact g_iret ok hq dX8_wantedOf_77 (ansI (by (unfold waM; rw [hc, show k = σ 28 0 17 by omega])) (by rfl))
      · skip
        refine g_iload_n ok dX8_wantedOf_14 rfl rfl ?_
        refine g_iload_n ok dX8_wantedOf_15 rfl rfl ?_
        refine g_aload_n ok dX8_wantedOf_16 rfl rfl ?_
        refine g_getr ok dX8_wantedOf_17 fl_X8_60 (Vd.one rfl) rfl rfl ?_
        refine g_iconst (v := 4) ok dX8_wantedOf_20 (by decide +kernel) ?_
        refine g_iload ok dX8_wantedOf_21 rfl ?_
        refine g_imul ok dX8_wantedOf_23 ?_
        refine g_iald ok dX8_wantedOf_24 (Vd.one rfl) (fun _ => rfl) ⟨by omega, by omega⟩ (by decide) rfl (fun h4 h5 => ?_)
        refine g_icmp_lt (tgt := 67) ok dX8_wantedOf_25 (by decide) ⟨by omega, by omega⟩ ⟨by omega, by omega⟩ (fun c6 => ?_) (fun c6 => ?_)
        · skip
          refine g_iconst (v := 0) ok dX8_wantedOf_67 (by decide +kernel) ?_
          refine g_iadd ok dX8_wantedOf_68 ?_
          refine g_istore_n ok dX8_wantedOf_69 rfl (Nat.le_of_ble_eq_true rfl) ?_
          refine g_iinc ok dX8_wantedOf_70 rfl rfl (Nat.le_of_ble_eq_true rfl) ?_
          refine g_goto (tgt := 5) ok dX8_wantedOf_73 (by decide) ?_
          refine G.norm [(0, .inr (.inr (28, 0))), (1, .inl z1), (2, .inl z2), (3, .inl _), (4, .inl _)] ⟨rfl, rfl, rfl, rfl, rfl, trivial⟩ (L5ih _ _ ?_ ?_ ?_ ?_)
          · omega
          · omega
          · (rw [sm_s (by omega), hc]; (try dsimp only); first | (rw [if_pos ⟨⟨by omega, by omega⟩, by assumption⟩]) | (rw [if_neg (fun q => absurd q.2 (by assumption))]) | (rw [if_neg (fun q => absurd q.1 (by omega))]))
          · omega
        · skip
          refine g_iload_n ok dX8_wantedOf_28 rfl rfl ?_
          refine g_aload_n ok dX8_wantedOf_29 rfl rfl ?_
          refine g_getr ok dX8_wantedOf_30 fl_X8_60 (Vd.one rfl) rfl rfl ?_
          refine g_iconst (v := 4) ok dX8_wantedOf_33 (by decide +kernel) ?_
          refine g_iload ok dX8_wantedOf_34 rfl ?_
          refine g_imul ok dX8_wantedOf_36 ?_
          refine g_iconst (v := 1) ok dX8_wantedOf_37 (by decide +kernel) ?_
          refine g_iadd ok dX8_wantedOf_38 ?_
          refine g_iald ok dX8_wantedOf_39 (Vd.one rfl) (fun _ => rfl) ⟨by omega, by omega⟩ (by decide) rfl (fun h7 h8 => ?_)
          refine g_icmp_gt (tgt := 67) ok dX8_wantedOf_40 (by decide) ⟨by omega, by omega⟩ ⟨by omega, by omega⟩ (fun c9 => ?_) (fun c9 => ?_)
          · skip
            refine g_iconst (v := 0) ok dX8_wantedOf_67 (by decide +kernel) ?_
            refine g_iadd ok dX8_wantedOf_68 ?_
            refine g_istore_n ok dX8_wantedOf_69 rfl (Nat.le_of_ble_eq_true rfl) ?_
            refine g_iinc ok dX8_wantedOf_70 rfl rfl (Nat.le_of_ble_eq_true rfl) ?_
            refine g_goto (tgt := 5) ok dX8_wantedOf_73 (by decide) ?_
            refine G.norm [(0, .inr (.inr (28, 0))), (1, .inl z1), (2, .inl z2), (3, .inl _), (4, .inl _)] ⟨rfl, rfl, rfl, rfl, rfl, trivial⟩ (L5ih _ _ ?_ ?_ ?_ ?_)
            · omega
            · omega
            · (rw [sm_s (by omega), hc]; (try dsimp only); first | (rw [if_pos ⟨⟨by omega, by omega⟩, by assumption⟩]) | (rw [if_neg (fun q => absurd q.2 (by assumption))]) | (rw [if_neg (fun q => absurd q.1 (by omega))]))
            · omega
          · skip
            refine g_aload_n ok dX8_wantedOf_43 rfl rfl ?_
            refine g_iload ok dX8_wantedOf_44 rfl ?_
            refine g_iload_n ok dX8_wantedOf_46 rfl rfl ?_
            refine g_cV ok dX8_wantedOf_47 mv_X8_219 (c_X8_isTaken X _ _ _ _ (by omega) (by omega) (by omega) (by omega) hP hD) rfl (Vd.one rfl) rfl rfl (by decide) rfl (Nat.le_of_ble_eq_true rfl) ?_
            refine g_ifb_eq (tgt := 67) ok dX8_wantedOf_50 (by decide) (fun c10 => ?_) (fun c10 => ?_)
            · skip
              refine g_iconst (v := 0) ok dX8_wantedOf_67 (by decide +kernel) ?_
              refine g_iadd ok dX8_wantedOf_68 ?_
              refine g_istore_n ok dX8_wantedOf_69 rfl (Nat.le_of_ble_eq_true rfl) ?_
              refine g_iinc ok dX8_wantedOf_70 rfl rfl (Nat.le_of_ble_eq_true rfl) ?_
              refine g_goto (tgt := 5) ok dX8_wantedOf_73 (by decide) ?_
              refine G.norm [(0, .inr (.inr (28, 0))), (1, .inl z1), (2, .inl z2), (3, .inl _), (4, .inl _)] ⟨rfl, rfl, rfl, rfl, rfl, trivial⟩ (L5ih _ _ ?_ ?_ ?_ ?_)
              · omega
              · omega
              · (rw [sm_s (by omega), hc]; (try dsimp only); first | (rw [if_pos ⟨⟨by omega, by omega⟩, by assumption⟩]) | (rw [if_neg (fun q => absurd q.2 (by assumption))]) | (rw [if_neg (fun q => absurd q.1 (by omega))]))
              · omega
            · skip
              refine g_aload_n ok dX8_wantedOf_53 rfl rfl ?_
              refine g_getr ok dX8_wantedOf_54 fl_X8_60 (Vd.one rfl) rfl rfl ?_
              refine g_iconst (v := 4) ok dX8_wantedOf_57 (by decide +kernel) ?_
              refine g_iload ok dX8_wantedOf_58 rfl ?_
              refine g_imul ok dX8_wantedOf_60 ?_
              refine g_iconst (v := 2) ok dX8_wantedOf_61 (by decide +kernel) ?_
              refine g_iadd ok dX8_wantedOf_62 ?_
              refine g_iald ok dX8_wantedOf_63 (Vd.one rfl) (fun _ => rfl) ⟨by omega, by omega⟩ (by decide) rfl (fun h11 h12 => ?_)
              refine g_goto (tgt := 68) ok dX8_wantedOf_64 (by decide) ?_
              refine g_iadd ok dX8_wantedOf_68 ?_
              refine g_istore_n ok dX8_wantedOf_69 rfl (Nat.le_of_ble_eq_true rfl) ?_
              refine g_iinc ok dX8_wantedOf_70 rfl rfl (Nat.le_of_ble_eq_true rfl) ?_
              refine g_goto (tgt := 5) ok dX8_wantedOf_73 (by decide) ?_
              refine G.norm [(0, .inr (.inr (28, 0))), (1, .inl z1), (2, .inl z2), (3, .inl _), (4, .inl _)] ⟨rfl, rfl, rfl, rfl, rfl, trivial⟩ (L5ih _ _ ?_ ?_ ?_ ?_)
              · omega
              · omega
              · (rw [sm_s (by omega), hc]; (try dsimp only); first | (rw [if_pos ⟨⟨by omega, by omega⟩, by assumption⟩]) | (rw [if_neg (fun q => absurd q.2 (by assumption))]) | (rw [if_neg (fun q => absurd q.1 (by omega))]))
              · omega
  refine G.norm [(0, .inr (.inr (28, 0))), (1, .inl z1), (2, .inl z2), (3, .inl _), (4, .inl _)] ⟨rfl, rfl, rfl, rfl, rfl, trivial⟩ (L5 (13 : Nat) _ _ ?_ ?_ ?_ ?_)
  · omega
  · omega
  · rfl
  · omega

set_option maxRecDepth 100000 in
set_option maxHeartbeats 4000000 in
theorem c_X8_wanted (X : XW) (l : Launch) (σ : Mm) (z1 z2 : Int) (rz1 : R32 z1) (rz2 : R32 z2) (hT : MT σ) (hP : MP σ) (hD : MD σ) : Ct X l yX8_wanted cX8_wanted 3 (Option.some FieldType.long) 3 71 σ [.inr (.inr (28, 0)), .inl z1, .inl z2] (Ans (some (.inr (.inl (rm_wanted σ z1 z2)))) (σ)) := by
  refine Ct.intro (own := RX8) (by decide) rfl (Nat.le_of_ble_eq_true rfl) (fun M hM ok hq => ?_)
  subst hM
  have rz1l := rz1.1
  have rz1r := rz1.2
  have rz2l := rz2.1
  have rz2r := rz2.2
  show G X M cX8_wanted 3 σ 0 [(0, .inr (.inr (28, 0))), (1, .inl z1), (2, .inl z2)] []
  have aT := hT.1
  have aT2 := hT.2
  have aW : -240 ≤ waM σ z1 z2 ∧ waM σ z1 z2 ≤ 240 := by
    have q := hD.1
    have b := sm_b (f := fun b => if (σ 44 0 (4 * b) ≤ z2 ∧ z2 ≤ σ 44 0 (4 * b + 1)) ∧ takM σ b z1 then σ 44 0 (4 * b + 2) else 0) (a := -20) (b := 20) (n := σ 28 0 17) (by omega) (fun k _ _ => by have d := hD.2 k; (try dsimp only); split <;> omega)
    unfold waM
    omega
  refine g_iload_n ok dX8_wanted_0 rfl rfl ?_
  refine g_cS ok dX8_wanted_1 ms_X8_96 (c_X8_isWorld X _ _ _ ⟨by omega, by omega⟩) rfl (by decide) rfl (Nat.le_of_ble_eq_true rfl) ?_
  refine g_ifb_ne (tgt := 11) ok dX8_wanted_4 (by decide) (fun c1 => ?_) (fun c1 => ?_)
  · skip
    refine g_aload_n ok dX8_wanted_11 rfl rfl ?_
    refine g_iload_n ok dX8_wanted_12 rfl rfl ?_
    refine g_cV ok dX8_wanted_13 mv_X8_158 (c_X8_isStep X _ _ _ ⟨by omega, by omega⟩ hT) rfl (Vd.one rfl) rfl rfl (by decide) rfl (Nat.le_of_ble_eq_true rfl) ?_
    refine g_ifb_eq (tgt := 29) ok dX8_wanted_16 (by decide) (fun c2 => ?_) (fun c2 => ?_)
    · skip
      refine g_ldc2 (v := -9000000000000000013) ok dX8_wanted_29 wd4_99 (by decide +kernel) ?_
      exact g_lret ok hq dX8_wanted_32 (ansL (by (simp only [rm_wanted, BAD, NO, FULL, NONE, NOTHING, INDEX, SIZE] <;> (repeat (first | rw [if_pos (by omega)] | rw [if_neg (by omega)])) <;> omega)) (by rfl))
    · skip
      refine g_aload_n ok dX8_wanted_19 rfl rfl ?_
      refine g_iload_n ok dX8_wanted_20 rfl rfl ?_
      refine g_iload_n ok dX8_wanted_21 rfl rfl ?_
      refine g_cV ok dX8_wanted_22 mv_X8_223 (c_X8_wantedOf X _ _ _ _ (by omega) (by omega) (by omega) (by omega) hP hD) rfl (Vd.one rfl) rfl rfl (by decide) rfl (Nat.le_of_ble_eq_true rfl) ?_
      refine g_i2l ok dX8_wanted_25 ⟨by omega, by omega⟩ ?_
      refine g_goto (tgt := 32) ok dX8_wanted_26 (by decide) ?_
      exact g_lret ok hq dX8_wanted_32 (ansL (by (simp only [rm_wanted, BAD, NO, FULL, NONE, NOTHING, INDEX, SIZE] <;> (repeat (first | rw [if_pos (by omega)] | rw [if_neg (by omega)])) <;> omega)) (by rfl))
  · skip
    refine g_ldc2 (v := -9000000000000000001) ok dX8_wanted_7 wd4_69 (by decide +kernel) ?_
    exact g_lret ok hq dX8_wanted_10 (ansL (by (simp only [rm_wanted, BAD, NO, FULL, NONE, NOTHING, INDEX, SIZE] <;> (repeat (first | rw [if_pos (by omega)] | rw [if_neg (by omega)])) <;> omega)) (by rfl))

set_option maxRecDepth 100000 in
set_option maxHeartbeats 4000000 in
theorem c_X8_nearestD (X : XW) (l : Launch) (σ : Mm) (z1 : Int) (b0 : 0 ≤ z1) (b1 : z1 < 36) (hE : ME σ) : Ct X l yX8_nearest cX8_nearest 4 (Option.some FieldType.int) 0 0 σ [.inr (.inr (28, 0)), .inl z1, .inl (-1)] (Ans (some (.inl (nr (fun k => σ 45 0 k) (-1) 37 (z1 + -1)))) (σ)) := by
  refine Ct.intro (own := RX8) (by decide) rfl (Nat.le_of_ble_eq_true rfl) (fun M hM ok hq => ?_)
  subst hM
  show G X M cX8_nearest 4 σ 0 [(0, .inr (.inr (28, 0))), (1, .inl z1), (2, .inl (-1))] []
  refine g_iload_n ok dX8_nearest_0 rfl rfl ?_
  refine g_iload_n ok dX8_nearest_1 rfl rfl ?_
  refine g_iadd ok dX8_nearest_2 ?_
  refine g_istore_n ok dX8_nearest_3 rfl (Nat.le_of_ble_eq_true rfl) ?_
  have L4 : ∀ (n : Nat) (k : Int), (-1 ≤ k) → (k ≤ 36) → (nr (fun k => σ 45 0 k) (-1) 37 (z1 + -1) = nr (fun k => σ 45 0 k) (-1) n k) → (k + 1 < n) → G X M cX8_nearest 4 σ 4 [(0, .inr (.inr (28, 0))), (1, .inl z1), (2, .inl (-1)), (3, .inl k)] [] := by
    intro n
    induction n with
    | zero => intro k hk0 hk1 hw hm; exact absurd hm (by omega)
    | succ n L4ih =>
      intro k hk0 hk1 hw hm
      refine g_iload_n ok dX8_nearest_4 rfl rfl ?_
      refine g_if_lt (tgt := 40) ok dX8_nearest_5 (by decide) ⟨by omega, by omega⟩ (fun c1 => ?_) (fun c1 => ?_)
      · skip
        refine g_sipush (v := -1001) ok dX8_nearest_40 (by decide +kernel) ?_
        exact g_iret ok hq dX8_nearest_43 (ansI (by (rw [hw]; first | exact (nr_hit (by omega) (by omega) (by assumption)).symm | exact (nr_out (by omega)).symm)) (by rfl))
      · skip
        refine g_iload_n ok dX8_nearest_8 rfl rfl ?_
        refine g_bipush (v := 36) ok dX8_nearest_9 (by decide +kernel) ?_
        refine g_icmp_ge (tgt := 40) ok dX8_nearest_11 (by decide) ⟨by omega, by omega⟩ ⟨by omega, by omega⟩ (fun c2 => ?_) (fun c2 => ?_)
        · skip
          refine g_sipush (v := -1001) ok dX8_nearest_40 (by decide +kernel) ?_
          exact g_iret ok hq dX8_nearest_43 (ansI (by (rw [hw]; first | exact (nr_hit (by omega) (by omega) (by assumption)).symm | exact (nr_out (by omega)).symm)) (by rfl))
        · skip
          refine g_aload_n ok dX8_nearest_14 rfl rfl ?_
          refine g_getr ok dX8_nearest_15 fl_X8_63 (Vd.one rfl) rfl rfl ?_
          refine g_iload_n ok dX8_nearest_18 rfl rfl ?_
          refine g_iald ok dX8_nearest_19 (Vd.one rfl) (fun _ => rfl) ⟨by omega, by omega⟩ (by decide) rfl (fun h3 h4 => ?_)
          refine g_sipush (v := -1001) ok dX8_nearest_20 (by decide +kernel) ?_
          refine g_icmp_eq (tgt := 33) ok dX8_nearest_23 (by decide) ⟨by omega, by omega⟩ ⟨by omega, by omega⟩ (fun c5 => ?_) (fun c5 => ?_)
          · skip
            refine g_iload_n ok dX8_nearest_33 rfl rfl ?_
            refine g_iload_n ok dX8_nearest_34 rfl rfl ?_
            refine g_iadd ok dX8_nearest_35 ?_
            refine g_istore_n ok dX8_nearest_36 rfl (Nat.le_of_ble_eq_true rfl) ?_
            refine g_goto (tgt := 4) ok dX8_nearest_37 (by decide) ?_
            refine G.norm [(0, .inr (.inr (28, 0))), (1, .inl z1), (2, .inl (-1)), (3, .inl _)] ⟨rfl, rfl, rfl, rfl, trivial⟩ (L4ih _ ?_ ?_ ?_ ?_)
            · omega
            · omega
            · (rw [hw]; exact nr_go (by omega) (by omega) (by assumption))
            · omega
          · skip
            refine g_aload_n ok dX8_nearest_26 rfl rfl ?_
            refine g_getr ok dX8_nearest_27 fl_X8_63 (Vd.one rfl) rfl rfl ?_
            refine g_iload_n ok dX8_nearest_30 rfl rfl ?_
            refine g_iald ok dX8_nearest_31 (Vd.one rfl) (fun _ => rfl) ⟨by omega, by omega⟩ (by decide) rfl (fun h6 h7 => ?_)
            exact g_iret ok hq dX8_nearest_32 (ansI (by (rw [hw]; first | exact (nr_hit (by omega) (by omega) (by assumption)).symm | exact (nr_out (by omega)).symm)) (by rfl))
  refine G.norm [(0, .inr (.inr (28, 0))), (1, .inl z1), (2, .inl (-1)), (3, .inl _)] ⟨rfl, rfl, rfl, rfl, trivial⟩ (L4 (37 : Nat) _ ?_ ?_ ?_ ?_)
  · omega
  · omega
  · rfl
  · omega

set_option maxRecDepth 100000 in
set_option maxHeartbeats 4000000 in
theorem c_X8_nearestU (X : XW) (l : Launch) (σ : Mm) (z1 : Int) (b0 : 0 ≤ z1) (b1 : z1 < 36) (hE : ME σ) : Ct X l yX8_nearest cX8_nearest 4 (Option.some FieldType.int) 0 0 σ [.inr (.inr (28, 0)), .inl z1, .inl (1)] (Ans (some (.inl (nr (fun k => σ 45 0 k) (1) 37 (z1 + 1)))) (σ)) := by
  refine Ct.intro (own := RX8) (by decide) rfl (Nat.le_of_ble_eq_true rfl) (fun M hM ok hq => ?_)
  subst hM
  show G X M cX8_nearest 4 σ 0 [(0, .inr (.inr (28, 0))), (1, .inl z1), (2, .inl (1))] []
  refine g_iload_n ok dX8_nearest_0 rfl rfl ?_
  refine g_iload_n ok dX8_nearest_1 rfl rfl ?_
  refine g_iadd ok dX8_nearest_2 ?_
  refine g_istore_n ok dX8_nearest_3 rfl (Nat.le_of_ble_eq_true rfl) ?_
  have L4 : ∀ (n : Nat) (k : Int), (-1 ≤ k) → (k ≤ 36) → (nr (fun k => σ 45 0 k) (1) 37 (z1 + 1) = nr (fun k => σ 45 0 k) (1) n k) → (36 - k < n) → G X M cX8_nearest 4 σ 4 [(0, .inr (.inr (28, 0))), (1, .inl z1), (2, .inl (1)), (3, .inl k)] [] := by
    intro n
    induction n with
    | zero => intro k hk0 hk1 hw hm; exact absurd hm (by omega)
    | succ n L4ih =>
      intro k hk0 hk1 hw hm
      refine g_iload_n ok dX8_nearest_4 rfl rfl ?_
      refine g_if_lt (tgt := 40) ok dX8_nearest_5 (by decide) ⟨by omega, by omega⟩ (fun c1 => ?_) (fun c1 => ?_)
      · skip
        refine g_sipush (v := -1001) ok dX8_nearest_40 (by decide +kernel) ?_
        exact g_iret ok hq dX8_nearest_43 (ansI (by (rw [hw]; first | exact (nr_hit (by omega) (by omega) (by assumption)).symm | exact (nr_out (by omega)).symm)) (by rfl))
      · skip
        refine g_iload_n ok dX8_nearest_8 rfl rfl ?_
        refine g_bipush (v := 36) ok dX8_nearest_9 (by decide +kernel) ?_
        refine g_icmp_ge (tgt := 40) ok dX8_nearest_11 (by decide) ⟨by omega, by omega⟩ ⟨by omega, by omega⟩ (fun c2 => ?_) (fun c2 => ?_)
        · skip
          refine g_sipush (v := -1001) ok dX8_nearest_40 (by decide +kernel) ?_
          exact g_iret ok hq dX8_nearest_43 (ansI (by (rw [hw]; first | exact (nr_hit (by omega) (by omega) (by assumption)).symm | exact (nr_out (by omega)).symm)) (by rfl))
        · skip
          refine g_aload_n ok dX8_nearest_14 rfl rfl ?_
          refine g_getr ok dX8_nearest_15 fl_X8_63 (Vd.one rfl) rfl rfl ?_
          refine g_iload_n ok dX8_nearest_18 rfl rfl ?_
          refine g_iald ok dX8_nearest_19 (Vd.one rfl) (fun _ => rfl) ⟨by omega, by omega⟩ (by decide) rfl (fun h3 h4 => ?_)
          refine g_sipush (v := -1001) ok dX8_nearest_20 (by decide +kernel) ?_
          refine g_icmp_eq (tgt := 33) ok dX8_nearest_23 (by decide) ⟨by omega, by omega⟩ ⟨by omega, by omega⟩ (fun c5 => ?_) (fun c5 => ?_)
          · skip
            refine g_iload_n ok dX8_nearest_33 rfl rfl ?_
            refine g_iload_n ok dX8_nearest_34 rfl rfl ?_
            refine g_iadd ok dX8_nearest_35 ?_
            refine g_istore_n ok dX8_nearest_36 rfl (Nat.le_of_ble_eq_true rfl) ?_
            refine g_goto (tgt := 4) ok dX8_nearest_37 (by decide) ?_
            refine G.norm [(0, .inr (.inr (28, 0))), (1, .inl z1), (2, .inl (1)), (3, .inl _)] ⟨rfl, rfl, rfl, rfl, trivial⟩ (L4ih _ ?_ ?_ ?_ ?_)
            · omega
            · omega
            · (rw [hw]; exact nr_go (by omega) (by omega) (by assumption))
            · omega
          · skip
            refine g_aload_n ok dX8_nearest_26 rfl rfl ?_
            refine g_getr ok dX8_nearest_27 fl_X8_63 (Vd.one rfl) rfl rfl ?_
            refine g_iload_n ok dX8_nearest_30 rfl rfl ?_
            refine g_iald ok dX8_nearest_31 (Vd.one rfl) (fun _ => rfl) ⟨by omega, by omega⟩ (by decide) rfl (fun h6 h7 => ?_)
            exact g_iret ok hq dX8_nearest_32 (ansI (by (rw [hw]; first | exact (nr_hit (by omega) (by omega) (by assumption)).symm | exact (nr_out (by omega)).symm)) (by rfl))
  refine G.norm [(0, .inr (.inr (28, 0))), (1, .inl z1), (2, .inl (1)), (3, .inl _)] ⟨rfl, rfl, rfl, rfl, trivial⟩ (L4 (37 : Nat) _ ?_ ?_ ?_ ?_)
  · omega
  · omega
  · rfl
  · omega

set_option maxRecDepth 100000 in
set_option maxHeartbeats 4000000 in
theorem c_X8_counts (X : XW) (l : Launch) (σ : Mm) (z1 : Int) (rz1 : R32 z1) (hE : ME σ) : Ct X l yX8_counts cX8_counts 4 (Option.some FieldType.long) 1 25 σ [.inr (.inr (28, 0)), .inl z1] (Ans (some (.inr (.inl (rm_counts σ z1)))) (σ)) := by
  refine Ct.intro (own := RX8) (by decide) rfl (Nat.le_of_ble_eq_true rfl) (fun M hM ok hq => ?_)
  subst hM
  have rz1l := rz1.1
  have rz1r := rz1.2
  show G X M cX8_counts 4 σ 0 [(0, .inr (.inr (28, 0))), (1, .inl z1)] []
  have a1 := nr_b (f := fun k => σ 45 0 k) (way := -1) (fun t => hE t) 37 (z1 + -1)
  have a2 := nr_b (f := fun k => σ 45 0 k) (way := 1) (fun t => hE t) 37 (z1 + 1)
  have a3 := hE z1
  refine g_iload_n ok dX8_counts_0 rfl rfl ?_
  refine g_i2l ok dX8_counts_1 ⟨by omega, by omega⟩ ?_
  refine g_lconst (v := 0) ok dX8_counts_2 (by decide +kernel) ?_
  refine g_ldc2 (v := 35) ok dX8_counts_3 wd4_74 (by decide +kernel) ?_
  refine g_cS ok dX8_counts_6 ms_X8_81 (c_X8_isIn X _ _ _ _ _ ⟨by omega, by omega⟩ ⟨by omega, by omega⟩ ⟨by omega, by omega⟩) rfl (by decide) rfl (Nat.le_of_ble_eq_true rfl) ?_
  refine g_ifb_ne (tgt := 16) ok dX8_counts_9 (by decide) (fun c1 => ?_) (fun c1 => ?_)
  · skip
    refine g_aload_n ok dX8_counts_16 rfl rfl ?_
    refine g_getr ok dX8_counts_17 fl_X8_63 (Vd.one rfl) rfl rfl ?_
    refine g_iload_n ok dX8_counts_20 rfl rfl ?_
    refine g_iald ok dX8_counts_21 (Vd.one rfl) (fun _ => rfl) ⟨by omega, by omega⟩ (by decide) rfl (fun h2 h3 => ?_)
    refine g_sipush (v := -1001) ok dX8_counts_22 (by decide +kernel) ?_
    refine g_icmp_eq (tgt := 36) ok dX8_counts_25 (by decide) ⟨by omega, by omega⟩ ⟨by omega, by omega⟩ (fun c4 => ?_) (fun c4 => ?_)
    · skip
      refine g_aload_n ok dX8_counts_36 rfl rfl ?_
      refine g_iload_n ok dX8_counts_37 rfl rfl ?_
      refine g_iconst (v := -1) ok dX8_counts_38 (by decide +kernel) ?_
      refine g_cV ok dX8_counts_39 mv_X8_234 (c_X8_nearestD X _ _ _ (by omega) (by omega) hE) rfl (Vd.one rfl) rfl rfl (by decide) rfl (Nat.le_of_ble_eq_true rfl) ?_
      refine g_istore_n ok dX8_counts_42 rfl (Nat.le_of_ble_eq_true rfl) ?_
      refine g_aload_n ok dX8_counts_43 rfl rfl ?_
      refine g_iload_n ok dX8_counts_44 rfl rfl ?_
      refine g_iconst (v := 1) ok dX8_counts_45 (by decide +kernel) ?_
      refine g_cV ok dX8_counts_46 mv_X8_234 (c_X8_nearestU X _ _ _ (by omega) (by omega) hE) rfl (Vd.one rfl) rfl rfl (by decide) rfl (Nat.le_of_ble_eq_true rfl) ?_
      refine g_istore_n ok dX8_counts_49 rfl (Nat.le_of_ble_eq_true rfl) ?_
      refine g_iload_n ok dX8_counts_50 rfl rfl ?_
      refine g_sipush (v := -1001) ok dX8_counts_51 (by decide +kernel) ?_
      refine g_icmp_ne (tgt := 71) ok dX8_counts_54 (by decide) ⟨by omega, by omega⟩ ⟨by omega, by omega⟩ (fun c5 => ?_) (fun c5 => ?_)
      · skip
        refine g_iload_n ok dX8_counts_71 rfl rfl ?_
        refine g_sipush (v := -1001) ok dX8_counts_72 (by decide +kernel) ?_
        refine g_icmp_ne (tgt := 83) ok dX8_counts_75 (by decide) ⟨by omega, by omega⟩ ⟨by omega, by omega⟩ (fun c6 => ?_) (fun c6 => ?_)
        · skip
          refine g_iload_n ok dX8_counts_83 rfl rfl ?_
          refine g_iload_n ok dX8_counts_84 rfl rfl ?_
          refine g_iadd ok dX8_counts_85 ?_
          refine g_iconst (v := 2) ok dX8_counts_86 (by decide +kernel) ?_
          refine g_cS ok dX8_counts_87 ms_X8_237 (c_X8_cut X _ _ _ ⟨by omega, by omega⟩) rfl (by decide) rfl (Nat.le_of_ble_eq_true rfl) ?_
          refine g_i2l ok dX8_counts_90 ⟨by omega, by omega⟩ ?_
          exact g_lret ok hq dX8_counts_91 (ansL (by (simp only [rm_counts, cnM, cnF, BAD] <;> (repeat (first | rw [if_pos (by omega)] | rw [if_neg (by omega)])) <;> omega)) (by rfl))
        · skip
          refine g_iload_n ok dX8_counts_78 rfl rfl ?_
          refine g_i2l ok dX8_counts_79 ⟨by omega, by omega⟩ ?_
          refine g_goto (tgt := 91) ok dX8_counts_80 (by decide) ?_
          exact g_lret ok hq dX8_counts_91 (ansL (by (simp only [rm_counts, cnM, cnF, BAD] <;> (repeat (first | rw [if_pos (by omega)] | rw [if_neg (by omega)])) <;> omega)) (by rfl))
      · skip
        refine g_iload_n ok dX8_counts_57 rfl rfl ?_
        refine g_sipush (v := -1001) ok dX8_counts_58 (by decide +kernel) ?_
        refine g_icmp_ne (tgt := 68) ok dX8_counts_61 (by decide) ⟨by omega, by omega⟩ ⟨by omega, by omega⟩ (fun c7 => ?_) (fun c7 => ?_)
        · skip
          refine g_iload_n ok dX8_counts_68 rfl rfl ?_
          refine g_i2l ok dX8_counts_69 ⟨by omega, by omega⟩ ?_
          exact g_lret ok hq dX8_counts_70 (ansL (by (simp only [rm_counts, cnM, cnF, BAD] <;> (repeat (first | rw [if_pos (by omega)] | rw [if_neg (by omega)])) <;> omega)) (by rfl))
        · skip
          refine g_lconst (v := 0) ok dX8_counts_64 (by decide +kernel) ?_
          refine g_goto (tgt := 70) ok dX8_counts_65 (by decide) ?_
          exact g_lret ok hq dX8_counts_70 (ansL (by (simp only [rm_counts, cnM, cnF, BAD] <;> (repeat (first | rw [if_pos (by omega)] | rw [if_neg (by omega)])) <;> omega)) (by rfl))
    · skip
      refine g_aload_n ok dX8_counts_28 rfl rfl ?_
      refine g_getr ok dX8_counts_29 fl_X8_63 (Vd.one rfl) rfl rfl ?_
      refine g_iload_n ok dX8_counts_32 rfl rfl ?_
      refine g_iald ok dX8_counts_33 (Vd.one rfl) (fun _ => rfl) ⟨by omega, by omega⟩ (by decide) rfl (fun h8 h9 => ?_)
      refine g_i2l ok dX8_counts_34 ⟨by omega, by omega⟩ ?_
      exact g_lret ok hq dX8_counts_35 (ansL (by (simp only [rm_counts, cnM, cnF, BAD] <;> (repeat (first | rw [if_pos (by omega)] | rw [if_neg (by omega)])) <;> omega)) (by rfl))
  · skip
    refine g_ldc2 (v := -9000000000000000001) ok dX8_counts_12 wd4_69 (by decide +kernel) ?_
    exact g_lret ok hq dX8_counts_15 (ansL (by (simp only [rm_counts, cnM, cnF, BAD] <;> (repeat (first | rw [if_pos (by omega)] | rw [if_neg (by omega)])) <;> omega)) (by rfl))
