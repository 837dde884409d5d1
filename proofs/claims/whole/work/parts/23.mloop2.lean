set_option maxRecDepth 100000 in
set_option maxHeartbeats 4000000 in
theorem c_X8_time (X : XW) (l : Launch) (σ : Mm) (z1 : Int) (rz1 : R32 z1) : Ct X l yX8_time cX8_time 4 (Option.some FieldType.long) 1 25 σ [.inr (.inr (28, 0)), .inl z1] (Ans (some (.inr (.inl (rm_time σ z1)))) (sm_time σ z1)) := by
  refine Ct.intro (own := RX8) (by decide) rfl (Nat.le_of_ble_eq_true rfl) (fun M hM ok hq => ?_)
  subst hM
  have rz1l := rz1.1
  have rz1r := rz1.2
  show G X M cX8_time 4 σ 0 [(0, .inr (.inr (28, 0))), (1, .inl z1)] []
  refine g_iload_n ok dX8_time_0 rfl rfl ?_
  refine g_i2l ok dX8_time_1 ⟨by omega, by omega⟩ ?_
  refine g_lconst (v := 1) ok dX8_time_2 (by decide +kernel) ?_
  refine g_ldc2 (v := 36) ok dX8_time_3 wd4_65 (by decide +kernel) ?_
  refine g_cS ok dX8_time_6 ms_X8_81 (c_X8_isIn X _ _ _ _ _ ⟨by omega, by omega⟩ ⟨by omega, by omega⟩ ⟨by omega, by omega⟩) rfl (by decide) rfl (Nat.le_of_ble_eq_true rfl) ?_
  refine g_ifb_ne (tgt := 16) ok dX8_time_9 (by decide) (fun c1 => ?_) (fun c1 => ?_)
  · skip
    refine g_aload_n ok dX8_time_16 rfl rfl ?_
    refine g_geti (z := 17) ok dX8_time_17 fl_X8_89 (Vd.one rfl) rfl rfl rfl (fun h2 h3 => ?_)
    refine g_istore_n ok dX8_time_20 rfl (Nat.le_of_ble_eq_true rfl) ?_
    refine g_aload_n ok dX8_time_21 rfl rfl ?_
    refine g_iload_n ok dX8_time_22 rfl rfl ?_
    refine g_puti (z := 0) ok dX8_time_23 fw_X8_7 (Vd.one rfl) rfl rfl (Nat.le_of_ble_eq_true rfl) rfl ⟨by omega, by omega⟩ ?_
    refine g_aload_n ok dX8_time_26 rfl rfl ?_
    refine g_iconst (v := 0) ok dX8_time_27 (by decide +kernel) ?_
    refine g_puti (z := 17) ok dX8_time_28 fw_X8_89 (Vd.one rfl) rfl rfl (Nat.le_of_ble_eq_true rfl) rfl ⟨by omega, by omega⟩ ?_
    refine g_iconst (v := 0) ok dX8_time_31 (by decide +kernel) ?_
    refine g_istore_n ok dX8_time_32 rfl (Nat.le_of_ble_eq_true rfl) ?_
    have L33 : ∀ (n : Nat) (k : Int) (s : Mm), (0 ≤ k) → (k ≤ 144) → (s = fillR (up (up σ 28 0 0 z1) 28 0 17 0) 43 0 0 k 0) → (144 - k < n) → G X M cX8_time 4 s 33 [(0, .inr (.inr (28, 0))), (1, .inl z1), (2, .inl (σ 28 0 17)), (3, .inl k)] [] := by
      intro n
      induction n with
      | zero => intro k s hk0 hk1 hs hm; exact absurd hm (by omega)
      | succ n L33ih =>
        intro k s hk0 hk1 hs hm
        subst hs
        refine g_iload_n ok dX8_time_33 rfl rfl ?_
        refine g_sipush (v := 144) ok dX8_time_34 (by decide +kernel) ?_
        refine g_icmp_ge (tgt := 53) ok dX8_time_37 (by decide) ⟨by omega, by omega⟩ ⟨by omega, by omega⟩ (fun c4 => ?_) (fun c4 => ?_)
        · skip
          refine g_iload_n ok dX8_time_53 rfl rfl ?_
          refine g_i2l ok dX8_time_54 ⟨by omega, by omega⟩ ?_
          exact g_lret ok hq dX8_time_55 (ansL (by (unfold rm_time; rw [if_pos (by omega)])) (by (unfold sm_time; rw [if_pos (by omega), show k = 144 by omega])))
        · skip
          refine g_aload_n ok dX8_time_40 rfl rfl ?_
          refine g_getr ok dX8_time_41 fl_X8_57 (Vd.one rfl) rfl rfl ?_
          refine g_iload_n ok dX8_time_44 rfl rfl ?_
          refine g_iconst (v := 0) ok dX8_time_45 (by decide +kernel) ?_
          refine g_iast ok dX8_time_46 (Vd.one rfl) (fun _ => rfl) ⟨by omega, by omega⟩ (by decide) rfl ⟨by omega, by omega⟩ ?_
          refine g_iinc ok dX8_time_47 rfl rfl (Nat.le_of_ble_eq_true rfl) ?_
          refine g_goto (tgt := 33) ok dX8_time_50 (by decide) ?_
          refine G.norm [(0, .inr (.inr (28, 0))), (1, .inl z1), (2, .inl (σ 28 0 17)), (3, .inl _)] ⟨rfl, rfl, rfl, rfl, trivial⟩ (L33ih _ _ ?_ ?_ ?_ ?_)
          · omega
          · omega
          · exact fillR_up (by omega)
          · omega
    refine G.norm [(0, .inr (.inr (28, 0))), (1, .inl z1), (2, .inl (σ 28 0 17)), (3, .inl _)] ⟨rfl, rfl, rfl, rfl, trivial⟩ (L33 (145 : Nat) _ _ ?_ ?_ ?_ ?_)
    · omega
    · omega
    · (rw [fillR_0])
    · omega
  · skip
    refine g_ldc2 (v := -9000000000000000001) ok dX8_time_12 wd4_69 (by decide +kernel) ?_
    exact g_lret ok hq dX8_time_15 (ansL (by (simp only [rm_time, BAD, NO, FULL, NONE, NOTHING, INDEX, SIZE] <;> (repeat (first | rw [if_pos (by omega)] | rw [if_neg (by omega)])) <;> omega)) (by (simp only [sm_time] <;> (repeat (first | rw [if_pos (by omega)] | rw [if_neg (by omega)])) <;> first | rfl | (congr 1; omega))))

set_option maxRecDepth 100000 in
set_option maxHeartbeats 4000000 in
theorem c_X8_world (X : XW) (l : Launch) (σ : Mm) (z1 z2 z3 : Int) (rz1 : R32 z1) (rz2 : R32 z2) (rz3 : R32 z3) : Ct X l yX8_world cX8_world 5 (Option.some FieldType.long) 2 45 σ [.inr (.inr (28, 0)), .inl z1, .inl z2, .inl z3] (Ans (some (.inr (.inl (rm_world σ z1 z2 z3)))) (sm_world σ z1 z2 z3)) := by
  refine Ct.intro (own := RX8) (by decide) rfl (Nat.le_of_ble_eq_true rfl) (fun M hM ok hq => ?_)
  subst hM
  have rz1l := rz1.1
  have rz1r := rz1.2
  have rz2l := rz2.1
  have rz2r := rz2.2
  have rz3l := rz3.1
  have rz3r := rz3.2
  show G X M cX8_world 5 σ 0 [(0, .inr (.inr (28, 0))), (1, .inl z1), (2, .inl z2), (3, .inl z3)] []
  refine g_iload_n ok dX8_world_0 rfl rfl ?_
  refine g_cS ok dX8_world_1 ms_X8_96 (c_X8_isWorld X _ _ _ ⟨by omega, by omega⟩) rfl (by decide) rfl (Nat.le_of_ble_eq_true rfl) ?_
  refine g_ifb_eq (tgt := 25) ok dX8_world_4 (by decide) (fun c1 => ?_) (fun c1 => ?_)
  · skip
    refine g_ldc2 (v := -9000000000000000001) ok dX8_world_25 wd4_69 (by decide +kernel) ?_
    exact g_lret ok hq dX8_world_28 (ansL (by (simp only [rm_world, BAD, NO, FULL, NONE, NOTHING, INDEX, SIZE] <;> (repeat (first | rw [if_pos (by omega)] | rw [if_neg (by omega)])) <;> omega)) (by (simp only [sm_world] <;> (repeat (first | rw [if_pos (by omega)] | rw [if_neg (by omega)])) <;> first | rfl | (congr 1; omega))))
  · skip
    refine g_iload_n ok dX8_world_7 rfl rfl ?_
    refine g_i2l ok dX8_world_8 ⟨by omega, by omega⟩ ?_
    refine g_lconst (v := 0) ok dX8_world_9 (by decide +kernel) ?_
    refine g_ldc2 (v := 2) ok dX8_world_10 wd4_88 (by decide +kernel) ?_
    refine g_cS ok dX8_world_13 ms_X8_81 (c_X8_isIn X _ _ _ _ _ ⟨by omega, by omega⟩ ⟨by omega, by omega⟩ ⟨by omega, by omega⟩) rfl (by decide) rfl (Nat.le_of_ble_eq_true rfl) ?_
    refine g_ifb_eq (tgt := 25) ok dX8_world_16 (by decide) (fun c2 => ?_) (fun c2 => ?_)
    · skip
      refine g_ldc2 (v := -9000000000000000001) ok dX8_world_25 wd4_69 (by decide +kernel) ?_
      exact g_lret ok hq dX8_world_28 (ansL (by (simp only [rm_world, BAD, NO, FULL, NONE, NOTHING, INDEX, SIZE] <;> (repeat (first | rw [if_pos (by omega)] | rw [if_neg (by omega)])) <;> omega)) (by (simp only [sm_world] <;> (repeat (first | rw [if_pos (by omega)] | rw [if_neg (by omega)])) <;> first | rfl | (congr 1; omega))))
    · skip
      refine g_iload_n ok dX8_world_19 rfl rfl ?_
      refine g_bipush (v := 36) ok dX8_world_20 (by decide +kernel) ?_
      refine g_icmp_le (tgt := 29) ok dX8_world_22 (by decide) ⟨by omega, by omega⟩ ⟨by omega, by omega⟩ (fun c3 => ?_) (fun c3 => ?_)
      · skip
        refine g_iload_n ok dX8_world_29 rfl rfl ?_
        refine g_if_ge (tgt := 37) ok dX8_world_30 (by decide) ⟨by omega, by omega⟩ (fun c4 => ?_) (fun c4 => ?_)
        · skip
          refine g_aload_n ok dX8_world_37 rfl rfl ?_
          refine g_getr ok dX8_world_38 fl_X8_21 (Vd.one rfl) rfl rfl ?_
          refine g_iload_n ok dX8_world_41 rfl rfl ?_
          refine g_iload_n ok dX8_world_42 rfl rfl ?_
          refine g_iast ok dX8_world_43 (Vd.one rfl) (fun _ => rfl) ⟨by omega, by omega⟩ (by decide) rfl ⟨by omega, by omega⟩ ?_
          refine g_aload_n ok dX8_world_44 rfl rfl ?_
          refine g_getr ok dX8_world_45 fl_X8_24 (Vd.one rfl) rfl rfl ?_
          refine g_iload_n ok dX8_world_48 rfl rfl ?_
          refine g_iload_n ok dX8_world_49 rfl rfl ?_
          refine g_iast ok dX8_world_50 (Vd.one rfl) (fun _ => rfl) ⟨by omega, by omega⟩ (by decide) rfl ⟨by omega, by omega⟩ ?_
          refine g_iconst (v := 0) ok dX8_world_51 (by decide +kernel) ?_
          refine g_istore ok dX8_world_52 (Nat.le_of_ble_eq_true rfl) ?_
          have L54 : ∀ (n : Nat) (k : Int) (s : Mm), (0 ≤ k) → (k ≤ 36) → (s = fillR (up (up σ 31 0 z1 z2) 32 0 z1 z3) 33 0 (36 * z1) (36 * z1 + k) 0) → (36 - k < n) → G X M cX8_world 5 s 54 [(0, .inr (.inr (28, 0))), (1, .inl z1), (2, .inl z2), (3, .inl z3), (4, .inl k)] [] := by
            intro n
            induction n with
            | zero => intro k s hk0 hk1 hs hm; exact absurd hm (by omega)
            | succ n L54ih =>
              intro k s hk0 hk1 hs hm
              subst hs
              refine g_iload ok dX8_world_54 rfl ?_
              refine g_bipush (v := 36) ok dX8_world_56 (by decide +kernel) ?_
              refine g_icmp_ge (tgt := 80) ok dX8_world_58 (by decide) ⟨by omega, by omega⟩ ⟨by omega, by omega⟩ (fun c5 => ?_) (fun c5 => ?_)
              · skip
                refine g_iload_n ok dX8_world_80 rfl rfl ?_
                refine g_i2l ok dX8_world_81 ⟨by omega, by omega⟩ ?_
                exact g_lret ok hq dX8_world_82 (ansL (by (unfold rm_world; rw [if_pos (by omega), if_neg (by omega)])) (by (unfold sm_world; rw [if_pos (by omega), show k = 36 by omega])))
              · skip
                refine g_aload_n ok dX8_world_61 rfl rfl ?_
                refine g_getr ok dX8_world_62 fl_X8_27 (Vd.one rfl) rfl rfl ?_
                refine g_bipush (v := 36) ok dX8_world_65 (by decide +kernel) ?_
                refine g_iload_n ok dX8_world_67 rfl rfl ?_
                refine g_imul ok dX8_world_68 ?_
                refine g_iload ok dX8_world_69 rfl ?_
                refine g_iadd ok dX8_world_71 ?_
                refine g_iconst (v := 0) ok dX8_world_72 (by decide +kernel) ?_
                refine g_iast ok dX8_world_73 (Vd.one rfl) (fun _ => rfl) ⟨by omega, by omega⟩ (by decide) rfl ⟨by omega, by omega⟩ ?_
                refine g_iinc ok dX8_world_74 rfl rfl (Nat.le_of_ble_eq_true rfl) ?_
                refine g_goto (tgt := 54) ok dX8_world_77 (by decide) ?_
                refine G.norm [(0, .inr (.inr (28, 0))), (1, .inl z1), (2, .inl z2), (3, .inl z3), (4, .inl _)] ⟨rfl, rfl, rfl, rfl, rfl, trivial⟩ (L54ih _ _ ?_ ?_ ?_ ?_)
                · omega
                · omega
                · (rw [fillR_up (by omega), show 36 * z1 + k + 1 = 36 * z1 + (k + 1) by omega])
                · omega
          refine G.norm [(0, .inr (.inr (28, 0))), (1, .inl z1), (2, .inl z2), (3, .inl z3), (4, .inl _)] ⟨rfl, rfl, rfl, rfl, rfl, trivial⟩ (L54 (37 : Nat) _ _ ?_ ?_ ?_ ?_)
          · omega
          · omega
          · (rw [Int.add_zero, fillR_0])
          · omega
        · skip
          refine g_ldc2 (v := -9000000000000000014) ok dX8_world_33 wd4_89 (by decide +kernel) ?_
          exact g_lret ok hq dX8_world_36 (ansL (by (simp only [rm_world, BAD, NO, FULL, NONE, NOTHING, INDEX, SIZE] <;> (repeat (first | rw [if_pos (by omega)] | rw [if_neg (by omega)])) <;> omega)) (by (simp only [sm_world] <;> (repeat (first | rw [if_pos (by omega)] | rw [if_neg (by omega)])) <;> first | rfl | (congr 1; omega))))
      · skip
        refine g_ldc2 (v := -9000000000000000001) ok dX8_world_25 wd4_69 (by decide +kernel) ?_
        exact g_lret ok hq dX8_world_28 (ansL (by (simp only [rm_world, BAD, NO, FULL, NONE, NOTHING, INDEX, SIZE] <;> (repeat (first | rw [if_pos (by omega)] | rw [if_neg (by omega)])) <;> omega)) (by (simp only [sm_world] <;> (repeat (first | rw [if_pos (by omega)] | rw [if_neg (by omega)])) <;> first | rfl | (congr 1; omega))))

set_option maxRecDepth 100000 in
set_option maxHeartbeats 4000000 in
theorem c_X8_copy (X : XW) (l : Launch) (σ : Mm) (z1 z2 z3 z4 z5 : Int) (rz1 : R32 z1) (rz2 : R32 z2) (rz3 : R32 z3) (rz4 : R32 z4) (rz5 : R32 z5) (hP : MP σ) : Ct X l yX8_copy cX8_copy 7 (Option.some FieldType.long) 2 45 σ [.inr (.inr (28, 0)), .inl z1, .inl z2, .inl z3, .inl z4, .inl z5] (Ans (some (.inr (.inl (rm_copy σ z1 z2 z3 z4 z5)))) (sm_copy σ z1 z2 z3 z4 z5)) := by
  refine Ct.intro (own := RX8) (by decide) rfl (Nat.le_of_ble_eq_true rfl) (fun M hM ok hq => ?_)
  subst hM
  have rz1l := rz1.1
  have rz1r := rz1.2
  have rz2l := rz2.1
  have rz2r := rz2.2
  have rz3l := rz3.1
  have rz3r := rz3.2
  have rz4l := rz4.1
  have rz4r := rz4.2
  have rz5l := rz5.1
  have rz5r := rz5.2
  show G X M cX8_copy 7 σ 0 [(0, .inr (.inr (28, 0))), (1, .inl z1), (2, .inl z2), (3, .inl z3), (4, .inl z4), (5, .inl z5)] []
  have aP := hP.1 z1
  have aP3 := hP.1 z3
  refine g_iload_n ok dX8_copy_0 rfl rfl ?_
  refine g_cS ok dX8_copy_1 ms_X8_96 (c_X8_isWorld X _ _ _ ⟨by omega, by omega⟩) rfl (by decide) rfl (Nat.le_of_ble_eq_true rfl) ?_
  refine g_ifb_eq (tgt := 14) ok dX8_copy_4 (by decide) (fun c1 => ?_) (fun c1 => ?_)
  · skip
    refine g_ldc2 (v := -9000000000000000001) ok dX8_copy_14 wd4_69 (by decide +kernel) ?_
    exact g_lret ok hq dX8_copy_17 (ansL (by (simp only [rm_copy, BAD, NO, FULL, NONE, NOTHING, INDEX, SIZE] <;> (repeat (first | rw [if_pos (by omega)] | rw [if_neg (by omega)])) <;> omega)) (by (simp only [sm_copy] <;> (repeat (first | rw [if_pos (by omega)] | rw [if_neg (by omega)])) <;> first | rfl | (congr 1; omega))))
  · skip
    refine g_iload_n ok dX8_copy_7 rfl rfl ?_
    refine g_cS ok dX8_copy_8 ms_X8_96 (c_X8_isWorld X _ _ _ ⟨by omega, by omega⟩) rfl (by decide) rfl (Nat.le_of_ble_eq_true rfl) ?_
    refine g_ifb_ne (tgt := 18) ok dX8_copy_11 (by decide) (fun c2 => ?_) (fun c2 => ?_)
    · skip
      refine g_aload_n ok dX8_copy_18 rfl rfl ?_
      refine g_getr ok dX8_copy_19 fl_X8_21 (Vd.one rfl) rfl rfl ?_
      refine g_iload_n ok dX8_copy_22 rfl rfl ?_
      refine g_iald ok dX8_copy_23 (Vd.one rfl) (fun _ => rfl) ⟨by omega, by omega⟩ (by decide) rfl (fun h3 h4 => ?_)
      refine g_if_lt (tgt := 36) ok dX8_copy_24 (by decide) ⟨by omega, by omega⟩ (fun c5 => ?_) (fun c5 => ?_)
      · skip
        refine g_ldc2 (v := -9000000000000000011) ok dX8_copy_36 wd4_94 (by decide +kernel) ?_
        exact g_lret ok hq dX8_copy_39 (ansL (by (simp only [rm_copy, BAD, NO, FULL, NONE, NOTHING, INDEX, SIZE] <;> (repeat (first | rw [if_pos (by omega)] | rw [if_neg (by omega)])) <;> omega)) (by (simp only [sm_copy] <;> (repeat (first | rw [if_pos (by omega)] | rw [if_neg (by omega)])) <;> first | rfl | (congr 1; omega))))
      · skip
        refine g_aload_n ok dX8_copy_27 rfl rfl ?_
        refine g_getr ok dX8_copy_28 fl_X8_21 (Vd.one rfl) rfl rfl ?_
        refine g_iload_n ok dX8_copy_31 rfl rfl ?_
        refine g_iald ok dX8_copy_32 (Vd.one rfl) (fun _ => rfl) ⟨by omega, by omega⟩ (by decide) rfl (fun h6 h7 => ?_)
        refine g_if_ge (tgt := 40) ok dX8_copy_33 (by decide) ⟨by omega, by omega⟩ (fun c8 => ?_) (fun c8 => ?_)
        · skip
          refine g_aload_n ok dX8_copy_40 rfl rfl ?_
          refine g_getr ok dX8_copy_41 fl_X8_21 (Vd.one rfl) rfl rfl ?_
          refine g_iload_n ok dX8_copy_44 rfl rfl ?_
          refine g_iald ok dX8_copy_45 (Vd.one rfl) (fun _ => rfl) ⟨by omega, by omega⟩ (by decide) rfl (fun h9 h10 => ?_)
          refine g_aload_n ok dX8_copy_46 rfl rfl ?_
          refine g_getr ok dX8_copy_47 fl_X8_21 (Vd.one rfl) rfl rfl ?_
          refine g_iload_n ok dX8_copy_50 rfl rfl ?_
          refine g_iald ok dX8_copy_51 (Vd.one rfl) (fun _ => rfl) ⟨by omega, by omega⟩ (by decide) rfl (fun h11 h12 => ?_)
          refine g_icmp_eq (tgt := 59) ok dX8_copy_52 (by decide) ⟨by omega, by omega⟩ ⟨by omega, by omega⟩ (fun c13 => ?_) (fun c13 => ?_)
          · skip
            refine g_iload ok dX8_copy_59 rfl ?_
            refine g_if_lt (tgt := 108) ok dX8_copy_61 (by decide) ⟨by omega, by omega⟩ (fun c14 => ?_) (fun c14 => ?_)
            · skip
              refine g_ldc2 (v := -9000000000000000013) ok dX8_copy_108 wd4_99 (by decide +kernel) ?_
              exact g_lret ok hq dX8_copy_111 (ansL (by (simp only [rm_copy, BAD, NO, FULL, NONE, NOTHING, INDEX, SIZE] <;> (repeat (first | rw [if_pos (by omega)] | rw [if_neg (by omega)])) <;> omega)) (by (simp only [sm_copy] <;> (repeat (first | rw [if_pos (by omega)] | rw [if_neg (by omega)])) <;> first | rfl | (congr 1; omega))))
            · skip
              refine g_iload_n ok dX8_copy_64 rfl rfl ?_
              refine g_if_lt (tgt := 108) ok dX8_copy_65 (by decide) ⟨by omega, by omega⟩ (fun c15 => ?_) (fun c15 => ?_)
              · skip
                refine g_ldc2 (v := -9000000000000000013) ok dX8_copy_108 wd4_99 (by decide +kernel) ?_
                exact g_lret ok hq dX8_copy_111 (ansL (by (simp only [rm_copy, BAD, NO, FULL, NONE, NOTHING, INDEX, SIZE] <;> (repeat (first | rw [if_pos (by omega)] | rw [if_neg (by omega)])) <;> omega)) (by (simp only [sm_copy] <;> (repeat (first | rw [if_pos (by omega)] | rw [if_neg (by omega)])) <;> first | rfl | (congr 1; omega))))
              · skip
                refine g_iload ok dX8_copy_68 rfl ?_
                refine g_if_lt (tgt := 108) ok dX8_copy_70 (by decide) ⟨by omega, by omega⟩ (fun c16 => ?_) (fun c16 => ?_)
                · skip
                  refine g_ldc2 (v := -9000000000000000013) ok dX8_copy_108 wd4_99 (by decide +kernel) ?_
                  exact g_lret ok hq dX8_copy_111 (ansL (by (simp only [rm_copy, BAD, NO, FULL, NONE, NOTHING, INDEX, SIZE] <;> (repeat (first | rw [if_pos (by omega)] | rw [if_neg (by omega)])) <;> omega)) (by (simp only [sm_copy] <;> (repeat (first | rw [if_pos (by omega)] | rw [if_neg (by omega)])) <;> first | rfl | (congr 1; omega))))
                · skip
                  refine g_iload_n ok dX8_copy_73 rfl rfl ?_
                  refine g_i2l ok dX8_copy_74 ⟨by omega, by omega⟩ ?_
                  refine g_iload ok dX8_copy_75 rfl ?_
                  refine g_i2l ok dX8_copy_77 ⟨by omega, by omega⟩ ?_
                  refine g_ladd ok dX8_copy_78 ?_
                  refine g_aload_n ok dX8_copy_79 rfl rfl ?_
                  refine g_getr ok dX8_copy_80 fl_X8_24 (Vd.one rfl) rfl rfl ?_
                  refine g_iload_n ok dX8_copy_83 rfl rfl ?_
                  refine g_iald ok dX8_copy_84 (Vd.one rfl) (fun _ => rfl) ⟨by omega, by omega⟩ (by decide) rfl (fun h17 h18 => ?_)
                  refine g_i2l ok dX8_copy_85 ⟨by omega, by omega⟩ ?_
                  refine g_lcmp_gt (tgt := 108) ok dX8_copy_86 dX8_copy_87 (by decide) ⟨by omega, by omega⟩ ⟨by omega, by omega⟩ (fun c19 => ?_) (fun c19 => ?_)
                  · skip
                    refine g_ldc2 (v := -9000000000000000013) ok dX8_copy_108 wd4_99 (by decide +kernel) ?_
                    exact g_lret ok hq dX8_copy_111 (ansL (by (simp only [rm_copy, BAD, NO, FULL, NONE, NOTHING, INDEX, SIZE] <;> (repeat (first | rw [if_pos (by omega)] | rw [if_neg (by omega)])) <;> omega)) (by (simp only [sm_copy] <;> (repeat (first | rw [if_pos (by omega)] | rw [if_neg (by omega)])) <;> first | rfl | (congr 1; omega))))
                  · skip
                    refine g_iload ok dX8_copy_90 rfl ?_
                    refine g_i2l ok dX8_copy_92 ⟨by omega, by omega⟩ ?_
                    refine g_iload ok dX8_copy_93 rfl ?_
                    refine g_i2l ok dX8_copy_95 ⟨by omega, by omega⟩ ?_
                    refine g_ladd ok dX8_copy_96 ?_
                    refine g_aload_n ok dX8_copy_97 rfl rfl ?_
                    refine g_getr ok dX8_copy_98 fl_X8_24 (Vd.one rfl) rfl rfl ?_
                    refine g_iload_n ok dX8_copy_101 rfl rfl ?_
                    refine g_iald ok dX8_copy_102 (Vd.one rfl) (fun _ => rfl) ⟨by omega, by omega⟩ (by decide) rfl (fun h20 h21 => ?_)
                    refine g_i2l ok dX8_copy_103 ⟨by omega, by omega⟩ ?_
                    refine g_lcmp_le (tgt := 112) ok dX8_copy_104 dX8_copy_105 (by decide) ⟨by omega, by omega⟩ ⟨by omega, by omega⟩ (fun c22 => ?_) (fun c22 => ?_)
                    · skip
                      refine g_iconst (v := 0) ok dX8_copy_112 (by decide +kernel) ?_
                      refine g_istore ok dX8_copy_113 (Nat.le_of_ble_eq_true rfl) ?_
                      have L115 : ∀ (n : Nat) (k : Int) (s : Mm), (0 ≤ k) → (k ≤ z5) → (s = cpyA σ 33 0 (36 * z1 + z2) 47 0 0 k) → (z5 - k < n) → G X M cX8_copy 7 s 115 [(0, .inr (.inr (28, 0))), (1, .inl z1), (2, .inl z2), (3, .inl z3), (4, .inl z4), (5, .inl z5), (6, .inl k)] [] := by
                        intro n
                        induction n with
                        | zero => intro k s hk0 hk1 hs hm; exact absurd hm (by omega)
                        | succ n L115ih =>
                          intro k s hk0 hk1 hs hm
                          subst hs
                          refine g_iload ok dX8_copy_115 rfl ?_
                          refine g_iload ok dX8_copy_117 rfl ?_
                          refine g_icmp_ge (tgt := 149) ok dX8_copy_119 (by decide) ⟨by omega, by omega⟩ ⟨by omega, by omega⟩ (fun c23 => ?_) (fun c23 => ?_)
                          · skip
                            refine g_iconst (v := 0) ok dX8_copy_149 (by decide +kernel) ?_
                            refine g_istore ok dX8_copy_150 (Nat.le_of_ble_eq_true rfl) ?_
                            have L152 : ∀ (n : Nat) (j : Int) (s : Mm), (0 ≤ j) → (j ≤ z5) → (s = cpyA (cpyA σ 33 0 (36 * z1 + z2) 47 0 0 k) 47 0 0 33 0 (36 * z3 + z4) j) → (z5 - j < n) → G X M cX8_copy 7 s 152 [(0, .inr (.inr (28, 0))), (1, .inl z1), (2, .inl z2), (3, .inl z3), (4, .inl z4), (5, .inl z5), (6, .inl j)] [] := by
                              intro n
                              induction n with
                              | zero => intro j s hj0 hj1 hs hn; exact absurd hn (by omega)
                              | succ n L152ih =>
                                intro j s hj0 hj1 hs hn
                                subst hs
                                refine g_iload ok dX8_copy_152 rfl ?_
                                refine g_iload ok dX8_copy_154 rfl ?_
                                refine g_icmp_ge (tgt := 187) ok dX8_copy_156 (by decide) ⟨by omega, by omega⟩ ⟨by omega, by omega⟩ (fun c24 => ?_) (fun c24 => ?_)
                                · skip
                                  refine g_iload ok dX8_copy_187 rfl ?_
                                  refine g_i2l ok dX8_copy_189 ⟨by omega, by omega⟩ ?_
                                  exact g_lret ok hq dX8_copy_190 (ansL (by (unfold rm_copy; rw [if_pos (by omega), if_neg (by omega), if_pos (by omega), if_pos (by omega)])) (by (unfold sm_copy; rw [if_pos (by omega), show j = z5 by omega, show k = z5 by omega])))
                                · skip
                                  refine g_aload_n ok dX8_copy_159 rfl rfl ?_
                                  refine g_getr ok dX8_copy_160 fl_X8_27 (Vd.one rfl) rfl rfl ?_
                                  refine g_bipush (v := 36) ok dX8_copy_163 (by decide +kernel) ?_
                                  refine g_iload_n ok dX8_copy_165 rfl rfl ?_
                                  refine g_imul ok dX8_copy_166 ?_
                                  refine g_iload ok dX8_copy_167 rfl ?_
                                  refine g_iadd ok dX8_copy_169 ?_
                                  refine g_iload ok dX8_copy_170 rfl ?_
                                  refine g_iadd ok dX8_copy_172 ?_
                                  refine g_aload_n ok dX8_copy_173 rfl rfl ?_
                                  refine g_getr ok dX8_copy_174 fl_X8_70 (Vd.one rfl) rfl rfl ?_
                                  refine g_iload ok dX8_copy_177 rfl ?_
                                  refine g_iald2 (cpyA σ 33 0 (36 * z1 + z2) 47 0 0 k) ok dX8_copy_179 (Vd.one rfl) (fun _ => rfl) ⟨by omega, by omega⟩ (by decide) rfl rfl (fun h25 h26 => ?_)
                                  refine g_iast ok dX8_copy_180 (Vd.one rfl) (fun _ => rfl) ⟨by omega, by omega⟩ (by decide) rfl ⟨by omega, by omega⟩ ?_
                                  refine g_iinc ok dX8_copy_181 rfl rfl (Nat.le_of_ble_eq_true rfl) ?_
                                  refine g_goto (tgt := 152) ok dX8_copy_184 (by decide) ?_
                                  refine G.norm [(0, .inr (.inr (28, 0))), (1, .inl z1), (2, .inl z2), (3, .inl z3), (4, .inl z4), (5, .inl z5), (6, .inl _)] ⟨rfl, rfl, rfl, rfl, rfl, rfl, rfl, trivial⟩ (L152ih _ _ ?_ ?_ ?_ ?_)
                                  · omega
                                  · omega
                                  · (rw [← cpyA_up hj0, Int.zero_add])
                                  · omega
                            refine G.norm [(0, .inr (.inr (28, 0))), (1, .inl z1), (2, .inl z2), (3, .inl z3), (4, .inl z4), (5, .inl z5), (6, .inl _)] ⟨rfl, rfl, rfl, rfl, rfl, rfl, rfl, trivial⟩ (L152 (z5 + 1).toNat _ _ ?_ ?_ ?_ ?_)
                            · omega
                            · omega
                            · (rw [cpyA_0])
                            · omega
                          · skip
                            refine g_aload_n ok dX8_copy_122 rfl rfl ?_
                            refine g_getr ok dX8_copy_123 fl_X8_70 (Vd.one rfl) rfl rfl ?_
                            refine g_iload ok dX8_copy_126 rfl ?_
                            refine g_aload_n ok dX8_copy_128 rfl rfl ?_
                            refine g_getr ok dX8_copy_129 fl_X8_27 (Vd.one rfl) rfl rfl ?_
                            refine g_bipush (v := 36) ok dX8_copy_132 (by decide +kernel) ?_
                            refine g_iload_n ok dX8_copy_134 rfl rfl ?_
                            refine g_imul ok dX8_copy_135 ?_
                            refine g_iload_n ok dX8_copy_136 rfl rfl ?_
                            refine g_iadd ok dX8_copy_137 ?_
                            refine g_iload ok dX8_copy_138 rfl ?_
                            refine g_iadd ok dX8_copy_140 ?_
                            refine g_iald2 σ ok dX8_copy_141 (Vd.one rfl) (fun _ => rfl) ⟨by omega, by omega⟩ (by decide) rfl rfl (fun h27 h28 => ?_)
                            refine g_iast ok dX8_copy_142 (Vd.one rfl) (fun _ => rfl) ⟨by omega, by omega⟩ (by decide) rfl ⟨by omega, by omega⟩ ?_
                            refine g_iinc ok dX8_copy_143 rfl rfl (Nat.le_of_ble_eq_true rfl) ?_
                            refine g_goto (tgt := 115) ok dX8_copy_146 (by decide) ?_
                            refine G.norm [(0, .inr (.inr (28, 0))), (1, .inl z1), (2, .inl z2), (3, .inl z3), (4, .inl z4), (5, .inl z5), (6, .inl _)] ⟨rfl, rfl, rfl, rfl, rfl, rfl, rfl, trivial⟩ (L115ih _ _ ?_ ?_ ?_ ?_)
                            · omega
                            · omega
                            · (rw [← cpyA_up hk0, Int.zero_add])
                            · omega
                      refine G.norm [(0, .inr (.inr (28, 0))), (1, .inl z1), (2, .inl z2), (3, .inl z3), (4, .inl z4), (5, .inl z5), (6, .inl _)] ⟨rfl, rfl, rfl, rfl, rfl, rfl, rfl, trivial⟩ (L115 (z5 + 1).toNat _ _ ?_ ?_ ?_ ?_)
                      · omega
                      · omega
                      · (rw [cpyA_0])
                      · omega
                    · skip
                      refine g_ldc2 (v := -9000000000000000013) ok dX8_copy_108 wd4_99 (by decide +kernel) ?_
                      exact g_lret ok hq dX8_copy_111 (ansL (by (simp only [rm_copy, BAD, NO, FULL, NONE, NOTHING, INDEX, SIZE] <;> (repeat (first | rw [if_pos (by omega)] | rw [if_neg (by omega)])) <;> omega)) (by (simp only [sm_copy] <;> (repeat (first | rw [if_pos (by omega)] | rw [if_neg (by omega)])) <;> first | rfl | (congr 1; omega))))
          · skip
            refine g_ldc2 (v := -9000000000000000002) ok dX8_copy_55 wd4_104 (by decide +kernel) ?_
            exact g_lret ok hq dX8_copy_58 (ansL (by (simp only [rm_copy, BAD, NO, FULL, NONE, NOTHING, INDEX, SIZE] <;> (repeat (first | rw [if_pos (by omega)] | rw [if_neg (by omega)])) <;> omega)) (by (simp only [sm_copy] <;> (repeat (first | rw [if_pos (by omega)] | rw [if_neg (by omega)])) <;> first | rfl | (congr 1; omega))))
        · skip
          refine g_ldc2 (v := -9000000000000000011) ok dX8_copy_36 wd4_94 (by decide +kernel) ?_
          exact g_lret ok hq dX8_copy_39 (ansL (by (simp only [rm_copy, BAD, NO, FULL, NONE, NOTHING, INDEX, SIZE] <;> (repeat (first | rw [if_pos (by omega)] | rw [if_neg (by omega)])) <;> omega)) (by (simp only [sm_copy] <;> (repeat (first | rw [if_pos (by omega)] | rw [if_neg (by omega)])) <;> first | rfl | (congr 1; omega))))
    · skip
      refine g_ldc2 (v := -9000000000000000001) ok dX8_copy_14 wd4_69 (by decide +kernel) ?_
      exact g_lret ok hq dX8_copy_17 (ansL (by (simp only [rm_copy, BAD, NO, FULL, NONE, NOTHING, INDEX, SIZE] <;> (repeat (first | rw [if_pos (by omega)] | rw [if_neg (by omega)])) <;> omega)) (by (simp only [sm_copy] <;> (repeat (first | rw [if_pos (by omega)] | rw [if_neg (by omega)])) <;> first | rfl | (congr 1; omega))))

set_option maxRecDepth 100000 in
set_option maxHeartbeats 4000000 in
theorem c_X8_ahead (X : XW) (l : Launch) (σ : Mm) (z1 : Int) (rz1 : R32 z1) (b0 : 0 ≤ z1) (b1 : z1 < σ 28 0 20) (hR : MR σ) (hS : MSt σ) : Ct X l yX8_ahead cX8_ahead 6 (Option.some FieldType.long) 0 0 σ [.inr (.inr (28, 0)), .inl z1] (Ans (some (.inr (.inl (ahM σ (σ 46 0 (5 * z1)) z1)))) (σ)) := by
  refine Ct.intro (own := RX8) (by decide) rfl (Nat.le_of_ble_eq_true rfl) (fun M hM ok hq => ?_)
  subst hM
  have rz1l := rz1.1
  have rz1r := rz1.2
  show G X M cX8_ahead 6 σ 0 [(0, .inr (.inr (28, 0))), (1, .inl z1)] []
  have aR := hR.1
  have aR2 := hR.2 z1
  refine g_aload_n ok dX8_ahead_0 rfl rfl ?_
  refine g_getr ok dX8_ahead_1 fl_X8_66 (Vd.one rfl) rfl rfl ?_
  refine g_iconst (v := 5) ok dX8_ahead_4 (by decide +kernel) ?_
  refine g_iload_n ok dX8_ahead_5 rfl rfl ?_
  refine g_imul ok dX8_ahead_6 ?_
  refine g_lald ok dX8_ahead_7 (Vd.one rfl) (fun _ => rfl) ⟨by omega, by omega⟩ (by decide) rfl (fun h1 h2 => ?_)
  refine g_l2i ok dX8_ahead_8 ?_
  refine g_istore_n ok dX8_ahead_9 rfl (Nat.le_of_ble_eq_true rfl) ?_
  refine g_aload_n ok dX8_ahead_10 rfl rfl ?_
  refine g_getr ok dX8_ahead_11 fl_X8_36 (Vd.one rfl) rfl rfl ?_
  refine g_iload_n ok dX8_ahead_14 rfl rfl ?_
  refine g_iald ok dX8_ahead_15 (Vd.one rfl) (fun _ => rfl) ⟨by omega, by omega⟩ (by decide) rfl (fun h3 h4 => ?_)
  refine g_i2l ok dX8_ahead_16 ⟨by omega, by omega⟩ ?_
  refine g_lstore_n ok dX8_ahead_17 rfl (Nat.le_of_ble_eq_true rfl) ?_
  refine g_iload_n ok dX8_ahead_18 rfl rfl ?_
  refine g_istore ok dX8_ahead_19 (Nat.le_of_ble_eq_true rfl) ?_
  have L21 : ∀ (n : Nat) (k : Int) (c : Int), (z1 ≤ k) → (k ≤ σ 28 0 20) → (c = σ 36 0 (σ 46 0 (5 * z1)) - (sm (nbM σ (σ 46 0 (5 * z1))) k - sm (nbM σ (σ 46 0 (5 * z1))) z1)) → (σ 28 0 20 - k < n) → G X M cX8_ahead 6 σ 21 [(0, .inr (.inr (28, 0))), (1, .inl z1), (2, .inl (σ 46 0 (5 * z1))), (3, .inr (.inl c)), (5, .inl k)] [] := by
    intro n
    induction n with
    | zero => intro k c hk0 hk1 hc hm; exact absurd hm (by omega)
    | succ n L21ih =>
      intro k c hk0 hk1 hc hm
      refine g_iload ok dX8_ahead_21 rfl ?_
      refine g_aload_n ok dX8_ahead_23 rfl rfl ?_
      refine g_geti (z := 20) ok dX8_ahead_24 fl_X8_240 (Vd.one rfl) rfl rfl rfl (fun h5 h6 => ?_)
      refine g_icmp_ge (tgt := 69) ok dX8_ahead_27 (by decide) ⟨by omega, by omega⟩ ⟨by omega, by omega⟩ (fun c7 => ?_) (fun c7 => ?_)
      · skip
        refine g_lload_n ok dX8_ahead_69 rfl rfl ?_
        exact g_lret ok hq dX8_ahead_70 (ansL (by (unfold ahM; rw [hc, show k = σ 28 0 20 by omega])) (by rfl))
      · skip
        refine g_lload_n ok dX8_ahead_30 rfl rfl ?_
        refine g_aload_n ok dX8_ahead_31 rfl rfl ?_
        refine g_getr ok dX8_ahead_32 fl_X8_66 (Vd.one rfl) rfl rfl ?_
        refine g_iconst (v := 5) ok dX8_ahead_35 (by decide +kernel) ?_
        refine g_iload ok dX8_ahead_36 rfl ?_
        refine g_imul ok dX8_ahead_38 ?_
        refine g_lald ok dX8_ahead_39 (Vd.one rfl) (fun _ => rfl) ⟨by omega, by omega⟩ (by decide) rfl (fun h8 h9 => ?_)
        refine g_iload_n ok dX8_ahead_40 rfl rfl ?_
        refine g_i2l ok dX8_ahead_41 ⟨by omega, by omega⟩ ?_
        refine g_lcmp_ne (tgt := 60) ok dX8_ahead_42 dX8_ahead_43 (by decide) ⟨by omega, by omega⟩ ⟨by omega, by omega⟩ (fun c10 => ?_) (fun c10 => ?_)
        · skip
          refine g_lconst (v := 0) ok dX8_ahead_60 (by decide +kernel) ?_
          refine g_lsub ok dX8_ahead_61 ?_
          refine g_lstore_n ok dX8_ahead_62 rfl (Nat.le_of_ble_eq_true rfl) ?_
          refine g_iinc ok dX8_ahead_63 rfl rfl (Nat.le_of_ble_eq_true rfl) ?_
          refine g_goto (tgt := 21) ok dX8_ahead_66 (by decide) ?_
          refine G.norm [(0, .inr (.inr (28, 0))), (1, .inl z1), (2, .inl (σ 46 0 (5 * z1))), (3, .inr (.inl _)), (5, .inl _)] ⟨rfl, rfl, rfl, rfl, rfl, trivial⟩ (L21ih _ _ ?_ ?_ ?_ ?_)
          · omega
          · omega
          · (rw [sm_s (by omega)]; (first | rw [nbM_t (by assumption)] | rw [nbM_f (by assumption)]); omega)
          · omega
        · skip
          refine g_aload_n ok dX8_ahead_46 rfl rfl ?_
          refine g_getr ok dX8_ahead_47 fl_X8_66 (Vd.one rfl) rfl rfl ?_
          refine g_iconst (v := 5) ok dX8_ahead_50 (by decide +kernel) ?_
          refine g_iload ok dX8_ahead_51 rfl ?_
          refine g_imul ok dX8_ahead_53 ?_
          refine g_iconst (v := 3) ok dX8_ahead_54 (by decide +kernel) ?_
          refine g_iadd ok dX8_ahead_55 ?_
          refine g_lald ok dX8_ahead_56 (Vd.one rfl) (fun _ => rfl) ⟨by omega, by omega⟩ (by decide) rfl (fun h11 h12 => ?_)
          refine g_goto (tgt := 61) ok dX8_ahead_57 (by decide) ?_
          refine g_lsub ok dX8_ahead_61 ?_
          refine g_lstore_n ok dX8_ahead_62 rfl (Nat.le_of_ble_eq_true rfl) ?_
          refine g_iinc ok dX8_ahead_63 rfl rfl (Nat.le_of_ble_eq_true rfl) ?_
          refine g_goto (tgt := 21) ok dX8_ahead_66 (by decide) ?_
          refine G.norm [(0, .inr (.inr (28, 0))), (1, .inl z1), (2, .inl (σ 46 0 (5 * z1))), (3, .inr (.inl _)), (5, .inl _)] ⟨rfl, rfl, rfl, rfl, rfl, trivial⟩ (L21ih _ _ ?_ ?_ ?_ ?_)
          · omega
          · omega
          · (rw [sm_s (by omega)]; (first | rw [nbM_t (by assumption)] | rw [nbM_f (by assumption)]); omega)
          · omega
  refine G.norm [(0, .inr (.inr (28, 0))), (1, .inl z1), (2, .inl (σ 46 0 (5 * z1))), (3, .inr (.inl _)), (5, .inl _)] ⟨rfl, rfl, rfl, rfl, rfl, trivial⟩ (L21 (151 : Nat) _ _ ?_ ?_ ?_ ?_)
  · omega
  · omega
  · omega
  · omega

set_option maxRecDepth 100000 in
set_option maxHeartbeats 4000000 in
theorem c_X8_check (X : XW) (l : Launch) (σ : Mm)  (hR : MR σ) (hS : MSt σ) (hP : MP σ) : Ct X l yX8_check cX8_check 5 (Option.some FieldType.long) 2 44 σ [.inr (.inr (28, 0))] (Ans (some (.inr (.inl (rm_check σ)))) (σ)) := by
  refine Ct.intro (own := RX8) (by decide) rfl (Nat.le_of_ble_eq_true rfl) (fun M hM ok hq => ?_)
  subst hM
  show G X M cX8_check 5 σ 0 [(0, .inr (.inr (28, 0)))] []
  have aR := hR.1
  refine g_iconst (v := 0) ok dX8_check_0 (by decide +kernel) ?_
  refine g_istore_n ok dX8_check_1 rfl (Nat.le_of_ble_eq_true rfl) ?_
  have L2 : ∀ (n : Nat) (t : Int), (0 ≤ t) → (t ≤ σ 28 0 20) → (rm_check σ = fsr (wrM σ) t (σ 28 0 20 - t).toNat) → (σ 28 0 20 - t < n) → G X M cX8_check 5 σ 2 [(0, .inr (.inr (28, 0))), (1, .inl t)] [] := by
    intro n
    induction n with
    | zero => intro t hk0 hk1 hw hm; exact absurd hm (by omega)
    | succ n L2ih =>
      intro t hk0 hk1 hw hm
      have aS := hS (σ 46 0 (5 * t))
      have aB := hR.2 t
      refine g_iload_n ok dX8_check_2 rfl rfl ?_
      refine g_aload_n ok dX8_check_3 rfl rfl ?_
      refine g_geti (z := 20) ok dX8_check_4 fl_X8_240 (Vd.one rfl) rfl rfl rfl (fun h1 h2 => ?_)
      refine g_icmp_ge (tgt := 115) ok dX8_check_7 (by decide) ⟨by omega, by omega⟩ ⟨by omega, by omega⟩ (fun c3 => ?_) (fun c3 => ?_)
      · skip
        refine g_ldc2 (v := -9000000000000000005) ok dX8_check_115 wd4_214 (by decide +kernel) ?_
        exact g_lret ok hq dX8_check_118 (ansL (by (rw [hw, fsr_end (by omega)]; rfl)) (by rfl))
      · skip
        refine g_aload_n ok dX8_check_10 rfl rfl ?_
        refine g_getr ok dX8_check_11 fl_X8_66 (Vd.one rfl) rfl rfl ?_
        refine g_iconst (v := 5) ok dX8_check_14 (by decide +kernel) ?_
        refine g_iload_n ok dX8_check_15 rfl rfl ?_
        refine g_imul ok dX8_check_16 ?_
        refine g_lald ok dX8_check_17 (Vd.one rfl) (fun _ => rfl) ⟨by omega, by omega⟩ (by decide) rfl (fun h4 h5 => ?_)
        refine g_l2i ok dX8_check_18 ?_
        refine g_istore_n ok dX8_check_19 rfl (Nat.le_of_ble_eq_true rfl) ?_
        refine g_aload_n ok dX8_check_20 rfl rfl ?_
        refine g_getr ok dX8_check_21 fl_X8_30 (Vd.one rfl) rfl rfl ?_
        refine g_iload_n ok dX8_check_24 rfl rfl ?_
        refine g_iald ok dX8_check_25 (Vd.one rfl) (fun _ => rfl) ⟨by omega, by omega⟩ (by decide) rfl (fun h6 h7 => ?_)
        refine g_if_lt (tgt := 109) ok dX8_check_26 (by decide) ⟨by omega, by omega⟩ (fun c8 => ?_) (fun c8 => ?_)
        · skip
          refine g_iinc ok dX8_check_109 rfl rfl (Nat.le_of_ble_eq_true rfl) ?_
          refine g_goto (tgt := 2) ok dX8_check_112 (by decide) ?_
          refine G.norm [(0, .inr (.inr (28, 0))), (1, .inl _)] ⟨rfl, rfl, trivial⟩ (L2ih _ ?_ ?_ ?_ ?_)
          · omega
          · omega
          · (rw [hw]; exact fsr_go (by omega) (by unfold wrM; first | (rw [if_pos (by omega)]; done) | (rw [if_neg (by omega), if_pos ⟨by omega, by omega⟩])))
          · omega
        · skip
          refine g_aload_n ok dX8_check_29 rfl rfl ?_
          refine g_iload_n ok dX8_check_30 rfl rfl ?_
          refine g_aload_n ok dX8_check_31 rfl rfl ?_
          refine g_getr ok dX8_check_32 fl_X8_66 (Vd.one rfl) rfl rfl ?_
          refine g_iconst (v := 5) ok dX8_check_35 (by decide +kernel) ?_
          refine g_iload_n ok dX8_check_36 rfl rfl ?_
          refine g_imul ok dX8_check_37 ?_
          refine g_iconst (v := 3) ok dX8_check_38 (by decide +kernel) ?_
          refine g_iadd ok dX8_check_39 ?_
          refine g_lald ok dX8_check_40 (Vd.one rfl) (fun _ => rfl) ⟨by omega, by omega⟩ (by decide) rfl (fun h9 h10 => ?_)
          refine g_l2i ok dX8_check_41 ?_
          refine g_aload_n ok dX8_check_42 rfl rfl ?_
          refine g_aload_n ok dX8_check_43 rfl rfl ?_
          refine g_getr ok dX8_check_44 fl_X8_66 (Vd.one rfl) rfl rfl ?_
          refine g_iconst (v := 5) ok dX8_check_47 (by decide +kernel) ?_
          refine g_iload_n ok dX8_check_48 rfl rfl ?_
          refine g_imul ok dX8_check_49 ?_
          refine g_iconst (v := 1) ok dX8_check_50 (by decide +kernel) ?_
          refine g_iadd ok dX8_check_51 ?_
          refine g_lald ok dX8_check_52 (Vd.one rfl) (fun _ => rfl) ⟨by omega, by omega⟩ (by decide) rfl (fun h11 h12 => ?_)
          refine g_l2i ok dX8_check_53 ?_
          refine g_aload_n ok dX8_check_54 rfl rfl ?_
          refine g_getr ok dX8_check_55 fl_X8_66 (Vd.one rfl) rfl rfl ?_
          refine g_iconst (v := 5) ok dX8_check_58 (by decide +kernel) ?_
          refine g_iload_n ok dX8_check_59 rfl rfl ?_
          refine g_imul ok dX8_check_60 ?_
          refine g_iconst (v := 2) ok dX8_check_61 (by decide +kernel) ?_
          refine g_iadd ok dX8_check_62 ?_
          refine g_lald ok dX8_check_63 (Vd.one rfl) (fun _ => rfl) ⟨by omega, by omega⟩ (by decide) rfl (fun h13 h14 => ?_)
          refine g_l2i ok dX8_check_64 ?_
          refine g_cV ok dX8_check_65 mv_X8_110 (c_X8_priceOf X _ _ _ _ (by omega) (by omega) (by omega) (by omega) hP) rfl (Vd.one rfl) rfl rfl (by decide) rfl (Nat.le_of_ble_eq_true rfl) ?_
          have aP := pM_b hP (σ 46 0 (5 * t + 1)) (σ 46 0 (5 * t + 2))
          refine g_cV ok dX8_check_68 mv_X8_180 (c_X8_moneyOf X _ _ _ _ _ (by omega) (by omega) (by omega) (by omega) (by omega) (by omega) hS) rfl (Vd.one rfl) rfl rfl (by decide) rfl (Nat.le_of_ble_eq_true rfl) ?_
          have aM := monM_b hS (σ 46 0 (5 * t)) (d := σ 46 0 (5 * t + 3)) (by omega) aP
          refine g_lstore_n ok dX8_check_71 rfl (Nat.le_of_ble_eq_true rfl) ?_
          refine g_aload_n ok dX8_check_72 rfl rfl ?_
          refine g_getr ok dX8_check_73 fl_X8_66 (Vd.one rfl) rfl rfl ?_
          refine g_iconst (v := 5) ok dX8_check_76 (by decide +kernel) ?_
          refine g_iload_n ok dX8_check_77 rfl rfl ?_
          refine g_imul ok dX8_check_78 ?_
          refine g_iconst (v := 4) ok dX8_check_79 (by decide +kernel) ?_
          refine g_iadd ok dX8_check_80 ?_
          refine g_lald ok dX8_check_81 (Vd.one rfl) (fun _ => rfl) ⟨by omega, by omega⟩ (by decide) rfl (fun h15 h16 => ?_)
          refine g_lload_n ok dX8_check_82 rfl rfl ?_
          refine g_lcmp_ne (tgt := 106) ok dX8_check_83 dX8_check_84 (by decide) ⟨by omega, by omega⟩ ⟨by omega, by omega⟩ (fun c17 => ?_) (fun c17 => ?_)
          · skip
            refine g_iload_n ok dX8_check_106 rfl rfl ?_
            refine g_i2l ok dX8_check_107 ⟨by omega, by omega⟩ ?_
            exact g_lret ok hq dX8_check_108 (ansL (by (rw [hw, fsr_stop (by omega) (by unfold wrM; rw [if_neg (by omega), if_neg (by omega)]; decide)])) (by rfl))
          · skip
            refine g_aload_n ok dX8_check_87 rfl rfl ?_
            refine g_iload_n ok dX8_check_88 rfl rfl ?_
            refine g_cV ok dX8_check_89 mv_X8_243 (c_X8_ahead X _ _ _ ⟨by omega, by omega⟩ (by omega) (by omega) hR hS) rfl (Vd.one rfl) rfl rfl (by decide) rfl (Nat.le_of_ble_eq_true rfl) ?_
            have aH := ahM_b hR hS (σ 46 0 (5 * t)) (i := t) (by omega) (by omega)
            refine g_lconst (v := 0) ok dX8_check_92 (by decide +kernel) ?_
            refine g_aload_n ok dX8_check_93 rfl rfl ?_
            refine g_getr ok dX8_check_94 fl_X8_33 (Vd.one rfl) rfl rfl ?_
            refine g_iload_n ok dX8_check_97 rfl rfl ?_
            refine g_iald ok dX8_check_98 (Vd.one rfl) (fun _ => rfl) ⟨by omega, by omega⟩ (by decide) rfl (fun h18 h19 => ?_)
            refine g_i2l ok dX8_check_99 ⟨by omega, by omega⟩ ?_
            refine g_cS ok dX8_check_100 ms_X8_81 (c_X8_isIn X _ _ _ _ _ ⟨by omega, by omega⟩ ⟨by omega, by omega⟩ ⟨by omega, by omega⟩) rfl (by decide) rfl (Nat.le_of_ble_eq_true rfl) ?_
            refine g_ifb_ne (tgt := 109) ok dX8_check_103 (by decide) (fun c20 => ?_) (fun c20 => ?_)
            · skip
              refine g_iinc ok dX8_check_109 rfl rfl (Nat.le_of_ble_eq_true rfl) ?_
              refine g_goto (tgt := 2) ok dX8_check_112 (by decide) ?_
              refine G.norm [(0, .inr (.inr (28, 0))), (1, .inl _)] ⟨rfl, rfl, trivial⟩ (L2ih _ ?_ ?_ ?_ ?_)
              · omega
              · omega
              · (rw [hw]; exact fsr_go (by omega) (by unfold wrM; first | (rw [if_pos (by omega)]; done) | (rw [if_neg (by omega), if_pos ⟨by omega, by omega⟩])))
              · omega
            · skip
              refine g_iload_n ok dX8_check_106 rfl rfl ?_
              refine g_i2l ok dX8_check_107 ⟨by omega, by omega⟩ ?_
              exact g_lret ok hq dX8_check_108 (ansL (by (rw [hw, fsr_stop (by omega) (by unfold wrM; rw [if_neg (by omega), if_neg (by omega)]; decide)])) (by rfl))
  refine G.norm [(0, .inr (.inr (28, 0))), (1, .inl _)] ⟨rfl, rfl, trivial⟩ (L2 (151 : Nat) _ ?_ ?_ ?_ ?_)
  · omega
  · omega
  · (unfold rm_check; rw [Int.sub_zero])
  · omega

set_option maxRecDepth 100000 in
set_option maxHeartbeats 4000000 in
theorem c_X8_voided (X : XW) (l : Launch) (σ : Mm) (z1 : Int) (rz1 : R32 z1) (hR : MR σ) (hS : MSt σ) : Ct X l yX8_voided cX8_voided 9 (Option.some FieldType.long) 3 66 σ [.inr (.inr (28, 0)), .inl z1] (Ans (some (.inr (.inl (rm_voided σ z1)))) (σ)) := by
  refine Ct.intro (own := RX8) (by decide) rfl (Nat.le_of_ble_eq_true rfl) (fun M hM ok hq => ?_)
  subst hM
  have rz1l := rz1.1
  have rz1r := rz1.2
  show G X M cX8_voided 9 σ 0 [(0, .inr (.inr (28, 0))), (1, .inl z1)] []
  have aR := hR.1
  have aS := hS z1
  refine g_aload_n ok dX8_voided_0 rfl rfl ?_
  refine g_iload_n ok dX8_voided_1 rfl rfl ?_
  refine g_cV3 ok dX8_voided_2 mv_X8_142 (c_X8_asked X _ _ _ ⟨by omega, by omega⟩) rfl (Vd.one rfl) rfl rfl (by decide) rfl (Nat.le_of_ble_eq_true rfl) (fun q1 => ?_) (fun q1 => ?_) (fun q1 => ?_)
  · skip
    refine g_lstore_n ok dX8_voided_5 rfl (Nat.le_of_ble_eq_true rfl) ?_
    refine g_lload_n ok dX8_voided_6 rfl rfl ?_
    refine g_lconst (v := 0) ok dX8_voided_7 (by decide +kernel) ?_
    refine g_lcmp_eq (tgt := 14) ok dX8_voided_8 dX8_voided_9 (by decide) ⟨by omega, by omega⟩ ⟨by omega, by omega⟩ (fun c2 => ?_) (fun c2 => ?_)
    · skip
      exfalso
      omega
    · skip
      refine g_lload_n ok dX8_voided_12 rfl rfl ?_
      exact g_lret ok hq dX8_voided_13 (ansL (by (simp only [rm_voided, BAD, NO, FULL, NONE, NOTHING, INDEX, SIZE] <;> (repeat (first | rw [if_pos (by omega)] | rw [if_neg (by omega)])) <;> omega)) (by rfl))
  · skip
    refine g_lstore_n ok dX8_voided_5 rfl (Nat.le_of_ble_eq_true rfl) ?_
    refine g_lload_n ok dX8_voided_6 rfl rfl ?_
    refine g_lconst (v := 0) ok dX8_voided_7 (by decide +kernel) ?_
    refine g_lcmp_eq (tgt := 14) ok dX8_voided_8 dX8_voided_9 (by decide) ⟨by omega, by omega⟩ ⟨by omega, by omega⟩ (fun c3 => ?_) (fun c3 => ?_)
    · skip
      exfalso
      omega
    · skip
      refine g_lload_n ok dX8_voided_12 rfl rfl ?_
      exact g_lret ok hq dX8_voided_13 (ansL (by (simp only [rm_voided, BAD, NO, FULL, NONE, NOTHING, INDEX, SIZE] <;> (repeat (first | rw [if_pos (by omega)] | rw [if_neg (by omega)])) <;> omega)) (by rfl))
  · skip
    refine g_lstore_n ok dX8_voided_5 rfl (Nat.le_of_ble_eq_true rfl) ?_
    refine g_lload_n ok dX8_voided_6 rfl rfl ?_
    refine g_lconst (v := 0) ok dX8_voided_7 (by decide +kernel) ?_
    refine g_lcmp_eq (tgt := 14) ok dX8_voided_8 dX8_voided_9 (by decide) ⟨by omega, by omega⟩ ⟨by omega, by omega⟩ (fun c4 => ?_) (fun c4 => ?_)
    · skip
      refine g_lconst (v := 0) ok dX8_voided_14 (by decide +kernel) ?_
      refine g_lstore ok dX8_voided_15 (Nat.le_of_ble_eq_true rfl) ?_
      refine g_iconst (v := 0) ok dX8_voided_17 (by decide +kernel) ?_
      refine g_istore ok dX8_voided_18 (Nat.le_of_ble_eq_true rfl) ?_
      have L20 : ∀ (n : Nat) (t : Int) (c : Int), (0 ≤ t) → (t ≤ σ 28 0 20) → (c = sm (szM σ z1) t) → (0 ≤ c ∧ c ≤ 100 * t) → (fsr (vdM σ z1) 0 (σ 28 0 20).toNat = fsr (vdM σ z1) t (σ 28 0 20 - t).toNat) → (σ 28 0 20 - t < n) → G X M cX8_voided 9 σ 20 [(0, .inr (.inr (28, 0))), (1, .inl z1), (4, .inr (.inl c)), (6, .inl t)] [] := by
        intro n
        induction n with
        | zero => intro t c hk0 hk1 hc hb hw hm; exact absurd hm (by omega)
        | succ n L20ih =>
          intro t c hk0 hk1 hc hb hw hm
          have aB := hR.2 t
          have e0 := sm_s (f := szM σ z1) hk0
          have e2 := szM_v σ z1 t
          refine g_iload ok dX8_voided_20 rfl ?_
          refine g_aload_n ok dX8_voided_22 rfl rfl ?_
          refine g_geti (z := 20) ok dX8_voided_23 fl_X8_240 (Vd.one rfl) rfl rfl rfl (fun h5 h6 => ?_)
          refine g_icmp_ge (tgt := 104) ok dX8_voided_26 (by decide) ⟨by omega, by omega⟩ ⟨by omega, by omega⟩ (fun c7 => ?_) (fun c7 => ?_)
          · skip
            refine g_ldc2 (v := -9000000000000000005) ok dX8_voided_104 wd4_214 (by decide +kernel) ?_
            exact g_lret ok hq dX8_voided_107 (ansL (by (unfold rm_voided; rw [if_pos (by omega), if_neg (by omega), hw, fsr_end (by omega)]; rfl)) (by rfl))
          · skip
            refine g_aload_n ok dX8_voided_29 rfl rfl ?_
            refine g_getr ok dX8_voided_30 fl_X8_66 (Vd.one rfl) rfl rfl ?_
            refine g_iconst (v := 5) ok dX8_voided_33 (by decide +kernel) ?_
            refine g_iload ok dX8_voided_34 rfl ?_
            refine g_imul ok dX8_voided_36 ?_
            refine g_iconst (v := 3) ok dX8_voided_37 (by decide +kernel) ?_
            refine g_iadd ok dX8_voided_38 ?_
            refine g_lald ok dX8_voided_39 (Vd.one rfl) (fun _ => rfl) ⟨by omega, by omega⟩ (by decide) rfl (fun h8 h9 => ?_)
            refine g_lstore ok dX8_voided_40 (Nat.le_of_ble_eq_true rfl) ?_
            refine g_lload ok dX8_voided_42 rfl ?_
            refine g_aload_n ok dX8_voided_44 rfl rfl ?_
            refine g_getr ok dX8_voided_45 fl_X8_66 (Vd.one rfl) rfl rfl ?_
            refine g_iconst (v := 5) ok dX8_voided_48 (by decide +kernel) ?_
            refine g_iload ok dX8_voided_49 rfl ?_
            refine g_imul ok dX8_voided_51 ?_
            refine g_lald ok dX8_voided_52 (Vd.one rfl) (fun _ => rfl) ⟨by omega, by omega⟩ (by decide) rfl (fun h10 h11 => ?_)
            refine g_iload_n ok dX8_voided_53 rfl rfl ?_
            refine g_i2l ok dX8_voided_54 ⟨by omega, by omega⟩ ?_
            refine g_lcmp_eq (tgt := 63) ok dX8_voided_55 dX8_voided_56 (by decide) ⟨by omega, by omega⟩ ⟨by omega, by omega⟩ (fun c12 => ?_) (fun c12 => ?_)
            · skip
              refine g_lload ok dX8_voided_63 rfl ?_
              refine g_lconst (v := 0) ok dX8_voided_65 (by decide +kernel) ?_
              refine g_lcmp_ge (tgt := 76) ok dX8_voided_66 dX8_voided_67 (by decide) ⟨by omega, by omega⟩ ⟨by omega, by omega⟩ (fun c13 => ?_) (fun c13 => ?_)
              · skip
                refine g_lload ok dX8_voided_76 rfl ?_
                refine g_ladd ok dX8_voided_78 ?_
                refine g_lstore ok dX8_voided_79 (Nat.le_of_ble_eq_true rfl) ?_
                refine g_lload ok dX8_voided_81 rfl ?_
                refine g_aload_n ok dX8_voided_83 rfl rfl ?_
                refine g_getr ok dX8_voided_84 fl_X8_54 (Vd.one rfl) rfl rfl ?_
                refine g_iload_n ok dX8_voided_87 rfl rfl ?_
                refine g_iald ok dX8_voided_88 (Vd.one rfl) (fun _ => rfl) ⟨by omega, by omega⟩ (by decide) rfl (fun h14 h15 => ?_)
                refine g_i2l ok dX8_voided_89 ⟨by omega, by omega⟩ ?_
                refine g_lcmp_le (tgt := 98) ok dX8_voided_90 dX8_voided_91 (by decide) ⟨by omega, by omega⟩ ⟨by omega, by omega⟩ (fun c16 => ?_) (fun c16 => ?_)
                · skip
                  refine g_iinc ok dX8_voided_98 rfl rfl (Nat.le_of_ble_eq_true rfl) ?_
                  refine g_goto (tgt := 20) ok dX8_voided_101 (by decide) ?_
                  refine G.norm [(0, .inr (.inr (28, 0))), (1, .inl z1), (4, .inr (.inl _)), (6, .inl _)] ⟨rfl, rfl, rfl, rfl, trivial⟩ (L20ih _ _ ?_ ?_ ?_ ?_ ?_ ?_)
                  · omega
                  · omega
                  · omega
                  · omega
                  · (rw [hw]; exact fsr_go (by omega) (by unfold vdM; rw [if_neg (by omega)]))
                  · omega
                · skip
                  refine g_iload ok dX8_voided_94 rfl ?_
                  refine g_i2l ok dX8_voided_96 ⟨by omega, by omega⟩ ?_
                  exact g_lret ok hq dX8_voided_97 (ansL (by (unfold rm_voided; rw [if_pos (by omega), if_neg (by omega), hw, fsr_stop (by omega) (by unfold vdM; rw [if_pos (by omega)]; decide)])) (by rfl))
              · skip
                refine g_lload ok dX8_voided_70 rfl ?_
                refine g_lneg ok dX8_voided_72 ?_
                refine g_goto (tgt := 78) ok dX8_voided_73 (by decide) ?_
                refine g_ladd ok dX8_voided_78 ?_
                refine g_lstore ok dX8_voided_79 (Nat.le_of_ble_eq_true rfl) ?_
                refine g_lload ok dX8_voided_81 rfl ?_
                refine g_aload_n ok dX8_voided_83 rfl rfl ?_
                refine g_getr ok dX8_voided_84 fl_X8_54 (Vd.one rfl) rfl rfl ?_
                refine g_iload_n ok dX8_voided_87 rfl rfl ?_
                refine g_iald ok dX8_voided_88 (Vd.one rfl) (fun _ => rfl) ⟨by omega, by omega⟩ (by decide) rfl (fun h17 h18 => ?_)
                refine g_i2l ok dX8_voided_89 ⟨by omega, by omega⟩ ?_
                refine g_lcmp_le (tgt := 98) ok dX8_voided_90 dX8_voided_91 (by decide) ⟨by omega, by omega⟩ ⟨by omega, by omega⟩ (fun c19 => ?_) (fun c19 => ?_)
                · skip
                  refine g_iinc ok dX8_voided_98 rfl rfl (Nat.le_of_ble_eq_true rfl) ?_
                  refine g_goto (tgt := 20) ok dX8_voided_101 (by decide) ?_
                  refine G.norm [(0, .inr (.inr (28, 0))), (1, .inl z1), (4, .inr (.inl _)), (6, .inl _)] ⟨rfl, rfl, rfl, rfl, trivial⟩ (L20ih _ _ ?_ ?_ ?_ ?_ ?_ ?_)
                  · omega
                  · omega
                  · omega
                  · omega
                  · (rw [hw]; exact fsr_go (by omega) (by unfold vdM; rw [if_neg (by omega)]))
                  · omega
                · skip
                  refine g_iload ok dX8_voided_94 rfl ?_
                  refine g_i2l ok dX8_voided_96 ⟨by omega, by omega⟩ ?_
                  exact g_lret ok hq dX8_voided_97 (ansL (by (unfold rm_voided; rw [if_pos (by omega), if_neg (by omega), hw, fsr_stop (by omega) (by unfold vdM; rw [if_pos (by omega)]; decide)])) (by rfl))
            · skip
              refine g_lconst (v := 0) ok dX8_voided_59 (by decide +kernel) ?_
              refine g_goto (tgt := 78) ok dX8_voided_60 (by decide) ?_
              refine g_ladd ok dX8_voided_78 ?_
              refine g_lstore ok dX8_voided_79 (Nat.le_of_ble_eq_true rfl) ?_
              refine g_lload ok dX8_voided_81 rfl ?_
              refine g_aload_n ok dX8_voided_83 rfl rfl ?_
              refine g_getr ok dX8_voided_84 fl_X8_54 (Vd.one rfl) rfl rfl ?_
              refine g_iload_n ok dX8_voided_87 rfl rfl ?_
              refine g_iald ok dX8_voided_88 (Vd.one rfl) (fun _ => rfl) ⟨by omega, by omega⟩ (by decide) rfl (fun h20 h21 => ?_)
              refine g_i2l ok dX8_voided_89 ⟨by omega, by omega⟩ ?_
              refine g_lcmp_le (tgt := 98) ok dX8_voided_90 dX8_voided_91 (by decide) ⟨by omega, by omega⟩ ⟨by omega, by omega⟩ (fun c22 => ?_) (fun c22 => ?_)
              · skip
                refine g_iinc ok dX8_voided_98 rfl rfl (Nat.le_of_ble_eq_true rfl) ?_
                refine g_goto (tgt := 20) ok dX8_voided_101 (by decide) ?_
                refine G.norm [(0, .inr (.inr (28, 0))), (1, .inl z1), (4, .inr (.inl _)), (6, .inl _)] ⟨rfl, rfl, rfl, rfl, trivial⟩ (L20ih _ _ ?_ ?_ ?_ ?_ ?_ ?_)
                · omega
                · omega
                · omega
                · omega
                · (rw [hw]; exact fsr_go (by omega) (by unfold vdM; rw [if_neg (by omega)]))
                · omega
              · skip
                refine g_iload ok dX8_voided_94 rfl ?_
                refine g_i2l ok dX8_voided_96 ⟨by omega, by omega⟩ ?_
                exact g_lret ok hq dX8_voided_97 (ansL (by (unfold rm_voided; rw [if_pos (by omega), if_neg (by omega), hw, fsr_stop (by omega) (by unfold vdM; rw [if_pos (by omega)]; decide)])) (by rfl))
      refine G.norm [(0, .inr (.inr (28, 0))), (1, .inl z1), (4, .inr (.inl _)), (6, .inl _)] ⟨rfl, rfl, rfl, rfl, trivial⟩ (L20 (151 : Nat) _ _ ?_ ?_ ?_ ?_ ?_ ?_)
      · omega
      · omega
      · rfl
      · omega
      · (rw [Int.sub_zero])
      · omega
    · skip
      exfalso
      omega

set_option maxRecDepth 100000 in
set_option maxHeartbeats 4000000 in
theorem c_X8_count (X : XW) (l : Launch) (σ : Mm) (z1 : Int) (rz1 : R32 z1) (hR : MR σ) (hT : MT σ) : Ct X l yX8_count cX8_count 5 (Option.some FieldType.long) 0 0 σ [.inr (.inr (28, 0)), .inl z1] (Ans (some (.inr (.inl (rm_count σ z1)))) (σ)) := by
  refine Ct.intro (own := RX8) (by decide) rfl (Nat.le_of_ble_eq_true rfl) (fun M hM ok hq => ?_)
  subst hM
  have rz1l := rz1.1
  have rz1r := rz1.2
  show G X M cX8_count 5 σ 0 [(0, .inr (.inr (28, 0))), (1, .inl z1)] []
  have aT := hT.1
  have aT2 := hT.2
  have aR := hR.1
  refine g_lconst (v := 0) ok dX8_count_0 (by decide +kernel) ?_
  refine g_lstore_n ok dX8_count_1 rfl (Nat.le_of_ble_eq_true rfl) ?_
  refine g_iload_n ok dX8_count_2 rfl rfl ?_
  rcases (show z1 = 0 ∨ z1 = 1 ∨ z1 = 2 ∨ z1 = 3 ∨ z1 = 4 ∨ z1 = 5 ∨ z1 = 6 ∨ z1 = 7 ∨ (z1 < 0 ∨ 7 < z1) by omega) with w1 | w1 | w1 | w1 | w1 | w1 | w1 | w1 | w1
  · skip
    refine g_tabIn (tgt := 48) ok dX8_count_3 ⟨by omega, by omega⟩ (by omega) (by omega) (off := 45) (by rw [w1]; rfl) (by decide) ?_
    refine g_iconst (v := 0) ok dX8_count_48 (by decide +kernel) ?_
    refine g_istore ok dX8_count_49 (Nat.le_of_ble_eq_true rfl) ?_
    have L51 : ∀ (n : Nat) (k : Int) (c : Int), (0 ≤ k) → (k ≤ 4) → (c = sm (fun k => if σ 34 0 k < 0 then 0 else 1) k) → (4 - k < n) → G X M cX8_count 5 σ 51 [(0, .inr (.inr (28, 0))), (1, .inl z1), (2, .inr (.inl c)), (4, .inl k)] [] := by
      intro n
      induction n with
      | zero => intro k c hk0 hk1 hc hm; exact absurd hm (by omega)
      | succ n L51ih =>
        intro k c hk0 hk1 hc hm
        refine g_iload ok dX8_count_51 rfl ?_
        refine g_iconst (v := 4) ok dX8_count_53 (by decide +kernel) ?_
        refine g_icmp_ge (tgt := 81) ok dX8_count_54 (by decide) ⟨by omega, by omega⟩ ⟨by omega, by omega⟩ (fun c2 => ?_) (fun c2 => ?_)
        · skip
          refine g_lload_n ok dX8_count_81 rfl rfl ?_
          exact g_lret ok hq dX8_count_82 (ansL (by (simp only [rm_count]; rw [if_pos (by omega), hc, show k = 4 by omega])) (by rfl))
        · skip
          refine g_lload_n ok dX8_count_57 rfl rfl ?_
          refine g_aload_n ok dX8_count_58 rfl rfl ?_
          refine g_getr ok dX8_count_59 fl_X8_30 (Vd.one rfl) rfl rfl ?_
          refine g_iload ok dX8_count_62 rfl ?_
          refine g_iald ok dX8_count_64 (Vd.one rfl) (fun _ => rfl) ⟨by omega, by omega⟩ (by decide) rfl (fun h3 h4 => ?_)
          refine g_if_lt (tgt := 72) ok dX8_count_65 (by decide) ⟨by omega, by omega⟩ (fun c5 => ?_) (fun c5 => ?_)
          · skip
            refine g_lconst (v := 0) ok dX8_count_72 (by decide +kernel) ?_
            refine g_ladd ok dX8_count_73 ?_
            refine g_lstore_n ok dX8_count_74 rfl (Nat.le_of_ble_eq_true rfl) ?_
            refine g_iinc ok dX8_count_75 rfl rfl (Nat.le_of_ble_eq_true rfl) ?_
            refine g_goto (tgt := 51) ok dX8_count_78 (by decide) ?_
            refine G.norm [(0, .inr (.inr (28, 0))), (1, .inl z1), (2, .inr (.inl _)), (4, .inl _)] ⟨rfl, rfl, rfl, rfl, trivial⟩ (L51ih _ _ ?_ ?_ ?_ ?_)
            · omega
            · omega
            · (rw [sm_s hk0, hc]; (try dsimp only); first | rw [if_pos (by omega)] | rw [if_neg (by omega)])
            · omega
          · skip
            refine g_lconst (v := 1) ok dX8_count_68 (by decide +kernel) ?_
            refine g_goto (tgt := 73) ok dX8_count_69 (by decide) ?_
            refine g_ladd ok dX8_count_73 ?_
            refine g_lstore_n ok dX8_count_74 rfl (Nat.le_of_ble_eq_true rfl) ?_
            refine g_iinc ok dX8_count_75 rfl rfl (Nat.le_of_ble_eq_true rfl) ?_
            refine g_goto (tgt := 51) ok dX8_count_78 (by decide) ?_
            refine G.norm [(0, .inr (.inr (28, 0))), (1, .inl z1), (2, .inr (.inl _)), (4, .inl _)] ⟨rfl, rfl, rfl, rfl, trivial⟩ (L51ih _ _ ?_ ?_ ?_ ?_)
            · omega
            · omega
            · (rw [sm_s hk0, hc]; (try dsimp only); first | rw [if_pos (by omega)] | rw [if_neg (by omega)])
            · omega
    refine G.norm [(0, .inr (.inr (28, 0))), (1, .inl z1), (2, .inr (.inl _)), (4, .inl _)] ⟨rfl, rfl, rfl, rfl, trivial⟩ (L51 (5 : Nat) _ _ ?_ ?_ ?_ ?_)
    · omega
    · omega
    · rfl
    · omega
  · skip
    refine g_tabIn (tgt := 83) ok dX8_count_3 ⟨by omega, by omega⟩ (by omega) (by omega) (off := 80) (by rw [w1]; rfl) (by decide) ?_
    refine g_aload_n ok dX8_count_83 rfl rfl ?_
    refine g_geti (z := 0) ok dX8_count_84 fl_X8_7 (Vd.one rfl) rfl rfl rfl (fun h6 h7 => ?_)
    refine g_i2l ok dX8_count_87 ⟨by omega, by omega⟩ ?_
    exact g_lret ok hq dX8_count_88 (ansL (by (simp only [rm_count, BAD, NO, FULL, NONE, NOTHING, INDEX, SIZE] <;> (repeat (first | rw [if_pos (by omega)] | rw [if_neg (by omega)])) <;> omega)) (by rfl))
  · skip
    refine g_tabIn (tgt := 89) ok dX8_count_3 ⟨by omega, by omega⟩ (by omega) (by omega) (off := 86) (by rw [w1]; rfl) (by decide) ?_
    refine g_aload_n ok dX8_count_89 rfl rfl ?_
    refine g_geti (z := 17) ok dX8_count_90 fl_X8_89 (Vd.one rfl) rfl rfl rfl (fun h8 h9 => ?_)
    refine g_i2l ok dX8_count_93 ⟨by omega, by omega⟩ ?_
    exact g_lret ok hq dX8_count_94 (ansL (by (simp only [rm_count, BAD, NO, FULL, NONE, NOTHING, INDEX, SIZE] <;> (repeat (first | rw [if_pos (by omega)] | rw [if_neg (by omega)])) <;> omega)) (by rfl))
  · skip
    refine g_tabIn (tgt := 95) ok dX8_count_3 ⟨by omega, by omega⟩ (by omega) (by omega) (off := 92) (by rw [w1]; rfl) (by decide) ?_
    refine g_aload_n ok dX8_count_95 rfl rfl ?_
    refine g_geti (z := 20) ok dX8_count_96 fl_X8_240 (Vd.one rfl) rfl rfl rfl (fun h10 h11 => ?_)
    refine g_i2l ok dX8_count_99 ⟨by omega, by omega⟩ ?_
    exact g_lret ok hq dX8_count_100 (ansL (by (simp only [rm_count, BAD, NO, FULL, NONE, NOTHING, INDEX, SIZE] <;> (repeat (first | rw [if_pos (by omega)] | rw [if_neg (by omega)])) <;> omega)) (by rfl))
  · skip
    refine g_tabIn (tgt := 101) ok dX8_count_3 ⟨by omega, by omega⟩ (by omega) (by omega) (off := 98) (by rw [w1]; rfl) (by decide) ?_
    refine g_iconst (v := 0) ok dX8_count_101 (by decide +kernel) ?_
    refine g_istore ok dX8_count_102 (Nat.le_of_ble_eq_true rfl) ?_
    have L104 : ∀ (n : Nat) (k : Int) (c : Int), (0 ≤ k) → (k ≤ 4) → (c = sm (fun k => if σ 31 0 k < 0 then 0 else 1) k) → (4 - k < n) → G X M cX8_count 5 σ 104 [(0, .inr (.inr (28, 0))), (1, .inl z1), (2, .inr (.inl c)), (4, .inl k)] [] := by
      intro n
      induction n with
      | zero => intro k c hk0 hk1 hc hm; exact absurd hm (by omega)
      | succ n L104ih =>
        intro k c hk0 hk1 hc hm
        refine g_iload ok dX8_count_104 rfl ?_
        refine g_iconst (v := 4) ok dX8_count_106 (by decide +kernel) ?_
        refine g_icmp_ge (tgt := 134) ok dX8_count_107 (by decide) ⟨by omega, by omega⟩ ⟨by omega, by omega⟩ (fun c12 => ?_) (fun c12 => ?_)
        · skip
          refine g_lload_n ok dX8_count_134 rfl rfl ?_
          exact g_lret ok hq dX8_count_135 (ansL (by (simp only [rm_count]; (repeat (first | rw [if_pos (by omega)] | rw [if_neg (by omega)])); rw [hc, show k = 4 by omega])) (by rfl))
        · skip
          refine g_lload_n ok dX8_count_110 rfl rfl ?_
          refine g_aload_n ok dX8_count_111 rfl rfl ?_
          refine g_getr ok dX8_count_112 fl_X8_21 (Vd.one rfl) rfl rfl ?_
          refine g_iload ok dX8_count_115 rfl ?_
          refine g_iald ok dX8_count_117 (Vd.one rfl) (fun _ => rfl) ⟨by omega, by omega⟩ (by decide) rfl (fun h13 h14 => ?_)
          refine g_if_lt (tgt := 125) ok dX8_count_118 (by decide) ⟨by omega, by omega⟩ (fun c15 => ?_) (fun c15 => ?_)
          · skip
            refine g_lconst (v := 0) ok dX8_count_125 (by decide +kernel) ?_
            refine g_ladd ok dX8_count_126 ?_
            refine g_lstore_n ok dX8_count_127 rfl (Nat.le_of_ble_eq_true rfl) ?_
            refine g_iinc ok dX8_count_128 rfl rfl (Nat.le_of_ble_eq_true rfl) ?_
            refine g_goto (tgt := 104) ok dX8_count_131 (by decide) ?_
            refine G.norm [(0, .inr (.inr (28, 0))), (1, .inl z1), (2, .inr (.inl _)), (4, .inl _)] ⟨rfl, rfl, rfl, rfl, trivial⟩ (L104ih _ _ ?_ ?_ ?_ ?_)
            · omega
            · omega
            · (rw [sm_s hk0, hc]; (try dsimp only); first | rw [if_pos (by omega)] | rw [if_neg (by omega)])
            · omega
          · skip
            refine g_lconst (v := 1) ok dX8_count_121 (by decide +kernel) ?_
            refine g_goto (tgt := 126) ok dX8_count_122 (by decide) ?_
            refine g_ladd ok dX8_count_126 ?_
            refine g_lstore_n ok dX8_count_127 rfl (Nat.le_of_ble_eq_true rfl) ?_
            refine g_iinc ok dX8_count_128 rfl rfl (Nat.le_of_ble_eq_true rfl) ?_
            refine g_goto (tgt := 104) ok dX8_count_131 (by decide) ?_
            refine G.norm [(0, .inr (.inr (28, 0))), (1, .inl z1), (2, .inr (.inl _)), (4, .inl _)] ⟨rfl, rfl, rfl, rfl, trivial⟩ (L104ih _ _ ?_ ?_ ?_ ?_)
            · omega
            · omega
            · (rw [sm_s hk0, hc]; (try dsimp only); first | rw [if_pos (by omega)] | rw [if_neg (by omega)])
            · omega
    refine G.norm [(0, .inr (.inr (28, 0))), (1, .inl z1), (2, .inr (.inl _)), (4, .inl _)] ⟨rfl, rfl, rfl, rfl, trivial⟩ (L104 (5 : Nat) _ _ ?_ ?_ ?_ ?_)
    · omega
    · omega
    · rfl
    · omega
  · skip
    refine g_tabIn (tgt := 136) ok dX8_count_3 ⟨by omega, by omega⟩ (by omega) (by omega) (off := 133) (by rw [w1]; rfl) (by decide) ?_
    refine g_iconst (v := 0) ok dX8_count_136 (by decide +kernel) ?_
    refine g_istore ok dX8_count_137 (Nat.le_of_ble_eq_true rfl) ?_
    have L139 : ∀ (n : Nat) (k : Int) (c : Int), (0 ≤ k) → (k ≤ 36) → (c = sm (fun k => if σ 45 0 k = -1001 then 0 else 1) k) → (36 - k < n) → G X M cX8_count 5 σ 139 [(0, .inr (.inr (28, 0))), (1, .inl z1), (2, .inr (.inl c)), (4, .inl k)] [] := by
      intro n
      induction n with
      | zero => intro k c hk0 hk1 hc hm; exact absurd hm (by omega)
      | succ n L139ih =>
        intro k c hk0 hk1 hc hm
        refine g_iload ok dX8_count_139 rfl ?_
        refine g_bipush (v := 36) ok dX8_count_141 (by decide +kernel) ?_
        refine g_icmp_ge (tgt := 173) ok dX8_count_143 (by decide) ⟨by omega, by omega⟩ ⟨by omega, by omega⟩ (fun c16 => ?_) (fun c16 => ?_)
        · skip
          refine g_lload_n ok dX8_count_173 rfl rfl ?_
          exact g_lret ok hq dX8_count_174 (ansL (by (simp only [rm_count]; (repeat (first | rw [if_pos (by omega)] | rw [if_neg (by omega)])); rw [hc, show k = 36 by omega])) (by rfl))
        · skip
          refine g_lload_n ok dX8_count_146 rfl rfl ?_
          refine g_aload_n ok dX8_count_147 rfl rfl ?_
          refine g_getr ok dX8_count_148 fl_X8_63 (Vd.one rfl) rfl rfl ?_
          refine g_iload ok dX8_count_151 rfl ?_
          refine g_iald ok dX8_count_153 (Vd.one rfl) (fun _ => rfl) ⟨by omega, by omega⟩ (by decide) rfl (fun h17 h18 => ?_)
          refine g_sipush (v := -1001) ok dX8_count_154 (by decide +kernel) ?_
          refine g_icmp_eq (tgt := 164) ok dX8_count_157 (by decide) ⟨by omega, by omega⟩ ⟨by omega, by omega⟩ (fun c19 => ?_) (fun c19 => ?_)
          · skip
            refine g_lconst (v := 0) ok dX8_count_164 (by decide +kernel) ?_
            refine g_ladd ok dX8_count_165 ?_
            refine g_lstore_n ok dX8_count_166 rfl (Nat.le_of_ble_eq_true rfl) ?_
            refine g_iinc ok dX8_count_167 rfl rfl (Nat.le_of_ble_eq_true rfl) ?_
            refine g_goto (tgt := 139) ok dX8_count_170 (by decide) ?_
            refine G.norm [(0, .inr (.inr (28, 0))), (1, .inl z1), (2, .inr (.inl _)), (4, .inl _)] ⟨rfl, rfl, rfl, rfl, trivial⟩ (L139ih _ _ ?_ ?_ ?_ ?_)
            · omega
            · omega
            · (rw [sm_s hk0, hc]; (try dsimp only); first | rw [if_pos (by omega)] | rw [if_neg (by omega)])
            · omega
          · skip
            refine g_lconst (v := 1) ok dX8_count_160 (by decide +kernel) ?_
            refine g_goto (tgt := 165) ok dX8_count_161 (by decide) ?_
            refine g_ladd ok dX8_count_165 ?_
            refine g_lstore_n ok dX8_count_166 rfl (Nat.le_of_ble_eq_true rfl) ?_
            refine g_iinc ok dX8_count_167 rfl rfl (Nat.le_of_ble_eq_true rfl) ?_
            refine g_goto (tgt := 139) ok dX8_count_170 (by decide) ?_
            refine G.norm [(0, .inr (.inr (28, 0))), (1, .inl z1), (2, .inr (.inl _)), (4, .inl _)] ⟨rfl, rfl, rfl, rfl, trivial⟩ (L139ih _ _ ?_ ?_ ?_ ?_)
            · omega
            · omega
            · (rw [sm_s hk0, hc]; (try dsimp only); first | rw [if_pos (by omega)] | rw [if_neg (by omega)])
            · omega
    refine G.norm [(0, .inr (.inr (28, 0))), (1, .inl z1), (2, .inr (.inl _)), (4, .inl _)] ⟨rfl, rfl, rfl, rfl, trivial⟩ (L139 (37 : Nat) _ _ ?_ ?_ ?_ ?_)
    · omega
    · omega
    · rfl
    · omega
  · skip
    refine g_tabIn (tgt := 175) ok dX8_count_3 ⟨by omega, by omega⟩ (by omega) (by omega) (off := 172) (by rw [w1]; rfl) (by decide) ?_
    refine g_iconst (v := 0) ok dX8_count_175 (by decide +kernel) ?_
    refine g_istore ok dX8_count_176 (Nat.le_of_ble_eq_true rfl) ?_
    have L178 : ∀ (n : Nat) (k : Int) (c : Int), (0 ≤ k) → (k ≤ σ 28 0 0) → (c = sm (fun k => if σ 29 0 k = 0 then 0 else 1) k) → (σ 28 0 0 - k < n) → G X M cX8_count 5 σ 178 [(0, .inr (.inr (28, 0))), (1, .inl z1), (2, .inr (.inl c)), (4, .inl k)] [] := by
      intro n
      induction n with
      | zero => intro k c hk0 hk1 hc hm; exact absurd hm (by omega)
      | succ n L178ih =>
        intro k c hk0 hk1 hc hm
        refine g_iload ok dX8_count_178 rfl ?_
        refine g_aload_n ok dX8_count_180 rfl rfl ?_
        refine g_geti (z := 0) ok dX8_count_181 fl_X8_7 (Vd.one rfl) rfl rfl rfl (fun h20 h21 => ?_)
        refine g_icmp_ge (tgt := 211) ok dX8_count_184 (by decide) ⟨by omega, by omega⟩ ⟨by omega, by omega⟩ (fun c22 => ?_) (fun c22 => ?_)
        · skip
          refine g_lload_n ok dX8_count_211 rfl rfl ?_
          exact g_lret ok hq dX8_count_212 (ansL (by (simp only [rm_count]; (repeat (first | rw [if_pos (by omega)] | rw [if_neg (by omega)])); rw [hc, show k = σ 28 0 0 by omega])) (by rfl))
        · skip
          refine g_lload_n ok dX8_count_187 rfl rfl ?_
          refine g_aload_n ok dX8_count_188 rfl rfl ?_
          refine g_getr ok dX8_count_189 fl_X8_13 (Vd.one rfl) rfl rfl ?_
          refine g_iload ok dX8_count_192 rfl ?_
          refine g_zald ok dX8_count_194 (Vd.one rfl) (fun _ => rfl) ⟨by omega, by omega⟩ (by decide) rfl (fun h23 h24 => ?_)
          refine g_if_eq (tgt := 202) ok dX8_count_195 (by decide) ⟨by omega, by omega⟩ (fun c25 => ?_) (fun c25 => ?_)
          · skip
            refine g_lconst (v := 0) ok dX8_count_202 (by decide +kernel) ?_
            refine g_ladd ok dX8_count_203 ?_
            refine g_lstore_n ok dX8_count_204 rfl (Nat.le_of_ble_eq_true rfl) ?_
            refine g_iinc ok dX8_count_205 rfl rfl (Nat.le_of_ble_eq_true rfl) ?_
            refine g_goto (tgt := 178) ok dX8_count_208 (by decide) ?_
            refine G.norm [(0, .inr (.inr (28, 0))), (1, .inl z1), (2, .inr (.inl _)), (4, .inl _)] ⟨rfl, rfl, rfl, rfl, trivial⟩ (L178ih _ _ ?_ ?_ ?_ ?_)
            · omega
            · omega
            · (rw [sm_s hk0, hc]; (try dsimp only); first | rw [if_pos (by omega)] | rw [if_neg (by omega)])
            · omega
          · skip
            refine g_lconst (v := 1) ok dX8_count_198 (by decide +kernel) ?_
            refine g_goto (tgt := 203) ok dX8_count_199 (by decide) ?_
            refine g_ladd ok dX8_count_203 ?_
            refine g_lstore_n ok dX8_count_204 rfl (Nat.le_of_ble_eq_true rfl) ?_
            refine g_iinc ok dX8_count_205 rfl rfl (Nat.le_of_ble_eq_true rfl) ?_
            refine g_goto (tgt := 178) ok dX8_count_208 (by decide) ?_
            refine G.norm [(0, .inr (.inr (28, 0))), (1, .inl z1), (2, .inr (.inl _)), (4, .inl _)] ⟨rfl, rfl, rfl, rfl, trivial⟩ (L178ih _ _ ?_ ?_ ?_ ?_)
            · omega
            · omega
            · (rw [sm_s hk0, hc]; (try dsimp only); first | rw [if_pos (by omega)] | rw [if_neg (by omega)])
            · omega
    refine G.norm [(0, .inr (.inr (28, 0))), (1, .inl z1), (2, .inr (.inl _)), (4, .inl _)] ⟨rfl, rfl, rfl, rfl, trivial⟩ (L178 (37 : Nat) _ _ ?_ ?_ ?_ ?_)
    · omega
    · omega
    · rfl
    · omega
  · skip
    refine g_tabIn (tgt := 213) ok dX8_count_3 ⟨by omega, by omega⟩ (by omega) (by omega) (off := 210) (by rw [w1]; rfl) (by decide) ?_
    refine g_iconst (v := 0) ok dX8_count_213 (by decide +kernel) ?_
    refine g_istore ok dX8_count_214 (Nat.le_of_ble_eq_true rfl) ?_
    have L216 : ∀ (n : Nat) (k : Int) (c : Int), (0 ≤ k) → (k ≤ σ 28 0 20) → (c = sm (fun k => σ 46 0 (5 * k + 4)) k) → (σ 28 0 20 - k < n) → G X M cX8_count 5 σ 216 [(0, .inr (.inr (28, 0))), (1, .inl z1), (2, .inr (.inl c)), (4, .inl k)] [] := by
      intro n
      induction n with
      | zero => intro k c hk0 hk1 hc hm; exact absurd hm (by omega)
      | succ n L216ih =>
        intro k c hk0 hk1 hc hm
        refine g_iload ok dX8_count_216 rfl ?_
        refine g_aload_n ok dX8_count_218 rfl rfl ?_
        refine g_geti (z := 20) ok dX8_count_219 fl_X8_240 (Vd.one rfl) rfl rfl rfl (fun h26 h27 => ?_)
        refine g_icmp_ge (tgt := 245) ok dX8_count_222 (by decide) ⟨by omega, by omega⟩ ⟨by omega, by omega⟩ (fun c28 => ?_) (fun c28 => ?_)
        · skip
          refine g_lload_n ok dX8_count_245 rfl rfl ?_
          exact g_lret ok hq dX8_count_246 (ansL (by (simp only [rm_count]; (repeat (first | rw [if_pos (by omega)] | rw [if_neg (by omega)])); rw [hc, show k = σ 28 0 20 by omega])) (by rfl))
        · skip
          refine g_lload_n ok dX8_count_225 rfl rfl ?_
          refine g_aload_n ok dX8_count_226 rfl rfl ?_
          refine g_getr ok dX8_count_227 fl_X8_66 (Vd.one rfl) rfl rfl ?_
          refine g_iconst (v := 5) ok dX8_count_230 (by decide +kernel) ?_
          refine g_iload ok dX8_count_231 rfl ?_
          refine g_imul ok dX8_count_233 ?_
          refine g_iconst (v := 4) ok dX8_count_234 (by decide +kernel) ?_
          refine g_iadd ok dX8_count_235 ?_
          refine g_lald ok dX8_count_236 (Vd.one rfl) (fun _ => rfl) ⟨by omega, by omega⟩ (by decide) rfl (fun h29 h30 => ?_)
          refine g_ladd ok dX8_count_237 ?_
          refine g_lstore_n ok dX8_count_238 rfl (Nat.le_of_ble_eq_true rfl) ?_
          refine g_iinc ok dX8_count_239 rfl rfl (Nat.le_of_ble_eq_true rfl) ?_
          refine g_goto (tgt := 216) ok dX8_count_242 (by decide) ?_
          refine G.norm [(0, .inr (.inr (28, 0))), (1, .inl z1), (2, .inr (.inl _)), (4, .inl _)] ⟨rfl, rfl, rfl, rfl, trivial⟩ (L216ih _ _ ?_ ?_ ?_ ?_)
          · omega
          · omega
          · (rw [sm_s hk0, hc])
          · omega
    refine G.norm [(0, .inr (.inr (28, 0))), (1, .inl z1), (2, .inr (.inl _)), (4, .inl _)] ⟨rfl, rfl, rfl, rfl, trivial⟩ (L216 (151 : Nat) _ _ ?_ ?_ ?_ ?_)
    · omega
    · omega
    · rfl
    · omega
  · skip
    refine g_tabOut (tgt := 247) ok dX8_count_3 ⟨by omega, by omega⟩ (by omega) (by decide) ?_
    refine g_ldc2 (v := -9000000000000000001) ok dX8_count_247 wd4_69 (by decide +kernel) ?_
    exact g_lret ok hq dX8_count_250 (ansL (by (simp only [rm_count, BAD, NO, FULL, NONE, NOTHING, INDEX, SIZE] <;> (repeat (first | rw [if_pos (by omega)] | rw [if_neg (by omega)])) <;> omega)) (by rfl))

set_option maxRecDepth 100000 in
set_option maxHeartbeats 4000000 in
theorem c_X8_worst (X : XW) (l : Launch) (σ : Mm) (z1 z2 : Int) (rz1 : R32 z1) (rz2 : R32 z2) (hS : MSt σ) (hT : MT σ) (hL : ML σ) (hP : MP σ) : Ct X l yX8_worst cX8_worst 9 (Option.some FieldType.long) 3 69 σ [.inr (.inr (28, 0)), .inl z1, .inl z2] (Ans (some (.inr (.inl (rm_worst σ z1 z2)))) (σ)) := by
  refine Ct.intro (own := RX8) (by decide) rfl (Nat.le_of_ble_eq_true rfl) (fun M hM ok hq => ?_)
  subst hM
  have rz1l := rz1.1
  have rz1r := rz1.2
  have rz2l := rz2.1
  have rz2r := rz2.2
  show G X M cX8_worst 9 σ 0 [(0, .inr (.inr (28, 0))), (1, .inl z1), (2, .inl z2)] []
  have aT := hT.1
  have aT2 := hT.2
  refine g_iload_n ok dX8_worst_0 rfl rfl ?_
  refine g_cS ok dX8_worst_1 ms_X8_124 (c_X8_isStore X _ _ _ ⟨by omega, by omega⟩) rfl (by decide) rfl (Nat.le_of_ble_eq_true rfl) ?_
  refine g_ifb_eq (tgt := 14) ok dX8_worst_4 (by decide) (fun c1 => ?_) (fun c1 => ?_)
  · skip
    refine g_ldc2 (v := -9000000000000000001) ok dX8_worst_14 wd4_69 (by decide +kernel) ?_
    exact g_lret ok hq dX8_worst_17 (ansL (by (simp only [rm_worst, BAD, NO, FULL, NONE, NOTHING, INDEX, SIZE] <;> (repeat (first | rw [if_pos (by omega)] | rw [if_neg (by omega)])) <;> omega)) (by rfl))
  · skip
    refine g_iload_n ok dX8_worst_7 rfl rfl ?_
    refine g_cS ok dX8_worst_8 ms_X8_190 (c_X8_areWorlds X _ _ _ ⟨by omega, by omega⟩) rfl (by decide) rfl (Nat.le_of_ble_eq_true rfl) ?_
    refine g_ifb_ne (tgt := 18) ok dX8_worst_11 (by decide) (fun c2 => ?_) (fun c2 => ?_)
    · skip
      refine g_aload_n ok dX8_worst_18 rfl rfl ?_
      refine g_getr ok dX8_worst_19 fl_X8_30 (Vd.one rfl) rfl rfl ?_
      refine g_iload_n ok dX8_worst_22 rfl rfl ?_
      refine g_iald ok dX8_worst_23 (Vd.one rfl) (fun _ => rfl) ⟨by omega, by omega⟩ (by decide) rfl (fun h3 h4 => ?_)
      refine g_if_ge (tgt := 31) ok dX8_worst_24 (by decide) ⟨by omega, by omega⟩ (fun c5 => ?_) (fun c5 => ?_)
      · skip
        refine g_lconst (v := 0) ok dX8_worst_31 (by decide +kernel) ?_
        refine g_lstore_n ok dX8_worst_32 rfl (Nat.le_of_ble_eq_true rfl) ?_
        refine g_iconst (v := 0) ok dX8_worst_33 (by decide +kernel) ?_
        refine g_istore ok dX8_worst_34 (Nat.le_of_ble_eq_true rfl) ?_
        refine g_iconst (v := 0) ok dX8_worst_36 (by decide +kernel) ?_
        refine g_istore ok dX8_worst_37 (Nat.le_of_ble_eq_true rfl) ?_
        have L39 : ∀ (n : Nat) (k : Int) (c : Int) (f : Int), (0 ≤ k) → (k ≤ 4) → (c = wLe z2 (fun w => mnM σ z1 w) k.toNat) → (f = wAn z2 k.toNat) → (4 - k < n) → G X M cX8_worst 9 σ 39 [(0, .inr (.inr (28, 0))), (1, .inl z1), (2, .inl z2), (3, .inr (.inl c)), (5, .inl f), (6, .inl k)] [] := by
          intro n
          induction n with
          | zero => intro k c f hk0 hk1 hc hf hm; exact absurd hm (by omega)
          | succ n L39ih =>
            intro k c f hk0 hk1 hc hf hm
            have aB := wLe_b (ws := z2) (m := fun w => mnM σ z1 w) (B := 288000000) (by omega) (fun w => mnM_b hS hL hP hT z1 w) k.toNat
            rw [← hc] at aB
            have aF := wAn_01 z2 k.toNat
            rw [← hf] at aF
            refine g_iload ok dX8_worst_39 rfl ?_
            refine g_iconst (v := 4) ok dX8_worst_41 (by decide +kernel) ?_
            refine g_icmp_ge (tgt := 92) ok dX8_worst_42 (by decide) ⟨by omega, by omega⟩ ⟨by omega, by omega⟩ (fun c6 => ?_) (fun c6 => ?_)
            · skip
              refine g_lload_n ok dX8_worst_92 rfl rfl ?_
              exact g_lret ok hq dX8_worst_93 (ansL (by (unfold rm_worst; rw [if_pos (by omega), if_neg (by omega), hc, show k = 4 by omega]; rfl)) (by rfl))
            · skip
              refine g_iload_n ok dX8_worst_45 rfl rfl ?_
              refine g_iload ok dX8_worst_46 rfl ?_
              refine g_ishr ok dX8_worst_48 (fun hb7 => ?_)
              have hb7l := hb7.1
              have hb7r := hb7.2
              refine g_iconst (v := 1) ok dX8_worst_49 (by decide +kernel) ?_
              refine g_iand ok dX8_worst_50 (fun hb8 => ?_)
              have hb8l := hb8.1
              have hb8r := hb8.2
              refine g_iconst (v := 1) ok dX8_worst_51 (by decide +kernel) ?_
              refine g_icmp_ne (tgt := 86) ok dX8_worst_52 (by decide) ⟨by omega, by omega⟩ ⟨by omega, by omega⟩ (fun c9 => ?_) (fun c9 => ?_)
              · skip
                refine g_iinc ok dX8_worst_86 rfl rfl (Nat.le_of_ble_eq_true rfl) ?_
                refine g_goto (tgt := 39) ok dX8_worst_89 (by decide) ?_
                refine G.norm [(0, .inr (.inr (28, 0))), (1, .inl z1), (2, .inl z2), (3, .inr (.inl _)), (5, .inl _), (6, .inl _)] ⟨rfl, rfl, rfl, rfl, rfl, rfl, trivial⟩ (L39ih _ _ _ ?_ ?_ ?_ ?_ ?_)
                · omega
                · omega
                · (rw [show (k + 1).toNat = k.toNat + 1 by omega]; unfold wLe; rw [Int.toNat_of_nonneg hk0]; unfold sel; first | (rw [if_neg (by assumption)]; exact hc) | (rw [if_pos (by assumption), if_pos (by rw [← hc, ← hf]; omega)]) | (rw [if_pos (by assumption), if_neg (by rw [← hc, ← hf]; omega)]; exact hc))
                · (rw [show (k + 1).toNat = k.toNat + 1 by omega]; unfold wAn; rw [Int.toNat_of_nonneg hk0]; unfold sel; first | (rw [if_neg (by assumption)]; exact hf) | (rw [if_pos (by assumption)]))
                · omega
              · skip
                refine g_aload_n ok dX8_worst_55 rfl rfl ?_
                refine g_iload_n ok dX8_worst_56 rfl rfl ?_
                refine g_iload ok dX8_worst_57 rfl ?_
                refine g_cV ok dX8_worst_59 mv_X8_184 (c_X8_moneyIn X _ _ _ _ (by omega) (by omega) (by omega) (by omega) hS hT hL hP) rfl (Vd.one rfl) rfl rfl (by decide) rfl (Nat.le_of_ble_eq_true rfl) ?_
                have aM := mnM_b hS hL hP hT z1 k
                refine g_lstore ok dX8_worst_62 (Nat.le_of_ble_eq_true rfl) ?_
                refine g_iload ok dX8_worst_64 rfl ?_
                refine g_if_eq (tgt := 76) ok dX8_worst_66 (by decide) ⟨by omega, by omega⟩ (fun c10 => ?_) (fun c10 => ?_)
                · skip
                  refine g_lload ok dX8_worst_76 rfl ?_
                  refine g_goto (tgt := 82) ok dX8_worst_78 (by decide) ?_
                  refine g_lstore_n ok dX8_worst_82 rfl (Nat.le_of_ble_eq_true rfl) ?_
                  refine g_iconst (v := 1) ok dX8_worst_83 (by decide +kernel) ?_
                  refine g_istore ok dX8_worst_84 (Nat.le_of_ble_eq_true rfl) ?_
                  refine g_iinc ok dX8_worst_86 rfl rfl (Nat.le_of_ble_eq_true rfl) ?_
                  refine g_goto (tgt := 39) ok dX8_worst_89 (by decide) ?_
                  refine G.norm [(0, .inr (.inr (28, 0))), (1, .inl z1), (2, .inl z2), (3, .inr (.inl _)), (5, .inl _), (6, .inl _)] ⟨rfl, rfl, rfl, rfl, rfl, rfl, trivial⟩ (L39ih _ _ _ ?_ ?_ ?_ ?_ ?_)
                  · omega
                  · omega
                  · (rw [show (k + 1).toNat = k.toNat + 1 by omega]; unfold wLe; rw [Int.toNat_of_nonneg hk0]; unfold sel; first | (rw [if_neg (by assumption)]; exact hc) | (rw [if_pos (by assumption), if_pos (by rw [← hc, ← hf]; omega)]) | (rw [if_pos (by assumption), if_neg (by rw [← hc, ← hf]; omega)]; exact hc))
                  · (rw [show (k + 1).toNat = k.toNat + 1 by omega]; unfold wAn; rw [Int.toNat_of_nonneg hk0]; unfold sel; first | (rw [if_neg (by assumption)]; exact hf) | (rw [if_pos (by assumption)]))
                  · omega
                · skip
                  refine g_lload ok dX8_worst_69 rfl ?_
                  refine g_lload_n ok dX8_worst_71 rfl rfl ?_
                  refine g_lcmp_ge (tgt := 81) ok dX8_worst_72 dX8_worst_73 (by decide) ⟨by omega, by omega⟩ ⟨by omega, by omega⟩ (fun c11 => ?_) (fun c11 => ?_)
                  · skip
                    refine g_lload_n ok dX8_worst_81 rfl rfl ?_
                    refine g_lstore_n ok dX8_worst_82 rfl (Nat.le_of_ble_eq_true rfl) ?_
                    refine g_iconst (v := 1) ok dX8_worst_83 (by decide +kernel) ?_
                    refine g_istore ok dX8_worst_84 (Nat.le_of_ble_eq_true rfl) ?_
                    refine g_iinc ok dX8_worst_86 rfl rfl (Nat.le_of_ble_eq_true rfl) ?_
                    refine g_goto (tgt := 39) ok dX8_worst_89 (by decide) ?_
                    refine G.norm [(0, .inr (.inr (28, 0))), (1, .inl z1), (2, .inl z2), (3, .inr (.inl _)), (5, .inl _), (6, .inl _)] ⟨rfl, rfl, rfl, rfl, rfl, rfl, trivial⟩ (L39ih _ _ _ ?_ ?_ ?_ ?_ ?_)
                    · omega
                    · omega
                    · (rw [show (k + 1).toNat = k.toNat + 1 by omega]; unfold wLe; rw [Int.toNat_of_nonneg hk0]; unfold sel; first | (rw [if_neg (by assumption)]; exact hc) | (rw [if_pos (by assumption), if_pos (by rw [← hc, ← hf]; omega)]) | (rw [if_pos (by assumption), if_neg (by rw [← hc, ← hf]; omega)]; exact hc))
                    · (rw [show (k + 1).toNat = k.toNat + 1 by omega]; unfold wAn; rw [Int.toNat_of_nonneg hk0]; unfold sel; first | (rw [if_neg (by assumption)]; exact hf) | (rw [if_pos (by assumption)]))
                    · omega
                  · skip
                    refine g_lload ok dX8_worst_76 rfl ?_
                    refine g_goto (tgt := 82) ok dX8_worst_78 (by decide) ?_
                    refine g_lstore_n ok dX8_worst_82 rfl (Nat.le_of_ble_eq_true rfl) ?_
                    refine g_iconst (v := 1) ok dX8_worst_83 (by decide +kernel) ?_
                    refine g_istore ok dX8_worst_84 (Nat.le_of_ble_eq_true rfl) ?_
                    refine g_iinc ok dX8_worst_86 rfl rfl (Nat.le_of_ble_eq_true rfl) ?_
                    refine g_goto (tgt := 39) ok dX8_worst_89 (by decide) ?_
                    refine G.norm [(0, .inr (.inr (28, 0))), (1, .inl z1), (2, .inl z2), (3, .inr (.inl _)), (5, .inl _), (6, .inl _)] ⟨rfl, rfl, rfl, rfl, rfl, rfl, trivial⟩ (L39ih _ _ _ ?_ ?_ ?_ ?_ ?_)
                    · omega
                    · omega
                    · (rw [show (k + 1).toNat = k.toNat + 1 by omega]; unfold wLe; rw [Int.toNat_of_nonneg hk0]; unfold sel; first | (rw [if_neg (by assumption)]; exact hc) | (rw [if_pos (by assumption), if_pos (by rw [← hc, ← hf]; omega)]) | (rw [if_pos (by assumption), if_neg (by rw [← hc, ← hf]; omega)]; exact hc))
                    · (rw [show (k + 1).toNat = k.toNat + 1 by omega]; unfold wAn; rw [Int.toNat_of_nonneg hk0]; unfold sel; first | (rw [if_neg (by assumption)]; exact hf) | (rw [if_pos (by assumption)]))
                    · omega
        refine G.norm [(0, .inr (.inr (28, 0))), (1, .inl z1), (2, .inl z2), (3, .inr (.inl _)), (5, .inl _), (6, .inl _)] ⟨rfl, rfl, rfl, rfl, rfl, rfl, trivial⟩ (L39 (5 : Nat) _ _ _ ?_ ?_ ?_ ?_ ?_)
        · omega
        · omega
        · rfl
        · rfl
        · omega
      · skip
        refine g_ldc2 (v := -9000000000000000002) ok dX8_worst_27 wd4_104 (by decide +kernel) ?_
        exact g_lret ok hq dX8_worst_30 (ansL (by (simp only [rm_worst, BAD, NO, FULL, NONE, NOTHING, INDEX, SIZE] <;> (repeat (first | rw [if_pos (by omega)] | rw [if_neg (by omega)])) <;> omega)) (by rfl))
    · skip
      refine g_ldc2 (v := -9000000000000000001) ok dX8_worst_14 wd4_69 (by decide +kernel) ?_
      exact g_lret ok hq dX8_worst_17 (ansL (by (simp only [rm_worst, BAD, NO, FULL, NONE, NOTHING, INDEX, SIZE] <;> (repeat (first | rw [if_pos (by omega)] | rw [if_neg (by omega)])) <;> omega)) (by rfl))

set_option maxRecDepth 100000 in
set_option maxHeartbeats 4000000 in
theorem c_X8_moneyTogether (X : XW) (l : Launch) (σ : Mm) (z1 z2 z3 z4 : Int) (b0 : 0 ≤ z1) (b1 : z1 < 4) (b2 : 1 ≤ z2) (b3 : z2 ≤ 15) (b4 : 0 ≤ z3) (b5 : z3 < 36) (b6 : -100 ≤ z4) (b7 : z4 ≤ 100) (hS : MSt σ) (hP : MP σ) : Ct X l yX8_moneyTogether cX8_moneyTogether 8 (Option.some FieldType.long) 2 44 σ [.inr (.inr (28, 0)), .inl z1, .inl z2, .inl z3, .inl z4] (Ans (some (.inr (.inl (mtM σ z1 z2 z3 z4)))) (σ)) := by
  refine Ct.intro (own := RX8) (by decide) rfl (Nat.le_of_ble_eq_true rfl) (fun M hM ok hq => ?_)
  subst hM
  show G X M cX8_moneyTogether 8 σ 0 [(0, .inr (.inr (28, 0))), (1, .inl z1), (2, .inl z2), (3, .inl z3), (4, .inl z4)] []
  refine g_lconst (v := 0) ok dX8_moneyTogether_0 (by decide +kernel) ?_
  refine g_lstore ok dX8_moneyTogether_1 (Nat.le_of_ble_eq_true rfl) ?_
  refine g_iconst (v := 0) ok dX8_moneyTogether_3 (by decide +kernel) ?_
  refine g_istore ok dX8_moneyTogether_4 (Nat.le_of_ble_eq_true rfl) ?_
  have L6 : ∀ (n : Nat) (k : Int) (c : Int), (0 ≤ k) → (k ≤ 4) → (c = sm (fun w => if sel z2 w = 1 then monM σ z1 z4 (pM σ w z3) else 0) k) → (4 - k < n) → G X M cX8_moneyTogether 8 σ 6 [(0, .inr (.inr (28, 0))), (1, .inl z1), (2, .inl z2), (3, .inl z3), (4, .inl z4), (5, .inr (.inl c)), (7, .inl k)] [] := by
    intro n
    induction n with
    | zero => intro k c hk0 hk1 hc hm; exact absurd hm (by omega)
    | succ n L6ih =>
      intro k c hk0 hk1 hc hm
      refine g_iload ok dX8_moneyTogether_6 rfl ?_
      refine g_iconst (v := 4) ok dX8_moneyTogether_8 (by decide +kernel) ?_
      refine g_icmp_ge (tgt := 51) ok dX8_moneyTogether_9 (by decide) ⟨by omega, by omega⟩ ⟨by omega, by omega⟩ (fun c1 => ?_) (fun c1 => ?_)
      · skip
        refine g_lload ok dX8_moneyTogether_51 rfl ?_
        exact g_lret ok hq dX8_moneyTogether_53 (ansL (by (unfold mtM; rw [hc, show k = 4 by omega])) (by rfl))
      · skip
        refine g_lload ok dX8_moneyTogether_12 rfl ?_
        refine g_iload_n ok dX8_moneyTogether_14 rfl rfl ?_
        refine g_iload ok dX8_moneyTogether_15 rfl ?_
        refine g_ishr ok dX8_moneyTogether_17 (fun hb2 => ?_)
        have hb2l := hb2.1
        have hb2r := hb2.2
        refine g_iconst (v := 1) ok dX8_moneyTogether_18 (by decide +kernel) ?_
        refine g_iand ok dX8_moneyTogether_19 (fun hb3 => ?_)
        have hb3l := hb3.1
        have hb3r := hb3.2
        refine g_iconst (v := 1) ok dX8_moneyTogether_20 (by decide +kernel) ?_
        refine g_icmp_ne (tgt := 41) ok dX8_moneyTogether_21 (by decide) ⟨by omega, by omega⟩ ⟨by omega, by omega⟩ (fun c4 => ?_) (fun c4 => ?_)
        · skip
          refine g_lconst (v := 0) ok dX8_moneyTogether_41 (by decide +kernel) ?_
          refine g_ladd ok dX8_moneyTogether_42 ?_
          refine g_lstore ok dX8_moneyTogether_43 (Nat.le_of_ble_eq_true rfl) ?_
          refine g_iinc ok dX8_moneyTogether_45 rfl rfl (Nat.le_of_ble_eq_true rfl) ?_
          refine g_goto (tgt := 6) ok dX8_moneyTogether_48 (by decide) ?_
          refine G.norm [(0, .inr (.inr (28, 0))), (1, .inl z1), (2, .inl z2), (3, .inl z3), (4, .inl z4), (5, .inr (.inl _)), (7, .inl _)] ⟨rfl, rfl, rfl, rfl, rfl, rfl, rfl, trivial⟩ (L6ih _ _ ?_ ?_ ?_ ?_)
          · omega
          · omega
          · (rw [sm_s hk0, hc]; (try dsimp only); unfold sel; first | rw [if_pos (by assumption)] | rw [if_neg (by assumption)])
          · omega
        · skip
          refine g_aload_n ok dX8_moneyTogether_24 rfl rfl ?_
          refine g_iload_n ok dX8_moneyTogether_25 rfl rfl ?_
          refine g_iload ok dX8_moneyTogether_26 rfl ?_
          refine g_aload_n ok dX8_moneyTogether_28 rfl rfl ?_
          refine g_iload ok dX8_moneyTogether_29 rfl ?_
          refine g_iload_n ok dX8_moneyTogether_31 rfl rfl ?_
          refine g_cV ok dX8_moneyTogether_32 mv_X8_110 (c_X8_priceOf X _ _ _ _ (by omega) (by omega) (by omega) (by omega) hP) rfl (Vd.one rfl) rfl rfl (by decide) rfl (Nat.le_of_ble_eq_true rfl) ?_
          have aP := pM_b hP k z3
          refine g_cV ok dX8_moneyTogether_35 mv_X8_180 (c_X8_moneyOf X _ _ _ _ _ (by omega) (by omega) (by omega) (by omega) (by omega) (by omega) hS) rfl (Vd.one rfl) rfl rfl (by decide) rfl (Nat.le_of_ble_eq_true rfl) ?_
          refine g_goto (tgt := 42) ok dX8_moneyTogether_38 (by decide) ?_
          refine g_ladd ok dX8_moneyTogether_42 ?_
          refine g_lstore ok dX8_moneyTogether_43 (Nat.le_of_ble_eq_true rfl) ?_
          refine g_iinc ok dX8_moneyTogether_45 rfl rfl (Nat.le_of_ble_eq_true rfl) ?_
          refine g_goto (tgt := 6) ok dX8_moneyTogether_48 (by decide) ?_
          refine G.norm [(0, .inr (.inr (28, 0))), (1, .inl z1), (2, .inl z2), (3, .inl z3), (4, .inl z4), (5, .inr (.inl _)), (7, .inl _)] ⟨rfl, rfl, rfl, rfl, rfl, rfl, rfl, trivial⟩ (L6ih _ _ ?_ ?_ ?_ ?_)
          · omega
          · omega
          · (rw [sm_s hk0, hc]; (try dsimp only); unfold sel; first | rw [if_pos (by assumption)] | rw [if_neg (by assumption)])
          · omega
  refine G.norm [(0, .inr (.inr (28, 0))), (1, .inl z1), (2, .inl z2), (3, .inl z3), (4, .inl z4), (5, .inr (.inl _)), (7, .inl _)] ⟨rfl, rfl, rfl, rfl, rfl, rfl, rfl, trivial⟩ (L6 (5 : Nat) _ _ ?_ ?_ ?_ ?_)
  · omega
  · omega
  · rfl
  · omega
