theorem floM_b {σ : Mm} {s : Int} (h : 0 ≤ σ 35 0 s ∧ σ 35 0 s ≤ 60) : 0 ≤ floM σ s ∧ floM σ s ≤ 6 := by
  unfold floM
  split <;> omega
theorem MSt_up {σ : Mm} (h : MSt σ) {a : Nat} {i z v : Int} (ha : (a = 34 → -1 ≤ v ∧ v ≤ 4) ∧ (a = 35 → 0 ≤ v ∧ v ≤ 60) ∧ (a = 36 → 0 ≤ v ∧ v ≤ 60) ∧ (a = 37 → 0 ≤ v ∧ v ≤ 20) ∧ (a = 38 → 0 ≤ v ∧ v ≤ 20) ∧ (a = 39 → 0 ≤ v ∧ v ≤ 50) ∧ (a = 40 → 0 ≤ v ∧ v ≤ 100) ∧ (a = 41 → 0 ≤ v ∧ v ≤ 60) ∧ (a = 42 → 0 ≤ v ∧ v ≤ 100000)) : MSt (up σ a i z v) := by
  intro s
  have q := h s
  obtain ⟨h1, h2, h3, h4, h5, h6, h7, h8, h9⟩ := ha
  unfold up
  refine ⟨?_, ?_, ?_, ?_, ?_, ?_, ?_, ?_, ?_⟩
  · by_cases c : 34 = a ∧ 0 = i ∧ s = z
    · rw [if_pos c]; exact h1 c.1.symm
    · rw [if_neg c]; omega
  · by_cases c : 35 = a ∧ 0 = i ∧ s = z
    · rw [if_pos c]; exact h2 c.1.symm
    · rw [if_neg c]; omega
  · by_cases c : 36 = a ∧ 0 = i ∧ s = z
    · rw [if_pos c]; exact h3 c.1.symm
    · rw [if_neg c]; omega
  · by_cases c : 37 = a ∧ 0 = i ∧ s = z
    · rw [if_pos c]; exact h4 c.1.symm
    · rw [if_neg c]; omega
  · by_cases c : 38 = a ∧ 0 = i ∧ s = z
    · rw [if_pos c]; exact h5 c.1.symm
    · rw [if_neg c]; omega
  · by_cases c : 39 = a ∧ 0 = i ∧ s = z
    · rw [if_pos c]; exact h6 c.1.symm
    · rw [if_neg c]; omega
  · by_cases c : 40 = a ∧ 0 = i ∧ s = z
    · rw [if_pos c]; exact h7 c.1.symm
    · rw [if_neg c]; omega
  · by_cases c : 41 = a ∧ 0 = i ∧ s = z
    · rw [if_pos c]; exact h8 c.1.symm
    · rw [if_neg c]; omega
  · by_cases c : 42 = a ∧ 0 = i ∧ s = z
    · rw [if_pos c]; exact h9 c.1.symm
    · rw [if_neg c]; omega

set_option maxRecDepth 100000 in
set_option maxHeartbeats 4000000 in
theorem c_X8_store (X : XW) (l : Launch) (σ : Mm) (z1 z2 z3 z4 z5 : Int) (rz1 : R32 z1) (rz2 : R32 z2) (rz3 : R32 z3) (rz4 : R32 z4) (rz5 : R32 z5) (hS : MSt σ) : Ct X l yX8_store cX8_store 9 (Option.some FieldType.long) 2 45 σ [.inr (.inr (28, 0)), .inl z1, .inl z2, .inl z3, .inl z4, .inl z5] (Ans (some (.inr (.inl (rm_store z1 z2 z3 z4 z5)))) (sm_store σ z1 z2 z3 z4 z5)) := by
  refine Ct.intro (own := RX8) (by decide) rfl (Nat.le_of_ble_eq_true rfl) (fun M hM ok hq => ?_)
  subst hM
  have rz1l := rz1.1
  have rz1r := rz1.2
  have rz2l := rz2.1
  have rz2r := rz2.2
  have rz3l := rz3.1
  have rz3r := rz3.2
  have rz4l := rz4.1
  have rz4r := rz4.2
  have rz5l := rz5.1
  have rz5r := rz5.2
  show G X M cX8_store 9 σ 0 [(0, .inr (.inr (28, 0))), (1, .inl z1), (2, .inl z2), (3, .inl z3), (4, .inl z4), (5, .inl z5)] []
  refine g_iload ok dX8_store_0 rfl ?_
  refine g_i2l ok dX8_store_2 ⟨by omega, by omega⟩ ?_
  refine g_ldc2 (v := 21) ok dX8_store_3 wd4_117 (by decide +kernel) ?_
  refine g_ldc2 (v := 440) ok dX8_store_6 wd4_118 (by decide +kernel) ?_
  refine g_cS ok dX8_store_9 ms_X8_81 (c_X8_isIn X _ _ _ _ _ ⟨by omega, by omega⟩ ⟨by omega, by omega⟩ ⟨by omega, by omega⟩) rfl (by decide) rfl (Nat.le_of_ble_eq_true rfl) ?_
  refine g_ifb_eq (tgt := 51) ok dX8_store_12 (by decide) (fun c1 => ?_) (fun c1 => ?_)
  · skip
    refine g_iconst (v := 0) ok dX8_store_51 (by decide +kernel) ?_
    refine g_istore ok dX8_store_52 (Nat.le_of_ble_eq_true rfl) ?_
    refine g_iload ok dX8_store_54 rfl ?_
    refine g_i2l ok dX8_store_56 ⟨by omega, by omega⟩ ?_
    refine g_lconst (v := 0) ok dX8_store_57 (by decide +kernel) ?_
    refine g_ldc2 (v := 5150) ok dX8_store_58 wd4_120 (by decide +kernel) ?_
    refine g_cS ok dX8_store_61 ms_X8_81 (c_X8_isIn X _ _ _ _ _ ⟨by omega, by omega⟩ ⟨by omega, by omega⟩ ⟨by omega, by omega⟩) rfl (by decide) rfl (Nat.le_of_ble_eq_true rfl) ?_
    refine g_ifb_eq (tgt := 87) ok dX8_store_64 (by decide) (fun c2 => ?_) (fun c2 => ?_)
    · skip
      refine g_iconst (v := 0) ok dX8_store_87 (by decide +kernel) ?_
      refine g_istore ok dX8_store_88 (Nat.le_of_ble_eq_true rfl) ?_
      refine g_iload_n ok dX8_store_90 rfl rfl ?_
      refine g_cS ok dX8_store_91 ms_X8_124 (c_X8_isStore X _ _ _ ⟨by omega, by omega⟩) rfl (by decide) rfl (Nat.le_of_ble_eq_true rfl) ?_
      refine g_ifb_eq (tgt := 131) ok dX8_store_94 (by decide) (fun c3 => ?_) (fun c3 => ?_)
      · skip
        refine g_ldc2 (v := -9000000000000000001) ok dX8_store_131 wd4_69 (by decide +kernel) ?_
        exact g_lret ok hq dX8_store_134 (ansL (by (simp only [rm_store, okSt, BAD, NO, FULL, NONE, NOTHING, INDEX, SIZE] <;> (repeat (first | rw [if_pos (by omega)] | rw [if_neg (by omega)])) <;> omega)) (by (simp only [sm_store, okSt] <;> (repeat (first | rw [if_pos (by omega)] | rw [if_neg (by omega)])) <;> first | rfl | (congr 1; omega))))
      · skip
        refine g_iload_n ok dX8_store_97 rfl rfl ?_
        refine g_i2l ok dX8_store_98 ⟨by omega, by omega⟩ ?_
        refine g_lconst (v := 0) ok dX8_store_99 (by decide +kernel) ?_
        refine g_ldc2 (v := 4) ok dX8_store_100 wd4_125 (by decide +kernel) ?_
        refine g_cS ok dX8_store_103 ms_X8_81 (c_X8_isIn X _ _ _ _ _ ⟨by omega, by omega⟩ ⟨by omega, by omega⟩ ⟨by omega, by omega⟩) rfl (by decide) rfl (Nat.le_of_ble_eq_true rfl) ?_
        refine g_ifb_eq (tgt := 131) ok dX8_store_106 (by decide) (fun c4 => ?_) (fun c4 => ?_)
        · skip
          refine g_ldc2 (v := -9000000000000000001) ok dX8_store_131 wd4_69 (by decide +kernel) ?_
          exact g_lret ok hq dX8_store_134 (ansL (by (simp only [rm_store, okSt, BAD, NO, FULL, NONE, NOTHING, INDEX, SIZE] <;> (repeat (first | rw [if_pos (by omega)] | rw [if_neg (by omega)])) <;> omega)) (by (simp only [sm_store, okSt] <;> (repeat (first | rw [if_pos (by omega)] | rw [if_neg (by omega)])) <;> first | rfl | (congr 1; omega))))
        · skip
          refine g_iload_n ok dX8_store_109 rfl rfl ?_
          refine g_i2l ok dX8_store_110 ⟨by omega, by omega⟩ ?_
          refine g_lconst (v := 1) ok dX8_store_111 (by decide +kernel) ?_
          refine g_ldc2 (v := 60) ok dX8_store_112 wd4_126 (by decide +kernel) ?_
          refine g_cS ok dX8_store_115 ms_X8_81 (c_X8_isIn X _ _ _ _ _ ⟨by omega, by omega⟩ ⟨by omega, by omega⟩ ⟨by omega, by omega⟩) rfl (by decide) rfl (Nat.le_of_ble_eq_true rfl) ?_
          refine g_ifb_eq (tgt := 131) ok dX8_store_118 (by decide) (fun c5 => ?_) (fun c5 => ?_)
          · skip
            refine g_ldc2 (v := -9000000000000000001) ok dX8_store_131 wd4_69 (by decide +kernel) ?_
            exact g_lret ok hq dX8_store_134 (ansL (by (simp only [rm_store, okSt, BAD, NO, FULL, NONE, NOTHING, INDEX, SIZE] <;> (repeat (first | rw [if_pos (by omega)] | rw [if_neg (by omega)])) <;> omega)) (by (simp only [sm_store, okSt] <;> (repeat (first | rw [if_pos (by omega)] | rw [if_neg (by omega)])) <;> first | rfl | (congr 1; omega))))
          · skip
            refine g_iload ok dX8_store_121 rfl ?_
            refine g_if_eq (tgt := 131) ok dX8_store_123 (by decide) ⟨by omega, by omega⟩ (fun c6 => ?_) (fun c6 => ?_)
            · skip
              refine g_ldc2 (v := -9000000000000000001) ok dX8_store_131 wd4_69 (by decide +kernel) ?_
              exact g_lret ok hq dX8_store_134 (ansL (by (simp only [rm_store, okSt, BAD, NO, FULL, NONE, NOTHING, INDEX, SIZE] <;> (repeat (first | rw [if_pos (by omega)] | rw [if_neg (by omega)])) <;> omega)) (by (simp only [sm_store, okSt] <;> (repeat (first | rw [if_pos (by omega)] | rw [if_neg (by omega)])) <;> first | rfl | (congr 1; omega))))
            · skip
              exfalso
              omega
    · skip
      refine g_iload ok dX8_store_67 rfl ?_
      refine g_bipush (v := 101) ok dX8_store_69 (by decide +kernel) ?_
      refine g_idivP ok dX8_store_71 ⟨by omega, by omega⟩ ⟨by omega, by omega⟩ (by omega) (by omega) ?_
      refine g_i2l ok dX8_store_72 ⟨by omega, by omega⟩ ?_
      refine g_lconst (v := 0) ok dX8_store_73 (by decide +kernel) ?_
      refine g_ldc2 (v := 50) ok dX8_store_74 wd4_121 (by decide +kernel) ?_
      refine g_cS ok dX8_store_77 ms_X8_81 (c_X8_isIn X _ _ _ _ _ ⟨by omega, by omega⟩ ⟨by omega, by omega⟩ ⟨by omega, by omega⟩) rfl (by decide) rfl (Nat.le_of_ble_eq_true rfl) ?_
      refine g_ifb_eq (tgt := 87) ok dX8_store_80 (by decide) (fun c7 => ?_) (fun c7 => ?_)
      · skip
        refine g_iconst (v := 0) ok dX8_store_87 (by decide +kernel) ?_
        refine g_istore ok dX8_store_88 (Nat.le_of_ble_eq_true rfl) ?_
        refine g_iload_n ok dX8_store_90 rfl rfl ?_
        refine g_cS ok dX8_store_91 ms_X8_124 (c_X8_isStore X _ _ _ ⟨by omega, by omega⟩) rfl (by decide) rfl (Nat.le_of_ble_eq_true rfl) ?_
        refine g_ifb_eq (tgt := 131) ok dX8_store_94 (by decide) (fun c8 => ?_) (fun c8 => ?_)
        · skip
          refine g_ldc2 (v := -9000000000000000001) ok dX8_store_131 wd4_69 (by decide +kernel) ?_
          exact g_lret ok hq dX8_store_134 (ansL (by (simp only [rm_store, okSt, BAD, NO, FULL, NONE, NOTHING, INDEX, SIZE] <;> (repeat (first | rw [if_pos (by omega)] | rw [if_neg (by omega)])) <;> omega)) (by (simp only [sm_store, okSt] <;> (repeat (first | rw [if_pos (by omega)] | rw [if_neg (by omega)])) <;> first | rfl | (congr 1; omega))))
        · skip
          refine g_iload_n ok dX8_store_97 rfl rfl ?_
          refine g_i2l ok dX8_store_98 ⟨by omega, by omega⟩ ?_
          refine g_lconst (v := 0) ok dX8_store_99 (by decide +kernel) ?_
          refine g_ldc2 (v := 4) ok dX8_store_100 wd4_125 (by decide +kernel) ?_
          refine g_cS ok dX8_store_103 ms_X8_81 (c_X8_isIn X _ _ _ _ _ ⟨by omega, by omega⟩ ⟨by omega, by omega⟩ ⟨by omega, by omega⟩) rfl (by decide) rfl (Nat.le_of_ble_eq_true rfl) ?_
          refine g_ifb_eq (tgt := 131) ok dX8_store_106 (by decide) (fun c9 => ?_) (fun c9 => ?_)
          · skip
            refine g_ldc2 (v := -9000000000000000001) ok dX8_store_131 wd4_69 (by decide +kernel) ?_
            exact g_lret ok hq dX8_store_134 (ansL (by (simp only [rm_store, okSt, BAD, NO, FULL, NONE, NOTHING, INDEX, SIZE] <;> (repeat (first | rw [if_pos (by omega)] | rw [if_neg (by omega)])) <;> omega)) (by (simp only [sm_store, okSt] <;> (repeat (first | rw [if_pos (by omega)] | rw [if_neg (by omega)])) <;> first | rfl | (congr 1; omega))))
          · skip
            refine g_iload_n ok dX8_store_109 rfl rfl ?_
            refine g_i2l ok dX8_store_110 ⟨by omega, by omega⟩ ?_
            refine g_lconst (v := 1) ok dX8_store_111 (by decide +kernel) ?_
            refine g_ldc2 (v := 60) ok dX8_store_112 wd4_126 (by decide +kernel) ?_
            refine g_cS ok dX8_store_115 ms_X8_81 (c_X8_isIn X _ _ _ _ _ ⟨by omega, by omega⟩ ⟨by omega, by omega⟩ ⟨by omega, by omega⟩) rfl (by decide) rfl (Nat.le_of_ble_eq_true rfl) ?_
            refine g_ifb_eq (tgt := 131) ok dX8_store_118 (by decide) (fun c10 => ?_) (fun c10 => ?_)
            · skip
              refine g_ldc2 (v := -9000000000000000001) ok dX8_store_131 wd4_69 (by decide +kernel) ?_
              exact g_lret ok hq dX8_store_134 (ansL (by (simp only [rm_store, okSt, BAD, NO, FULL, NONE, NOTHING, INDEX, SIZE] <;> (repeat (first | rw [if_pos (by omega)] | rw [if_neg (by omega)])) <;> omega)) (by (simp only [sm_store, okSt] <;> (repeat (first | rw [if_pos (by omega)] | rw [if_neg (by omega)])) <;> first | rfl | (congr 1; omega))))
            · skip
              refine g_iload ok dX8_store_121 rfl ?_
              refine g_if_eq (tgt := 131) ok dX8_store_123 (by decide) ⟨by omega, by omega⟩ (fun c11 => ?_) (fun c11 => ?_)
              · skip
                refine g_ldc2 (v := -9000000000000000001) ok dX8_store_131 wd4_69 (by decide +kernel) ?_
                exact g_lret ok hq dX8_store_134 (ansL (by (simp only [rm_store, okSt, BAD, NO, FULL, NONE, NOTHING, INDEX, SIZE] <;> (repeat (first | rw [if_pos (by omega)] | rw [if_neg (by omega)])) <;> omega)) (by (simp only [sm_store, okSt] <;> (repeat (first | rw [if_pos (by omega)] | rw [if_neg (by omega)])) <;> first | rfl | (congr 1; omega))))
              · skip
                exfalso
                omega
      · skip
        refine g_iconst (v := 1) ok dX8_store_83 (by decide +kernel) ?_
        refine g_goto (tgt := 88) ok dX8_store_84 (by decide) ?_
        refine g_istore ok dX8_store_88 (Nat.le_of_ble_eq_true rfl) ?_
        refine g_iload_n ok dX8_store_90 rfl rfl ?_
        refine g_cS ok dX8_store_91 ms_X8_124 (c_X8_isStore X _ _ _ ⟨by omega, by omega⟩) rfl (by decide) rfl (Nat.le_of_ble_eq_true rfl) ?_
        refine g_ifb_eq (tgt := 131) ok dX8_store_94 (by decide) (fun c12 => ?_) (fun c12 => ?_)
        · skip
          refine g_ldc2 (v := -9000000000000000001) ok dX8_store_131 wd4_69 (by decide +kernel) ?_
          exact g_lret ok hq dX8_store_134 (ansL (by (simp only [rm_store, okSt, BAD, NO, FULL, NONE, NOTHING, INDEX, SIZE] <;> (repeat (first | rw [if_pos (by omega)] | rw [if_neg (by omega)])) <;> omega)) (by (simp only [sm_store, okSt] <;> (repeat (first | rw [if_pos (by omega)] | rw [if_neg (by omega)])) <;> first | rfl | (congr 1; omega))))
        · skip
          refine g_iload_n ok dX8_store_97 rfl rfl ?_
          refine g_i2l ok dX8_store_98 ⟨by omega, by omega⟩ ?_
          refine g_lconst (v := 0) ok dX8_store_99 (by decide +kernel) ?_
          refine g_ldc2 (v := 4) ok dX8_store_100 wd4_125 (by decide +kernel) ?_
          refine g_cS ok dX8_store_103 ms_X8_81 (c_X8_isIn X _ _ _ _ _ ⟨by omega, by omega⟩ ⟨by omega, by omega⟩ ⟨by omega, by omega⟩) rfl (by decide) rfl (Nat.le_of_ble_eq_true rfl) ?_
          refine g_ifb_eq (tgt := 131) ok dX8_store_106 (by decide) (fun c13 => ?_) (fun c13 => ?_)
          · skip
            refine g_ldc2 (v := -9000000000000000001) ok dX8_store_131 wd4_69 (by decide +kernel) ?_
            exact g_lret ok hq dX8_store_134 (ansL (by (simp only [rm_store, okSt, BAD, NO, FULL, NONE, NOTHING, INDEX, SIZE] <;> (repeat (first | rw [if_pos (by omega)] | rw [if_neg (by omega)])) <;> omega)) (by (simp only [sm_store, okSt] <;> (repeat (first | rw [if_pos (by omega)] | rw [if_neg (by omega)])) <;> first | rfl | (congr 1; omega))))
          · skip
            refine g_iload_n ok dX8_store_109 rfl rfl ?_
            refine g_i2l ok dX8_store_110 ⟨by omega, by omega⟩ ?_
            refine g_lconst (v := 1) ok dX8_store_111 (by decide +kernel) ?_
            refine g_ldc2 (v := 60) ok dX8_store_112 wd4_126 (by decide +kernel) ?_
            refine g_cS ok dX8_store_115 ms_X8_81 (c_X8_isIn X _ _ _ _ _ ⟨by omega, by omega⟩ ⟨by omega, by omega⟩ ⟨by omega, by omega⟩) rfl (by decide) rfl (Nat.le_of_ble_eq_true rfl) ?_
            refine g_ifb_eq (tgt := 131) ok dX8_store_118 (by decide) (fun c14 => ?_) (fun c14 => ?_)
            · skip
              refine g_ldc2 (v := -9000000000000000001) ok dX8_store_131 wd4_69 (by decide +kernel) ?_
              exact g_lret ok hq dX8_store_134 (ansL (by (simp only [rm_store, okSt, BAD, NO, FULL, NONE, NOTHING, INDEX, SIZE] <;> (repeat (first | rw [if_pos (by omega)] | rw [if_neg (by omega)])) <;> omega)) (by (simp only [sm_store, okSt] <;> (repeat (first | rw [if_pos (by omega)] | rw [if_neg (by omega)])) <;> first | rfl | (congr 1; omega))))
            · skip
              refine g_iload ok dX8_store_121 rfl ?_
              refine g_if_eq (tgt := 131) ok dX8_store_123 (by decide) ⟨by omega, by omega⟩ (fun c15 => ?_) (fun c15 => ?_)
              · skip
                refine g_ldc2 (v := -9000000000000000001) ok dX8_store_131 wd4_69 (by decide +kernel) ?_
                exact g_lret ok hq dX8_store_134 (ansL (by (simp only [rm_store, okSt, BAD, NO, FULL, NONE, NOTHING, INDEX, SIZE] <;> (repeat (first | rw [if_pos (by omega)] | rw [if_neg (by omega)])) <;> omega)) (by (simp only [sm_store, okSt] <;> (repeat (first | rw [if_pos (by omega)] | rw [if_neg (by omega)])) <;> first | rfl | (congr 1; omega))))
              · skip
                exfalso
                omega
  · skip
    refine g_iload ok dX8_store_15 rfl ?_
    refine g_bipush (v := 21) ok dX8_store_17 (by decide +kernel) ?_
    refine g_idivP ok dX8_store_19 ⟨by omega, by omega⟩ ⟨by omega, by omega⟩ (by omega) (by omega) ?_
    refine g_i2l ok dX8_store_20 ⟨by omega, by omega⟩ ?_
    refine g_lconst (v := 1) ok dX8_store_21 (by decide +kernel) ?_
    refine g_ldc2 (v := 20) ok dX8_store_22 wd4_119 (by decide +kernel) ?_
    refine g_cS ok dX8_store_25 ms_X8_81 (c_X8_isIn X _ _ _ _ _ ⟨by omega, by omega⟩ ⟨by omega, by omega⟩ ⟨by omega, by omega⟩) rfl (by decide) rfl (Nat.le_of_ble_eq_true rfl) ?_
    refine g_ifb_eq (tgt := 51) ok dX8_store_28 (by decide) (fun c16 => ?_) (fun c16 => ?_)
    · skip
      refine g_iconst (v := 0) ok dX8_store_51 (by decide +kernel) ?_
      refine g_istore ok dX8_store_52 (Nat.le_of_ble_eq_true rfl) ?_
      refine g_iload ok dX8_store_54 rfl ?_
      refine g_i2l ok dX8_store_56 ⟨by omega, by omega⟩ ?_
      refine g_lconst (v := 0) ok dX8_store_57 (by decide +kernel) ?_
      refine g_ldc2 (v := 5150) ok dX8_store_58 wd4_120 (by decide +kernel) ?_
      refine g_cS ok dX8_store_61 ms_X8_81 (c_X8_isIn X _ _ _ _ _ ⟨by omega, by omega⟩ ⟨by omega, by omega⟩ ⟨by omega, by omega⟩) rfl (by decide) rfl (Nat.le_of_ble_eq_true rfl) ?_
      refine g_ifb_eq (tgt := 87) ok dX8_store_64 (by decide) (fun c17 => ?_) (fun c17 => ?_)
      · skip
        refine g_iconst (v := 0) ok dX8_store_87 (by decide +kernel) ?_
        refine g_istore ok dX8_store_88 (Nat.le_of_ble_eq_true rfl) ?_
        refine g_iload_n ok dX8_store_90 rfl rfl ?_
        refine g_cS ok dX8_store_91 ms_X8_124 (c_X8_isStore X _ _ _ ⟨by omega, by omega⟩) rfl (by decide) rfl (Nat.le_of_ble_eq_true rfl) ?_
        refine g_ifb_eq (tgt := 131) ok dX8_store_94 (by decide) (fun c18 => ?_) (fun c18 => ?_)
        · skip
          refine g_ldc2 (v := -9000000000000000001) ok dX8_store_131 wd4_69 (by decide +kernel) ?_
          exact g_lret ok hq dX8_store_134 (ansL (by (simp only [rm_store, okSt, BAD, NO, FULL, NONE, NOTHING, INDEX, SIZE] <;> (repeat (first | rw [if_pos (by omega)] | rw [if_neg (by omega)])) <;> omega)) (by (simp only [sm_store, okSt] <;> (repeat (first | rw [if_pos (by omega)] | rw [if_neg (by omega)])) <;> first | rfl | (congr 1; omega))))
        · skip
          refine g_iload_n ok dX8_store_97 rfl rfl ?_
          refine g_i2l ok dX8_store_98 ⟨by omega, by omega⟩ ?_
          refine g_lconst (v := 0) ok dX8_store_99 (by decide +kernel) ?_
          refine g_ldc2 (v := 4) ok dX8_store_100 wd4_125 (by decide +kernel) ?_
          refine g_cS ok dX8_store_103 ms_X8_81 (c_X8_isIn X _ _ _ _ _ ⟨by omega, by omega⟩ ⟨by omega, by omega⟩ ⟨by omega, by omega⟩) rfl (by decide) rfl (Nat.le_of_ble_eq_true rfl) ?_
          refine g_ifb_eq (tgt := 131) ok dX8_store_106 (by decide) (fun c19 => ?_) (fun c19 => ?_)
          · skip
            refine g_ldc2 (v := -9000000000000000001) ok dX8_store_131 wd4_69 (by decide +kernel) ?_
            exact g_lret ok hq dX8_store_134 (ansL (by (simp only [rm_store, okSt, BAD, NO, FULL, NONE, NOTHING, INDEX, SIZE] <;> (repeat (first | rw [if_pos (by omega)] | rw [if_neg (by omega)])) <;> omega)) (by (simp only [sm_store, okSt] <;> (repeat (first | rw [if_pos (by omega)] | rw [if_neg (by omega)])) <;> first | rfl | (congr 1; omega))))
          · skip
            refine g_iload_n ok dX8_store_109 rfl rfl ?_
            refine g_i2l ok dX8_store_110 ⟨by omega, by omega⟩ ?_
            refine g_lconst (v := 1) ok dX8_store_111 (by decide +kernel) ?_
            refine g_ldc2 (v := 60) ok dX8_store_112 wd4_126 (by decide +kernel) ?_
            refine g_cS ok dX8_store_115 ms_X8_81 (c_X8_isIn X _ _ _ _ _ ⟨by omega, by omega⟩ ⟨by omega, by omega⟩ ⟨by omega, by omega⟩) rfl (by decide) rfl (Nat.le_of_ble_eq_true rfl) ?_
            refine g_ifb_eq (tgt := 131) ok dX8_store_118 (by decide) (fun c20 => ?_) (fun c20 => ?_)
            · skip
              refine g_ldc2 (v := -9000000000000000001) ok dX8_store_131 wd4_69 (by decide +kernel) ?_
              exact g_lret ok hq dX8_store_134 (ansL (by (simp only [rm_store, okSt, BAD, NO, FULL, NONE, NOTHING, INDEX, SIZE] <;> (repeat (first | rw [if_pos (by omega)] | rw [if_neg (by omega)])) <;> omega)) (by (simp only [sm_store, okSt] <;> (repeat (first | rw [if_pos (by omega)] | rw [if_neg (by omega)])) <;> first | rfl | (congr 1; omega))))
            · skip
              refine g_iload ok dX8_store_121 rfl ?_
              refine g_if_eq (tgt := 131) ok dX8_store_123 (by decide) ⟨by omega, by omega⟩ (fun c21 => ?_) (fun c21 => ?_)
              · skip
                refine g_ldc2 (v := -9000000000000000001) ok dX8_store_131 wd4_69 (by decide +kernel) ?_
                exact g_lret ok hq dX8_store_134 (ansL (by (simp only [rm_store, okSt, BAD, NO, FULL, NONE, NOTHING, INDEX, SIZE] <;> (repeat (first | rw [if_pos (by omega)] | rw [if_neg (by omega)])) <;> omega)) (by (simp only [sm_store, okSt] <;> (repeat (first | rw [if_pos (by omega)] | rw [if_neg (by omega)])) <;> first | rfl | (congr 1; omega))))
              · skip
                exfalso
                omega
      · skip
        refine g_iload ok dX8_store_67 rfl ?_
        refine g_bipush (v := 101) ok dX8_store_69 (by decide +kernel) ?_
        refine g_idivP ok dX8_store_71 ⟨by omega, by omega⟩ ⟨by omega, by omega⟩ (by omega) (by omega) ?_
        refine g_i2l ok dX8_store_72 ⟨by omega, by omega⟩ ?_
        refine g_lconst (v := 0) ok dX8_store_73 (by decide +kernel) ?_
        refine g_ldc2 (v := 50) ok dX8_store_74 wd4_121 (by decide +kernel) ?_
        refine g_cS ok dX8_store_77 ms_X8_81 (c_X8_isIn X _ _ _ _ _ ⟨by omega, by omega⟩ ⟨by omega, by omega⟩ ⟨by omega, by omega⟩) rfl (by decide) rfl (Nat.le_of_ble_eq_true rfl) ?_
        refine g_ifb_eq (tgt := 87) ok dX8_store_80 (by decide) (fun c22 => ?_) (fun c22 => ?_)
        · skip
          refine g_iconst (v := 0) ok dX8_store_87 (by decide +kernel) ?_
          refine g_istore ok dX8_store_88 (Nat.le_of_ble_eq_true rfl) ?_
          refine g_iload_n ok dX8_store_90 rfl rfl ?_
          refine g_cS ok dX8_store_91 ms_X8_124 (c_X8_isStore X _ _ _ ⟨by omega, by omega⟩) rfl (by decide) rfl (Nat.le_of_ble_eq_true rfl) ?_
          refine g_ifb_eq (tgt := 131) ok dX8_store_94 (by decide) (fun c23 => ?_) (fun c23 => ?_)
          · skip
            refine g_ldc2 (v := -9000000000000000001) ok dX8_store_131 wd4_69 (by decide +kernel) ?_
            exact g_lret ok hq dX8_store_134 (ansL (by (simp only [rm_store, okSt, BAD, NO, FULL, NONE, NOTHING, INDEX, SIZE] <;> (repeat (first | rw [if_pos (by omega)] | rw [if_neg (by omega)])) <;> omega)) (by (simp only [sm_store, okSt] <;> (repeat (first | rw [if_pos (by omega)] | rw [if_neg (by omega)])) <;> first | rfl | (congr 1; omega))))
          · skip
            refine g_iload_n ok dX8_store_97 rfl rfl ?_
            refine g_i2l ok dX8_store_98 ⟨by omega, by omega⟩ ?_
            refine g_lconst (v := 0) ok dX8_store_99 (by decide +kernel) ?_
            refine g_ldc2 (v := 4) ok dX8_store_100 wd4_125 (by decide +kernel) ?_
            refine g_cS ok dX8_store_103 ms_X8_81 (c_X8_isIn X _ _ _ _ _ ⟨by omega, by omega⟩ ⟨by omega, by omega⟩ ⟨by omega, by omega⟩) rfl (by decide) rfl (Nat.le_of_ble_eq_true rfl) ?_
            refine g_ifb_eq (tgt := 131) ok dX8_store_106 (by decide) (fun c24 => ?_) (fun c24 => ?_)
            · skip
              refine g_ldc2 (v := -9000000000000000001) ok dX8_store_131 wd4_69 (by decide +kernel) ?_
              exact g_lret ok hq dX8_store_134 (ansL (by (simp only [rm_store, okSt, BAD, NO, FULL, NONE, NOTHING, INDEX, SIZE] <;> (repeat (first | rw [if_pos (by omega)] | rw [if_neg (by omega)])) <;> omega)) (by (simp only [sm_store, okSt] <;> (repeat (first | rw [if_pos (by omega)] | rw [if_neg (by omega)])) <;> first | rfl | (congr 1; omega))))
            · skip
              refine g_iload_n ok dX8_store_109 rfl rfl ?_
              refine g_i2l ok dX8_store_110 ⟨by omega, by omega⟩ ?_
              refine g_lconst (v := 1) ok dX8_store_111 (by decide +kernel) ?_
              refine g_ldc2 (v := 60) ok dX8_store_112 wd4_126 (by decide +kernel) ?_
              refine g_cS ok dX8_store_115 ms_X8_81 (c_X8_isIn X _ _ _ _ _ ⟨by omega, by omega⟩ ⟨by omega, by omega⟩ ⟨by omega, by omega⟩) rfl (by decide) rfl (Nat.le_of_ble_eq_true rfl) ?_
              refine g_ifb_eq (tgt := 131) ok dX8_store_118 (by decide) (fun c25 => ?_) (fun c25 => ?_)
              · skip
                refine g_ldc2 (v := -9000000000000000001) ok dX8_store_131 wd4_69 (by decide +kernel) ?_
                exact g_lret ok hq dX8_store_134 (ansL (by (simp only [rm_store, okSt, BAD, NO, FULL, NONE, NOTHING, INDEX, SIZE] <;> (repeat (first | rw [if_pos (by omega)] | rw [if_neg (by omega)])) <;> omega)) (by (simp only [sm_store, okSt] <;> (repeat (first | rw [if_pos (by omega)] | rw [if_neg (by omega)])) <;> first | rfl | (congr 1; omega))))
              · skip
                refine g_iload ok dX8_store_121 rfl ?_
                refine g_if_eq (tgt := 131) ok dX8_store_123 (by decide) ⟨by omega, by omega⟩ (fun c26 => ?_) (fun c26 => ?_)
                · skip
                  refine g_ldc2 (v := -9000000000000000001) ok dX8_store_131 wd4_69 (by decide +kernel) ?_
                  exact g_lret ok hq dX8_store_134 (ansL (by (simp only [rm_store, okSt, BAD, NO, FULL, NONE, NOTHING, INDEX, SIZE] <;> (repeat (first | rw [if_pos (by omega)] | rw [if_neg (by omega)])) <;> omega)) (by (simp only [sm_store, okSt] <;> (repeat (first | rw [if_pos (by omega)] | rw [if_neg (by omega)])) <;> first | rfl | (congr 1; omega))))
                · skip
                  exfalso
                  omega
        · skip
          refine g_iconst (v := 1) ok dX8_store_83 (by decide +kernel) ?_
          refine g_goto (tgt := 88) ok dX8_store_84 (by decide) ?_
          refine g_istore ok dX8_store_88 (Nat.le_of_ble_eq_true rfl) ?_
          refine g_iload_n ok dX8_store_90 rfl rfl ?_
          refine g_cS ok dX8_store_91 ms_X8_124 (c_X8_isStore X _ _ _ ⟨by omega, by omega⟩) rfl (by decide) rfl (Nat.le_of_ble_eq_true rfl) ?_
          refine g_ifb_eq (tgt := 131) ok dX8_store_94 (by decide) (fun c27 => ?_) (fun c27 => ?_)
          · skip
            refine g_ldc2 (v := -9000000000000000001) ok dX8_store_131 wd4_69 (by decide +kernel) ?_
            exact g_lret ok hq dX8_store_134 (ansL (by (simp only [rm_store, okSt, BAD, NO, FULL, NONE, NOTHING, INDEX, SIZE] <;> (repeat (first | rw [if_pos (by omega)] | rw [if_neg (by omega)])) <;> omega)) (by (simp only [sm_store, okSt] <;> (repeat (first | rw [if_pos (by omega)] | rw [if_neg (by omega)])) <;> first | rfl | (congr 1; omega))))
          · skip
            refine g_iload_n ok dX8_store_97 rfl rfl ?_
            refine g_i2l ok dX8_store_98 ⟨by omega, by omega⟩ ?_
            refine g_lconst (v := 0) ok dX8_store_99 (by decide +kernel) ?_
            refine g_ldc2 (v := 4) ok dX8_store_100 wd4_125 (by decide +kernel) ?_
            refine g_cS ok dX8_store_103 ms_X8_81 (c_X8_isIn X _ _ _ _ _ ⟨by omega, by omega⟩ ⟨by omega, by omega⟩ ⟨by omega, by omega⟩) rfl (by decide) rfl (Nat.le_of_ble_eq_true rfl) ?_
            refine g_ifb_eq (tgt := 131) ok dX8_store_106 (by decide) (fun c28 => ?_) (fun c28 => ?_)
            · skip
              refine g_ldc2 (v := -9000000000000000001) ok dX8_store_131 wd4_69 (by decide +kernel) ?_
              exact g_lret ok hq dX8_store_134 (ansL (by (simp only [rm_store, okSt, BAD, NO, FULL, NONE, NOTHING, INDEX, SIZE] <;> (repeat (first | rw [if_pos (by omega)] | rw [if_neg (by omega)])) <;> omega)) (by (simp only [sm_store, okSt] <;> (repeat (first | rw [if_pos (by omega)] | rw [if_neg (by omega)])) <;> first | rfl | (congr 1; omega))))
            · skip
              refine g_iload_n ok dX8_store_109 rfl rfl ?_
              refine g_i2l ok dX8_store_110 ⟨by omega, by omega⟩ ?_
              refine g_lconst (v := 1) ok dX8_store_111 (by decide +kernel) ?_
              refine g_ldc2 (v := 60) ok dX8_store_112 wd4_126 (by decide +kernel) ?_
              refine g_cS ok dX8_store_115 ms_X8_81 (c_X8_isIn X _ _ _ _ _ ⟨by omega, by omega⟩ ⟨by omega, by omega⟩ ⟨by omega, by omega⟩) rfl (by decide) rfl (Nat.le_of_ble_eq_true rfl) ?_
              refine g_ifb_eq (tgt := 131) ok dX8_store_118 (by decide) (fun c29 => ?_) (fun c29 => ?_)
              · skip
                refine g_ldc2 (v := -9000000000000000001) ok dX8_store_131 wd4_69 (by decide +kernel) ?_
                exact g_lret ok hq dX8_store_134 (ansL (by (simp only [rm_store, okSt, BAD, NO, FULL, NONE, NOTHING, INDEX, SIZE] <;> (repeat (first | rw [if_pos (by omega)] | rw [if_neg (by omega)])) <;> omega)) (by (simp only [sm_store, okSt] <;> (repeat (first | rw [if_pos (by omega)] | rw [if_neg (by omega)])) <;> first | rfl | (congr 1; omega))))
              · skip
                refine g_iload ok dX8_store_121 rfl ?_
                refine g_if_eq (tgt := 131) ok dX8_store_123 (by decide) ⟨by omega, by omega⟩ (fun c30 => ?_) (fun c30 => ?_)
                · skip
                  refine g_ldc2 (v := -9000000000000000001) ok dX8_store_131 wd4_69 (by decide +kernel) ?_
                  exact g_lret ok hq dX8_store_134 (ansL (by (simp only [rm_store, okSt, BAD, NO, FULL, NONE, NOTHING, INDEX, SIZE] <;> (repeat (first | rw [if_pos (by omega)] | rw [if_neg (by omega)])) <;> omega)) (by (simp only [sm_store, okSt] <;> (repeat (first | rw [if_pos (by omega)] | rw [if_neg (by omega)])) <;> first | rfl | (congr 1; omega))))
                · skip
                  exfalso
                  omega
    · skip
      refine g_iload ok dX8_store_31 rfl ?_
      refine g_bipush (v := 21) ok dX8_store_33 (by decide +kernel) ?_
      refine g_iremP ok dX8_store_35 ⟨by omega, by omega⟩ ⟨by omega, by omega⟩ (by omega) (by omega) ?_
      refine g_i2l ok dX8_store_36 ⟨by omega, by omega⟩ ?_
      refine g_lconst (v := 1) ok dX8_store_37 (by decide +kernel) ?_
      refine g_ldc2 (v := 20) ok dX8_store_38 wd4_119 (by decide +kernel) ?_
      refine g_cS ok dX8_store_41 ms_X8_81 (c_X8_isIn X _ _ _ _ _ ⟨by omega, by omega⟩ ⟨by omega, by omega⟩ ⟨by omega, by omega⟩) rfl (by decide) rfl (Nat.le_of_ble_eq_true rfl) ?_
      refine g_ifb_eq (tgt := 51) ok dX8_store_44 (by decide) (fun c31 => ?_) (fun c31 => ?_)
      · skip
        refine g_iconst (v := 0) ok dX8_store_51 (by decide +kernel) ?_
        refine g_istore ok dX8_store_52 (Nat.le_of_ble_eq_true rfl) ?_
        refine g_iload ok dX8_store_54 rfl ?_
        refine g_i2l ok dX8_store_56 ⟨by omega, by omega⟩ ?_
        refine g_lconst (v := 0) ok dX8_store_57 (by decide +kernel) ?_
        refine g_ldc2 (v := 5150) ok dX8_store_58 wd4_120 (by decide +kernel) ?_
        refine g_cS ok dX8_store_61 ms_X8_81 (c_X8_isIn X _ _ _ _ _ ⟨by omega, by omega⟩ ⟨by omega, by omega⟩ ⟨by omega, by omega⟩) rfl (by decide) rfl (Nat.le_of_ble_eq_true rfl) ?_
        refine g_ifb_eq (tgt := 87) ok dX8_store_64 (by decide) (fun c32 => ?_) (fun c32 => ?_)
        · skip
          refine g_iconst (v := 0) ok dX8_store_87 (by decide +kernel) ?_
          refine g_istore ok dX8_store_88 (Nat.le_of_ble_eq_true rfl) ?_
          refine g_iload_n ok dX8_store_90 rfl rfl ?_
          refine g_cS ok dX8_store_91 ms_X8_124 (c_X8_isStore X _ _ _ ⟨by omega, by omega⟩) rfl (by decide) rfl (Nat.le_of_ble_eq_true rfl) ?_
          refine g_ifb_eq (tgt := 131) ok dX8_store_94 (by decide) (fun c33 => ?_) (fun c33 => ?_)
          · skip
            refine g_ldc2 (v := -9000000000000000001) ok dX8_store_131 wd4_69 (by decide +kernel) ?_
            exact g_lret ok hq dX8_store_134 (ansL (by (simp only [rm_store, okSt, BAD, NO, FULL, NONE, NOTHING, INDEX, SIZE] <;> (repeat (first | rw [if_pos (by omega)] | rw [if_neg (by omega)])) <;> omega)) (by (simp only [sm_store, okSt] <;> (repeat (first | rw [if_pos (by omega)] | rw [if_neg (by omega)])) <;> first | rfl | (congr 1; omega))))
          · skip
            refine g_iload_n ok dX8_store_97 rfl rfl ?_
            refine g_i2l ok dX8_store_98 ⟨by omega, by omega⟩ ?_
            refine g_lconst (v := 0) ok dX8_store_99 (by decide +kernel) ?_
            refine g_ldc2 (v := 4) ok dX8_store_100 wd4_125 (by decide +kernel) ?_
            refine g_cS ok dX8_store_103 ms_X8_81 (c_X8_isIn X _ _ _ _ _ ⟨by omega, by omega⟩ ⟨by omega, by omega⟩ ⟨by omega, by omega⟩) rfl (by decide) rfl (Nat.le_of_ble_eq_true rfl) ?_
            refine g_ifb_eq (tgt := 131) ok dX8_store_106 (by decide) (fun c34 => ?_) (fun c34 => ?_)
            · skip
              refine g_ldc2 (v := -9000000000000000001) ok dX8_store_131 wd4_69 (by decide +kernel) ?_
              exact g_lret ok hq dX8_store_134 (ansL (by (simp only [rm_store, okSt, BAD, NO, FULL, NONE, NOTHING, INDEX, SIZE] <;> (repeat (first | rw [if_pos (by omega)] | rw [if_neg (by omega)])) <;> omega)) (by (simp only [sm_store, okSt] <;> (repeat (first | rw [if_pos (by omega)] | rw [if_neg (by omega)])) <;> first | rfl | (congr 1; omega))))
            · skip
              refine g_iload_n ok dX8_store_109 rfl rfl ?_
              refine g_i2l ok dX8_store_110 ⟨by omega, by omega⟩ ?_
              refine g_lconst (v := 1) ok dX8_store_111 (by decide +kernel) ?_
              refine g_ldc2 (v := 60) ok dX8_store_112 wd4_126 (by decide +kernel) ?_
              refine g_cS ok dX8_store_115 ms_X8_81 (c_X8_isIn X _ _ _ _ _ ⟨by omega, by omega⟩ ⟨by omega, by omega⟩ ⟨by omega, by omega⟩) rfl (by decide) rfl (Nat.le_of_ble_eq_true rfl) ?_
              refine g_ifb_eq (tgt := 131) ok dX8_store_118 (by decide) (fun c35 => ?_) (fun c35 => ?_)
              · skip
                refine g_ldc2 (v := -9000000000000000001) ok dX8_store_131 wd4_69 (by decide +kernel) ?_
                exact g_lret ok hq dX8_store_134 (ansL (by (simp only [rm_store, okSt, BAD, NO, FULL, NONE, NOTHING, INDEX, SIZE] <;> (repeat (first | rw [if_pos (by omega)] | rw [if_neg (by omega)])) <;> omega)) (by (simp only [sm_store, okSt] <;> (repeat (first | rw [if_pos (by omega)] | rw [if_neg (by omega)])) <;> first | rfl | (congr 1; omega))))
              · skip
                refine g_iload ok dX8_store_121 rfl ?_
                refine g_if_eq (tgt := 131) ok dX8_store_123 (by decide) ⟨by omega, by omega⟩ (fun c36 => ?_) (fun c36 => ?_)
                · skip
                  refine g_ldc2 (v := -9000000000000000001) ok dX8_store_131 wd4_69 (by decide +kernel) ?_
                  exact g_lret ok hq dX8_store_134 (ansL (by (simp only [rm_store, okSt, BAD, NO, FULL, NONE, NOTHING, INDEX, SIZE] <;> (repeat (first | rw [if_pos (by omega)] | rw [if_neg (by omega)])) <;> omega)) (by (simp only [sm_store, okSt] <;> (repeat (first | rw [if_pos (by omega)] | rw [if_neg (by omega)])) <;> first | rfl | (congr 1; omega))))
                · skip
                  exfalso
                  omega
        · skip
          refine g_iload ok dX8_store_67 rfl ?_
          refine g_bipush (v := 101) ok dX8_store_69 (by decide +kernel) ?_
          refine g_idivP ok dX8_store_71 ⟨by omega, by omega⟩ ⟨by omega, by omega⟩ (by omega) (by omega) ?_
          refine g_i2l ok dX8_store_72 ⟨by omega, by omega⟩ ?_
          refine g_lconst (v := 0) ok dX8_store_73 (by decide +kernel) ?_
          refine g_ldc2 (v := 50) ok dX8_store_74 wd4_121 (by decide +kernel) ?_
          refine g_cS ok dX8_store_77 ms_X8_81 (c_X8_isIn X _ _ _ _ _ ⟨by omega, by omega⟩ ⟨by omega, by omega⟩ ⟨by omega, by omega⟩) rfl (by decide) rfl (Nat.le_of_ble_eq_true rfl) ?_
          refine g_ifb_eq (tgt := 87) ok dX8_store_80 (by decide) (fun c37 => ?_) (fun c37 => ?_)
          · skip
            refine g_iconst (v := 0) ok dX8_store_87 (by decide +kernel) ?_
            refine g_istore ok dX8_store_88 (Nat.le_of_ble_eq_true rfl) ?_
            refine g_iload_n ok dX8_store_90 rfl rfl ?_
            refine g_cS ok dX8_store_91 ms_X8_124 (c_X8_isStore X _ _ _ ⟨by omega, by omega⟩) rfl (by decide) rfl (Nat.le_of_ble_eq_true rfl) ?_
            refine g_ifb_eq (tgt := 131) ok dX8_store_94 (by decide) (fun c38 => ?_) (fun c38 => ?_)
            · skip
              refine g_ldc2 (v := -9000000000000000001) ok dX8_store_131 wd4_69 (by decide +kernel) ?_
              exact g_lret ok hq dX8_store_134 (ansL (by (simp only [rm_store, okSt, BAD, NO, FULL, NONE, NOTHING, INDEX, SIZE] <;> (repeat (first | rw [if_pos (by omega)] | rw [if_neg (by omega)])) <;> omega)) (by (simp only [sm_store, okSt] <;> (repeat (first | rw [if_pos (by omega)] | rw [if_neg (by omega)])) <;> first | rfl | (congr 1; omega))))
            · skip
              refine g_iload_n ok dX8_store_97 rfl rfl ?_
              refine g_i2l ok dX8_store_98 ⟨by omega, by omega⟩ ?_
              refine g_lconst (v := 0) ok dX8_store_99 (by decide +kernel) ?_
              refine g_ldc2 (v := 4) ok dX8_store_100 wd4_125 (by decide +kernel) ?_
              refine g_cS ok dX8_store_103 ms_X8_81 (c_X8_isIn X _ _ _ _ _ ⟨by omega, by omega⟩ ⟨by omega, by omega⟩ ⟨by omega, by omega⟩) rfl (by decide) rfl (Nat.le_of_ble_eq_true rfl) ?_
              refine g_ifb_eq (tgt := 131) ok dX8_store_106 (by decide) (fun c39 => ?_) (fun c39 => ?_)
              · skip
                refine g_ldc2 (v := -9000000000000000001) ok dX8_store_131 wd4_69 (by decide +kernel) ?_
                exact g_lret ok hq dX8_store_134 (ansL (by (simp only [rm_store, okSt, BAD, NO, FULL, NONE, NOTHING, INDEX, SIZE] <;> (repeat (first | rw [if_pos (by omega)] | rw [if_neg (by omega)])) <;> omega)) (by (simp only [sm_store, okSt] <;> (repeat (first | rw [if_pos (by omega)] | rw [if_neg (by omega)])) <;> first | rfl | (congr 1; omega))))
              · skip
                refine g_iload_n ok dX8_store_109 rfl rfl ?_
                refine g_i2l ok dX8_store_110 ⟨by omega, by omega⟩ ?_
                refine g_lconst (v := 1) ok dX8_store_111 (by decide +kernel) ?_
                refine g_ldc2 (v := 60) ok dX8_store_112 wd4_126 (by decide +kernel) ?_
                refine g_cS ok dX8_store_115 ms_X8_81 (c_X8_isIn X _ _ _ _ _ ⟨by omega, by omega⟩ ⟨by omega, by omega⟩ ⟨by omega, by omega⟩) rfl (by decide) rfl (Nat.le_of_ble_eq_true rfl) ?_
                refine g_ifb_eq (tgt := 131) ok dX8_store_118 (by decide) (fun c40 => ?_) (fun c40 => ?_)
                · skip
                  refine g_ldc2 (v := -9000000000000000001) ok dX8_store_131 wd4_69 (by decide +kernel) ?_
                  exact g_lret ok hq dX8_store_134 (ansL (by (simp only [rm_store, okSt, BAD, NO, FULL, NONE, NOTHING, INDEX, SIZE] <;> (repeat (first | rw [if_pos (by omega)] | rw [if_neg (by omega)])) <;> omega)) (by (simp only [sm_store, okSt] <;> (repeat (first | rw [if_pos (by omega)] | rw [if_neg (by omega)])) <;> first | rfl | (congr 1; omega))))
                · skip
                  refine g_iload ok dX8_store_121 rfl ?_
                  refine g_if_eq (tgt := 131) ok dX8_store_123 (by decide) ⟨by omega, by omega⟩ (fun c41 => ?_) (fun c41 => ?_)
                  · skip
                    refine g_ldc2 (v := -9000000000000000001) ok dX8_store_131 wd4_69 (by decide +kernel) ?_
                    exact g_lret ok hq dX8_store_134 (ansL (by (simp only [rm_store, okSt, BAD, NO, FULL, NONE, NOTHING, INDEX, SIZE] <;> (repeat (first | rw [if_pos (by omega)] | rw [if_neg (by omega)])) <;> omega)) (by (simp only [sm_store, okSt] <;> (repeat (first | rw [if_pos (by omega)] | rw [if_neg (by omega)])) <;> first | rfl | (congr 1; omega))))
                  · skip
                    exfalso
                    omega
          · skip
            refine g_iconst (v := 1) ok dX8_store_83 (by decide +kernel) ?_
            refine g_goto (tgt := 88) ok dX8_store_84 (by decide) ?_
            refine g_istore ok dX8_store_88 (Nat.le_of_ble_eq_true rfl) ?_
            refine g_iload_n ok dX8_store_90 rfl rfl ?_
            refine g_cS ok dX8_store_91 ms_X8_124 (c_X8_isStore X _ _ _ ⟨by omega, by omega⟩) rfl (by decide) rfl (Nat.le_of_ble_eq_true rfl) ?_
            refine g_ifb_eq (tgt := 131) ok dX8_store_94 (by decide) (fun c42 => ?_) (fun c42 => ?_)
            · skip
              refine g_ldc2 (v := -9000000000000000001) ok dX8_store_131 wd4_69 (by decide +kernel) ?_
              exact g_lret ok hq dX8_store_134 (ansL (by (simp only [rm_store, okSt, BAD, NO, FULL, NONE, NOTHING, INDEX, SIZE] <;> (repeat (first | rw [if_pos (by omega)] | rw [if_neg (by omega)])) <;> omega)) (by (simp only [sm_store, okSt] <;> (repeat (first | rw [if_pos (by omega)] | rw [if_neg (by omega)])) <;> first | rfl | (congr 1; omega))))
            · skip
              refine g_iload_n ok dX8_store_97 rfl rfl ?_
              refine g_i2l ok dX8_store_98 ⟨by omega, by omega⟩ ?_
              refine g_lconst (v := 0) ok dX8_store_99 (by decide +kernel) ?_
              refine g_ldc2 (v := 4) ok dX8_store_100 wd4_125 (by decide +kernel) ?_
              refine g_cS ok dX8_store_103 ms_X8_81 (c_X8_isIn X _ _ _ _ _ ⟨by omega, by omega⟩ ⟨by omega, by omega⟩ ⟨by omega, by omega⟩) rfl (by decide) rfl (Nat.le_of_ble_eq_true rfl) ?_
              refine g_ifb_eq (tgt := 131) ok dX8_store_106 (by decide) (fun c43 => ?_) (fun c43 => ?_)
              · skip
                refine g_ldc2 (v := -9000000000000000001) ok dX8_store_131 wd4_69 (by decide +kernel) ?_
                exact g_lret ok hq dX8_store_134 (ansL (by (simp only [rm_store, okSt, BAD, NO, FULL, NONE, NOTHING, INDEX, SIZE] <;> (repeat (first | rw [if_pos (by omega)] | rw [if_neg (by omega)])) <;> omega)) (by (simp only [sm_store, okSt] <;> (repeat (first | rw [if_pos (by omega)] | rw [if_neg (by omega)])) <;> first | rfl | (congr 1; omega))))
              · skip
                refine g_iload_n ok dX8_store_109 rfl rfl ?_
                refine g_i2l ok dX8_store_110 ⟨by omega, by omega⟩ ?_
                refine g_lconst (v := 1) ok dX8_store_111 (by decide +kernel) ?_
                refine g_ldc2 (v := 60) ok dX8_store_112 wd4_126 (by decide +kernel) ?_
                refine g_cS ok dX8_store_115 ms_X8_81 (c_X8_isIn X _ _ _ _ _ ⟨by omega, by omega⟩ ⟨by omega, by omega⟩ ⟨by omega, by omega⟩) rfl (by decide) rfl (Nat.le_of_ble_eq_true rfl) ?_
                refine g_ifb_eq (tgt := 131) ok dX8_store_118 (by decide) (fun c44 => ?_) (fun c44 => ?_)
                · skip
                  refine g_ldc2 (v := -9000000000000000001) ok dX8_store_131 wd4_69 (by decide +kernel) ?_
                  exact g_lret ok hq dX8_store_134 (ansL (by (simp only [rm_store, okSt, BAD, NO, FULL, NONE, NOTHING, INDEX, SIZE] <;> (repeat (first | rw [if_pos (by omega)] | rw [if_neg (by omega)])) <;> omega)) (by (simp only [sm_store, okSt] <;> (repeat (first | rw [if_pos (by omega)] | rw [if_neg (by omega)])) <;> first | rfl | (congr 1; omega))))
                · skip
                  refine g_iload ok dX8_store_121 rfl ?_
                  refine g_if_eq (tgt := 131) ok dX8_store_123 (by decide) ⟨by omega, by omega⟩ (fun c45 => ?_) (fun c45 => ?_)
                  · skip
                    refine g_ldc2 (v := -9000000000000000001) ok dX8_store_131 wd4_69 (by decide +kernel) ?_
                    exact g_lret ok hq dX8_store_134 (ansL (by (simp only [rm_store, okSt, BAD, NO, FULL, NONE, NOTHING, INDEX, SIZE] <;> (repeat (first | rw [if_pos (by omega)] | rw [if_neg (by omega)])) <;> omega)) (by (simp only [sm_store, okSt] <;> (repeat (first | rw [if_pos (by omega)] | rw [if_neg (by omega)])) <;> first | rfl | (congr 1; omega))))
                  · skip
                    exfalso
                    omega
      · skip
        refine g_iconst (v := 1) ok dX8_store_47 (by decide +kernel) ?_
        refine g_goto (tgt := 52) ok dX8_store_48 (by decide) ?_
        refine g_istore ok dX8_store_52 (Nat.le_of_ble_eq_true rfl) ?_
        refine g_iload ok dX8_store_54 rfl ?_
        refine g_i2l ok dX8_store_56 ⟨by omega, by omega⟩ ?_
        refine g_lconst (v := 0) ok dX8_store_57 (by decide +kernel) ?_
        refine g_ldc2 (v := 5150) ok dX8_store_58 wd4_120 (by decide +kernel) ?_
        refine g_cS ok dX8_store_61 ms_X8_81 (c_X8_isIn X _ _ _ _ _ ⟨by omega, by omega⟩ ⟨by omega, by omega⟩ ⟨by omega, by omega⟩) rfl (by decide) rfl (Nat.le_of_ble_eq_true rfl) ?_
        refine g_ifb_eq (tgt := 87) ok dX8_store_64 (by decide) (fun c46 => ?_) (fun c46 => ?_)
        · skip
          refine g_iconst (v := 0) ok dX8_store_87 (by decide +kernel) ?_
          refine g_istore ok dX8_store_88 (Nat.le_of_ble_eq_true rfl) ?_
          refine g_iload_n ok dX8_store_90 rfl rfl ?_
          refine g_cS ok dX8_store_91 ms_X8_124 (c_X8_isStore X _ _ _ ⟨by omega, by omega⟩) rfl (by decide) rfl (Nat.le_of_ble_eq_true rfl) ?_
          refine g_ifb_eq (tgt := 131) ok dX8_store_94 (by decide) (fun c47 => ?_) (fun c47 => ?_)
          · skip
            refine g_ldc2 (v := -9000000000000000001) ok dX8_store_131 wd4_69 (by decide +kernel) ?_
            exact g_lret ok hq dX8_store_134 (ansL (by (simp only [rm_store, okSt, BAD, NO, FULL, NONE, NOTHING, INDEX, SIZE] <;> (repeat (first | rw [if_pos (by omega)] | rw [if_neg (by omega)])) <;> omega)) (by (simp only [sm_store, okSt] <;> (repeat (first | rw [if_pos (by omega)] | rw [if_neg (by omega)])) <;> first | rfl | (congr 1; omega))))
          · skip
            refine g_iload_n ok dX8_store_97 rfl rfl ?_
            refine g_i2l ok dX8_store_98 ⟨by omega, by omega⟩ ?_
            refine g_lconst (v := 0) ok dX8_store_99 (by decide +kernel) ?_
            refine g_ldc2 (v := 4) ok dX8_store_100 wd4_125 (by decide +kernel) ?_
            refine g_cS ok dX8_store_103 ms_X8_81 (c_X8_isIn X _ _ _ _ _ ⟨by omega, by omega⟩ ⟨by omega, by omega⟩ ⟨by omega, by omega⟩) rfl (by decide) rfl (Nat.le_of_ble_eq_true rfl) ?_
            refine g_ifb_eq (tgt := 131) ok dX8_store_106 (by decide) (fun c48 => ?_) (fun c48 => ?_)
            · skip
              refine g_ldc2 (v := -9000000000000000001) ok dX8_store_131 wd4_69 (by decide +kernel) ?_
              exact g_lret ok hq dX8_store_134 (ansL (by (simp only [rm_store, okSt, BAD, NO, FULL, NONE, NOTHING, INDEX, SIZE] <;> (repeat (first | rw [if_pos (by omega)] | rw [if_neg (by omega)])) <;> omega)) (by (simp only [sm_store, okSt] <;> (repeat (first | rw [if_pos (by omega)] | rw [if_neg (by omega)])) <;> first | rfl | (congr 1; omega))))
            · skip
              refine g_iload_n ok dX8_store_109 rfl rfl ?_
              refine g_i2l ok dX8_store_110 ⟨by omega, by omega⟩ ?_
              refine g_lconst (v := 1) ok dX8_store_111 (by decide +kernel) ?_
              refine g_ldc2 (v := 60) ok dX8_store_112 wd4_126 (by decide +kernel) ?_
              refine g_cS ok dX8_store_115 ms_X8_81 (c_X8_isIn X _ _ _ _ _ ⟨by omega, by omega⟩ ⟨by omega, by omega⟩ ⟨by omega, by omega⟩) rfl (by decide) rfl (Nat.le_of_ble_eq_true rfl) ?_
              refine g_ifb_eq (tgt := 131) ok dX8_store_118 (by decide) (fun c49 => ?_) (fun c49 => ?_)
              · skip
                refine g_ldc2 (v := -9000000000000000001) ok dX8_store_131 wd4_69 (by decide +kernel) ?_
                exact g_lret ok hq dX8_store_134 (ansL (by (simp only [rm_store, okSt, BAD, NO, FULL, NONE, NOTHING, INDEX, SIZE] <;> (repeat (first | rw [if_pos (by omega)] | rw [if_neg (by omega)])) <;> omega)) (by (simp only [sm_store, okSt] <;> (repeat (first | rw [if_pos (by omega)] | rw [if_neg (by omega)])) <;> first | rfl | (congr 1; omega))))
              · skip
                refine g_iload ok dX8_store_121 rfl ?_
                refine g_if_eq (tgt := 131) ok dX8_store_123 (by decide) ⟨by omega, by omega⟩ (fun c50 => ?_) (fun c50 => ?_)
                · skip
                  exfalso
                  omega
                · skip
                  refine g_iload ok dX8_store_126 rfl ?_
                  refine g_if_ne (tgt := 135) ok dX8_store_128 (by decide) ⟨by omega, by omega⟩ (fun c51 => ?_) (fun c51 => ?_)
                  · skip
                    exfalso
                    omega
                  · skip
                    refine g_ldc2 (v := -9000000000000000001) ok dX8_store_131 wd4_69 (by decide +kernel) ?_
                    exact g_lret ok hq dX8_store_134 (ansL (by (simp only [rm_store, okSt, BAD, NO, FULL, NONE, NOTHING, INDEX, SIZE] <;> (repeat (first | rw [if_pos (by omega)] | rw [if_neg (by omega)])) <;> omega)) (by (simp only [sm_store, okSt] <;> (repeat (first | rw [if_pos (by omega)] | rw [if_neg (by omega)])) <;> first | rfl | (congr 1; omega))))
        · skip
          refine g_iload ok dX8_store_67 rfl ?_
          refine g_bipush (v := 101) ok dX8_store_69 (by decide +kernel) ?_
          refine g_idivP ok dX8_store_71 ⟨by omega, by omega⟩ ⟨by omega, by omega⟩ (by omega) (by omega) ?_
          refine g_i2l ok dX8_store_72 ⟨by omega, by omega⟩ ?_
          refine g_lconst (v := 0) ok dX8_store_73 (by decide +kernel) ?_
          refine g_ldc2 (v := 50) ok dX8_store_74 wd4_121 (by decide +kernel) ?_
          refine g_cS ok dX8_store_77 ms_X8_81 (c_X8_isIn X _ _ _ _ _ ⟨by omega, by omega⟩ ⟨by omega, by omega⟩ ⟨by omega, by omega⟩) rfl (by decide) rfl (Nat.le_of_ble_eq_true rfl) ?_
          refine g_ifb_eq (tgt := 87) ok dX8_store_80 (by decide) (fun c52 => ?_) (fun c52 => ?_)
          · skip
            refine g_iconst (v := 0) ok dX8_store_87 (by decide +kernel) ?_
            refine g_istore ok dX8_store_88 (Nat.le_of_ble_eq_true rfl) ?_
            refine g_iload_n ok dX8_store_90 rfl rfl ?_
            refine g_cS ok dX8_store_91 ms_X8_124 (c_X8_isStore X _ _ _ ⟨by omega, by omega⟩) rfl (by decide) rfl (Nat.le_of_ble_eq_true rfl) ?_
            refine g_ifb_eq (tgt := 131) ok dX8_store_94 (by decide) (fun c53 => ?_) (fun c53 => ?_)
            · skip
              refine g_ldc2 (v := -9000000000000000001) ok dX8_store_131 wd4_69 (by decide +kernel) ?_
              exact g_lret ok hq dX8_store_134 (ansL (by (simp only [rm_store, okSt, BAD, NO, FULL, NONE, NOTHING, INDEX, SIZE] <;> (repeat (first | rw [if_pos (by omega)] | rw [if_neg (by omega)])) <;> omega)) (by (simp only [sm_store, okSt] <;> (repeat (first | rw [if_pos (by omega)] | rw [if_neg (by omega)])) <;> first | rfl | (congr 1; omega))))
            · skip
              refine g_iload_n ok dX8_store_97 rfl rfl ?_
              refine g_i2l ok dX8_store_98 ⟨by omega, by omega⟩ ?_
              refine g_lconst (v := 0) ok dX8_store_99 (by decide +kernel) ?_
              refine g_ldc2 (v := 4) ok dX8_store_100 wd4_125 (by decide +kernel) ?_
              refine g_cS ok dX8_store_103 ms_X8_81 (c_X8_isIn X _ _ _ _ _ ⟨by omega, by omega⟩ ⟨by omega, by omega⟩ ⟨by omega, by omega⟩) rfl (by decide) rfl (Nat.le_of_ble_eq_true rfl) ?_
              refine g_ifb_eq (tgt := 131) ok dX8_store_106 (by decide) (fun c54 => ?_) (fun c54 => ?_)
              · skip
                refine g_ldc2 (v := -9000000000000000001) ok dX8_store_131 wd4_69 (by decide +kernel) ?_
                exact g_lret ok hq dX8_store_134 (ansL (by (simp only [rm_store, okSt, BAD, NO, FULL, NONE, NOTHING, INDEX, SIZE] <;> (repeat (first | rw [if_pos (by omega)] | rw [if_neg (by omega)])) <;> omega)) (by (simp only [sm_store, okSt] <;> (repeat (first | rw [if_pos (by omega)] | rw [if_neg (by omega)])) <;> first | rfl | (congr 1; omega))))
              · skip
                refine g_iload_n ok dX8_store_109 rfl rfl ?_
                refine g_i2l ok dX8_store_110 ⟨by omega, by omega⟩ ?_
                refine g_lconst (v := 1) ok dX8_store_111 (by decide +kernel) ?_
                refine g_ldc2 (v := 60) ok dX8_store_112 wd4_126 (by decide +kernel) ?_
                refine g_cS ok dX8_store_115 ms_X8_81 (c_X8_isIn X _ _ _ _ _ ⟨by omega, by omega⟩ ⟨by omega, by omega⟩ ⟨by omega, by omega⟩) rfl (by decide) rfl (Nat.le_of_ble_eq_true rfl) ?_
                refine g_ifb_eq (tgt := 131) ok dX8_store_118 (by decide) (fun c55 => ?_) (fun c55 => ?_)
                · skip
                  refine g_ldc2 (v := -9000000000000000001) ok dX8_store_131 wd4_69 (by decide +kernel) ?_
                  exact g_lret ok hq dX8_store_134 (ansL (by (simp only [rm_store, okSt, BAD, NO, FULL, NONE, NOTHING, INDEX, SIZE] <;> (repeat (first | rw [if_pos (by omega)] | rw [if_neg (by omega)])) <;> omega)) (by (simp only [sm_store, okSt] <;> (repeat (first | rw [if_pos (by omega)] | rw [if_neg (by omega)])) <;> first | rfl | (congr 1; omega))))
                · skip
                  refine g_iload ok dX8_store_121 rfl ?_
                  refine g_if_eq (tgt := 131) ok dX8_store_123 (by decide) ⟨by omega, by omega⟩ (fun c56 => ?_) (fun c56 => ?_)
                  · skip
                    exfalso
                    omega
                  · skip
                    refine g_iload ok dX8_store_126 rfl ?_
                    refine g_if_ne (tgt := 135) ok dX8_store_128 (by decide) ⟨by omega, by omega⟩ (fun c57 => ?_) (fun c57 => ?_)
                    · skip
                      exfalso
                      omega
                    · skip
                      refine g_ldc2 (v := -9000000000000000001) ok dX8_store_131 wd4_69 (by decide +kernel) ?_
                      exact g_lret ok hq dX8_store_134 (ansL (by (simp only [rm_store, okSt, BAD, NO, FULL, NONE, NOTHING, INDEX, SIZE] <;> (repeat (first | rw [if_pos (by omega)] | rw [if_neg (by omega)])) <;> omega)) (by (simp only [sm_store, okSt] <;> (repeat (first | rw [if_pos (by omega)] | rw [if_neg (by omega)])) <;> first | rfl | (congr 1; omega))))
          · skip
            refine g_iconst (v := 1) ok dX8_store_83 (by decide +kernel) ?_
            refine g_goto (tgt := 88) ok dX8_store_84 (by decide) ?_
            refine g_istore ok dX8_store_88 (Nat.le_of_ble_eq_true rfl) ?_
            refine g_iload_n ok dX8_store_90 rfl rfl ?_
            refine g_cS ok dX8_store_91 ms_X8_124 (c_X8_isStore X _ _ _ ⟨by omega, by omega⟩) rfl (by decide) rfl (Nat.le_of_ble_eq_true rfl) ?_
            refine g_ifb_eq (tgt := 131) ok dX8_store_94 (by decide) (fun c58 => ?_) (fun c58 => ?_)
            · skip
              refine g_ldc2 (v := -9000000000000000001) ok dX8_store_131 wd4_69 (by decide +kernel) ?_
              exact g_lret ok hq dX8_store_134 (ansL (by (simp only [rm_store, okSt, BAD, NO, FULL, NONE, NOTHING, INDEX, SIZE] <;> (repeat (first | rw [if_pos (by omega)] | rw [if_neg (by omega)])) <;> omega)) (by (simp only [sm_store, okSt] <;> (repeat (first | rw [if_pos (by omega)] | rw [if_neg (by omega)])) <;> first | rfl | (congr 1; omega))))
            · skip
              refine g_iload_n ok dX8_store_97 rfl rfl ?_
              refine g_i2l ok dX8_store_98 ⟨by omega, by omega⟩ ?_
              refine g_lconst (v := 0) ok dX8_store_99 (by decide +kernel) ?_
              refine g_ldc2 (v := 4) ok dX8_store_100 wd4_125 (by decide +kernel) ?_
              refine g_cS ok dX8_store_103 ms_X8_81 (c_X8_isIn X _ _ _ _ _ ⟨by omega, by omega⟩ ⟨by omega, by omega⟩ ⟨by omega, by omega⟩) rfl (by decide) rfl (Nat.le_of_ble_eq_true rfl) ?_
              refine g_ifb_eq (tgt := 131) ok dX8_store_106 (by decide) (fun c59 => ?_) (fun c59 => ?_)
              · skip
                refine g_ldc2 (v := -9000000000000000001) ok dX8_store_131 wd4_69 (by decide +kernel) ?_
                exact g_lret ok hq dX8_store_134 (ansL (by (simp only [rm_store, okSt, BAD, NO, FULL, NONE, NOTHING, INDEX, SIZE] <;> (repeat (first | rw [if_pos (by omega)] | rw [if_neg (by omega)])) <;> omega)) (by (simp only [sm_store, okSt] <;> (repeat (first | rw [if_pos (by omega)] | rw [if_neg (by omega)])) <;> first | rfl | (congr 1; omega))))
              · skip
                refine g_iload_n ok dX8_store_109 rfl rfl ?_
                refine g_i2l ok dX8_store_110 ⟨by omega, by omega⟩ ?_
                refine g_lconst (v := 1) ok dX8_store_111 (by decide +kernel) ?_
                refine g_ldc2 (v := 60) ok dX8_store_112 wd4_126 (by decide +kernel) ?_
                refine g_cS ok dX8_store_115 ms_X8_81 (c_X8_isIn X _ _ _ _ _ ⟨by omega, by omega⟩ ⟨by omega, by omega⟩ ⟨by omega, by omega⟩) rfl (by decide) rfl (Nat.le_of_ble_eq_true rfl) ?_
                refine g_ifb_eq (tgt := 131) ok dX8_store_118 (by decide) (fun c60 => ?_) (fun c60 => ?_)
                · skip
                  refine g_ldc2 (v := -9000000000000000001) ok dX8_store_131 wd4_69 (by decide +kernel) ?_
                  exact g_lret ok hq dX8_store_134 (ansL (by (simp only [rm_store, okSt, BAD, NO, FULL, NONE, NOTHING, INDEX, SIZE] <;> (repeat (first | rw [if_pos (by omega)] | rw [if_neg (by omega)])) <;> omega)) (by (simp only [sm_store, okSt] <;> (repeat (first | rw [if_pos (by omega)] | rw [if_neg (by omega)])) <;> first | rfl | (congr 1; omega))))
                · skip
                  refine g_iload ok dX8_store_121 rfl ?_
                  refine g_if_eq (tgt := 131) ok dX8_store_123 (by decide) ⟨by omega, by omega⟩ (fun c61 => ?_) (fun c61 => ?_)
                  · skip
                    exfalso
                    omega
                  · skip
                    refine g_iload ok dX8_store_126 rfl ?_
                    refine g_if_ne (tgt := 135) ok dX8_store_128 (by decide) ⟨by omega, by omega⟩ (fun c62 => ?_) (fun c62 => ?_)
                    · skip
                      refine g_aload_n ok dX8_store_135 rfl rfl ?_
                      refine g_getr ok dX8_store_136 fl_X8_30 (Vd.one rfl) rfl rfl ?_
                      refine g_iload_n ok dX8_store_139 rfl rfl ?_
                      refine g_iload_n ok dX8_store_140 rfl rfl ?_
                      refine g_iast ok dX8_store_141 (Vd.one rfl) (fun _ => rfl) ⟨by omega, by omega⟩ (by decide) rfl ⟨by omega, by omega⟩ ?_
                      refine g_aload_n ok dX8_store_142 rfl rfl ?_
                      refine g_getr ok dX8_store_143 fl_X8_33 (Vd.one rfl) rfl rfl ?_
                      refine g_iload_n ok dX8_store_146 rfl rfl ?_
                      refine g_iload_n ok dX8_store_147 rfl rfl ?_
                      refine g_iast ok dX8_store_148 (Vd.one rfl) (fun _ => rfl) ⟨by omega, by omega⟩ (by decide) rfl ⟨by omega, by omega⟩ ?_
                      refine g_aload_n ok dX8_store_149 rfl rfl ?_
                      refine g_getr ok dX8_store_150 fl_X8_39 (Vd.one rfl) rfl rfl ?_
                      refine g_iload_n ok dX8_store_153 rfl rfl ?_
                      refine g_iload ok dX8_store_154 rfl ?_
                      refine g_bipush (v := 21) ok dX8_store_156 (by decide +kernel) ?_
                      refine g_idivP ok dX8_store_158 ⟨by omega, by omega⟩ ⟨by omega, by omega⟩ (by omega) (by omega) ?_
                      refine g_iast ok dX8_store_159 (Vd.one rfl) (fun _ => rfl) ⟨by omega, by omega⟩ (by decide) rfl ⟨by omega, by omega⟩ ?_
                      refine g_aload_n ok dX8_store_160 rfl rfl ?_
                      refine g_getr ok dX8_store_161 fl_X8_42 (Vd.one rfl) rfl rfl ?_
                      refine g_iload_n ok dX8_store_164 rfl rfl ?_
                      refine g_iload ok dX8_store_165 rfl ?_
                      refine g_bipush (v := 21) ok dX8_store_167 (by decide +kernel) ?_
                      refine g_iremP ok dX8_store_169 ⟨by omega, by omega⟩ ⟨by omega, by omega⟩ (by omega) (by omega) ?_
                      refine g_iast ok dX8_store_170 (Vd.one rfl) (fun _ => rfl) ⟨by omega, by omega⟩ (by decide) rfl ⟨by omega, by omega⟩ ?_
                      refine g_aload_n ok dX8_store_171 rfl rfl ?_
                      refine g_getr ok dX8_store_172 fl_X8_45 (Vd.one rfl) rfl rfl ?_
                      refine g_iload_n ok dX8_store_175 rfl rfl ?_
                      refine g_iload ok dX8_store_176 rfl ?_
                      refine g_bipush (v := 101) ok dX8_store_178 (by decide +kernel) ?_
                      refine g_idivP ok dX8_store_180 ⟨by omega, by omega⟩ ⟨by omega, by omega⟩ (by omega) (by omega) ?_
                      refine g_iast ok dX8_store_181 (Vd.one rfl) (fun _ => rfl) ⟨by omega, by omega⟩ (by decide) rfl ⟨by omega, by omega⟩ ?_
                      refine g_aload_n ok dX8_store_182 rfl rfl ?_
                      refine g_getr ok dX8_store_183 fl_X8_48 (Vd.one rfl) rfl rfl ?_
                      refine g_iload_n ok dX8_store_186 rfl rfl ?_
                      refine g_iload ok dX8_store_187 rfl ?_
                      refine g_bipush (v := 101) ok dX8_store_189 (by decide +kernel) ?_
                      refine g_iremP ok dX8_store_191 ⟨by omega, by omega⟩ ⟨by omega, by omega⟩ (by omega) (by omega) ?_
                      refine g_iast ok dX8_store_192 (Vd.one rfl) (fun _ => rfl) ⟨by omega, by omega⟩ (by decide) rfl ⟨by omega, by omega⟩ ?_
                      refine g_aload_n ok dX8_store_193 rfl rfl ?_
                      refine g_getr ok dX8_store_194 fl_X8_51 (Vd.one rfl) rfl rfl ?_
                      refine g_iload_n ok dX8_store_197 rfl rfl ?_
                      refine g_iconst (v := 0) ok dX8_store_198 (by decide +kernel) ?_
                      refine g_iast ok dX8_store_199 (Vd.one rfl) (fun _ => rfl) ⟨by omega, by omega⟩ (by decide) rfl ⟨by omega, by omega⟩ ?_
                      refine g_aload_n ok dX8_store_200 rfl rfl ?_
                      refine g_getr ok dX8_store_201 fl_X8_54 (Vd.one rfl) rfl rfl ?_
                      refine g_iload_n ok dX8_store_204 rfl rfl ?_
                      refine g_ldc (v := 100000) ok dX8_store_205 wd4_127 (by decide +kernel) ?_
                      refine g_iast ok dX8_store_207 (Vd.one rfl) (fun _ => rfl) ⟨by omega, by omega⟩ (by decide) rfl ⟨by omega, by omega⟩ ?_
                      refine g_aload_n ok dX8_store_208 rfl rfl ?_
                      refine g_getr ok dX8_store_209 fl_X8_36 (Vd.one rfl) rfl rfl ?_
                      refine g_iload_n ok dX8_store_212 rfl rfl ?_
                      refine g_aload_n ok dX8_store_213 rfl rfl ?_
                      refine g_iload_n ok dX8_store_214 rfl rfl ?_
                      refine g_cV ok dX8_store_215 mv_X8_132 (c_X8_floorOf X _ _ _ (by omega) (by omega) (MSt_up (MSt_up (MSt_up (MSt_up (MSt_up (MSt_up (MSt_up (MSt_up hS (by omega)) (by omega)) (by omega)) (by omega)) (by omega)) (by omega)) (by omega)) (by omega))) rfl (Vd.one rfl) rfl rfl (by decide) rfl (Nat.le_of_ble_eq_true rfl) ?_
                      have aF : ∀ q : Mm, q 34 0 z1 = z2 → q 35 0 z1 = z3 → floM q z1 = (if z2 = 4 then z3 / 10 else 0) := fun q h1 h2 => by unfold floM; rw [h1, h2]
                      rw [aF _ (by simp [up]) (by simp [up])]
                      have aG : 0 ≤ (if z2 = 4 then z3 / 10 else 0) ∧ (if z2 = 4 then z3 / 10 else 0) ≤ 6 := by split <;> omega
                      refine g_iast ok dX8_store_218 (Vd.one rfl) (fun _ => rfl) ⟨by omega, by omega⟩ (by decide) rfl ⟨by omega, by omega⟩ ?_
                      refine g_iconst (v := 0) ok dX8_store_219 (by decide +kernel) ?_
                      refine g_istore ok dX8_store_220 (Nat.le_of_ble_eq_true rfl) ?_
                      have L222 : ∀ (n : Nat) (k : Int) (s : Mm), (0 ≤ k) → (k ≤ 36) → (s = fillR (sm_store0 σ z1 z2 z3 z4 z5) 43 0 (36 * z1) (36 * z1 + k) 0) → (36 - k < n) → G X M cX8_store 9 s 222 [(0, .inr (.inr (28, 0))), (1, .inl z1), (2, .inl z2), (3, .inl z3), (4, .inl z4), (5, .inl z5), (8, .inl k)] [] := by
                        intro n
                        induction n with
                        | zero => intro k s hk0 hk1 hs hm; exact absurd hm (by omega)
                        | succ n L222ih =>
                          intro k s hk0 hk1 hs hm
                          subst hs
                          refine g_iload ok dX8_store_222 rfl ?_
                          refine g_bipush (v := 36) ok dX8_store_224 (by decide +kernel) ?_
                          refine g_icmp_ge (tgt := 248) ok dX8_store_226 (by decide) ⟨by omega, by omega⟩ ⟨by omega, by omega⟩ (fun c63 => ?_) (fun c63 => ?_)
                          · skip
                            refine g_lconst (v := 0) ok dX8_store_248 (by decide +kernel) ?_
                            exact g_lret ok hq dX8_store_249 (ansL (by (unfold rm_store; rw [if_pos (by unfold okSt; omega)])) (by (unfold sm_store; rw [if_pos (by unfold okSt; omega), show k = 36 by omega])))
                          · skip
                            refine g_aload_n ok dX8_store_229 rfl rfl ?_
                            refine g_getr ok dX8_store_230 fl_X8_57 (Vd.one rfl) rfl rfl ?_
                            refine g_bipush (v := 36) ok dX8_store_233 (by decide +kernel) ?_
                            refine g_iload_n ok dX8_store_235 rfl rfl ?_
                            refine g_imul ok dX8_store_236 ?_
                            refine g_iload ok dX8_store_237 rfl ?_
                            refine g_iadd ok dX8_store_239 ?_
                            refine g_iconst (v := 0) ok dX8_store_240 (by decide +kernel) ?_
                            refine g_iast ok dX8_store_241 (Vd.one rfl) (fun _ => rfl) ⟨by omega, by omega⟩ (by decide) rfl ⟨by omega, by omega⟩ ?_
                            refine g_iinc ok dX8_store_242 rfl rfl (Nat.le_of_ble_eq_true rfl) ?_
                            refine g_goto (tgt := 222) ok dX8_store_245 (by decide) ?_
                            refine G.norm [(0, .inr (.inr (28, 0))), (1, .inl z1), (2, .inl z2), (3, .inl z3), (4, .inl z4), (5, .inl z5), (8, .inl _)] ⟨rfl, rfl, rfl, rfl, rfl, rfl, rfl, trivial⟩ (L222ih _ _ ?_ ?_ ?_ ?_)
                            · omega
                            · omega
                            · (rw [fillR_up (by omega), show 36 * z1 + k + 1 = 36 * z1 + (k + 1) by omega])
                            · omega
                      refine G.norm [(0, .inr (.inr (28, 0))), (1, .inl z1), (2, .inl z2), (3, .inl z3), (4, .inl z4), (5, .inl z5), (8, .inl _)] ⟨rfl, rfl, rfl, rfl, rfl, rfl, rfl, trivial⟩ (L222 (37 : Nat) _ _ ?_ ?_ ?_ ?_)
                      · omega
                      · omega
                      · (rw [Int.add_zero, fillR_0]; rfl)
                      · omega
                    · skip
                      exfalso
                      omega

theorem btw_b {v lo hi : Int} (h : lo ≤ hi) : lo ≤ btw v lo hi ∧ btw v lo hi ≤ hi := by
  unfold btw
  (repeat' split) <;> omega

set_option maxRecDepth 100000 in
set_option maxHeartbeats 4000000 in
theorem c_X8_fill (X : XW) (l : Launch) (σ : Mm) (z1 z2 : Int) (rz1 : R32 z1) (rz2 : R32 z2) (hC : floM σ z1 ≤ σ 36 0 z1 ∧ σ 36 0 z1 ≤ topM σ z1) (hS : MSt σ) (hT : MT σ) (hP : MP σ) (hD : MD σ) : Ct X l yX8_fill cX8_fill 9 (Option.some FieldType.long) 3 71 σ [.inr (.inr (28, 0)), .inl z1, .inl z2] (Ans (some (.inr (.inl (rm_fill σ z1 z2)))) (sm_fill σ z1 z2)) := by
  refine Ct.intro (own := RX8) (by decide) rfl (Nat.le_of_ble_eq_true rfl) (fun M hM ok hq => ?_)
  subst hM
  have rz1l := rz1.1
  have rz1r := rz1.2
  have rz2l := rz2.1
  have rz2r := rz2.2
  show G X M cX8_fill 9 σ 0 [(0, .inr (.inr (28, 0))), (1, .inl z1), (2, .inl z2)] []
  have aT := hT.1
  have aT2 := hT.2
  have aM := bM hS z1
  refine g_iload_n ok dX8_fill_0 rfl rfl ?_
  refine g_cS ok dX8_fill_1 ms_X8_124 (c_X8_isStore X _ _ _ ⟨by omega, by omega⟩) rfl (by decide) rfl (Nat.le_of_ble_eq_true rfl) ?_
  refine g_ifb_eq (tgt := 14) ok dX8_fill_4 (by decide) (fun c1 => ?_) (fun c1 => ?_)
  · skip
    refine g_ldc2 (v := -9000000000000000001) ok dX8_fill_14 wd4_69 (by decide +kernel) ?_
    exact g_lret ok hq dX8_fill_17 (ansL (by (simp only [rm_fill, BAD, NO, FULL, NONE, NOTHING, INDEX, SIZE] <;> (repeat (first | rw [if_pos (by omega)] | rw [if_neg (by omega)])) <;> omega)) (by (simp only [sm_fill] <;> (repeat (first | rw [if_pos (by omega)] | rw [if_neg (by omega)])) <;> first | rfl | (congr 1; omega))))
  · skip
    refine g_iload_n ok dX8_fill_7 rfl rfl ?_
    refine g_cS ok dX8_fill_8 ms_X8_96 (c_X8_isWorld X _ _ _ ⟨by omega, by omega⟩) rfl (by decide) rfl (Nat.le_of_ble_eq_true rfl) ?_
    refine g_ifb_ne (tgt := 18) ok dX8_fill_11 (by decide) (fun c2 => ?_) (fun c2 => ?_)
    · skip
      refine g_aload_n ok dX8_fill_18 rfl rfl ?_
      refine g_getr ok dX8_fill_19 fl_X8_30 (Vd.one rfl) rfl rfl ?_
      refine g_iload_n ok dX8_fill_22 rfl rfl ?_
      refine g_iald ok dX8_fill_23 (Vd.one rfl) (fun _ => rfl) ⟨by omega, by omega⟩ (by decide) rfl (fun h3 h4 => ?_)
      refine g_if_ge (tgt := 31) ok dX8_fill_24 (by decide) ⟨by omega, by omega⟩ (fun c5 => ?_) (fun c5 => ?_)
      · skip
        refine g_lconst (v := 0) ok dX8_fill_31 (by decide +kernel) ?_
        refine g_lstore_n ok dX8_fill_32 rfl (Nat.le_of_ble_eq_true rfl) ?_
        refine g_aload_n ok dX8_fill_33 rfl rfl ?_
        refine g_getr ok dX8_fill_34 fl_X8_36 (Vd.one rfl) rfl rfl ?_
        refine g_iload_n ok dX8_fill_37 rfl rfl ?_
        refine g_iald ok dX8_fill_38 (Vd.one rfl) (fun _ => rfl) ⟨by omega, by omega⟩ (by decide) rfl (fun h6 h7 => ?_)
        refine g_istore ok dX8_fill_39 (Nat.le_of_ble_eq_true rfl) ?_
        refine g_iconst (v := 0) ok dX8_fill_41 (by decide +kernel) ?_
        refine g_istore ok dX8_fill_42 (Nat.le_of_ble_eq_true rfl) ?_
        have L44 : ∀ (n : Nat) (t : Int) (c : Int) (f : Int) (s : Mm), (0 ≤ t) → (t ≤ σ 28 0 0) → (c = fcM σ z1 z2 t) → (f = fmM σ z1 z2 t) → (s = plW σ 43 0 (36 * z1) (fdM σ z1 z2) t) → (σ 28 0 0 - t < n) → G X M cX8_fill 9 s 44 [(0, .inr (.inr (28, 0))), (1, .inl z1), (2, .inl z2), (3, .inr (.inl f)), (5, .inl c), (6, .inl t)] [] := by
          intro n
          induction n with
          | zero => intro t c f s hk0 hk1 hc hf hs hm; exact absurd hm (by omega)
          | succ n L44ih =>
            intro t c f s hk0 hk1 hc hf hs hm
            subst hs
            have aC := fcM_b hS hD z1 z2 hC.1 hC.2 t.toNat
            have aC2 : floM σ z1 ≤ c ∧ c ≤ topM σ z1 := by rw [hc]; exact aC
            have aW := waM_b hD z2 t
            refine g_iload ok dX8_fill_44 rfl ?_
            refine g_aload_n ok dX8_fill_46 rfl rfl ?_
            refine g_geti2 σ (z := 0) ok dX8_fill_47 fl_X8_7 (Vd.one rfl) rfl rfl rfl rfl (fun h8 h9 => ?_)
            refine g_icmp_ge (tgt := 169) ok dX8_fill_50 (by decide) ⟨by omega, by omega⟩ ⟨by omega, by omega⟩ (fun c10 => ?_) (fun c10 => ?_)
            · skip
              refine g_lload_n ok dX8_fill_169 rfl rfl ?_
              exact g_lret ok hq dX8_fill_170 (ansL (by (unfold rm_fill; rw [if_pos (by omega), if_neg (by omega), hf, show t = σ 28 0 0 by omega])) (by (unfold sm_fill; rw [if_pos (by omega), show t = σ 28 0 0 by omega])))
            · skip
              refine g_aload_n ok dX8_fill_53 rfl rfl ?_
              refine g_iload_n ok dX8_fill_54 rfl rfl ?_
              refine g_iload ok dX8_fill_55 rfl ?_
              refine g_cV ok dX8_fill_57 mv_X8_223 (c_X8_wantedOf X _ _ _ _ (by omega) (by omega) (by omega) (by omega) hP hD) rfl (Vd.one rfl) rfl rfl (by decide) rfl (Nat.le_of_ble_eq_true rfl) ?_
              change G X M cX8_fill 9 _ _ _ (.inl (waM σ z2 t) :: _)
              refine g_istore ok dX8_fill_60 (Nat.le_of_ble_eq_true rfl) ?_
              refine g_aload_n ok dX8_fill_62 rfl rfl ?_
              refine g_getr ok dX8_fill_63 fl_X8_13 (Vd.one rfl) rfl rfl ?_
              refine g_iload ok dX8_fill_66 rfl ?_
              refine g_zald2 σ ok dX8_fill_68 (Vd.one rfl) (fun _ => rfl) ⟨by omega, by omega⟩ (by decide) rfl rfl (fun h11 h12 => ?_)
              refine g_if_eq (tgt := 76) ok dX8_fill_69 (by decide) ⟨by omega, by omega⟩ (fun c13 => ?_) (fun c13 => ?_)
              · skip
                refine g_iload ok dX8_fill_76 rfl ?_
                refine g_aload_n ok dX8_fill_78 rfl rfl ?_
                refine g_iload_n ok dX8_fill_79 rfl rfl ?_
                refine g_cV ok dX8_fill_80 mv_X8_152 (c_X8_out X _ _ _ (by omega) (by omega)) rfl (Vd.one rfl) rfl rfl (by decide) rfl (Nat.le_of_ble_eq_true rfl) ?_
                change G X M cX8_fill 9 _ _ _ (.inl (outM σ z1) :: _)
                refine g_ineg ok dX8_fill_83 ?_
                refine g_aload_n ok dX8_fill_84 rfl rfl ?_
                refine g_iload_n ok dX8_fill_85 rfl rfl ?_
                refine g_cV ok dX8_fill_86 mv_X8_149 (c_X8_in X _ _ _ (by omega) (by omega)) rfl (Vd.one rfl) rfl rfl (by decide) rfl (Nat.le_of_ble_eq_true rfl) ?_
                change G X M cX8_fill 9 _ _ _ (.inl (inM σ z1) :: _)
                refine g_cS ok dX8_fill_89 ms_X8_226 (c_X8_between X _ _ _ _ _ ⟨by omega, by omega⟩ ⟨by omega, by omega⟩ ⟨by omega, by omega⟩) rfl (by decide) rfl (Nat.le_of_ble_eq_true rfl) ?_
                have b1 := btw_b (v := waM σ z2 t) (lo := -outM σ z1) (hi := inM σ z1) (by omega)
                refine g_istore ok dX8_fill_92 (Nat.le_of_ble_eq_true rfl) ?_
                refine g_iload ok dX8_fill_94 rfl ?_
                refine g_aload_n ok dX8_fill_96 rfl rfl ?_
                refine g_iload_n ok dX8_fill_97 rfl rfl ?_
                refine g_cV ok dX8_fill_98 mv_X8_132 (c_X8_floorOf X _ _ _ (by omega) (by omega) hS) rfl (Vd.one rfl) rfl rfl (by decide) rfl (Nat.le_of_ble_eq_true rfl) ?_
                change G X M cX8_fill 9 _ _ _ (.inl (floM σ z1) :: _)
                refine g_iload ok dX8_fill_101 rfl ?_
                refine g_isub ok dX8_fill_103 ?_
                refine g_aload_n ok dX8_fill_104 rfl rfl ?_
                refine g_iload_n ok dX8_fill_105 rfl rfl ?_
                refine g_cV ok dX8_fill_106 mv_X8_146 (c_X8_topOf X _ _ _ (by omega) (by omega) hS) rfl (Vd.one rfl) rfl rfl (by decide) rfl (Nat.le_of_ble_eq_true rfl) ?_
                change G X M cX8_fill 9 _ _ _ (.inl (topM σ z1) :: _)
                refine g_iload ok dX8_fill_109 rfl ?_
                refine g_isub ok dX8_fill_111 ?_
                refine g_cS ok dX8_fill_112 ms_X8_226 (c_X8_between X _ _ _ _ _ ⟨by omega, by omega⟩ ⟨by omega, by omega⟩ ⟨by omega, by omega⟩) rfl (by decide) rfl (Nat.le_of_ble_eq_true rfl) ?_
                have d1 := dnM_b hS hD z1 z2 t aC2.1 aC2.2
                generalize hv : btw _ (floM σ z1 - c) (topM σ z1 - c) = v
                have e1 : v = dnM σ z1 z2 t c := by rw [← hv]; unfold dnM; (first | rw [if_pos (by assumption)] | rw [if_neg (by assumption)])
                have d2 : -60 ≤ v ∧ v ≤ 60 := by omega
                have e2 : absd (waM σ z2 t) (fdM σ z1 z2 t) = (if v < waM σ z2 t then waM σ z2 t - v else v - waM σ z2 t) := by unfold absd fdM; rw [← hc, ← e1]
                refine g_istore ok dX8_fill_115 (Nat.le_of_ble_eq_true rfl) ?_
                refine g_aload_n ok dX8_fill_117 rfl rfl ?_
                refine g_getr ok dX8_fill_118 fl_X8_57 (Vd.one rfl) rfl rfl ?_
                refine g_bipush (v := 36) ok dX8_fill_121 (by decide +kernel) ?_
                refine g_iload_n ok dX8_fill_123 rfl rfl ?_
                refine g_imul ok dX8_fill_124 ?_
                refine g_iload ok dX8_fill_125 rfl ?_
                refine g_iadd ok dX8_fill_127 ?_
                refine g_iload ok dX8_fill_128 rfl ?_
                refine g_iast ok dX8_fill_130 (Vd.one rfl) (fun _ => rfl) ⟨by omega, by omega⟩ (by decide) rfl ⟨by omega, by omega⟩ ?_
                refine g_iload ok dX8_fill_131 rfl ?_
                refine g_iload ok dX8_fill_133 rfl ?_
                refine g_iadd ok dX8_fill_135 ?_
                refine g_istore ok dX8_fill_136 (Nat.le_of_ble_eq_true rfl) ?_
                refine g_lload_n ok dX8_fill_138 rfl rfl ?_
                refine g_iload ok dX8_fill_139 rfl ?_
                refine g_iload ok dX8_fill_141 rfl ?_
                refine g_icmp_le (tgt := 155) ok dX8_fill_143 (by decide) ⟨by omega, by omega⟩ ⟨by omega, by omega⟩ (fun c14 => ?_) (fun c14 => ?_)
                · skip
                  refine g_iload ok dX8_fill_155 rfl ?_
                  refine g_iload ok dX8_fill_157 rfl ?_
                  refine g_isub ok dX8_fill_159 ?_
                  refine g_i2l ok dX8_fill_160 ⟨by omega, by omega⟩ ?_
                  refine g_ladd ok dX8_fill_161 ?_
                  refine g_lstore_n ok dX8_fill_162 rfl (Nat.le_of_ble_eq_true rfl) ?_
                  refine g_iinc ok dX8_fill_163 rfl rfl (Nat.le_of_ble_eq_true rfl) ?_
                  refine g_goto (tgt := 44) ok dX8_fill_166 (by decide) ?_
                  refine G.norm [(0, .inr (.inr (28, 0))), (1, .inl z1), (2, .inl z2), (3, .inr (.inl _)), (5, .inl _), (6, .inl _)] ⟨rfl, rfl, rfl, rfl, rfl, rfl, trivial⟩ (L44ih _ _ _ _ ?_ ?_ ?_ ?_ ?_ ?_)
                  · omega
                  · omega
                  · (unfold fcM; rw [chI_s hk0, e1, hc]; rfl)
                  · (unfold fmM; rw [sm_s hk0]; (try dsimp only); rw [e2]; (first | rw [if_pos (by omega)] | rw [if_neg (by omega)]); rw [hf]; rfl)
                  · exact plW_up hk0 (e1.trans (by unfold fdM; rw [hc]))
                  · omega
                · skip
                  refine g_iload ok dX8_fill_146 rfl ?_
                  refine g_iload ok dX8_fill_148 rfl ?_
                  refine g_isub ok dX8_fill_150 ?_
                  refine g_i2l ok dX8_fill_151 ⟨by omega, by omega⟩ ?_
                  refine g_goto (tgt := 161) ok dX8_fill_152 (by decide) ?_
                  refine g_ladd ok dX8_fill_161 ?_
                  refine g_lstore_n ok dX8_fill_162 rfl (Nat.le_of_ble_eq_true rfl) ?_
                  refine g_iinc ok dX8_fill_163 rfl rfl (Nat.le_of_ble_eq_true rfl) ?_
                  refine g_goto (tgt := 44) ok dX8_fill_166 (by decide) ?_
                  refine G.norm [(0, .inr (.inr (28, 0))), (1, .inl z1), (2, .inl z2), (3, .inr (.inl _)), (5, .inl _), (6, .inl _)] ⟨rfl, rfl, rfl, rfl, rfl, rfl, trivial⟩ (L44ih _ _ _ _ ?_ ?_ ?_ ?_ ?_ ?_)
                  · omega
                  · omega
                  · (unfold fcM; rw [chI_s hk0, e1, hc]; rfl)
                  · (unfold fmM; rw [sm_s hk0]; (try dsimp only); rw [e2]; (first | rw [if_pos (by omega)] | rw [if_neg (by omega)]); rw [hf]; rfl)
                  · exact plW_up hk0 (e1.trans (by unfold fdM; rw [hc]))
                  · omega
              · skip
                refine g_iconst (v := 0) ok dX8_fill_72 (by decide +kernel) ?_
                refine g_goto (tgt := 92) ok dX8_fill_73 (by decide) ?_
                refine g_istore ok dX8_fill_92 (Nat.le_of_ble_eq_true rfl) ?_
                refine g_iload ok dX8_fill_94 rfl ?_
                refine g_aload_n ok dX8_fill_96 rfl rfl ?_
                refine g_iload_n ok dX8_fill_97 rfl rfl ?_
                refine g_cV ok dX8_fill_98 mv_X8_132 (c_X8_floorOf X _ _ _ (by omega) (by omega) hS) rfl (Vd.one rfl) rfl rfl (by decide) rfl (Nat.le_of_ble_eq_true rfl) ?_
                change G X M cX8_fill 9 _ _ _ (.inl (floM σ z1) :: _)
                refine g_iload ok dX8_fill_101 rfl ?_
                refine g_isub ok dX8_fill_103 ?_
                refine g_aload_n ok dX8_fill_104 rfl rfl ?_
                refine g_iload_n ok dX8_fill_105 rfl rfl ?_
                refine g_cV ok dX8_fill_106 mv_X8_146 (c_X8_topOf X _ _ _ (by omega) (by omega) hS) rfl (Vd.one rfl) rfl rfl (by decide) rfl (Nat.le_of_ble_eq_true rfl) ?_
                change G X M cX8_fill 9 _ _ _ (.inl (topM σ z1) :: _)
                refine g_iload ok dX8_fill_109 rfl ?_
                refine g_isub ok dX8_fill_111 ?_
                refine g_cS ok dX8_fill_112 ms_X8_226 (c_X8_between X _ _ _ _ _ ⟨by omega, by omega⟩ ⟨by omega, by omega⟩ ⟨by omega, by omega⟩) rfl (by decide) rfl (Nat.le_of_ble_eq_true rfl) ?_
                have d1 := dnM_b hS hD z1 z2 t aC2.1 aC2.2
                generalize hv : btw _ (floM σ z1 - c) (topM σ z1 - c) = v
                have e1 : v = dnM σ z1 z2 t c := by rw [← hv]; unfold dnM; (first | rw [if_pos (by assumption)] | rw [if_neg (by assumption)])
                have d2 : -60 ≤ v ∧ v ≤ 60 := by omega
                have e2 : absd (waM σ z2 t) (fdM σ z1 z2 t) = (if v < waM σ z2 t then waM σ z2 t - v else v - waM σ z2 t) := by unfold absd fdM; rw [← hc, ← e1]
                refine g_istore ok dX8_fill_115 (Nat.le_of_ble_eq_true rfl) ?_
                refine g_aload_n ok dX8_fill_117 rfl rfl ?_
                refine g_getr ok dX8_fill_118 fl_X8_57 (Vd.one rfl) rfl rfl ?_
                refine g_bipush (v := 36) ok dX8_fill_121 (by decide +kernel) ?_
                refine g_iload_n ok dX8_fill_123 rfl rfl ?_
                refine g_imul ok dX8_fill_124 ?_
                refine g_iload ok dX8_fill_125 rfl ?_
                refine g_iadd ok dX8_fill_127 ?_
                refine g_iload ok dX8_fill_128 rfl ?_
                refine g_iast ok dX8_fill_130 (Vd.one rfl) (fun _ => rfl) ⟨by omega, by omega⟩ (by decide) rfl ⟨by omega, by omega⟩ ?_
                refine g_iload ok dX8_fill_131 rfl ?_
                refine g_iload ok dX8_fill_133 rfl ?_
                refine g_iadd ok dX8_fill_135 ?_
                refine g_istore ok dX8_fill_136 (Nat.le_of_ble_eq_true rfl) ?_
                refine g_lload_n ok dX8_fill_138 rfl rfl ?_
                refine g_iload ok dX8_fill_139 rfl ?_
                refine g_iload ok dX8_fill_141 rfl ?_
                refine g_icmp_le (tgt := 155) ok dX8_fill_143 (by decide) ⟨by omega, by omega⟩ ⟨by omega, by omega⟩ (fun c15 => ?_) (fun c15 => ?_)
                · skip
                  refine g_iload ok dX8_fill_155 rfl ?_
                  refine g_iload ok dX8_fill_157 rfl ?_
                  refine g_isub ok dX8_fill_159 ?_
                  refine g_i2l ok dX8_fill_160 ⟨by omega, by omega⟩ ?_
                  refine g_ladd ok dX8_fill_161 ?_
                  refine g_lstore_n ok dX8_fill_162 rfl (Nat.le_of_ble_eq_true rfl) ?_
                  refine g_iinc ok dX8_fill_163 rfl rfl (Nat.le_of_ble_eq_true rfl) ?_
                  refine g_goto (tgt := 44) ok dX8_fill_166 (by decide) ?_
                  refine G.norm [(0, .inr (.inr (28, 0))), (1, .inl z1), (2, .inl z2), (3, .inr (.inl _)), (5, .inl _), (6, .inl _)] ⟨rfl, rfl, rfl, rfl, rfl, rfl, trivial⟩ (L44ih _ _ _ _ ?_ ?_ ?_ ?_ ?_ ?_)
                  · omega
                  · omega
                  · (unfold fcM; rw [chI_s hk0, e1, hc]; rfl)
                  · (unfold fmM; rw [sm_s hk0]; (try dsimp only); rw [e2]; (first | rw [if_pos (by omega)] | rw [if_neg (by omega)]); rw [hf]; rfl)
                  · exact plW_up hk0 (e1.trans (by unfold fdM; rw [hc]))
                  · omega
                · skip
                  refine g_iload ok dX8_fill_146 rfl ?_
                  refine g_iload ok dX8_fill_148 rfl ?_
                  refine g_isub ok dX8_fill_150 ?_
                  refine g_i2l ok dX8_fill_151 ⟨by omega, by omega⟩ ?_
                  refine g_goto (tgt := 161) ok dX8_fill_152 (by decide) ?_
                  refine g_ladd ok dX8_fill_161 ?_
                  refine g_lstore_n ok dX8_fill_162 rfl (Nat.le_of_ble_eq_true rfl) ?_
                  refine g_iinc ok dX8_fill_163 rfl rfl (Nat.le_of_ble_eq_true rfl) ?_
                  refine g_goto (tgt := 44) ok dX8_fill_166 (by decide) ?_
                  refine G.norm [(0, .inr (.inr (28, 0))), (1, .inl z1), (2, .inl z2), (3, .inr (.inl _)), (5, .inl _), (6, .inl _)] ⟨rfl, rfl, rfl, rfl, rfl, rfl, trivial⟩ (L44ih _ _ _ _ ?_ ?_ ?_ ?_ ?_ ?_)
                  · omega
                  · omega
                  · (unfold fcM; rw [chI_s hk0, e1, hc]; rfl)
                  · (unfold fmM; rw [sm_s hk0]; (try dsimp only); rw [e2]; (first | rw [if_pos (by omega)] | rw [if_neg (by omega)]); rw [hf]; rfl)
                  · exact plW_up hk0 (e1.trans (by unfold fdM; rw [hc]))
                  · omega
        refine G.norm [(0, .inr (.inr (28, 0))), (1, .inl z1), (2, .inl z2), (3, .inr (.inl _)), (5, .inl _), (6, .inl _)] ⟨rfl, rfl, rfl, rfl, rfl, rfl, trivial⟩ (L44 (37 : Nat) _ _ _ _ ?_ ?_ ?_ ?_ ?_ ?_)
        · omega
        · omega
        · rfl
        · rfl
        · (rw [plW_0])
        · omega
      · skip
        refine g_ldc2 (v := -9000000000000000002) ok dX8_fill_27 wd4_104 (by decide +kernel) ?_
        exact g_lret ok hq dX8_fill_30 (ansL (by (simp only [rm_fill, BAD, NO, FULL, NONE, NOTHING, INDEX, SIZE] <;> (repeat (first | rw [if_pos (by omega)] | rw [if_neg (by omega)])) <;> omega)) (by (simp only [sm_fill] <;> (repeat (first | rw [if_pos (by omega)] | rw [if_neg (by omega)])) <;> first | rfl | (congr 1; omega))))
    · skip
      refine g_ldc2 (v := -9000000000000000001) ok dX8_fill_14 wd4_69 (by decide +kernel) ?_
      exact g_lret ok hq dX8_fill_17 (ansL (by (simp only [rm_fill, BAD, NO, FULL, NONE, NOTHING, INDEX, SIZE] <;> (repeat (first | rw [if_pos (by omega)] | rw [if_neg (by omega)])) <;> omega)) (by (simp only [sm_fill] <;> (repeat (first | rw [if_pos (by omega)] | rw [if_neg (by omega)])) <;> first | rfl | (congr 1; omega))))

theorem fst_b {f : Int → Int} (h : ∀ k, 0 ≤ f k ∧ f k ≤ 5) : ∀ (n : Nat) (t : Int), 0 ≤ t → fst f t n = NONE ∨ (0 ≤ fst f t n ∧ fst f t n ≤ 10 * (t + n) + 5)
  | 0, _, _ => Or.inl rfl
  | n + 1, t, h0 => by
    have q := h t
    have i := fst_b h n (t + 1) (by omega)
    unfold fst
    split
    · rcases i with i | i
      · exact Or.inl i
      · exact Or.inr (by omega)
    · exact Or.inr (by omega)
theorem ftM_b (σ : Mm) (s t d c : Int) : 0 ≤ ftM σ s t d c ∧ ftM σ s t d c ≤ 5 := by
  unfold ftM
  (repeat' split) <;> omega
theorem whM_b {σ : Mm} (hT : MT σ) (s : Int) : whM σ s = NONE ∨ (0 ≤ whM σ s ∧ whM σ s ≤ 365) := by
  have a1 := hT.1
  have a2 := hT.2
  have q := fst_b (f := fun t => ftM σ s t (σ 43 0 (36 * s + t)) (bhM σ s t)) (fun k => ftM_b σ s k _ _) (σ 28 0 0).toNat 0 (by omega)
  unfold whM
  omega

set_option maxRecDepth 100000 in
set_option maxHeartbeats 4000000 in
theorem c_X8_live (X : XW) (l : Launch) (σ : Mm) (z1 z2 : Int) (rz1 : R32 z1) (rz2 : R32 z2) (hS : MSt σ) (hT : MT σ) (hP : MP σ) (hR : MR σ) (hK : MK σ) (hL : ML σ) : Ct X l yX8_live cX8_live 5 (Option.some FieldType.long) 4 90 σ [.inr (.inr (28, 0)), .inl z1, .inl z2] (Ans (some (.inr (.inl (rm_live σ z1 z2)))) (sm_live σ z1 z2)) := by
  refine Ct.intro (own := RX8) (by decide) rfl (Nat.le_of_ble_eq_true rfl) (fun M hM ok hq => ?_)
  subst hM
  have rz1l := rz1.1
  have rz1r := rz1.2
  have rz2l := rz2.1
  have rz2r := rz2.2
  show G X M cX8_live 5 σ 0 [(0, .inr (.inr (28, 0))), (1, .inl z1), (2, .inl z2)] []
  have aT := hT.1
  have aT2 := hT.2
  have aR := hR.1
  have hN : NONE = -9000000000000000005 := rfl
  refine g_iload_n ok dX8_live_0 rfl rfl ?_
  refine g_cS ok dX8_live_1 ms_X8_124 (c_X8_isStore X _ _ _ ⟨by omega, by omega⟩) rfl (by decide) rfl (Nat.le_of_ble_eq_true rfl) ?_
  refine g_ifb_eq (tgt := 14) ok dX8_live_4 (by decide) (fun c1 => ?_) (fun c1 => ?_)
  · skip
    refine g_ldc2 (v := -9000000000000000001) ok dX8_live_14 wd4_69 (by decide +kernel) ?_
    exact g_lret ok hq dX8_live_17 (ansL (by (simp only [rm_live, BAD, NO, FULL, NONE, NOTHING, INDEX, SIZE] <;> (repeat (first | rw [if_pos (by omega)] | rw [if_neg (by omega)])) <;> omega)) (by (simp only [sm_live] <;> (repeat (first | rw [if_pos (by omega)] | rw [if_neg (by omega)])) <;> first | rfl | (congr 1; omega))))
  · skip
    refine g_iload_n ok dX8_live_7 rfl rfl ?_
    refine g_cS ok dX8_live_8 ms_X8_96 (c_X8_isWorld X _ _ _ ⟨by omega, by omega⟩) rfl (by decide) rfl (Nat.le_of_ble_eq_true rfl) ?_
    refine g_ifb_ne (tgt := 18) ok dX8_live_11 (by decide) (fun c2 => ?_) (fun c2 => ?_)
    · skip
      refine g_aload_n ok dX8_live_18 rfl rfl ?_
      refine g_getr ok dX8_live_19 fl_X8_30 (Vd.one rfl) rfl rfl ?_
      refine g_iload_n ok dX8_live_22 rfl rfl ?_
      refine g_iald ok dX8_live_23 (Vd.one rfl) (fun _ => rfl) ⟨by omega, by omega⟩ (by decide) rfl (fun h3 h4 => ?_)
      refine g_if_lt (tgt := 39) ok dX8_live_24 (by decide) ⟨by omega, by omega⟩ (fun c5 => ?_) (fun c5 => ?_)
      · skip
        refine g_ldc2 (v := -9000000000000000002) ok dX8_live_39 wd4_104 (by decide +kernel) ?_
        exact g_lret ok hq dX8_live_42 (ansL (by (simp only [rm_live, BAD, NO, FULL, NONE, NOTHING, INDEX, SIZE] <;> (repeat (first | rw [if_pos (by omega)] | rw [if_neg (by omega)])) <;> omega)) (by (simp only [sm_live] <;> (repeat (first | rw [if_pos (by omega)] | rw [if_neg (by omega)])) <;> first | rfl | (congr 1; omega))))
      · skip
        refine g_aload_n ok dX8_live_27 rfl rfl ?_
        refine g_iload_n ok dX8_live_28 rfl rfl ?_
        refine g_cV ok dX8_live_29 mv_X8_177 (c_X8_whyNot X _ _ _ (by omega) (by omega) hS hT hK hL) rfl (Vd.one rfl) rfl rfl (by decide) rfl (Nat.le_of_ble_eq_true rfl) ?_
        have aW := whM_b hT z1
        refine g_ldc2 (v := -9000000000000000005) ok dX8_live_32 wd4_214 (by decide +kernel) ?_
        refine g_lcmp_eq (tgt := 43) ok dX8_live_35 dX8_live_36 (by decide) ⟨by omega, by omega⟩ ⟨by omega, by omega⟩ (fun c6 => ?_) (fun c6 => ?_)
        · skip
          refine g_aload_n ok dX8_live_43 rfl rfl ?_
          refine g_geti (z := 20) ok dX8_live_44 fl_X8_240 (Vd.one rfl) rfl rfl rfl (fun h7 h8 => ?_)
          refine g_aload_n ok dX8_live_47 rfl rfl ?_
          refine g_geti (z := 0) ok dX8_live_48 fl_X8_7 (Vd.one rfl) rfl rfl rfl (fun h9 h10 => ?_)
          refine g_iadd ok dX8_live_51 ?_
          refine g_sipush (v := 150) ok dX8_live_52 (by decide +kernel) ?_
          refine g_icmp_le (tgt := 62) ok dX8_live_55 (by decide) ⟨by omega, by omega⟩ ⟨by omega, by omega⟩ (fun c11 => ?_) (fun c11 => ?_)
          · skip
            refine g_iconst (v := 0) ok dX8_live_62 (by decide +kernel) ?_
            refine g_istore_n ok dX8_live_63 rfl (Nat.le_of_ble_eq_true rfl) ?_
            have L64 : ∀ (n : Nat) (t : Int) (s : Mm), (0 ≤ t) → (t ≤ σ 28 0 0) → (s = lvM σ z1 z2 t) → (σ 28 0 0 - t < n) → G X M cX8_live 5 s 64 [(0, .inr (.inr (28, 0))), (1, .inl z1), (2, .inl z2), (3, .inl t)] [] := by
              intro n
              induction n with
              | zero => intro t s hk0 hk1 hs hm; exact absurd hm (by omega)
              | succ n L64ih =>
                intro t s hk0 hk1 hs hm
                subst hs
                have aL := hL (36 * z1 + t)
                have aP := pM_b hP z2 t
                have aM := monM_b hS z1 aL aP
                refine g_iload_n ok dX8_live_64 rfl rfl ?_
                refine g_aload_n ok dX8_live_65 rfl rfl ?_
                refine g_geti2 σ (z := 0) ok dX8_live_66 fl_X8_7 (Vd.one rfl) rfl rfl rfl rfl (fun h12 h13 => ?_)
                refine g_icmp_ge (tgt := 186) ok dX8_live_69 (by decide) ⟨by omega, by omega⟩ ⟨by omega, by omega⟩ (fun c14 => ?_) (fun c14 => ?_)
                · skip
                  refine g_aload_n ok dX8_live_186 rfl rfl ?_
                  refine g_getr ok dX8_live_187 fl_X8_36 (Vd.one rfl) rfl rfl ?_
                  refine g_iload_n ok dX8_live_190 rfl rfl ?_
                  refine g_aload_n ok dX8_live_191 rfl rfl ?_
                  refine g_iload_n ok dX8_live_192 rfl rfl ?_
                  refine g_aload_n ok dX8_live_193 rfl rfl ?_
                  refine g_geti2 σ (z := 0) ok dX8_live_194 fl_X8_7 (Vd.one rfl) rfl rfl rfl rfl (fun h15 h16 => ?_)
                  refine g_iconst (v := 1) ok dX8_live_197 (by decide +kernel) ?_
                  refine g_isub ok dX8_live_198 ?_
                  refine g_cV ok dX8_live_199 mv_X8_165 (c_X8_behindOf X _ _ _ _ (by omega) (by omega) (by omega) (by omega)) rfl (Vd.one rfl) rfl rfl (by decide) rfl (Nat.le_of_ble_eq_true rfl) ?_
                  change G X M cX8_live 5 _ _ _ (.inl (bhM σ z1 (σ 28 0 0 - 1)) :: _)
                  have aB := bhM_b hS hL z1 (t := σ 28 0 0 - 1) (by omega) (by omega)
                  refine g_iast ok dX8_live_202 (Vd.one rfl) (fun _ => rfl) ⟨by omega, by omega⟩ (by decide) rfl ⟨by omega, by omega⟩ ?_
                  refine g_aload_n ok dX8_live_203 rfl rfl ?_
                  refine g_geti (z := 20) ok dX8_live_204 fl_X8_240 (Vd.one rfl) rfl rfl rfl (fun h17 h18 => ?_)
                  have e5 : _ = σ 28 0 20 + σ 28 0 0 := (show (lvM σ z1 z2 t) 28 0 20 = σ 28 0 20 + σ 28 0 0 from (by rw [show t = σ 28 0 0 by omega]; rfl))
                  refine g_i2l ok dX8_live_207 ⟨by omega, by omega⟩ ?_
                  exact g_lret ok hq dX8_live_208 (ansL (by (unfold rm_live; rw [if_pos (by omega), if_neg (by omega), if_neg (by omega)]; exact e5)) (by (unfold sm_live; rw [if_pos (by omega), show t = σ 28 0 0 by omega]; (try rfl))))
                · skip
                  refine g_aload_n ok dX8_live_72 rfl rfl ?_
                  refine g_getr ok dX8_live_73 fl_X8_57 (Vd.one rfl) rfl rfl ?_
                  refine g_bipush (v := 36) ok dX8_live_76 (by decide +kernel) ?_
                  refine g_iload_n ok dX8_live_78 rfl rfl ?_
                  refine g_imul ok dX8_live_79 ?_
                  refine g_iload_n ok dX8_live_80 rfl rfl ?_
                  refine g_iadd ok dX8_live_81 ?_
                  refine g_iald2 σ ok dX8_live_82 (Vd.one rfl) (fun _ => rfl) ⟨by omega, by omega⟩ (by decide) rfl rfl (fun h19 h20 => ?_)
                  refine g_istore ok dX8_live_83 (Nat.le_of_ble_eq_true rfl) ?_
                  refine g_aload_n ok dX8_live_85 rfl rfl ?_
                  refine g_getr ok dX8_live_86 fl_X8_66 (Vd.one rfl) rfl rfl ?_
                  refine g_iconst (v := 5) ok dX8_live_89 (by decide +kernel) ?_
                  refine g_aload_n ok dX8_live_90 rfl rfl ?_
                  refine g_geti3 (σ 28 0 20 + t) (z := 20) ok dX8_live_91 fl_X8_240 (Vd.one rfl) rfl rfl rfl (by rfl) (fun h21 h22 => ?_)
                  refine g_imul ok dX8_live_94 ?_
                  refine g_iload_n ok dX8_live_95 rfl rfl ?_
                  refine g_i2l ok dX8_live_96 ⟨by omega, by omega⟩ ?_
                  refine g_last ok dX8_live_97 (Vd.one rfl) (fun _ => rfl) ⟨by omega, by omega⟩ (by decide) rfl ⟨by omega, by omega⟩ ?_
                  refine g_aload_n ok dX8_live_98 rfl rfl ?_
                  refine g_getr ok dX8_live_99 fl_X8_66 (Vd.one rfl) rfl rfl ?_
                  refine g_iconst (v := 5) ok dX8_live_102 (by decide +kernel) ?_
                  refine g_aload_n ok dX8_live_103 rfl rfl ?_
                  refine g_geti3 (σ 28 0 20 + t) (z := 20) ok dX8_live_104 fl_X8_240 (Vd.one rfl) rfl rfl rfl (by rfl) (fun h23 h24 => ?_)
                  refine g_imul ok dX8_live_107 ?_
                  refine g_iconst (v := 1) ok dX8_live_108 (by decide +kernel) ?_
                  refine g_iadd ok dX8_live_109 ?_
                  refine g_iload_n ok dX8_live_110 rfl rfl ?_
                  refine g_i2l ok dX8_live_111 ⟨by omega, by omega⟩ ?_
                  refine g_last ok dX8_live_112 (Vd.one rfl) (fun _ => rfl) ⟨by omega, by omega⟩ (by decide) rfl ⟨by omega, by omega⟩ ?_
                  refine g_aload_n ok dX8_live_113 rfl rfl ?_
                  refine g_getr ok dX8_live_114 fl_X8_66 (Vd.one rfl) rfl rfl ?_
                  refine g_iconst (v := 5) ok dX8_live_117 (by decide +kernel) ?_
                  refine g_aload_n ok dX8_live_118 rfl rfl ?_
                  refine g_geti3 (σ 28 0 20 + t) (z := 20) ok dX8_live_119 fl_X8_240 (Vd.one rfl) rfl rfl rfl (by rfl) (fun h25 h26 => ?_)
                  refine g_imul ok dX8_live_122 ?_
                  refine g_iconst (v := 2) ok dX8_live_123 (by decide +kernel) ?_
                  refine g_iadd ok dX8_live_124 ?_
                  refine g_iload_n ok dX8_live_125 rfl rfl ?_
                  refine g_i2l ok dX8_live_126 ⟨by omega, by omega⟩ ?_
                  refine g_last ok dX8_live_127 (Vd.one rfl) (fun _ => rfl) ⟨by omega, by omega⟩ (by decide) rfl ⟨by omega, by omega⟩ ?_
                  refine g_aload_n ok dX8_live_128 rfl rfl ?_
                  refine g_getr ok dX8_live_129 fl_X8_66 (Vd.one rfl) rfl rfl ?_
                  refine g_iconst (v := 5) ok dX8_live_132 (by decide +kernel) ?_
                  refine g_aload_n ok dX8_live_133 rfl rfl ?_
                  refine g_geti3 (σ 28 0 20 + t) (z := 20) ok dX8_live_134 fl_X8_240 (Vd.one rfl) rfl rfl rfl (by rfl) (fun h27 h28 => ?_)
                  refine g_imul ok dX8_live_137 ?_
                  refine g_iconst (v := 3) ok dX8_live_138 (by decide +kernel) ?_
                  refine g_iadd ok dX8_live_139 ?_
                  refine g_iload ok dX8_live_140 rfl ?_
                  refine g_i2l ok dX8_live_142 ⟨by omega, by omega⟩ ?_
                  refine g_last ok dX8_live_143 (Vd.one rfl) (fun _ => rfl) ⟨by omega, by omega⟩ (by decide) rfl ⟨by omega, by omega⟩ ?_
                  refine g_aload_n ok dX8_live_144 rfl rfl ?_
                  refine g_getr ok dX8_live_145 fl_X8_66 (Vd.one rfl) rfl rfl ?_
                  refine g_iconst (v := 5) ok dX8_live_148 (by decide +kernel) ?_
                  refine g_aload_n ok dX8_live_149 rfl rfl ?_
                  refine g_geti3 (σ 28 0 20 + t) (z := 20) ok dX8_live_150 fl_X8_240 (Vd.one rfl) rfl rfl rfl (by rfl) (fun h29 h30 => ?_)
                  refine g_imul ok dX8_live_153 ?_
                  refine g_iconst (v := 4) ok dX8_live_154 (by decide +kernel) ?_
                  refine g_iadd ok dX8_live_155 ?_
                  refine g_aload_n ok dX8_live_156 rfl rfl ?_
                  refine g_iload_n ok dX8_live_157 rfl rfl ?_
                  refine g_iload ok dX8_live_158 rfl ?_
                  refine g_aload_n ok dX8_live_160 rfl rfl ?_
                  refine g_iload_n ok dX8_live_161 rfl rfl ?_
                  refine g_iload_n ok dX8_live_162 rfl rfl ?_
                  refine g_cV ok dX8_live_163 mv_X8_110 (c_X8_priceOf X _ _ _ _ (by omega) (by omega) (by omega) (by omega) hP) rfl (Vd.one rfl) rfl rfl (by decide) rfl (Nat.le_of_ble_eq_true rfl) ?_
                  change G X M cX8_live 5 _ _ _ (.inl (pM σ z2 t) :: _)
                  refine g_cV ok dX8_live_166 mv_X8_180 (c_X8_moneyOf X _ _ _ _ _ (by omega) (by omega) (by omega) (by omega) (by omega) (by omega) hS) rfl (Vd.one rfl) rfl rfl (by decide) rfl (Nat.le_of_ble_eq_true rfl) ?_
                  change G X M cX8_live 5 _ _ _ (.inr (.inl (monM σ z1 (σ 43 0 (36 * z1 + t)) (pM σ z2 t))) :: _)
                  refine g_last ok dX8_live_169 (Vd.one rfl) (fun _ => rfl) ⟨by omega, by omega⟩ (by decide) rfl ⟨by omega, by omega⟩ ?_
                  refine g_aload_n ok dX8_live_170 rfl rfl ?_
                  refine g_dup ok dX8_live_171 rfl ?_
                  refine g_geti3 (σ 28 0 20 + t) (z := 20) ok dX8_live_172 fl_X8_240 (Vd.one rfl) rfl rfl rfl (by rfl) (fun h31 h32 => ?_)
                  refine g_iconst (v := 1) ok dX8_live_175 (by decide +kernel) ?_
                  refine g_iadd ok dX8_live_176 ?_
                  refine g_puti (z := 20) ok dX8_live_177 fw_X8_240 (Vd.one rfl) rfl rfl (Nat.le_of_ble_eq_true rfl) rfl ⟨by omega, by omega⟩ ?_
                  refine g_iinc ok dX8_live_180 rfl rfl (Nat.le_of_ble_eq_true rfl) ?_
                  refine g_goto (tgt := 64) ok dX8_live_183 (by decide) ?_
                  refine G.norm [(0, .inr (.inr (28, 0))), (1, .inl z1), (2, .inl z2), (3, .inl _)] ⟨rfl, rfl, rfl, rfl, trivial⟩ (L64ih _ _ ?_ ?_ ?_ ?_)
                  · omega
                  · omega
                  · exact lvM_up hk0 rfl rfl
                  · omega
            refine G.norm [(0, .inr (.inr (28, 0))), (1, .inl z1), (2, .inl z2), (3, .inl _)] ⟨rfl, rfl, rfl, rfl, trivial⟩ (L64 (37 : Nat) _ _ ?_ ?_ ?_ ?_)
            · omega
            · omega
            · (rw [lvM_0])
            · omega
          · skip
            refine g_ldc2 (v := -9000000000000000003) ok dX8_live_58 wd5_29 (by decide +kernel) ?_
            exact g_lret ok hq dX8_live_61 (ansL (by (simp only [rm_live, BAD, NO, FULL, NONE, NOTHING, INDEX, SIZE] <;> (repeat (first | rw [if_pos (by omega)] | rw [if_neg (by omega)])) <;> omega)) (by (simp only [sm_live] <;> (repeat (first | rw [if_pos (by omega)] | rw [if_neg (by omega)])) <;> first | rfl | (congr 1; omega))))
        · skip
          refine g_ldc2 (v := -9000000000000000002) ok dX8_live_39 wd4_104 (by decide +kernel) ?_
          exact g_lret ok hq dX8_live_42 (ansL (by (simp only [rm_live, BAD, NO, FULL, NONE, NOTHING, INDEX, SIZE] <;> (repeat (first | rw [if_pos (by omega)] | rw [if_neg (by omega)])) <;> omega)) (by (simp only [sm_live] <;> (repeat (first | rw [if_pos (by omega)] | rw [if_neg (by omega)])) <;> first | rfl | (congr 1; omega))))
    · skip
      refine g_ldc2 (v := -9000000000000000001) ok dX8_live_14 wd4_69 (by decide +kernel) ?_
      exact g_lret ok hq dX8_live_17 (ansL (by (simp only [rm_live, BAD, NO, FULL, NONE, NOTHING, INDEX, SIZE] <;> (repeat (first | rw [if_pos (by omega)] | rw [if_neg (by omega)])) <;> omega)) (by (simp only [sm_live] <;> (repeat (first | rw [if_pos (by omega)] | rw [if_neg (by omega)])) <;> first | rfl | (congr 1; omega))))
