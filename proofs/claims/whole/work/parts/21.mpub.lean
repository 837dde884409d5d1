set_option maxRecDepth 100000 in
set_option maxHeartbeats 4000000 in
theorem c_X8_dark (X : XW) (l : Launch) (σ : Mm) (z1 z2 : Int) (rz1 : R32 z1) (rz2 : R32 z2) : Ct X l yX8_dark cX8_dark 4 (Option.some FieldType.long) 1 25 σ [.inr (.inr (28, 0)), .inl z1, .inl z2] (Ans (some (.inr (.inl (rm_dark σ z1 z2)))) (sm_dark σ z1 z2)) := by
  refine Ct.intro (own := RX8) (by decide) rfl (Nat.le_of_ble_eq_true rfl) (fun M hM ok hq => ?_)
  subst hM
  have rz1l := rz1.1
  have rz1r := rz1.2
  have rz2l := rz2.1
  have rz2r := rz2.2
  show G X M cX8_dark 4 σ 0 [(0, .inr (.inr (28, 0))), (1, .inl z1), (2, .inl z2)] []
  refine g_iload_n ok dX8_dark_0 rfl rfl ?_
  refine g_i2l ok dX8_dark_1 ⟨by omega, by omega⟩ ?_
  refine g_lconst (v := 0) ok dX8_dark_2 (by decide +kernel) ?_
  refine g_ldc2 (v := 35) ok dX8_dark_3 wd4_74 (by decide +kernel) ?_
  refine g_cS ok dX8_dark_6 ms_X8_81 (c_X8_isIn X _ _ _ _ _ ⟨by omega, by omega⟩ ⟨by omega, by omega⟩ ⟨by omega, by omega⟩) rfl (by decide) rfl (Nat.le_of_ble_eq_true rfl) ?_
  refine g_ifb_eq (tgt := 22) ok dX8_dark_9 (by decide) (fun c1 => ?_) (fun c1 => ?_)
  · skip
    refine g_ldc2 (v := -9000000000000000001) ok dX8_dark_22 wd4_69 (by decide +kernel) ?_
    exact g_lret ok hq dX8_dark_25 (ansL (by (simp only [rm_dark, BAD, NO, FULL, NONE, NOTHING, INDEX, SIZE] <;> (repeat (first | rw [if_pos (by omega)] | rw [if_neg (by omega)])) <;> omega)) (by (simp only [sm_dark] <;> (repeat (first | rw [if_pos (by omega)] | rw [if_neg (by omega)])) <;> first | rfl | (congr 1; omega))))
  · skip
    refine g_iload_n ok dX8_dark_12 rfl rfl ?_
    refine g_i2l ok dX8_dark_13 ⟨by omega, by omega⟩ ?_
    refine g_lconst (v := 0) ok dX8_dark_14 (by decide +kernel) ?_
    refine g_lconst (v := 1) ok dX8_dark_15 (by decide +kernel) ?_
    refine g_cS ok dX8_dark_16 ms_X8_81 (c_X8_isIn X _ _ _ _ _ ⟨by omega, by omega⟩ ⟨by omega, by omega⟩ ⟨by omega, by omega⟩) rfl (by decide) rfl (Nat.le_of_ble_eq_true rfl) ?_
    refine g_ifb_ne (tgt := 26) ok dX8_dark_19 (by decide) (fun c2 => ?_) (fun c2 => ?_)
    · skip
      refine g_aload_n ok dX8_dark_26 rfl rfl ?_
      refine g_getr ok dX8_dark_27 fl_X8_13 (Vd.one rfl) rfl rfl ?_
      refine g_iload_n ok dX8_dark_30 rfl rfl ?_
      refine g_zald ok dX8_dark_31 (Vd.one rfl) (fun _ => rfl) ⟨by omega, by omega⟩ (by decide) rfl (fun h3 h4 => ?_)
      refine g_istore_n ok dX8_dark_32 rfl (Nat.le_of_ble_eq_true rfl) ?_
      refine g_aload_n ok dX8_dark_33 rfl rfl ?_
      refine g_getr ok dX8_dark_34 fl_X8_13 (Vd.one rfl) rfl rfl ?_
      refine g_iload_n ok dX8_dark_37 rfl rfl ?_
      refine g_iload_n ok dX8_dark_38 rfl rfl ?_
      refine g_iconst (v := 1) ok dX8_dark_39 (by decide +kernel) ?_
      refine g_icmp_ne (tgt := 47) ok dX8_dark_40 (by decide) ⟨by omega, by omega⟩ ⟨by omega, by omega⟩ (fun c5 => ?_) (fun c5 => ?_)
      · skip
        refine g_iconst (v := 0) ok dX8_dark_47 (by decide +kernel) ?_
        refine g_zast ok dX8_dark_48 (Vd.one rfl) (fun _ => rfl) ⟨by omega, by omega⟩ (by decide) rfl (by omega) (by omega) ?_
        refine g_iload_n ok dX8_dark_49 rfl rfl ?_
        refine g_if_eq (tgt := 57) ok dX8_dark_50 (by decide) ⟨by omega, by omega⟩ (fun c6 => ?_) (fun c6 => ?_)
        · skip
          refine g_lconst (v := 0) ok dX8_dark_57 (by decide +kernel) ?_
          exact g_lret ok hq dX8_dark_58 (ansL (by (simp only [rm_dark, BAD, NO, FULL, NONE, NOTHING, INDEX, SIZE] <;> (repeat (first | rw [if_pos (by omega)] | rw [if_neg (by omega)])) <;> omega)) (by (simp only [sm_dark] <;> (repeat (first | rw [if_pos (by omega)] | rw [if_neg (by omega)])) <;> first | rfl | (congr 1; omega))))
        · skip
          refine g_lconst (v := 1) ok dX8_dark_53 (by decide +kernel) ?_
          refine g_goto (tgt := 58) ok dX8_dark_54 (by decide) ?_
          exact g_lret ok hq dX8_dark_58 (ansL (by (simp only [rm_dark, BAD, NO, FULL, NONE, NOTHING, INDEX, SIZE] <;> (repeat (first | rw [if_pos (by omega)] | rw [if_neg (by omega)])) <;> omega)) (by (simp only [sm_dark] <;> (repeat (first | rw [if_pos (by omega)] | rw [if_neg (by omega)])) <;> first | rfl | (congr 1; omega))))
      · skip
        refine g_iconst (v := 1) ok dX8_dark_43 (by decide +kernel) ?_
        refine g_goto (tgt := 48) ok dX8_dark_44 (by decide) ?_
        refine g_zast ok dX8_dark_48 (Vd.one rfl) (fun _ => rfl) ⟨by omega, by omega⟩ (by decide) rfl (by omega) (by omega) ?_
        refine g_iload_n ok dX8_dark_49 rfl rfl ?_
        refine g_if_eq (tgt := 57) ok dX8_dark_50 (by decide) ⟨by omega, by omega⟩ (fun c7 => ?_) (fun c7 => ?_)
        · skip
          refine g_lconst (v := 0) ok dX8_dark_57 (by decide +kernel) ?_
          exact g_lret ok hq dX8_dark_58 (ansL (by (simp only [rm_dark, BAD, NO, FULL, NONE, NOTHING, INDEX, SIZE] <;> (repeat (first | rw [if_pos (by omega)] | rw [if_neg (by omega)])) <;> omega)) (by (simp only [sm_dark] <;> (repeat (first | rw [if_pos (by omega)] | rw [if_neg (by omega)])) <;> first | rfl | (congr 1; omega))))
        · skip
          refine g_lconst (v := 1) ok dX8_dark_53 (by decide +kernel) ?_
          refine g_goto (tgt := 58) ok dX8_dark_54 (by decide) ?_
          exact g_lret ok hq dX8_dark_58 (ansL (by (simp only [rm_dark, BAD, NO, FULL, NONE, NOTHING, INDEX, SIZE] <;> (repeat (first | rw [if_pos (by omega)] | rw [if_neg (by omega)])) <;> omega)) (by (simp only [sm_dark] <;> (repeat (first | rw [if_pos (by omega)] | rw [if_neg (by omega)])) <;> first | rfl | (congr 1; omega))))
    · skip
      refine g_ldc2 (v := -9000000000000000001) ok dX8_dark_22 wd4_69 (by decide +kernel) ?_
      exact g_lret ok hq dX8_dark_25 (ansL (by (simp only [rm_dark, BAD, NO, FULL, NONE, NOTHING, INDEX, SIZE] <;> (repeat (first | rw [if_pos (by omega)] | rw [if_neg (by omega)])) <;> omega)) (by (simp only [sm_dark] <;> (repeat (first | rw [if_pos (by omega)] | rw [if_neg (by omega)])) <;> first | rfl | (congr 1; omega))))

set_option maxRecDepth 100000 in
set_option maxHeartbeats 4000000 in
theorem c_X8_keep (X : XW) (l : Launch) (σ : Mm) (z1 z2 : Int) (rz1 : R32 z1) (rz2 : R32 z2) : Ct X l yX8_keep cX8_keep 5 (Option.some FieldType.long) 1 25 σ [.inr (.inr (28, 0)), .inl z1, .inl z2] (Ans (some (.inr (.inl (rm_keep σ z1 z2)))) (sm_keep σ z1 z2)) := by
  refine Ct.intro (own := RX8) (by decide) rfl (Nat.le_of_ble_eq_true rfl) (fun M hM ok hq => ?_)
  subst hM
  have rz1l := rz1.1
  have rz1r := rz1.2
  have rz2l := rz2.1
  have rz2r := rz2.2
  show G X M cX8_keep 5 σ 0 [(0, .inr (.inr (28, 0))), (1, .inl z1), (2, .inl z2)] []
  refine g_iload_n ok dX8_keep_0 rfl rfl ?_
  refine g_i2l ok dX8_keep_1 ⟨by omega, by omega⟩ ?_
  refine g_lconst (v := 0) ok dX8_keep_2 (by decide +kernel) ?_
  refine g_ldc2 (v := 35) ok dX8_keep_3 wd4_74 (by decide +kernel) ?_
  refine g_cS ok dX8_keep_6 ms_X8_81 (c_X8_isIn X _ _ _ _ _ ⟨by omega, by omega⟩ ⟨by omega, by omega⟩ ⟨by omega, by omega⟩) rfl (by decide) rfl (Nat.le_of_ble_eq_true rfl) ?_
  refine g_ifb_eq (tgt := 24) ok dX8_keep_9 (by decide) (fun c1 => ?_) (fun c1 => ?_)
  · skip
    refine g_ldc2 (v := -9000000000000000001) ok dX8_keep_24 wd4_69 (by decide +kernel) ?_
    exact g_lret ok hq dX8_keep_27 (ansL (by (simp only [rm_keep, BAD, NO, FULL, NONE, NOTHING, INDEX, SIZE] <;> (repeat (first | rw [if_pos (by omega)] | rw [if_neg (by omega)])) <;> omega)) (by (simp only [sm_keep] <;> (repeat (first | rw [if_pos (by omega)] | rw [if_neg (by omega)])) <;> first | rfl | (congr 1; omega))))
  · skip
    refine g_iload_n ok dX8_keep_12 rfl rfl ?_
    refine g_i2l ok dX8_keep_13 ⟨by omega, by omega⟩ ?_
    refine g_lconst (v := 0) ok dX8_keep_14 (by decide +kernel) ?_
    refine g_ldc2 (v := 10) ok dX8_keep_15 wd4_79 (by decide +kernel) ?_
    refine g_cS ok dX8_keep_18 ms_X8_81 (c_X8_isIn X _ _ _ _ _ ⟨by omega, by omega⟩ ⟨by omega, by omega⟩ ⟨by omega, by omega⟩) rfl (by decide) rfl (Nat.le_of_ble_eq_true rfl) ?_
    refine g_ifb_ne (tgt := 28) ok dX8_keep_21 (by decide) (fun c2 => ?_) (fun c2 => ?_)
    · skip
      refine g_aload_n ok dX8_keep_28 rfl rfl ?_
      refine g_getr ok dX8_keep_29 fl_X8_17 (Vd.one rfl) rfl rfl ?_
      refine g_iload_n ok dX8_keep_32 rfl rfl ?_
      refine g_iald ok dX8_keep_33 (Vd.one rfl) (fun _ => rfl) ⟨by omega, by omega⟩ (by decide) rfl (fun h3 h4 => ?_)
      refine g_i2l ok dX8_keep_34 ⟨by omega, by omega⟩ ?_
      refine g_lstore_n ok dX8_keep_35 rfl (Nat.le_of_ble_eq_true rfl) ?_
      refine g_aload_n ok dX8_keep_36 rfl rfl ?_
      refine g_getr ok dX8_keep_37 fl_X8_17 (Vd.one rfl) rfl rfl ?_
      refine g_iload_n ok dX8_keep_40 rfl rfl ?_
      refine g_iload_n ok dX8_keep_41 rfl rfl ?_
      refine g_iast ok dX8_keep_42 (Vd.one rfl) (fun _ => rfl) ⟨by omega, by omega⟩ (by decide) rfl ⟨by omega, by omega⟩ ?_
      refine g_lload_n ok dX8_keep_43 rfl rfl ?_
      exact g_lret ok hq dX8_keep_44 (ansL (by (simp only [rm_keep, BAD, NO, FULL, NONE, NOTHING, INDEX, SIZE] <;> (repeat (first | rw [if_pos (by omega)] | rw [if_neg (by omega)])) <;> omega)) (by (simp only [sm_keep] <;> (repeat (first | rw [if_pos (by omega)] | rw [if_neg (by omega)])) <;> first | rfl | (congr 1; omega))))
    · skip
      refine g_ldc2 (v := -9000000000000000001) ok dX8_keep_24 wd4_69 (by decide +kernel) ?_
      exact g_lret ok hq dX8_keep_27 (ansL (by (simp only [rm_keep, BAD, NO, FULL, NONE, NOTHING, INDEX, SIZE] <;> (repeat (first | rw [if_pos (by omega)] | rw [if_neg (by omega)])) <;> omega)) (by (simp only [sm_keep] <;> (repeat (first | rw [if_pos (by omega)] | rw [if_neg (by omega)])) <;> first | rfl | (congr 1; omega))))

set_option maxRecDepth 100000 in
set_option maxHeartbeats 4000000 in
theorem c_X8_lose (X : XW) (l : Launch) (σ : Mm) (z1 : Int) (rz1 : R32 z1) : Ct X l yX8_lose cX8_lose 4 (Option.some FieldType.long) 2 45 σ [.inr (.inr (28, 0)), .inl z1] (Ans (some (.inr (.inl (rm_lose σ z1)))) (sm_lose σ z1)) := by
  refine Ct.intro (own := RX8) (by decide) rfl (Nat.le_of_ble_eq_true rfl) (fun M hM ok hq => ?_)
  subst hM
  have rz1l := rz1.1
  have rz1r := rz1.2
  show G X M cX8_lose 4 σ 0 [(0, .inr (.inr (28, 0))), (1, .inl z1)] []
  refine g_iload_n ok dX8_lose_0 rfl rfl ?_
  refine g_cS ok dX8_lose_1 ms_X8_96 (c_X8_isWorld X _ _ _ ⟨by omega, by omega⟩) rfl (by decide) rfl (Nat.le_of_ble_eq_true rfl) ?_
  refine g_ifb_ne (tgt := 11) ok dX8_lose_4 (by decide) (fun c1 => ?_) (fun c1 => ?_)
  · skip
    refine g_aload_n ok dX8_lose_11 rfl rfl ?_
    refine g_getr ok dX8_lose_12 fl_X8_21 (Vd.one rfl) rfl rfl ?_
    refine g_iload_n ok dX8_lose_15 rfl rfl ?_
    refine g_iald ok dX8_lose_16 (Vd.one rfl) (fun _ => rfl) ⟨by omega, by omega⟩ (by decide) rfl (fun h2 h3 => ?_)
    refine g_if_ge (tgt := 24) ok dX8_lose_17 (by decide) ⟨by omega, by omega⟩ (fun c4 => ?_) (fun c4 => ?_)
    · skip
      refine g_aload_n ok dX8_lose_24 rfl rfl ?_
      refine g_getr ok dX8_lose_25 fl_X8_24 (Vd.one rfl) rfl rfl ?_
      refine g_iload_n ok dX8_lose_28 rfl rfl ?_
      refine g_iald ok dX8_lose_29 (Vd.one rfl) (fun _ => rfl) ⟨by omega, by omega⟩ (by decide) rfl (fun h5 h6 => ?_)
      refine g_i2l ok dX8_lose_30 ⟨by omega, by omega⟩ ?_
      refine g_lstore_n ok dX8_lose_31 rfl (Nat.le_of_ble_eq_true rfl) ?_
      refine g_aload_n ok dX8_lose_32 rfl rfl ?_
      refine g_getr ok dX8_lose_33 fl_X8_21 (Vd.one rfl) rfl rfl ?_
      refine g_iload_n ok dX8_lose_36 rfl rfl ?_
      refine g_iconst (v := -1) ok dX8_lose_37 (by decide +kernel) ?_
      refine g_iast ok dX8_lose_38 (Vd.one rfl) (fun _ => rfl) ⟨by omega, by omega⟩ (by decide) rfl ⟨by omega, by omega⟩ ?_
      refine g_aload_n ok dX8_lose_39 rfl rfl ?_
      refine g_getr ok dX8_lose_40 fl_X8_24 (Vd.one rfl) rfl rfl ?_
      refine g_iload_n ok dX8_lose_43 rfl rfl ?_
      refine g_iconst (v := 0) ok dX8_lose_44 (by decide +kernel) ?_
      refine g_iast ok dX8_lose_45 (Vd.one rfl) (fun _ => rfl) ⟨by omega, by omega⟩ (by decide) rfl ⟨by omega, by omega⟩ ?_
      refine g_lload_n ok dX8_lose_46 rfl rfl ?_
      exact g_lret ok hq dX8_lose_47 (ansL (by (simp only [rm_lose, BAD, NO, FULL, NONE, NOTHING, INDEX, SIZE] <;> (repeat (first | rw [if_pos (by omega)] | rw [if_neg (by omega)])) <;> omega)) (by (simp only [sm_lose] <;> (repeat (first | rw [if_pos (by omega)] | rw [if_neg (by omega)])) <;> first | rfl | (congr 1; omega))))
    · skip
      refine g_ldc2 (v := -9000000000000000011) ok dX8_lose_20 wd4_94 (by decide +kernel) ?_
      exact g_lret ok hq dX8_lose_23 (ansL (by (simp only [rm_lose, BAD, NO, FULL, NONE, NOTHING, INDEX, SIZE] <;> (repeat (first | rw [if_pos (by omega)] | rw [if_neg (by omega)])) <;> omega)) (by (simp only [sm_lose] <;> (repeat (first | rw [if_pos (by omega)] | rw [if_neg (by omega)])) <;> first | rfl | (congr 1; omega))))
  · skip
    refine g_ldc2 (v := -9000000000000000001) ok dX8_lose_7 wd4_69 (by decide +kernel) ?_
    exact g_lret ok hq dX8_lose_10 (ansL (by (simp only [rm_lose, BAD, NO, FULL, NONE, NOTHING, INDEX, SIZE] <;> (repeat (first | rw [if_pos (by omega)] | rw [if_neg (by omega)])) <;> omega)) (by (simp only [sm_lose] <;> (repeat (first | rw [if_pos (by omega)] | rw [if_neg (by omega)])) <;> first | rfl | (congr 1; omega))))

set_option maxRecDepth 100000 in
set_option maxHeartbeats 4000000 in
theorem c_X8_price (X : XW) (l : Launch) (σ : Mm) (z1 z2 z3 : Int) (rz1 : R32 z1) (rz2 : R32 z2) (rz3 : R32 z3) (hP : MP σ) : Ct X l yX8_price cX8_price 7 (Option.some FieldType.long) 2 45 σ [.inr (.inr (28, 0)), .inl z1, .inl z2, .inl z3] (Ans (some (.inr (.inl (rm_price σ z1 z2 z3)))) (sm_price σ z1 z2 z3)) := by
  refine Ct.intro (own := RX8) (by decide) rfl (Nat.le_of_ble_eq_true rfl) (fun M hM ok hq => ?_)
  subst hM
  have rz1l := rz1.1
  have rz1r := rz1.2
  have rz2l := rz2.1
  have rz2r := rz2.2
  have rz3l := rz3.1
  have rz3r := rz3.2
  show G X M cX8_price 7 σ 0 [(0, .inr (.inr (28, 0))), (1, .inl z1), (2, .inl z2), (3, .inl z3)] []
  have aP := hP.1 z1
  have aL := limZ_b (σ 31 0 z1)
  refine g_iload_n ok dX8_price_0 rfl rfl ?_
  refine g_cS ok dX8_price_1 ms_X8_96 (c_X8_isWorld X _ _ _ ⟨by omega, by omega⟩) rfl (by decide) rfl (Nat.le_of_ble_eq_true rfl) ?_
  refine g_ifb_ne (tgt := 11) ok dX8_price_4 (by decide) (fun c1 => ?_) (fun c1 => ?_)
  · skip
    refine g_aload_n ok dX8_price_11 rfl rfl ?_
    refine g_getr ok dX8_price_12 fl_X8_21 (Vd.one rfl) rfl rfl ?_
    refine g_iload_n ok dX8_price_15 rfl rfl ?_
    refine g_iald ok dX8_price_16 (Vd.one rfl) (fun _ => rfl) ⟨by omega, by omega⟩ (by decide) rfl (fun h2 h3 => ?_)
    refine g_if_ge (tgt := 24) ok dX8_price_17 (by decide) ⟨by omega, by omega⟩ (fun c4 => ?_) (fun c4 => ?_)
    · skip
      refine g_iload_n ok dX8_price_24 rfl rfl ?_
      refine g_i2l ok dX8_price_25 ⟨by omega, by omega⟩ ?_
      refine g_lconst (v := 0) ok dX8_price_26 (by decide +kernel) ?_
      refine g_aload_n ok dX8_price_27 rfl rfl ?_
      refine g_getr ok dX8_price_28 fl_X8_24 (Vd.one rfl) rfl rfl ?_
      refine g_iload_n ok dX8_price_31 rfl rfl ?_
      refine g_iald ok dX8_price_32 (Vd.one rfl) (fun _ => rfl) ⟨by omega, by omega⟩ (by decide) rfl (fun h5 h6 => ?_)
      refine g_iconst (v := 1) ok dX8_price_33 (by decide +kernel) ?_
      refine g_isub ok dX8_price_34 ?_
      refine g_i2l ok dX8_price_35 ⟨by omega, by omega⟩ ?_
      refine g_cS ok dX8_price_36 ms_X8_81 (c_X8_isIn X _ _ _ _ _ ⟨by omega, by omega⟩ ⟨by omega, by omega⟩ ⟨by omega, by omega⟩) rfl (by decide) rfl (Nat.le_of_ble_eq_true rfl) ?_
      refine g_ifb_ne (tgt := 46) ok dX8_price_39 (by decide) (fun c7 => ?_) (fun c7 => ?_)
      · skip
        refine g_aload_n ok dX8_price_46 rfl rfl ?_
        refine g_getr ok dX8_price_47 fl_X8_21 (Vd.one rfl) rfl rfl ?_
        refine g_iload_n ok dX8_price_50 rfl rfl ?_
        refine g_iald ok dX8_price_51 (Vd.one rfl) (fun _ => rfl) ⟨by omega, by omega⟩ (by decide) rfl (fun h8 h9 => ?_)
        refine g_if_ne (tgt := 60) ok dX8_price_52 (by decide) ⟨by omega, by omega⟩ (fun c10 => ?_) (fun c10 => ?_)
        · skip
          refine g_aload_n ok dX8_price_60 rfl rfl ?_
          refine g_getr ok dX8_price_61 fl_X8_21 (Vd.one rfl) rfl rfl ?_
          refine g_iload_n ok dX8_price_64 rfl rfl ?_
          refine g_iald ok dX8_price_65 (Vd.one rfl) (fun _ => rfl) ⟨by omega, by omega⟩ (by decide) rfl (fun h11 h12 => ?_)
          refine g_iconst (v := 1) ok dX8_price_66 (by decide +kernel) ?_
          refine g_icmp_ne (tgt := 76) ok dX8_price_67 (by decide) ⟨by omega, by omega⟩ ⟨by omega, by omega⟩ (fun c13 => ?_) (fun c13 => ?_)
          · skip
            refine g_sipush (v := 10000) ok dX8_price_76 (by decide +kernel) ?_
            refine g_istore ok dX8_price_79 (Nat.le_of_ble_eq_true rfl) ?_
            refine g_iload_n ok dX8_price_81 rfl rfl ?_
            refine g_i2l ok dX8_price_82 ⟨by omega, by omega⟩ ?_
            refine g_iload ok dX8_price_83 rfl ?_
            refine g_ineg ok dX8_price_85 ?_
            refine g_i2l ok dX8_price_86 ⟨by omega, by omega⟩ ?_
            refine g_iload ok dX8_price_87 rfl ?_
            refine g_i2l ok dX8_price_89 ⟨by omega, by omega⟩ ?_
            refine g_cS ok dX8_price_90 ms_X8_81 (c_X8_isIn X _ _ _ _ _ ⟨by omega, by omega⟩ ⟨by omega, by omega⟩ ⟨by omega, by omega⟩) rfl (by decide) rfl (Nat.le_of_ble_eq_true rfl) ?_
            refine g_ifb_ne (tgt := 100) ok dX8_price_93 (by decide) (fun c14 => ?_) (fun c14 => ?_)
            · skip
              refine g_aload_n ok dX8_price_100 rfl rfl ?_
              refine g_getr ok dX8_price_101 fl_X8_27 (Vd.one rfl) rfl rfl ?_
              refine g_bipush (v := 36) ok dX8_price_104 (by decide +kernel) ?_
              refine g_iload_n ok dX8_price_106 rfl rfl ?_
              refine g_imul ok dX8_price_107 ?_
              refine g_iload_n ok dX8_price_108 rfl rfl ?_
              refine g_iadd ok dX8_price_109 ?_
              refine g_iald ok dX8_price_110 (Vd.one rfl) (fun _ => rfl) ⟨by omega, by omega⟩ (by decide) rfl (fun h15 h16 => ?_)
              refine g_i2l ok dX8_price_111 ⟨by omega, by omega⟩ ?_
              refine g_lstore ok dX8_price_112 (Nat.le_of_ble_eq_true rfl) ?_
              refine g_aload_n ok dX8_price_114 rfl rfl ?_
              refine g_getr ok dX8_price_115 fl_X8_27 (Vd.one rfl) rfl rfl ?_
              refine g_bipush (v := 36) ok dX8_price_118 (by decide +kernel) ?_
              refine g_iload_n ok dX8_price_120 rfl rfl ?_
              refine g_imul ok dX8_price_121 ?_
              refine g_iload_n ok dX8_price_122 rfl rfl ?_
              refine g_iadd ok dX8_price_123 ?_
              refine g_iload_n ok dX8_price_124 rfl rfl ?_
              refine g_iast ok dX8_price_125 (Vd.one rfl) (fun _ => rfl) ⟨by omega, by omega⟩ (by decide) rfl ⟨by omega, by omega⟩ ?_
              refine g_lload ok dX8_price_126 rfl ?_
              exact g_lret ok hq dX8_price_128 (ansL (by (simp only [rm_price, BAD, NO, FULL, NONE, NOTHING, INDEX, SIZE] <;> (repeat (first | rw [if_pos (by omega)] | rw [if_neg (by omega)])) <;> omega)) (by (simp only [sm_price] <;> (repeat (first | rw [if_pos (by omega)] | rw [if_neg (by omega)])) <;> first | rfl | (congr 1; omega))))
            · skip
              refine g_ldc2 (v := -9000000000000000001) ok dX8_price_96 wd4_69 (by decide +kernel) ?_
              exact g_lret ok hq dX8_price_99 (ansL (by (simp only [rm_price, BAD, NO, FULL, NONE, NOTHING, INDEX, SIZE] <;> (repeat (first | rw [if_pos (by omega)] | rw [if_neg (by omega)])) <;> omega)) (by (simp only [sm_price] <;> (repeat (first | rw [if_pos (by omega)] | rw [if_neg (by omega)])) <;> first | rfl | (congr 1; omega))))
          · skip
            refine g_sipush (v := 1000) ok dX8_price_70 (by decide +kernel) ?_
            refine g_goto (tgt := 79) ok dX8_price_73 (by decide) ?_
            refine g_istore ok dX8_price_79 (Nat.le_of_ble_eq_true rfl) ?_
            refine g_iload_n ok dX8_price_81 rfl rfl ?_
            refine g_i2l ok dX8_price_82 ⟨by omega, by omega⟩ ?_
            refine g_iload ok dX8_price_83 rfl ?_
            refine g_ineg ok dX8_price_85 ?_
            refine g_i2l ok dX8_price_86 ⟨by omega, by omega⟩ ?_
            refine g_iload ok dX8_price_87 rfl ?_
            refine g_i2l ok dX8_price_89 ⟨by omega, by omega⟩ ?_
            refine g_cS ok dX8_price_90 ms_X8_81 (c_X8_isIn X _ _ _ _ _ ⟨by omega, by omega⟩ ⟨by omega, by omega⟩ ⟨by omega, by omega⟩) rfl (by decide) rfl (Nat.le_of_ble_eq_true rfl) ?_
            refine g_ifb_ne (tgt := 100) ok dX8_price_93 (by decide) (fun c17 => ?_) (fun c17 => ?_)
            · skip
              refine g_aload_n ok dX8_price_100 rfl rfl ?_
              refine g_getr ok dX8_price_101 fl_X8_27 (Vd.one rfl) rfl rfl ?_
              refine g_bipush (v := 36) ok dX8_price_104 (by decide +kernel) ?_
              refine g_iload_n ok dX8_price_106 rfl rfl ?_
              refine g_imul ok dX8_price_107 ?_
              refine g_iload_n ok dX8_price_108 rfl rfl ?_
              refine g_iadd ok dX8_price_109 ?_
              refine g_iald ok dX8_price_110 (Vd.one rfl) (fun _ => rfl) ⟨by omega, by omega⟩ (by decide) rfl (fun h18 h19 => ?_)
              refine g_i2l ok dX8_price_111 ⟨by omega, by omega⟩ ?_
              refine g_lstore ok dX8_price_112 (Nat.le_of_ble_eq_true rfl) ?_
              refine g_aload_n ok dX8_price_114 rfl rfl ?_
              refine g_getr ok dX8_price_115 fl_X8_27 (Vd.one rfl) rfl rfl ?_
              refine g_bipush (v := 36) ok dX8_price_118 (by decide +kernel) ?_
              refine g_iload_n ok dX8_price_120 rfl rfl ?_
              refine g_imul ok dX8_price_121 ?_
              refine g_iload_n ok dX8_price_122 rfl rfl ?_
              refine g_iadd ok dX8_price_123 ?_
              refine g_iload_n ok dX8_price_124 rfl rfl ?_
              refine g_iast ok dX8_price_125 (Vd.one rfl) (fun _ => rfl) ⟨by omega, by omega⟩ (by decide) rfl ⟨by omega, by omega⟩ ?_
              refine g_lload ok dX8_price_126 rfl ?_
              exact g_lret ok hq dX8_price_128 (ansL (by (simp only [rm_price, BAD, NO, FULL, NONE, NOTHING, INDEX, SIZE] <;> (repeat (first | rw [if_pos (by omega)] | rw [if_neg (by omega)])) <;> omega)) (by (simp only [sm_price] <;> (repeat (first | rw [if_pos (by omega)] | rw [if_neg (by omega)])) <;> first | rfl | (congr 1; omega))))
            · skip
              refine g_ldc2 (v := -9000000000000000001) ok dX8_price_96 wd4_69 (by decide +kernel) ?_
              exact g_lret ok hq dX8_price_99 (ansL (by (simp only [rm_price, BAD, NO, FULL, NONE, NOTHING, INDEX, SIZE] <;> (repeat (first | rw [if_pos (by omega)] | rw [if_neg (by omega)])) <;> omega)) (by (simp only [sm_price] <;> (repeat (first | rw [if_pos (by omega)] | rw [if_neg (by omega)])) <;> first | rfl | (congr 1; omega))))
        · skip
          refine g_bipush (v := 100) ok dX8_price_55 (by decide +kernel) ?_
          refine g_goto (tgt := 79) ok dX8_price_57 (by decide) ?_
          refine g_istore ok dX8_price_79 (Nat.le_of_ble_eq_true rfl) ?_
          refine g_iload_n ok dX8_price_81 rfl rfl ?_
          refine g_i2l ok dX8_price_82 ⟨by omega, by omega⟩ ?_
          refine g_iload ok dX8_price_83 rfl ?_
          refine g_ineg ok dX8_price_85 ?_
          refine g_i2l ok dX8_price_86 ⟨by omega, by omega⟩ ?_
          refine g_iload ok dX8_price_87 rfl ?_
          refine g_i2l ok dX8_price_89 ⟨by omega, by omega⟩ ?_
          refine g_cS ok dX8_price_90 ms_X8_81 (c_X8_isIn X _ _ _ _ _ ⟨by omega, by omega⟩ ⟨by omega, by omega⟩ ⟨by omega, by omega⟩) rfl (by decide) rfl (Nat.le_of_ble_eq_true rfl) ?_
          refine g_ifb_ne (tgt := 100) ok dX8_price_93 (by decide) (fun c20 => ?_) (fun c20 => ?_)
          · skip
            refine g_aload_n ok dX8_price_100 rfl rfl ?_
            refine g_getr ok dX8_price_101 fl_X8_27 (Vd.one rfl) rfl rfl ?_
            refine g_bipush (v := 36) ok dX8_price_104 (by decide +kernel) ?_
            refine g_iload_n ok dX8_price_106 rfl rfl ?_
            refine g_imul ok dX8_price_107 ?_
            refine g_iload_n ok dX8_price_108 rfl rfl ?_
            refine g_iadd ok dX8_price_109 ?_
            refine g_iald ok dX8_price_110 (Vd.one rfl) (fun _ => rfl) ⟨by omega, by omega⟩ (by decide) rfl (fun h21 h22 => ?_)
            refine g_i2l ok dX8_price_111 ⟨by omega, by omega⟩ ?_
            refine g_lstore ok dX8_price_112 (Nat.le_of_ble_eq_true rfl) ?_
            refine g_aload_n ok dX8_price_114 rfl rfl ?_
            refine g_getr ok dX8_price_115 fl_X8_27 (Vd.one rfl) rfl rfl ?_
            refine g_bipush (v := 36) ok dX8_price_118 (by decide +kernel) ?_
            refine g_iload_n ok dX8_price_120 rfl rfl ?_
            refine g_imul ok dX8_price_121 ?_
            refine g_iload_n ok dX8_price_122 rfl rfl ?_
            refine g_iadd ok dX8_price_123 ?_
            refine g_iload_n ok dX8_price_124 rfl rfl ?_
            refine g_iast ok dX8_price_125 (Vd.one rfl) (fun _ => rfl) ⟨by omega, by omega⟩ (by decide) rfl ⟨by omega, by omega⟩ ?_
            refine g_lload ok dX8_price_126 rfl ?_
            exact g_lret ok hq dX8_price_128 (ansL (by (simp only [rm_price, BAD, NO, FULL, NONE, NOTHING, INDEX, SIZE] <;> (repeat (first | rw [if_pos (by omega)] | rw [if_neg (by omega)])) <;> omega)) (by (simp only [sm_price] <;> (repeat (first | rw [if_pos (by omega)] | rw [if_neg (by omega)])) <;> first | rfl | (congr 1; omega))))
          · skip
            refine g_ldc2 (v := -9000000000000000001) ok dX8_price_96 wd4_69 (by decide +kernel) ?_
            exact g_lret ok hq dX8_price_99 (ansL (by (simp only [rm_price, BAD, NO, FULL, NONE, NOTHING, INDEX, SIZE] <;> (repeat (first | rw [if_pos (by omega)] | rw [if_neg (by omega)])) <;> omega)) (by (simp only [sm_price] <;> (repeat (first | rw [if_pos (by omega)] | rw [if_neg (by omega)])) <;> first | rfl | (congr 1; omega))))
      · skip
        refine g_ldc2 (v := -9000000000000000013) ok dX8_price_42 wd4_99 (by decide +kernel) ?_
        exact g_lret ok hq dX8_price_45 (ansL (by (simp only [rm_price, BAD, NO, FULL, NONE, NOTHING, INDEX, SIZE] <;> (repeat (first | rw [if_pos (by omega)] | rw [if_neg (by omega)])) <;> omega)) (by (simp only [sm_price] <;> (repeat (first | rw [if_pos (by omega)] | rw [if_neg (by omega)])) <;> first | rfl | (congr 1; omega))))
    · skip
      refine g_ldc2 (v := -9000000000000000011) ok dX8_price_20 wd4_94 (by decide +kernel) ?_
      exact g_lret ok hq dX8_price_23 (ansL (by (simp only [rm_price, BAD, NO, FULL, NONE, NOTHING, INDEX, SIZE] <;> (repeat (first | rw [if_pos (by omega)] | rw [if_neg (by omega)])) <;> omega)) (by (simp only [sm_price] <;> (repeat (first | rw [if_pos (by omega)] | rw [if_neg (by omega)])) <;> first | rfl | (congr 1; omega))))
  · skip
    refine g_ldc2 (v := -9000000000000000001) ok dX8_price_7 wd4_69 (by decide +kernel) ?_
    exact g_lret ok hq dX8_price_10 (ansL (by (simp only [rm_price, BAD, NO, FULL, NONE, NOTHING, INDEX, SIZE] <;> (repeat (first | rw [if_pos (by omega)] | rw [if_neg (by omega)])) <;> omega)) (by (simp only [sm_price] <;> (repeat (first | rw [if_pos (by omega)] | rw [if_neg (by omega)])) <;> first | rfl | (congr 1; omega))))

set_option maxRecDepth 100000 in
set_option maxHeartbeats 4000000 in
theorem c_X8_told (X : XW) (l : Launch) (σ : Mm) (z1 z2 : Int) (rz1 : R32 z1) (rz2 : R32 z2) (hP : MP σ) : Ct X l yX8_told cX8_told 3 (Option.some FieldType.long) 2 45 σ [.inr (.inr (28, 0)), .inl z1, .inl z2] (Ans (some (.inr (.inl (rm_told σ z1 z2)))) (σ)) := by
  refine Ct.intro (own := RX8) (by decide) rfl (Nat.le_of_ble_eq_true rfl) (fun M hM ok hq => ?_)
  subst hM
  have rz1l := rz1.1
  have rz1r := rz1.2
  have rz2l := rz2.1
  have rz2r := rz2.2
  show G X M cX8_told 3 σ 0 [(0, .inr (.inr (28, 0))), (1, .inl z1), (2, .inl z2)] []
  have aP := pM_b hP z1 z2
  refine g_iload_n ok dX8_told_0 rfl rfl ?_
  refine g_cS ok dX8_told_1 ms_X8_96 (c_X8_isWorld X _ _ _ ⟨by omega, by omega⟩) rfl (by decide) rfl (Nat.le_of_ble_eq_true rfl) ?_
  refine g_ifb_eq (tgt := 29) ok dX8_told_4 (by decide) (fun c1 => ?_) (fun c1 => ?_)
  · skip
    refine g_ldc2 (v := -9000000000000000001) ok dX8_told_29 wd4_69 (by decide +kernel) ?_
    exact g_lret ok hq dX8_told_32 (ansL (by (simp only [rm_told, BAD, NO, FULL, NONE, NOTHING, INDEX, SIZE] <;> (repeat (first | rw [if_pos (by omega)] | rw [if_neg (by omega)])) <;> omega)) (by rfl))
  · skip
    refine g_iload_n ok dX8_told_7 rfl rfl ?_
    refine g_i2l ok dX8_told_8 ⟨by omega, by omega⟩ ?_
    refine g_lconst (v := 0) ok dX8_told_9 (by decide +kernel) ?_
    refine g_ldc2 (v := 35) ok dX8_told_10 wd4_74 (by decide +kernel) ?_
    refine g_cS ok dX8_told_13 ms_X8_81 (c_X8_isIn X _ _ _ _ _ ⟨by omega, by omega⟩ ⟨by omega, by omega⟩ ⟨by omega, by omega⟩) rfl (by decide) rfl (Nat.le_of_ble_eq_true rfl) ?_
    refine g_ifb_eq (tgt := 29) ok dX8_told_16 (by decide) (fun c2 => ?_) (fun c2 => ?_)
    · skip
      refine g_ldc2 (v := -9000000000000000001) ok dX8_told_29 wd4_69 (by decide +kernel) ?_
      exact g_lret ok hq dX8_told_32 (ansL (by (simp only [rm_told, BAD, NO, FULL, NONE, NOTHING, INDEX, SIZE] <;> (repeat (first | rw [if_pos (by omega)] | rw [if_neg (by omega)])) <;> omega)) (by rfl))
    · skip
      refine g_aload_n ok dX8_told_19 rfl rfl ?_
      refine g_iload_n ok dX8_told_20 rfl rfl ?_
      refine g_iload_n ok dX8_told_21 rfl rfl ?_
      refine g_cV ok dX8_told_22 mv_X8_110 (c_X8_priceOf X _ _ _ _ (by omega) (by omega) (by omega) (by omega) hP) rfl (Vd.one rfl) rfl rfl (by decide) rfl (Nat.le_of_ble_eq_true rfl) ?_
      refine g_i2l ok dX8_told_25 ⟨by omega, by omega⟩ ?_
      refine g_goto (tgt := 32) ok dX8_told_26 (by decide) ?_
      exact g_lret ok hq dX8_told_32 (ansL (by (simp only [rm_told, BAD, NO, FULL, NONE, NOTHING, INDEX, SIZE] <;> (repeat (first | rw [if_pos (by omega)] | rw [if_neg (by omega)])) <;> omega)) (by rfl))

set_option maxRecDepth 100000 in
set_option maxHeartbeats 4000000 in
theorem c_X8_charge (X : XW) (l : Launch) (σ : Mm) (z1 z2 : Int) (rz1 : R32 z1) (rz2 : R32 z2) (hS : MSt σ) : Ct X l yX8_charge cX8_charge 7 (Option.some FieldType.long) 3 66 σ [.inr (.inr (28, 0)), .inl z1, .inl z2] (Ans (some (.inr (.inl (rm_charge σ z1 z2)))) (sm_charge σ z1 z2)) := by
  refine Ct.intro (own := RX8) (by decide) rfl (Nat.le_of_ble_eq_true rfl) (fun M hM ok hq => ?_)
  subst hM
  have rz1l := rz1.1
  have rz1r := rz1.2
  have rz2l := rz2.1
  have rz2r := rz2.2
  show G X M cX8_charge 7 σ 0 [(0, .inr (.inr (28, 0))), (1, .inl z1), (2, .inl z2)] []
  have aT := bM hS z1
  refine g_aload_n ok dX8_charge_0 rfl rfl ?_
  refine g_iload_n ok dX8_charge_1 rfl rfl ?_
  refine g_cV3 ok dX8_charge_2 mv_X8_142 (c_X8_asked X _ _ _ ⟨by omega, by omega⟩) rfl (Vd.one rfl) rfl rfl (by decide) rfl (Nat.le_of_ble_eq_true rfl) (fun q1 => ?_) (fun q1 => ?_) (fun q1 => ?_)
  · skip
    refine g_lstore_n ok dX8_charge_5 rfl (Nat.le_of_ble_eq_true rfl) ?_
    refine g_lload_n ok dX8_charge_6 rfl rfl ?_
    refine g_lconst (v := 0) ok dX8_charge_7 (by decide +kernel) ?_
    refine g_lcmp_eq (tgt := 14) ok dX8_charge_8 dX8_charge_9 (by decide) ⟨by omega, by omega⟩ ⟨by omega, by omega⟩ (fun c2 => ?_) (fun c2 => ?_)
    · skip
      exfalso
      omega
    · skip
      refine g_lload_n ok dX8_charge_12 rfl rfl ?_
      exact g_lret ok hq dX8_charge_13 (ansL (by (simp only [rm_charge, BAD, NO, FULL, NONE, NOTHING, INDEX, SIZE] <;> (repeat (first | rw [if_pos (by omega)] | rw [if_neg (by omega)])) <;> omega)) (by (simp only [sm_charge] <;> (repeat (first | rw [if_pos (by omega)] | rw [if_neg (by omega)])) <;> first | rfl | (congr 1; omega))))
  · skip
    refine g_lstore_n ok dX8_charge_5 rfl (Nat.le_of_ble_eq_true rfl) ?_
    refine g_lload_n ok dX8_charge_6 rfl rfl ?_
    refine g_lconst (v := 0) ok dX8_charge_7 (by decide +kernel) ?_
    refine g_lcmp_eq (tgt := 14) ok dX8_charge_8 dX8_charge_9 (by decide) ⟨by omega, by omega⟩ ⟨by omega, by omega⟩ (fun c3 => ?_) (fun c3 => ?_)
    · skip
      exfalso
      omega
    · skip
      refine g_lload_n ok dX8_charge_12 rfl rfl ?_
      exact g_lret ok hq dX8_charge_13 (ansL (by (simp only [rm_charge, BAD, NO, FULL, NONE, NOTHING, INDEX, SIZE] <;> (repeat (first | rw [if_pos (by omega)] | rw [if_neg (by omega)])) <;> omega)) (by (simp only [sm_charge] <;> (repeat (first | rw [if_pos (by omega)] | rw [if_neg (by omega)])) <;> first | rfl | (congr 1; omega))))
  · skip
    refine g_lstore_n ok dX8_charge_5 rfl (Nat.le_of_ble_eq_true rfl) ?_
    refine g_lload_n ok dX8_charge_6 rfl rfl ?_
    refine g_lconst (v := 0) ok dX8_charge_7 (by decide +kernel) ?_
    refine g_lcmp_eq (tgt := 14) ok dX8_charge_8 dX8_charge_9 (by decide) ⟨by omega, by omega⟩ ⟨by omega, by omega⟩ (fun c4 => ?_) (fun c4 => ?_)
    · skip
      refine g_iload_n ok dX8_charge_14 rfl rfl ?_
      refine g_i2l ok dX8_charge_15 ⟨by omega, by omega⟩ ?_
      refine g_aload_n ok dX8_charge_16 rfl rfl ?_
      refine g_iload_n ok dX8_charge_17 rfl rfl ?_
      refine g_cV ok dX8_charge_18 mv_X8_132 (c_X8_floorOf X _ _ _ (by omega) (by omega) hS) rfl (Vd.one rfl) rfl rfl (by decide) rfl (Nat.le_of_ble_eq_true rfl) ?_
      refine g_i2l ok dX8_charge_21 ⟨by omega, by omega⟩ ?_
      refine g_aload_n ok dX8_charge_22 rfl rfl ?_
      refine g_iload_n ok dX8_charge_23 rfl rfl ?_
      refine g_cV ok dX8_charge_24 mv_X8_146 (c_X8_topOf X _ _ _ (by omega) (by omega) hS) rfl (Vd.one rfl) rfl rfl (by decide) rfl (Nat.le_of_ble_eq_true rfl) ?_
      refine g_i2l ok dX8_charge_27 ⟨by omega, by omega⟩ ?_
      refine g_cS ok dX8_charge_28 ms_X8_81 (c_X8_isIn X _ _ _ _ _ ⟨by omega, by omega⟩ ⟨by omega, by omega⟩ ⟨by omega, by omega⟩) rfl (by decide) rfl (Nat.le_of_ble_eq_true rfl) ?_
      refine g_ifb_ne (tgt := 38) ok dX8_charge_31 (by decide) (fun c5 => ?_) (fun c5 => ?_)
      · skip
        refine g_aload_n ok dX8_charge_38 rfl rfl ?_
        refine g_getr ok dX8_charge_39 fl_X8_36 (Vd.one rfl) rfl rfl ?_
        refine g_iload_n ok dX8_charge_42 rfl rfl ?_
        refine g_iald ok dX8_charge_43 (Vd.one rfl) (fun _ => rfl) ⟨by omega, by omega⟩ (by decide) rfl (fun h6 h7 => ?_)
        refine g_i2l ok dX8_charge_44 ⟨by omega, by omega⟩ ?_
        refine g_lstore ok dX8_charge_45 (Nat.le_of_ble_eq_true rfl) ?_
        refine g_aload_n ok dX8_charge_47 rfl rfl ?_
        refine g_getr ok dX8_charge_48 fl_X8_36 (Vd.one rfl) rfl rfl ?_
        refine g_iload_n ok dX8_charge_51 rfl rfl ?_
        refine g_iload_n ok dX8_charge_52 rfl rfl ?_
        refine g_iast ok dX8_charge_53 (Vd.one rfl) (fun _ => rfl) ⟨by omega, by omega⟩ (by decide) rfl ⟨by omega, by omega⟩ ?_
        refine g_lload ok dX8_charge_54 rfl ?_
        exact g_lret ok hq dX8_charge_56 (ansL (by (simp only [rm_charge, BAD, NO, FULL, NONE, NOTHING, INDEX, SIZE] <;> (repeat (first | rw [if_pos (by omega)] | rw [if_neg (by omega)])) <;> omega)) (by (simp only [sm_charge] <;> (repeat (first | rw [if_pos (by omega)] | rw [if_neg (by omega)])) <;> first | rfl | (congr 1; omega))))
      · skip
        refine g_ldc2 (v := -9000000000000000001) ok dX8_charge_34 wd4_69 (by decide +kernel) ?_
        exact g_lret ok hq dX8_charge_37 (ansL (by (simp only [rm_charge, BAD, NO, FULL, NONE, NOTHING, INDEX, SIZE] <;> (repeat (first | rw [if_pos (by omega)] | rw [if_neg (by omega)])) <;> omega)) (by (simp only [sm_charge] <;> (repeat (first | rw [if_pos (by omega)] | rw [if_neg (by omega)])) <;> first | rfl | (congr 1; omega))))
    · skip
      exfalso
      omega

set_option maxRecDepth 100000 in
set_option maxHeartbeats 4000000 in
theorem c_X8_end (X : XW) (l : Launch) (σ : Mm) (z1 z2 : Int) (rz1 : R32 z1) (rz2 : R32 z2) : Ct X l yX8_end cX8_end 5 (Option.some FieldType.long) 2 45 σ [.inr (.inr (28, 0)), .inl z1, .inl z2] (Ans (some (.inr (.inl (rm_end σ z1 z2)))) (sm_end σ z1 z2)) := by
  refine Ct.intro (own := RX8) (by decide) rfl (Nat.le_of_ble_eq_true rfl) (fun M hM ok hq => ?_)
  subst hM
  have rz1l := rz1.1
  have rz1r := rz1.2
  have rz2l := rz2.1
  have rz2r := rz2.2
  show G X M cX8_end 5 σ 0 [(0, .inr (.inr (28, 0))), (1, .inl z1), (2, .inl z2)] []
  refine g_iload_n ok dX8_end_0 rfl rfl ?_
  refine g_cS ok dX8_end_1 ms_X8_124 (c_X8_isStore X _ _ _ ⟨by omega, by omega⟩) rfl (by decide) rfl (Nat.le_of_ble_eq_true rfl) ?_
  refine g_ifb_eq (tgt := 19) ok dX8_end_4 (by decide) (fun c1 => ?_) (fun c1 => ?_)
  · skip
    refine g_ldc2 (v := -9000000000000000001) ok dX8_end_19 wd4_69 (by decide +kernel) ?_
    exact g_lret ok hq dX8_end_22 (ansL (by (simp only [rm_end, BAD, NO, FULL, NONE, NOTHING, INDEX, SIZE] <;> (repeat (first | rw [if_pos (by omega)] | rw [if_neg (by omega)])) <;> omega)) (by (simp only [sm_end] <;> (repeat (first | rw [if_pos (by omega)] | rw [if_neg (by omega)])) <;> first | rfl | (congr 1; omega))))
  · skip
    refine g_iload_n ok dX8_end_7 rfl rfl ?_
    refine g_i2l ok dX8_end_8 ⟨by omega, by omega⟩ ?_
    refine g_lconst (v := 0) ok dX8_end_9 (by decide +kernel) ?_
    refine g_ldc2 (v := 60) ok dX8_end_10 wd4_126 (by decide +kernel) ?_
    refine g_cS ok dX8_end_13 ms_X8_81 (c_X8_isIn X _ _ _ _ _ ⟨by omega, by omega⟩ ⟨by omega, by omega⟩ ⟨by omega, by omega⟩) rfl (by decide) rfl (Nat.le_of_ble_eq_true rfl) ?_
    refine g_ifb_ne (tgt := 23) ok dX8_end_16 (by decide) (fun c2 => ?_) (fun c2 => ?_)
    · skip
      refine g_aload_n ok dX8_end_23 rfl rfl ?_
      refine g_getr ok dX8_end_24 fl_X8_30 (Vd.one rfl) rfl rfl ?_
      refine g_iload_n ok dX8_end_27 rfl rfl ?_
      refine g_iald ok dX8_end_28 (Vd.one rfl) (fun _ => rfl) ⟨by omega, by omega⟩ (by decide) rfl (fun h3 h4 => ?_)
      refine g_if_ge (tgt := 36) ok dX8_end_29 (by decide) ⟨by omega, by omega⟩ (fun c5 => ?_) (fun c5 => ?_)
      · skip
        refine g_aload_n ok dX8_end_36 rfl rfl ?_
        refine g_getr ok dX8_end_37 fl_X8_51 (Vd.one rfl) rfl rfl ?_
        refine g_iload_n ok dX8_end_40 rfl rfl ?_
        refine g_iald ok dX8_end_41 (Vd.one rfl) (fun _ => rfl) ⟨by omega, by omega⟩ (by decide) rfl (fun h6 h7 => ?_)
        refine g_i2l ok dX8_end_42 ⟨by omega, by omega⟩ ?_
        refine g_lstore_n ok dX8_end_43 rfl (Nat.le_of_ble_eq_true rfl) ?_
        refine g_aload_n ok dX8_end_44 rfl rfl ?_
        refine g_getr ok dX8_end_45 fl_X8_51 (Vd.one rfl) rfl rfl ?_
        refine g_iload_n ok dX8_end_48 rfl rfl ?_
        refine g_iload_n ok dX8_end_49 rfl rfl ?_
        refine g_iast ok dX8_end_50 (Vd.one rfl) (fun _ => rfl) ⟨by omega, by omega⟩ (by decide) rfl ⟨by omega, by omega⟩ ?_
        refine g_lload_n ok dX8_end_51 rfl rfl ?_
        exact g_lret ok hq dX8_end_52 (ansL (by (simp only [rm_end, BAD, NO, FULL, NONE, NOTHING, INDEX, SIZE] <;> (repeat (first | rw [if_pos (by omega)] | rw [if_neg (by omega)])) <;> omega)) (by (simp only [sm_end] <;> (repeat (first | rw [if_pos (by omega)] | rw [if_neg (by omega)])) <;> first | rfl | (congr 1; omega))))
      · skip
        refine g_ldc2 (v := -9000000000000000002) ok dX8_end_32 wd4_104 (by decide +kernel) ?_
        exact g_lret ok hq dX8_end_35 (ansL (by (simp only [rm_end, BAD, NO, FULL, NONE, NOTHING, INDEX, SIZE] <;> (repeat (first | rw [if_pos (by omega)] | rw [if_neg (by omega)])) <;> omega)) (by (simp only [sm_end] <;> (repeat (first | rw [if_pos (by omega)] | rw [if_neg (by omega)])) <;> first | rfl | (congr 1; omega))))
    · skip
      refine g_ldc2 (v := -9000000000000000001) ok dX8_end_19 wd4_69 (by decide +kernel) ?_
      exact g_lret ok hq dX8_end_22 (ansL (by (simp only [rm_end, BAD, NO, FULL, NONE, NOTHING, INDEX, SIZE] <;> (repeat (first | rw [if_pos (by omega)] | rw [if_neg (by omega)])) <;> omega)) (by (simp only [sm_end] <;> (repeat (first | rw [if_pos (by omega)] | rw [if_neg (by omega)])) <;> first | rfl | (congr 1; omega))))

set_option maxRecDepth 100000 in
set_option maxHeartbeats 4000000 in
theorem c_X8_about (X : XW) (l : Launch) (σ : Mm) (z1 z2 : Int) (rz1 : R32 z1) (rz2 : R32 z2) (hS : MSt σ) : Ct X l yX8_about cX8_about 3 (Option.some FieldType.long) 2 45 σ [.inr (.inr (28, 0)), .inl z1, .inl z2] (Ans (some (.inr (.inl (rm_about σ z1 z2)))) (σ)) := by
  refine Ct.intro (own := RX8) (by decide) rfl (Nat.le_of_ble_eq_true rfl) (fun M hM ok hq => ?_)
  subst hM
  have rz1l := rz1.1
  have rz1r := rz1.2
  have rz2l := rz2.1
  have rz2r := rz2.2
  show G X M cX8_about 3 σ 0 [(0, .inr (.inr (28, 0))), (1, .inl z1), (2, .inl z2)] []
  have aT := bM hS z1
  have aS := hS z1
  refine g_iload_n ok dX8_about_0 rfl rfl ?_
  refine g_cS ok dX8_about_1 ms_X8_124 (c_X8_isStore X _ _ _ ⟨by omega, by omega⟩) rfl (by decide) rfl (Nat.le_of_ble_eq_true rfl) ?_
  refine g_ifb_eq (tgt := 19) ok dX8_about_4 (by decide) (fun c1 => ?_) (fun c1 => ?_)
  · skip
    refine g_ldc2 (v := -9000000000000000001) ok dX8_about_19 wd4_69 (by decide +kernel) ?_
    exact g_lret ok hq dX8_about_22 (ansL (by (simp only [rm_about, abM, BAD, NO, FULL, NONE, NOTHING, INDEX, SIZE] <;> (repeat (first | rw [if_pos (by omega)] | rw [if_neg (by omega)])) <;> omega)) (by rfl))
  · skip
    refine g_iload_n ok dX8_about_7 rfl rfl ?_
    refine g_i2l ok dX8_about_8 ⟨by omega, by omega⟩ ?_
    refine g_lconst (v := 0) ok dX8_about_9 (by decide +kernel) ?_
    refine g_ldc2 (v := 10) ok dX8_about_10 wd4_79 (by decide +kernel) ?_
    refine g_cS ok dX8_about_13 ms_X8_81 (c_X8_isIn X _ _ _ _ _ ⟨by omega, by omega⟩ ⟨by omega, by omega⟩ ⟨by omega, by omega⟩) rfl (by decide) rfl (Nat.le_of_ble_eq_true rfl) ?_
    refine g_ifb_ne (tgt := 23) ok dX8_about_16 (by decide) (fun c2 => ?_) (fun c2 => ?_)
    · skip
      refine g_aload_n ok dX8_about_23 rfl rfl ?_
      refine g_getr ok dX8_about_24 fl_X8_30 (Vd.one rfl) rfl rfl ?_
      refine g_iload_n ok dX8_about_27 rfl rfl ?_
      refine g_iald ok dX8_about_28 (Vd.one rfl) (fun _ => rfl) ⟨by omega, by omega⟩ (by decide) rfl (fun h3 h4 => ?_)
      refine g_if_ge (tgt := 36) ok dX8_about_29 (by decide) ⟨by omega, by omega⟩ (fun c5 => ?_) (fun c5 => ?_)
      · skip
        refine g_iload_n ok dX8_about_36 rfl rfl ?_
        rcases (show z2 = 0 ∨ z2 = 1 ∨ z2 = 2 ∨ z2 = 3 ∨ z2 = 4 ∨ z2 = 5 ∨ z2 = 6 ∨ z2 = 7 ∨ z2 = 8 ∨ z2 = 9 ∨ (z2 < 0 ∨ 9 < z2) by omega) with w6 | w6 | w6 | w6 | w6 | w6 | w6 | w6 | w6 | w6 | w6
        · skip
          refine g_tabIn (tgt := 92) ok dX8_about_37 ⟨by omega, by omega⟩ (by omega) (by omega) (off := 55) (by rw [w6]; rfl) (by decide) ?_
          refine g_aload_n ok dX8_about_92 rfl rfl ?_
          refine g_getr ok dX8_about_93 fl_X8_30 (Vd.one rfl) rfl rfl ?_
          refine g_iload_n ok dX8_about_96 rfl rfl ?_
          refine g_iald ok dX8_about_97 (Vd.one rfl) (fun _ => rfl) ⟨by omega, by omega⟩ (by decide) rfl (fun h7 h8 => ?_)
          refine g_i2l ok dX8_about_98 ⟨by omega, by omega⟩ ?_
          exact g_lret ok hq dX8_about_99 (ansL (by (simp only [rm_about, abM, BAD, NO, FULL, NONE, NOTHING, INDEX, SIZE] <;> (repeat (first | rw [if_pos (by omega)] | rw [if_neg (by omega)])) <;> omega)) (by rfl))
        · skip
          refine g_tabIn (tgt := 100) ok dX8_about_37 ⟨by omega, by omega⟩ (by omega) (by omega) (off := 63) (by rw [w6]; rfl) (by decide) ?_
          refine g_aload_n ok dX8_about_100 rfl rfl ?_
          refine g_getr ok dX8_about_101 fl_X8_33 (Vd.one rfl) rfl rfl ?_
          refine g_iload_n ok dX8_about_104 rfl rfl ?_
          refine g_iald ok dX8_about_105 (Vd.one rfl) (fun _ => rfl) ⟨by omega, by omega⟩ (by decide) rfl (fun h9 h10 => ?_)
          refine g_i2l ok dX8_about_106 ⟨by omega, by omega⟩ ?_
          exact g_lret ok hq dX8_about_107 (ansL (by (simp only [rm_about, abM, BAD, NO, FULL, NONE, NOTHING, INDEX, SIZE] <;> (repeat (first | rw [if_pos (by omega)] | rw [if_neg (by omega)])) <;> omega)) (by rfl))
        · skip
          refine g_tabIn (tgt := 108) ok dX8_about_37 ⟨by omega, by omega⟩ (by omega) (by omega) (off := 71) (by rw [w6]; rfl) (by decide) ?_
          refine g_aload_n ok dX8_about_108 rfl rfl ?_
          refine g_getr ok dX8_about_109 fl_X8_36 (Vd.one rfl) rfl rfl ?_
          refine g_iload_n ok dX8_about_112 rfl rfl ?_
          refine g_iald ok dX8_about_113 (Vd.one rfl) (fun _ => rfl) ⟨by omega, by omega⟩ (by decide) rfl (fun h11 h12 => ?_)
          refine g_i2l ok dX8_about_114 ⟨by omega, by omega⟩ ?_
          exact g_lret ok hq dX8_about_115 (ansL (by (simp only [rm_about, abM, BAD, NO, FULL, NONE, NOTHING, INDEX, SIZE] <;> (repeat (first | rw [if_pos (by omega)] | rw [if_neg (by omega)])) <;> omega)) (by rfl))
        · skip
          refine g_tabIn (tgt := 116) ok dX8_about_37 ⟨by omega, by omega⟩ (by omega) (by omega) (off := 79) (by rw [w6]; rfl) (by decide) ?_
          refine g_aload_n ok dX8_about_116 rfl rfl ?_
          refine g_iload_n ok dX8_about_117 rfl rfl ?_
          refine g_cV ok dX8_about_118 mv_X8_149 (c_X8_in X _ _ _ (by omega) (by omega)) rfl (Vd.one rfl) rfl rfl (by decide) rfl (Nat.le_of_ble_eq_true rfl) ?_
          refine g_i2l ok dX8_about_121 ⟨by omega, by omega⟩ ?_
          exact g_lret ok hq dX8_about_122 (ansL (by (simp only [rm_about, abM, BAD, NO, FULL, NONE, NOTHING, INDEX, SIZE] <;> (repeat (first | rw [if_pos (by omega)] | rw [if_neg (by omega)])) <;> omega)) (by rfl))
        · skip
          refine g_tabIn (tgt := 123) ok dX8_about_37 ⟨by omega, by omega⟩ (by omega) (by omega) (off := 86) (by rw [w6]; rfl) (by decide) ?_
          refine g_aload_n ok dX8_about_123 rfl rfl ?_
          refine g_iload_n ok dX8_about_124 rfl rfl ?_
          refine g_cV ok dX8_about_125 mv_X8_152 (c_X8_out X _ _ _ (by omega) (by omega)) rfl (Vd.one rfl) rfl rfl (by decide) rfl (Nat.le_of_ble_eq_true rfl) ?_
          refine g_i2l ok dX8_about_128 ⟨by omega, by omega⟩ ?_
          exact g_lret ok hq dX8_about_129 (ansL (by (simp only [rm_about, abM, BAD, NO, FULL, NONE, NOTHING, INDEX, SIZE] <;> (repeat (first | rw [if_pos (by omega)] | rw [if_neg (by omega)])) <;> omega)) (by rfl))
        · skip
          refine g_tabIn (tgt := 130) ok dX8_about_37 ⟨by omega, by omega⟩ (by omega) (by omega) (off := 93) (by rw [w6]; rfl) (by decide) ?_
          refine g_aload_n ok dX8_about_130 rfl rfl ?_
          refine g_iload_n ok dX8_about_131 rfl rfl ?_
          refine g_cV ok dX8_about_132 mv_X8_155 (c_X8_loss X _ _ _ (by omega) (by omega) hS) rfl (Vd.one rfl) rfl rfl (by decide) rfl (Nat.le_of_ble_eq_true rfl) ?_
          refine g_i2l ok dX8_about_135 ⟨by omega, by omega⟩ ?_
          exact g_lret ok hq dX8_about_136 (ansL (by (simp only [rm_about, abM, BAD, NO, FULL, NONE, NOTHING, INDEX, SIZE] <;> (repeat (first | rw [if_pos (by omega)] | rw [if_neg (by omega)])) <;> omega)) (by rfl))
        · skip
          refine g_tabIn (tgt := 137) ok dX8_about_37 ⟨by omega, by omega⟩ (by omega) (by omega) (off := 100) (by rw [w6]; rfl) (by decide) ?_
          refine g_aload_n ok dX8_about_137 rfl rfl ?_
          refine g_getr ok dX8_about_138 fl_X8_48 (Vd.one rfl) rfl rfl ?_
          refine g_iload_n ok dX8_about_141 rfl rfl ?_
          refine g_iald ok dX8_about_142 (Vd.one rfl) (fun _ => rfl) ⟨by omega, by omega⟩ (by decide) rfl (fun h13 h14 => ?_)
          refine g_i2l ok dX8_about_143 ⟨by omega, by omega⟩ ?_
          exact g_lret ok hq dX8_about_144 (ansL (by (simp only [rm_about, abM, BAD, NO, FULL, NONE, NOTHING, INDEX, SIZE] <;> (repeat (first | rw [if_pos (by omega)] | rw [if_neg (by omega)])) <;> omega)) (by rfl))
        · skip
          refine g_tabIn (tgt := 145) ok dX8_about_37 ⟨by omega, by omega⟩ (by omega) (by omega) (off := 108) (by rw [w6]; rfl) (by decide) ?_
          refine g_aload_n ok dX8_about_145 rfl rfl ?_
          refine g_iload_n ok dX8_about_146 rfl rfl ?_
          refine g_cV ok dX8_about_147 mv_X8_132 (c_X8_floorOf X _ _ _ (by omega) (by omega) hS) rfl (Vd.one rfl) rfl rfl (by decide) rfl (Nat.le_of_ble_eq_true rfl) ?_
          refine g_i2l ok dX8_about_150 ⟨by omega, by omega⟩ ?_
          exact g_lret ok hq dX8_about_151 (ansL (by (simp only [rm_about, abM, BAD, NO, FULL, NONE, NOTHING, INDEX, SIZE] <;> (repeat (first | rw [if_pos (by omega)] | rw [if_neg (by omega)])) <;> omega)) (by rfl))
        · skip
          refine g_tabIn (tgt := 152) ok dX8_about_37 ⟨by omega, by omega⟩ (by omega) (by omega) (off := 115) (by rw [w6]; rfl) (by decide) ?_
          refine g_aload_n ok dX8_about_152 rfl rfl ?_
          refine g_iload_n ok dX8_about_153 rfl rfl ?_
          refine g_cV ok dX8_about_154 mv_X8_146 (c_X8_topOf X _ _ _ (by omega) (by omega) hS) rfl (Vd.one rfl) rfl rfl (by decide) rfl (Nat.le_of_ble_eq_true rfl) ?_
          refine g_i2l ok dX8_about_157 ⟨by omega, by omega⟩ ?_
          exact g_lret ok hq dX8_about_158 (ansL (by (simp only [rm_about, abM, BAD, NO, FULL, NONE, NOTHING, INDEX, SIZE] <;> (repeat (first | rw [if_pos (by omega)] | rw [if_neg (by omega)])) <;> omega)) (by rfl))
        · skip
          refine g_tabIn (tgt := 159) ok dX8_about_37 ⟨by omega, by omega⟩ (by omega) (by omega) (off := 122) (by rw [w6]; rfl) (by decide) ?_
          refine g_aload_n ok dX8_about_159 rfl rfl ?_
          refine g_getr ok dX8_about_160 fl_X8_51 (Vd.one rfl) rfl rfl ?_
          refine g_iload_n ok dX8_about_163 rfl rfl ?_
          refine g_iald ok dX8_about_164 (Vd.one rfl) (fun _ => rfl) ⟨by omega, by omega⟩ (by decide) rfl (fun h15 h16 => ?_)
          refine g_i2l ok dX8_about_165 ⟨by omega, by omega⟩ ?_
          exact g_lret ok hq dX8_about_166 (ansL (by (simp only [rm_about, abM, BAD, NO, FULL, NONE, NOTHING, INDEX, SIZE] <;> (repeat (first | rw [if_pos (by omega)] | rw [if_neg (by omega)])) <;> omega)) (by rfl))
        · skip
          refine g_tabOut (tgt := 167) ok dX8_about_37 ⟨by omega, by omega⟩ (by omega) (by decide) ?_
          refine g_aload_n ok dX8_about_167 rfl rfl ?_
          refine g_getr ok dX8_about_168 fl_X8_54 (Vd.one rfl) rfl rfl ?_
          refine g_iload_n ok dX8_about_171 rfl rfl ?_
          refine g_iald ok dX8_about_172 (Vd.one rfl) (fun _ => rfl) ⟨by omega, by omega⟩ (by decide) rfl (fun h17 h18 => ?_)
          refine g_i2l ok dX8_about_173 ⟨by omega, by omega⟩ ?_
          exact g_lret ok hq dX8_about_174 (ansL (by (simp only [rm_about, abM, BAD, NO, FULL, NONE, NOTHING, INDEX, SIZE] <;> (repeat (first | rw [if_pos (by omega)] | rw [if_neg (by omega)])) <;> omega)) (by rfl))
      · skip
        refine g_ldc2 (v := -9000000000000000002) ok dX8_about_32 wd4_104 (by decide +kernel) ?_
        exact g_lret ok hq dX8_about_35 (ansL (by (simp only [rm_about, abM, BAD, NO, FULL, NONE, NOTHING, INDEX, SIZE] <;> (repeat (first | rw [if_pos (by omega)] | rw [if_neg (by omega)])) <;> omega)) (by rfl))
    · skip
      refine g_ldc2 (v := -9000000000000000001) ok dX8_about_19 wd4_69 (by decide +kernel) ?_
      exact g_lret ok hq dX8_about_22 (ansL (by (simp only [rm_about, abM, BAD, NO, FULL, NONE, NOTHING, INDEX, SIZE] <;> (repeat (first | rw [if_pos (by omega)] | rw [if_neg (by omega)])) <;> omega)) (by rfl))

set_option maxRecDepth 100000 in
set_option maxHeartbeats 4000000 in
theorem c_X8_isOf (X : XW) (l : Launch) (σ : Mm) (z1 z2 : Int) (rz1 : R32 z1) (rz2 : R32 z2) : Ct X l yX8_isOf cX8_isOf 4 (Option.some FieldType.long) 2 45 σ [.inr (.inr (28, 0)), .inl z1, .inl z2] (Ans (some (.inr (.inl (rm_isOf σ z1 z2)))) (σ)) := by
  refine Ct.intro (own := RX8) (by decide) rfl (Nat.le_of_ble_eq_true rfl) (fun M hM ok hq => ?_)
  subst hM
  have rz1l := rz1.1
  have rz1r := rz1.2
  have rz2l := rz2.1
  have rz2r := rz2.2
  show G X M cX8_isOf 4 σ 0 [(0, .inr (.inr (28, 0))), (1, .inl z1), (2, .inl z2)] []
  refine g_iload_n ok dX8_isOf_0 rfl rfl ?_
  refine g_cS ok dX8_isOf_1 ms_X8_124 (c_X8_isStore X _ _ _ ⟨by omega, by omega⟩) rfl (by decide) rfl (Nat.le_of_ble_eq_true rfl) ?_
  refine g_ifb_eq (tgt := 19) ok dX8_isOf_4 (by decide) (fun c1 => ?_) (fun c1 => ?_)
  · skip
    refine g_ldc2 (v := -9000000000000000001) ok dX8_isOf_19 wd4_69 (by decide +kernel) ?_
    exact g_lret ok hq dX8_isOf_22 (ansL (by (simp only [rm_isOf, isPd, BAD, NO, FULL, NONE, NOTHING, INDEX, SIZE] <;> (repeat (first | rw [if_pos (by omega)] | rw [if_neg (by omega)])) <;> omega)) (by rfl))
  · skip
    refine g_iload_n ok dX8_isOf_7 rfl rfl ?_
    refine g_i2l ok dX8_isOf_8 ⟨by omega, by omega⟩ ?_
    refine g_lconst (v := 0) ok dX8_isOf_9 (by decide +kernel) ?_
    refine g_ldc2 (v := 4) ok dX8_isOf_10 wd4_125 (by decide +kernel) ?_
    refine g_cS ok dX8_isOf_13 ms_X8_81 (c_X8_isIn X _ _ _ _ _ ⟨by omega, by omega⟩ ⟨by omega, by omega⟩ ⟨by omega, by omega⟩) rfl (by decide) rfl (Nat.le_of_ble_eq_true rfl) ?_
    refine g_ifb_ne (tgt := 23) ok dX8_isOf_16 (by decide) (fun c2 => ?_) (fun c2 => ?_)
    · skip
      refine g_aload_n ok dX8_isOf_23 rfl rfl ?_
      refine g_getr ok dX8_isOf_24 fl_X8_30 (Vd.one rfl) rfl rfl ?_
      refine g_iload_n ok dX8_isOf_27 rfl rfl ?_
      refine g_iald ok dX8_isOf_28 (Vd.one rfl) (fun _ => rfl) ⟨by omega, by omega⟩ (by decide) rfl (fun h3 h4 => ?_)
      refine g_if_ge (tgt := 36) ok dX8_isOf_29 (by decide) ⟨by omega, by omega⟩ (fun c5 => ?_) (fun c5 => ?_)
      · skip
        refine g_iload_n ok dX8_isOf_36 rfl rfl ?_
        refine g_if_eq (tgt := 76) ok dX8_isOf_37 (by decide) ⟨by omega, by omega⟩ (fun c6 => ?_) (fun c6 => ?_)
        · skip
          refine g_iconst (v := 1) ok dX8_isOf_76 (by decide +kernel) ?_
          refine g_goto (tgt := 81) ok dX8_isOf_77 (by decide) ?_
          refine g_istore_n ok dX8_isOf_81 rfl (Nat.le_of_ble_eq_true rfl) ?_
          refine g_iload_n ok dX8_isOf_82 rfl rfl ?_
          refine g_if_eq (tgt := 90) ok dX8_isOf_83 (by decide) ⟨by omega, by omega⟩ (fun c7 => ?_) (fun c7 => ?_)
          · skip
            exfalso
            omega
          · skip
            refine g_lconst (v := 1) ok dX8_isOf_86 (by decide +kernel) ?_
            refine g_goto (tgt := 91) ok dX8_isOf_87 (by decide) ?_
            exact g_lret ok hq dX8_isOf_91 (ansL (by (simp only [rm_isOf, isPd, BAD, NO, FULL, NONE, NOTHING, INDEX, SIZE] <;> (repeat (first | rw [if_pos (by omega)] | rw [if_neg (by omega)])) <;> omega)) (by rfl))
        · skip
          refine g_aload_n ok dX8_isOf_40 rfl rfl ?_
          refine g_getr ok dX8_isOf_41 fl_X8_30 (Vd.one rfl) rfl rfl ?_
          refine g_iload_n ok dX8_isOf_44 rfl rfl ?_
          refine g_iald ok dX8_isOf_45 (Vd.one rfl) (fun _ => rfl) ⟨by omega, by omega⟩ (by decide) rfl (fun h8 h9 => ?_)
          refine g_iload_n ok dX8_isOf_46 rfl rfl ?_
          refine g_icmp_eq (tgt := 76) ok dX8_isOf_47 (by decide) ⟨by omega, by omega⟩ ⟨by omega, by omega⟩ (fun c10 => ?_) (fun c10 => ?_)
          · skip
            refine g_iconst (v := 1) ok dX8_isOf_76 (by decide +kernel) ?_
            refine g_goto (tgt := 81) ok dX8_isOf_77 (by decide) ?_
            refine g_istore_n ok dX8_isOf_81 rfl (Nat.le_of_ble_eq_true rfl) ?_
            refine g_iload_n ok dX8_isOf_82 rfl rfl ?_
            refine g_if_eq (tgt := 90) ok dX8_isOf_83 (by decide) ⟨by omega, by omega⟩ (fun c11 => ?_) (fun c11 => ?_)
            · skip
              exfalso
              omega
            · skip
              refine g_lconst (v := 1) ok dX8_isOf_86 (by decide +kernel) ?_
              refine g_goto (tgt := 91) ok dX8_isOf_87 (by decide) ?_
              exact g_lret ok hq dX8_isOf_91 (ansL (by (simp only [rm_isOf, isPd, BAD, NO, FULL, NONE, NOTHING, INDEX, SIZE] <;> (repeat (first | rw [if_pos (by omega)] | rw [if_neg (by omega)])) <;> omega)) (by rfl))
          · skip
            refine g_iload_n ok dX8_isOf_50 rfl rfl ?_
            refine g_iconst (v := 1) ok dX8_isOf_51 (by decide +kernel) ?_
            refine g_icmp_ne (tgt := 63) ok dX8_isOf_52 (by decide) ⟨by omega, by omega⟩ ⟨by omega, by omega⟩ (fun c12 => ?_) (fun c12 => ?_)
            · skip
              refine g_iload_n ok dX8_isOf_63 rfl rfl ?_
              refine g_iconst (v := 3) ok dX8_isOf_64 (by decide +kernel) ?_
              refine g_icmp_ne (tgt := 80) ok dX8_isOf_65 (by decide) ⟨by omega, by omega⟩ ⟨by omega, by omega⟩ (fun c13 => ?_) (fun c13 => ?_)
              · skip
                refine g_iconst (v := 0) ok dX8_isOf_80 (by decide +kernel) ?_
                refine g_istore_n ok dX8_isOf_81 rfl (Nat.le_of_ble_eq_true rfl) ?_
                refine g_iload_n ok dX8_isOf_82 rfl rfl ?_
                refine g_if_eq (tgt := 90) ok dX8_isOf_83 (by decide) ⟨by omega, by omega⟩ (fun c14 => ?_) (fun c14 => ?_)
                · skip
                  refine g_lconst (v := 0) ok dX8_isOf_90 (by decide +kernel) ?_
                  exact g_lret ok hq dX8_isOf_91 (ansL (by (simp only [rm_isOf, isPd, BAD, NO, FULL, NONE, NOTHING, INDEX, SIZE] <;> (repeat (first | rw [if_pos (by omega)] | rw [if_neg (by omega)])) <;> omega)) (by rfl))
                · skip
                  exfalso
                  omega
              · skip
                refine g_aload_n ok dX8_isOf_68 rfl rfl ?_
                refine g_iload_n ok dX8_isOf_69 rfl rfl ?_
                refine g_cV ok dX8_isOf_70 mv_X8_139 (c_X8_isOld X _ _ _ (by omega) (by omega)) rfl (Vd.one rfl) rfl rfl (by decide) rfl (Nat.le_of_ble_eq_true rfl) ?_
                refine g_ifb_eq (tgt := 80) ok dX8_isOf_73 (by decide) (fun c15 => ?_) (fun c15 => ?_)
                · skip
                  refine g_iconst (v := 0) ok dX8_isOf_80 (by decide +kernel) ?_
                  refine g_istore_n ok dX8_isOf_81 rfl (Nat.le_of_ble_eq_true rfl) ?_
                  refine g_iload_n ok dX8_isOf_82 rfl rfl ?_
                  refine g_if_eq (tgt := 90) ok dX8_isOf_83 (by decide) ⟨by omega, by omega⟩ (fun c16 => ?_) (fun c16 => ?_)
                  · skip
                    refine g_lconst (v := 0) ok dX8_isOf_90 (by decide +kernel) ?_
                    exact g_lret ok hq dX8_isOf_91 (ansL (by (simp only [rm_isOf, isPd, BAD, NO, FULL, NONE, NOTHING, INDEX, SIZE] <;> (repeat (first | rw [if_pos (by omega)] | rw [if_neg (by omega)])) <;> omega)) (by rfl))
                  · skip
                    exfalso
                    omega
                · skip
                  refine g_iconst (v := 1) ok dX8_isOf_76 (by decide +kernel) ?_
                  refine g_goto (tgt := 81) ok dX8_isOf_77 (by decide) ?_
                  refine g_istore_n ok dX8_isOf_81 rfl (Nat.le_of_ble_eq_true rfl) ?_
                  refine g_iload_n ok dX8_isOf_82 rfl rfl ?_
                  refine g_if_eq (tgt := 90) ok dX8_isOf_83 (by decide) ⟨by omega, by omega⟩ (fun c17 => ?_) (fun c17 => ?_)
                  · skip
                    exfalso
                    omega
                  · skip
                    refine g_lconst (v := 1) ok dX8_isOf_86 (by decide +kernel) ?_
                    refine g_goto (tgt := 91) ok dX8_isOf_87 (by decide) ?_
                    exact g_lret ok hq dX8_isOf_91 (ansL (by (simp only [rm_isOf, isPd, BAD, NO, FULL, NONE, NOTHING, INDEX, SIZE] <;> (repeat (first | rw [if_pos (by omega)] | rw [if_neg (by omega)])) <;> omega)) (by rfl))
            · skip
              refine g_aload_n ok dX8_isOf_55 rfl rfl ?_
              refine g_iload_n ok dX8_isOf_56 rfl rfl ?_
              refine g_cV ok dX8_isOf_57 mv_X8_136 (c_X8_isQuick X _ _ _ (by omega) (by omega)) rfl (Vd.one rfl) rfl rfl (by decide) rfl (Nat.le_of_ble_eq_true rfl) ?_
              refine g_ifb_ne (tgt := 76) ok dX8_isOf_60 (by decide) (fun c18 => ?_) (fun c18 => ?_)
              · skip
                refine g_iconst (v := 1) ok dX8_isOf_76 (by decide +kernel) ?_
                refine g_goto (tgt := 81) ok dX8_isOf_77 (by decide) ?_
                refine g_istore_n ok dX8_isOf_81 rfl (Nat.le_of_ble_eq_true rfl) ?_
                refine g_iload_n ok dX8_isOf_82 rfl rfl ?_
                refine g_if_eq (tgt := 90) ok dX8_isOf_83 (by decide) ⟨by omega, by omega⟩ (fun c19 => ?_) (fun c19 => ?_)
                · skip
                  exfalso
                  omega
                · skip
                  refine g_lconst (v := 1) ok dX8_isOf_86 (by decide +kernel) ?_
                  refine g_goto (tgt := 91) ok dX8_isOf_87 (by decide) ?_
                  exact g_lret ok hq dX8_isOf_91 (ansL (by (simp only [rm_isOf, isPd, BAD, NO, FULL, NONE, NOTHING, INDEX, SIZE] <;> (repeat (first | rw [if_pos (by omega)] | rw [if_neg (by omega)])) <;> omega)) (by rfl))
              · skip
                refine g_iload_n ok dX8_isOf_63 rfl rfl ?_
                refine g_iconst (v := 3) ok dX8_isOf_64 (by decide +kernel) ?_
                refine g_icmp_ne (tgt := 80) ok dX8_isOf_65 (by decide) ⟨by omega, by omega⟩ ⟨by omega, by omega⟩ (fun c20 => ?_) (fun c20 => ?_)
                · skip
                  refine g_iconst (v := 0) ok dX8_isOf_80 (by decide +kernel) ?_
                  refine g_istore_n ok dX8_isOf_81 rfl (Nat.le_of_ble_eq_true rfl) ?_
                  refine g_iload_n ok dX8_isOf_82 rfl rfl ?_
                  refine g_if_eq (tgt := 90) ok dX8_isOf_83 (by decide) ⟨by omega, by omega⟩ (fun c21 => ?_) (fun c21 => ?_)
                  · skip
                    refine g_lconst (v := 0) ok dX8_isOf_90 (by decide +kernel) ?_
                    exact g_lret ok hq dX8_isOf_91 (ansL (by (simp only [rm_isOf, isPd, BAD, NO, FULL, NONE, NOTHING, INDEX, SIZE] <;> (repeat (first | rw [if_pos (by omega)] | rw [if_neg (by omega)])) <;> omega)) (by rfl))
                  · skip
                    exfalso
                    omega
                · skip
                  refine g_aload_n ok dX8_isOf_68 rfl rfl ?_
                  refine g_iload_n ok dX8_isOf_69 rfl rfl ?_
                  refine g_cV ok dX8_isOf_70 mv_X8_139 (c_X8_isOld X _ _ _ (by omega) (by omega)) rfl (Vd.one rfl) rfl rfl (by decide) rfl (Nat.le_of_ble_eq_true rfl) ?_
                  refine g_ifb_eq (tgt := 80) ok dX8_isOf_73 (by decide) (fun c22 => ?_) (fun c22 => ?_)
                  · skip
                    refine g_iconst (v := 0) ok dX8_isOf_80 (by decide +kernel) ?_
                    refine g_istore_n ok dX8_isOf_81 rfl (Nat.le_of_ble_eq_true rfl) ?_
                    refine g_iload_n ok dX8_isOf_82 rfl rfl ?_
                    refine g_if_eq (tgt := 90) ok dX8_isOf_83 (by decide) ⟨by omega, by omega⟩ (fun c23 => ?_) (fun c23 => ?_)
                    · skip
                      refine g_lconst (v := 0) ok dX8_isOf_90 (by decide +kernel) ?_
                      exact g_lret ok hq dX8_isOf_91 (ansL (by (simp only [rm_isOf, isPd, BAD, NO, FULL, NONE, NOTHING, INDEX, SIZE] <;> (repeat (first | rw [if_pos (by omega)] | rw [if_neg (by omega)])) <;> omega)) (by rfl))
                    · skip
                      exfalso
                      omega
                  · skip
                    refine g_iconst (v := 1) ok dX8_isOf_76 (by decide +kernel) ?_
                    refine g_goto (tgt := 81) ok dX8_isOf_77 (by decide) ?_
                    refine g_istore_n ok dX8_isOf_81 rfl (Nat.le_of_ble_eq_true rfl) ?_
                    refine g_iload_n ok dX8_isOf_82 rfl rfl ?_
                    refine g_if_eq (tgt := 90) ok dX8_isOf_83 (by decide) ⟨by omega, by omega⟩ (fun c24 => ?_) (fun c24 => ?_)
                    · skip
                      exfalso
                      omega
                    · skip
                      refine g_lconst (v := 1) ok dX8_isOf_86 (by decide +kernel) ?_
                      refine g_goto (tgt := 91) ok dX8_isOf_87 (by decide) ?_
                      exact g_lret ok hq dX8_isOf_91 (ansL (by (simp only [rm_isOf, isPd, BAD, NO, FULL, NONE, NOTHING, INDEX, SIZE] <;> (repeat (first | rw [if_pos (by omega)] | rw [if_neg (by omega)])) <;> omega)) (by rfl))
      · skip
        refine g_ldc2 (v := -9000000000000000002) ok dX8_isOf_32 wd4_104 (by decide +kernel) ?_
        exact g_lret ok hq dX8_isOf_35 (ansL (by (simp only [rm_isOf, isPd, BAD, NO, FULL, NONE, NOTHING, INDEX, SIZE] <;> (repeat (first | rw [if_pos (by omega)] | rw [if_neg (by omega)])) <;> omega)) (by rfl))
    · skip
      refine g_ldc2 (v := -9000000000000000001) ok dX8_isOf_19 wd4_69 (by decide +kernel) ?_
      exact g_lret ok hq dX8_isOf_22 (ansL (by (simp only [rm_isOf, isPd, BAD, NO, FULL, NONE, NOTHING, INDEX, SIZE] <;> (repeat (first | rw [if_pos (by omega)] | rw [if_neg (by omega)])) <;> omega)) (by rfl))

set_option maxRecDepth 100000 in
set_option maxHeartbeats 4000000 in
theorem c_X8_put (X : XW) (l : Launch) (σ : Mm) (z1 z2 z3 : Int) (rz1 : R32 z1) (rz2 : R32 z2) (rz3 : R32 z3) (hT : MT σ) : Ct X l yX8_put cX8_put 8 (Option.some FieldType.long) 3 66 σ [.inr (.inr (28, 0)), .inl z1, .inl z2, .inl z3] (Ans (some (.inr (.inl (rm_put σ z1 z2 z3)))) (sm_put σ z1 z2 z3)) := by
  refine Ct.intro (own := RX8) (by decide) rfl (Nat.le_of_ble_eq_true rfl) (fun M hM ok hq => ?_)
  subst hM
  have rz1l := rz1.1
  have rz1r := rz1.2
  have rz2l := rz2.1
  have rz2r := rz2.2
  have rz3l := rz3.1
  have rz3r := rz3.2
  show G X M cX8_put 8 σ 0 [(0, .inr (.inr (28, 0))), (1, .inl z1), (2, .inl z2), (3, .inl z3)] []
  have aT := hT.1
  have aT2 := hT.2
  refine g_aload_n ok dX8_put_0 rfl rfl ?_
  refine g_iload_n ok dX8_put_1 rfl rfl ?_
  refine g_cV3 ok dX8_put_2 mv_X8_142 (c_X8_asked X _ _ _ ⟨by omega, by omega⟩) rfl (Vd.one rfl) rfl rfl (by decide) rfl (Nat.le_of_ble_eq_true rfl) (fun q1 => ?_) (fun q1 => ?_) (fun q1 => ?_)
  · skip
    refine g_lstore ok dX8_put_5 (Nat.le_of_ble_eq_true rfl) ?_
    refine g_lload ok dX8_put_7 rfl ?_
    refine g_lconst (v := 0) ok dX8_put_9 (by decide +kernel) ?_
    refine g_lcmp_eq (tgt := 17) ok dX8_put_10 dX8_put_11 (by decide) ⟨by omega, by omega⟩ ⟨by omega, by omega⟩ (fun c2 => ?_) (fun c2 => ?_)
    · skip
      exfalso
      omega
    · skip
      refine g_lload ok dX8_put_14 rfl ?_
      exact g_lret ok hq dX8_put_16 (ansL (by (simp only [rm_put, BAD, NO, FULL, NONE, NOTHING, INDEX, SIZE] <;> (repeat (first | rw [if_pos (by omega)] | rw [if_neg (by omega)])) <;> omega)) (by (simp only [sm_put] <;> (repeat (first | rw [if_pos (by omega)] | rw [if_neg (by omega)])) <;> first | rfl | (congr 1; omega))))
  · skip
    refine g_lstore ok dX8_put_5 (Nat.le_of_ble_eq_true rfl) ?_
    refine g_lload ok dX8_put_7 rfl ?_
    refine g_lconst (v := 0) ok dX8_put_9 (by decide +kernel) ?_
    refine g_lcmp_eq (tgt := 17) ok dX8_put_10 dX8_put_11 (by decide) ⟨by omega, by omega⟩ ⟨by omega, by omega⟩ (fun c3 => ?_) (fun c3 => ?_)
    · skip
      exfalso
      omega
    · skip
      refine g_lload ok dX8_put_14 rfl ?_
      exact g_lret ok hq dX8_put_16 (ansL (by (simp only [rm_put, BAD, NO, FULL, NONE, NOTHING, INDEX, SIZE] <;> (repeat (first | rw [if_pos (by omega)] | rw [if_neg (by omega)])) <;> omega)) (by (simp only [sm_put] <;> (repeat (first | rw [if_pos (by omega)] | rw [if_neg (by omega)])) <;> first | rfl | (congr 1; omega))))
  · skip
    refine g_lstore ok dX8_put_5 (Nat.le_of_ble_eq_true rfl) ?_
    refine g_lload ok dX8_put_7 rfl ?_
    refine g_lconst (v := 0) ok dX8_put_9 (by decide +kernel) ?_
    refine g_lcmp_eq (tgt := 17) ok dX8_put_10 dX8_put_11 (by decide) ⟨by omega, by omega⟩ ⟨by omega, by omega⟩ (fun c4 => ?_) (fun c4 => ?_)
    · skip
      refine g_aload_n ok dX8_put_17 rfl rfl ?_
      refine g_iload_n ok dX8_put_18 rfl rfl ?_
      refine g_cV ok dX8_put_19 mv_X8_158 (c_X8_isStep X _ _ _ ⟨by omega, by omega⟩ hT) rfl (Vd.one rfl) rfl rfl (by decide) rfl (Nat.le_of_ble_eq_true rfl) ?_
      refine g_ifb_ne (tgt := 29) ok dX8_put_22 (by decide) (fun c5 => ?_) (fun c5 => ?_)
      · skip
        refine g_iload_n ok dX8_put_29 rfl rfl ?_
        refine g_i2l ok dX8_put_30 ⟨by omega, by omega⟩ ?_
        refine g_ldc2 (v := -100) ok dX8_put_31 wd4_184 (by decide +kernel) ?_
        refine g_ldc2 (v := 100) ok dX8_put_34 wd4_185 (by decide +kernel) ?_
        refine g_cS ok dX8_put_37 ms_X8_81 (c_X8_isIn X _ _ _ _ _ ⟨by omega, by omega⟩ ⟨by omega, by omega⟩ ⟨by omega, by omega⟩) rfl (by decide) rfl (Nat.le_of_ble_eq_true rfl) ?_
        refine g_ifb_ne (tgt := 47) ok dX8_put_40 (by decide) (fun c6 => ?_) (fun c6 => ?_)
        · skip
          refine g_aload_n ok dX8_put_47 rfl rfl ?_
          refine g_getr ok dX8_put_48 fl_X8_57 (Vd.one rfl) rfl rfl ?_
          refine g_bipush (v := 36) ok dX8_put_51 (by decide +kernel) ?_
          refine g_iload_n ok dX8_put_53 rfl rfl ?_
          refine g_imul ok dX8_put_54 ?_
          refine g_iload_n ok dX8_put_55 rfl rfl ?_
          refine g_iadd ok dX8_put_56 ?_
          refine g_iald ok dX8_put_57 (Vd.one rfl) (fun _ => rfl) ⟨by omega, by omega⟩ (by decide) rfl (fun h7 h8 => ?_)
          refine g_i2l ok dX8_put_58 ⟨by omega, by omega⟩ ?_
          refine g_lstore ok dX8_put_59 (Nat.le_of_ble_eq_true rfl) ?_
          refine g_aload_n ok dX8_put_61 rfl rfl ?_
          refine g_getr ok dX8_put_62 fl_X8_57 (Vd.one rfl) rfl rfl ?_
          refine g_bipush (v := 36) ok dX8_put_65 (by decide +kernel) ?_
          refine g_iload_n ok dX8_put_67 rfl rfl ?_
          refine g_imul ok dX8_put_68 ?_
          refine g_iload_n ok dX8_put_69 rfl rfl ?_
          refine g_iadd ok dX8_put_70 ?_
          refine g_iload_n ok dX8_put_71 rfl rfl ?_
          refine g_iast ok dX8_put_72 (Vd.one rfl) (fun _ => rfl) ⟨by omega, by omega⟩ (by decide) rfl ⟨by omega, by omega⟩ ?_
          refine g_lload ok dX8_put_73 rfl ?_
          exact g_lret ok hq dX8_put_75 (ansL (by (simp only [rm_put, BAD, NO, FULL, NONE, NOTHING, INDEX, SIZE] <;> (repeat (first | rw [if_pos (by omega)] | rw [if_neg (by omega)])) <;> omega)) (by (simp only [sm_put] <;> (repeat (first | rw [if_pos (by omega)] | rw [if_neg (by omega)])) <;> first | rfl | (congr 1; omega))))
        · skip
          refine g_ldc2 (v := -9000000000000000001) ok dX8_put_43 wd4_69 (by decide +kernel) ?_
          exact g_lret ok hq dX8_put_46 (ansL (by (simp only [rm_put, BAD, NO, FULL, NONE, NOTHING, INDEX, SIZE] <;> (repeat (first | rw [if_pos (by omega)] | rw [if_neg (by omega)])) <;> omega)) (by (simp only [sm_put] <;> (repeat (first | rw [if_pos (by omega)] | rw [if_neg (by omega)])) <;> first | rfl | (congr 1; omega))))
      · skip
        refine g_ldc2 (v := -9000000000000000013) ok dX8_put_25 wd4_99 (by decide +kernel) ?_
        exact g_lret ok hq dX8_put_28 (ansL (by (simp only [rm_put, BAD, NO, FULL, NONE, NOTHING, INDEX, SIZE] <;> (repeat (first | rw [if_pos (by omega)] | rw [if_neg (by omega)])) <;> omega)) (by (simp only [sm_put] <;> (repeat (first | rw [if_pos (by omega)] | rw [if_neg (by omega)])) <;> first | rfl | (congr 1; omega))))
    · skip
      exfalso
      omega

set_option maxRecDepth 100000 in
set_option maxHeartbeats 4000000 in
theorem c_X8_planned (X : XW) (l : Launch) (σ : Mm) (z1 z2 : Int) (rz1 : R32 z1) (rz2 : R32 z2) (hT : MT σ) : Ct X l yX8_planned cX8_planned 5 (Option.some FieldType.long) 3 66 σ [.inr (.inr (28, 0)), .inl z1, .inl z2] (Ans (some (.inr (.inl (rm_planned σ z1 z2)))) (σ)) := by
  refine Ct.intro (own := RX8) (by decide) rfl (Nat.le_of_ble_eq_true rfl) (fun M hM ok hq => ?_)
  subst hM
  have rz1l := rz1.1
  have rz1r := rz1.2
  have rz2l := rz2.1
  have rz2r := rz2.2
  show G X M cX8_planned 5 σ 0 [(0, .inr (.inr (28, 0))), (1, .inl z1), (2, .inl z2)] []
  have aT := hT.1
  have aT2 := hT.2
  refine g_aload_n ok dX8_planned_0 rfl rfl ?_
  refine g_iload_n ok dX8_planned_1 rfl rfl ?_
  refine g_cV3 ok dX8_planned_2 mv_X8_142 (c_X8_asked X _ _ _ ⟨by omega, by omega⟩) rfl (Vd.one rfl) rfl rfl (by decide) rfl (Nat.le_of_ble_eq_true rfl) (fun q1 => ?_) (fun q1 => ?_) (fun q1 => ?_)
  · skip
    refine g_lstore_n ok dX8_planned_5 rfl (Nat.le_of_ble_eq_true rfl) ?_
    refine g_lload_n ok dX8_planned_6 rfl rfl ?_
    refine g_lconst (v := 0) ok dX8_planned_7 (by decide +kernel) ?_
    refine g_lcmp_eq (tgt := 14) ok dX8_planned_8 dX8_planned_9 (by decide) ⟨by omega, by omega⟩ ⟨by omega, by omega⟩ (fun c2 => ?_) (fun c2 => ?_)
    · skip
      exfalso
      omega
    · skip
      refine g_lload_n ok dX8_planned_12 rfl rfl ?_
      exact g_lret ok hq dX8_planned_13 (ansL (by (simp only [rm_planned, BAD, NO, FULL, NONE, NOTHING, INDEX, SIZE] <;> (repeat (first | rw [if_pos (by omega)] | rw [if_neg (by omega)])) <;> omega)) (by rfl))
  · skip
    refine g_lstore_n ok dX8_planned_5 rfl (Nat.le_of_ble_eq_true rfl) ?_
    refine g_lload_n ok dX8_planned_6 rfl rfl ?_
    refine g_lconst (v := 0) ok dX8_planned_7 (by decide +kernel) ?_
    refine g_lcmp_eq (tgt := 14) ok dX8_planned_8 dX8_planned_9 (by decide) ⟨by omega, by omega⟩ ⟨by omega, by omega⟩ (fun c3 => ?_) (fun c3 => ?_)
    · skip
      exfalso
      omega
    · skip
      refine g_lload_n ok dX8_planned_12 rfl rfl ?_
      exact g_lret ok hq dX8_planned_13 (ansL (by (simp only [rm_planned, BAD, NO, FULL, NONE, NOTHING, INDEX, SIZE] <;> (repeat (first | rw [if_pos (by omega)] | rw [if_neg (by omega)])) <;> omega)) (by rfl))
  · skip
    refine g_lstore_n ok dX8_planned_5 rfl (Nat.le_of_ble_eq_true rfl) ?_
    refine g_lload_n ok dX8_planned_6 rfl rfl ?_
    refine g_lconst (v := 0) ok dX8_planned_7 (by decide +kernel) ?_
    refine g_lcmp_eq (tgt := 14) ok dX8_planned_8 dX8_planned_9 (by decide) ⟨by omega, by omega⟩ ⟨by omega, by omega⟩ (fun c4 => ?_) (fun c4 => ?_)
    · skip
      refine g_aload_n ok dX8_planned_14 rfl rfl ?_
      refine g_iload_n ok dX8_planned_15 rfl rfl ?_
      refine g_cV ok dX8_planned_16 mv_X8_158 (c_X8_isStep X _ _ _ ⟨by omega, by omega⟩ hT) rfl (Vd.one rfl) rfl rfl (by decide) rfl (Nat.le_of_ble_eq_true rfl) ?_
      refine g_ifb_eq (tgt := 37) ok dX8_planned_19 (by decide) (fun c5 => ?_) (fun c5 => ?_)
      · skip
        refine g_ldc2 (v := -9000000000000000013) ok dX8_planned_37 wd4_99 (by decide +kernel) ?_
        exact g_lret ok hq dX8_planned_40 (ansL (by (simp only [rm_planned, BAD, NO, FULL, NONE, NOTHING, INDEX, SIZE] <;> (repeat (first | rw [if_pos (by omega)] | rw [if_neg (by omega)])) <;> omega)) (by rfl))
      · skip
        refine g_aload_n ok dX8_planned_22 rfl rfl ?_
        refine g_getr ok dX8_planned_23 fl_X8_57 (Vd.one rfl) rfl rfl ?_
        refine g_bipush (v := 36) ok dX8_planned_26 (by decide +kernel) ?_
        refine g_iload_n ok dX8_planned_28 rfl rfl ?_
        refine g_imul ok dX8_planned_29 ?_
        refine g_iload_n ok dX8_planned_30 rfl rfl ?_
        refine g_iadd ok dX8_planned_31 ?_
        refine g_iald ok dX8_planned_32 (Vd.one rfl) (fun _ => rfl) ⟨by omega, by omega⟩ (by decide) rfl (fun h6 h7 => ?_)
        refine g_i2l ok dX8_planned_33 ⟨by omega, by omega⟩ ?_
        refine g_goto (tgt := 40) ok dX8_planned_34 (by decide) ?_
        exact g_lret ok hq dX8_planned_40 (ansL (by (simp only [rm_planned, BAD, NO, FULL, NONE, NOTHING, INDEX, SIZE] <;> (repeat (first | rw [if_pos (by omega)] | rw [if_neg (by omega)])) <;> omega)) (by rfl))
    · skip
      exfalso
      omega

set_option maxRecDepth 100000 in
set_option maxHeartbeats 4000000 in
theorem c_X8_bid (X : XW) (l : Launch) (σ : Mm) (z1 z2 z3 z4 : Int) (rz1 : R32 z1) (rz2 : R32 z2) (rz3 : R32 z3) (rz4 : R32 z4) (hT : MT σ) (hD : MD σ) : Ct X l yX8_bid cX8_bid 5 (Option.some FieldType.long) 2 46 σ [.inr (.inr (28, 0)), .inl z1, .inl z2, .inl z3, .inl z4] (Ans (some (.inr (.inl (rm_bid σ z1 z2 z3 z4)))) (sm_bid σ z1 z2 z3 z4)) := by
  refine Ct.intro (own := RX8) (by decide) rfl (Nat.le_of_ble_eq_true rfl) (fun M hM ok hq => ?_)
  subst hM
  have rz1l := rz1.1
  have rz1r := rz1.2
  have rz2l := rz2.1
  have rz2r := rz2.2
  have rz3l := rz3.1
  have rz3r := rz3.2
  have rz4l := rz4.1
  have rz4r := rz4.2
  show G X M cX8_bid 5 σ 0 [(0, .inr (.inr (28, 0))), (1, .inl z1), (2, .inl z2), (3, .inl z3), (4, .inl z4)] []
  have aT := hT.1
  have aT2 := hT.2
  have aD := hD.1
  refine g_aload_n ok dX8_bid_0 rfl rfl ?_
  refine g_iload_n ok dX8_bid_1 rfl rfl ?_
  refine g_cV ok dX8_bid_2 mv_X8_158 (c_X8_isStep X _ _ _ ⟨by omega, by omega⟩ hT) rfl (Vd.one rfl) rfl rfl (by decide) rfl (Nat.le_of_ble_eq_true rfl) ?_
  refine g_ifb_eq (tgt := 54) ok dX8_bid_5 (by decide) (fun c1 => ?_) (fun c1 => ?_)
  · skip
    refine g_ldc2 (v := -9000000000000000001) ok dX8_bid_54 wd4_69 (by decide +kernel) ?_
    exact g_lret ok hq dX8_bid_57 (ansL (by (simp only [rm_bid, BAD, NO, FULL, NONE, NOTHING, INDEX, SIZE] <;> (repeat (first | rw [if_pos (by omega)] | rw [if_neg (by omega)])) <;> omega)) (by (simp only [sm_bid] <;> (repeat (first | rw [if_pos (by omega)] | rw [if_neg (by omega)])) <;> first | rfl | (congr 1; omega))))
  · skip
    refine g_aload_n ok dX8_bid_8 rfl rfl ?_
    refine g_iload_n ok dX8_bid_9 rfl rfl ?_
    refine g_cV ok dX8_bid_10 mv_X8_158 (c_X8_isStep X _ _ _ ⟨by omega, by omega⟩ hT) rfl (Vd.one rfl) rfl rfl (by decide) rfl (Nat.le_of_ble_eq_true rfl) ?_
    refine g_ifb_eq (tgt := 54) ok dX8_bid_13 (by decide) (fun c2 => ?_) (fun c2 => ?_)
    · skip
      refine g_ldc2 (v := -9000000000000000001) ok dX8_bid_54 wd4_69 (by decide +kernel) ?_
      exact g_lret ok hq dX8_bid_57 (ansL (by (simp only [rm_bid, BAD, NO, FULL, NONE, NOTHING, INDEX, SIZE] <;> (repeat (first | rw [if_pos (by omega)] | rw [if_neg (by omega)])) <;> omega)) (by (simp only [sm_bid] <;> (repeat (first | rw [if_pos (by omega)] | rw [if_neg (by omega)])) <;> first | rfl | (congr 1; omega))))
    · skip
      refine g_iload_n ok dX8_bid_16 rfl rfl ?_
      refine g_iload_n ok dX8_bid_17 rfl rfl ?_
      refine g_icmp_gt (tgt := 54) ok dX8_bid_18 (by decide) ⟨by omega, by omega⟩ ⟨by omega, by omega⟩ (fun c3 => ?_) (fun c3 => ?_)
      · skip
        refine g_ldc2 (v := -9000000000000000001) ok dX8_bid_54 wd4_69 (by decide +kernel) ?_
        exact g_lret ok hq dX8_bid_57 (ansL (by (simp only [rm_bid, BAD, NO, FULL, NONE, NOTHING, INDEX, SIZE] <;> (repeat (first | rw [if_pos (by omega)] | rw [if_neg (by omega)])) <;> omega)) (by (simp only [sm_bid] <;> (repeat (first | rw [if_pos (by omega)] | rw [if_neg (by omega)])) <;> first | rfl | (congr 1; omega))))
      · skip
        refine g_iload_n ok dX8_bid_21 rfl rfl ?_
        refine g_i2l ok dX8_bid_22 ⟨by omega, by omega⟩ ?_
        refine g_ldc2 (v := -20) ok dX8_bid_23 wd5_26 (by decide +kernel) ?_
        refine g_ldc2 (v := 20) ok dX8_bid_26 wd4_119 (by decide +kernel) ?_
        refine g_cS ok dX8_bid_29 ms_X8_81 (c_X8_isIn X _ _ _ _ _ ⟨by omega, by omega⟩ ⟨by omega, by omega⟩ ⟨by omega, by omega⟩) rfl (by decide) rfl (Nat.le_of_ble_eq_true rfl) ?_
        refine g_ifb_eq (tgt := 54) ok dX8_bid_32 (by decide) (fun c4 => ?_) (fun c4 => ?_)
        · skip
          refine g_ldc2 (v := -9000000000000000001) ok dX8_bid_54 wd4_69 (by decide +kernel) ?_
          exact g_lret ok hq dX8_bid_57 (ansL (by (simp only [rm_bid, BAD, NO, FULL, NONE, NOTHING, INDEX, SIZE] <;> (repeat (first | rw [if_pos (by omega)] | rw [if_neg (by omega)])) <;> omega)) (by (simp only [sm_bid] <;> (repeat (first | rw [if_pos (by omega)] | rw [if_neg (by omega)])) <;> first | rfl | (congr 1; omega))))
        · skip
          refine g_iload_n ok dX8_bid_35 rfl rfl ?_
          refine g_if_eq (tgt := 54) ok dX8_bid_36 (by decide) ⟨by omega, by omega⟩ (fun c5 => ?_) (fun c5 => ?_)
          · skip
            refine g_ldc2 (v := -9000000000000000001) ok dX8_bid_54 wd4_69 (by decide +kernel) ?_
            exact g_lret ok hq dX8_bid_57 (ansL (by (simp only [rm_bid, BAD, NO, FULL, NONE, NOTHING, INDEX, SIZE] <;> (repeat (first | rw [if_pos (by omega)] | rw [if_neg (by omega)])) <;> omega)) (by (simp only [sm_bid] <;> (repeat (first | rw [if_pos (by omega)] | rw [if_neg (by omega)])) <;> first | rfl | (congr 1; omega))))
          · skip
            refine g_iload ok dX8_bid_39 rfl ?_
            refine g_i2l ok dX8_bid_41 ⟨by omega, by omega⟩ ?_
            refine g_ldc2 (v := -10000) ok dX8_bid_42 wd5_27 (by decide +kernel) ?_
            refine g_ldc2 (v := 10000) ok dX8_bid_45 wd5_28 (by decide +kernel) ?_
            refine g_cS ok dX8_bid_48 ms_X8_81 (c_X8_isIn X _ _ _ _ _ ⟨by omega, by omega⟩ ⟨by omega, by omega⟩ ⟨by omega, by omega⟩) rfl (by decide) rfl (Nat.le_of_ble_eq_true rfl) ?_
            refine g_ifb_ne (tgt := 58) ok dX8_bid_51 (by decide) (fun c6 => ?_) (fun c6 => ?_)
            · skip
              refine g_aload_n ok dX8_bid_58 rfl rfl ?_
              refine g_geti (z := 17) ok dX8_bid_59 fl_X8_89 (Vd.one rfl) rfl rfl rfl (fun h7 h8 => ?_)
              refine g_bipush (v := 12) ok dX8_bid_62 (by decide +kernel) ?_
              refine g_icmp_ne (tgt := 71) ok dX8_bid_64 (by decide) ⟨by omega, by omega⟩ ⟨by omega, by omega⟩ (fun c9 => ?_) (fun c9 => ?_)
              · skip
                refine g_aload_n ok dX8_bid_71 rfl rfl ?_
                refine g_getr ok dX8_bid_72 fl_X8_60 (Vd.one rfl) rfl rfl ?_
                refine g_iconst (v := 4) ok dX8_bid_75 (by decide +kernel) ?_
                refine g_aload_n ok dX8_bid_76 rfl rfl ?_
                refine g_geti (z := 17) ok dX8_bid_77 fl_X8_89 (Vd.one rfl) rfl rfl rfl (fun h10 h11 => ?_)
                refine g_imul ok dX8_bid_80 ?_
                refine g_iload_n ok dX8_bid_81 rfl rfl ?_
                refine g_iast ok dX8_bid_82 (Vd.one rfl) (fun _ => rfl) ⟨by omega, by omega⟩ (by decide) rfl ⟨by omega, by omega⟩ ?_
                refine g_aload_n ok dX8_bid_83 rfl rfl ?_
                refine g_getr ok dX8_bid_84 fl_X8_60 (Vd.one rfl) rfl rfl ?_
                refine g_iconst (v := 4) ok dX8_bid_87 (by decide +kernel) ?_
                refine g_aload_n ok dX8_bid_88 rfl rfl ?_
                refine g_geti2 σ (z := 17) ok dX8_bid_89 fl_X8_89 (Vd.one rfl) rfl rfl rfl rfl (fun h12 h13 => ?_)
                refine g_imul ok dX8_bid_92 ?_
                refine g_iconst (v := 1) ok dX8_bid_93 (by decide +kernel) ?_
                refine g_iadd ok dX8_bid_94 ?_
                refine g_iload_n ok dX8_bid_95 rfl rfl ?_
                refine g_iast ok dX8_bid_96 (Vd.one rfl) (fun _ => rfl) ⟨by omega, by omega⟩ (by decide) rfl ⟨by omega, by omega⟩ ?_
                refine g_aload_n ok dX8_bid_97 rfl rfl ?_
                refine g_getr ok dX8_bid_98 fl_X8_60 (Vd.one rfl) rfl rfl ?_
                refine g_iconst (v := 4) ok dX8_bid_101 (by decide +kernel) ?_
                refine g_aload_n ok dX8_bid_102 rfl rfl ?_
                refine g_geti2 σ (z := 17) ok dX8_bid_103 fl_X8_89 (Vd.one rfl) rfl rfl rfl rfl (fun h14 h15 => ?_)
                refine g_imul ok dX8_bid_106 ?_
                refine g_iconst (v := 2) ok dX8_bid_107 (by decide +kernel) ?_
                refine g_iadd ok dX8_bid_108 ?_
                refine g_iload_n ok dX8_bid_109 rfl rfl ?_
                refine g_iast ok dX8_bid_110 (Vd.one rfl) (fun _ => rfl) ⟨by omega, by omega⟩ (by decide) rfl ⟨by omega, by omega⟩ ?_
                refine g_aload_n ok dX8_bid_111 rfl rfl ?_
                refine g_getr ok dX8_bid_112 fl_X8_60 (Vd.one rfl) rfl rfl ?_
                refine g_iconst (v := 4) ok dX8_bid_115 (by decide +kernel) ?_
                refine g_aload_n ok dX8_bid_116 rfl rfl ?_
                refine g_geti2 σ (z := 17) ok dX8_bid_117 fl_X8_89 (Vd.one rfl) rfl rfl rfl rfl (fun h16 h17 => ?_)
                refine g_imul ok dX8_bid_120 ?_
                refine g_iconst (v := 3) ok dX8_bid_121 (by decide +kernel) ?_
                refine g_iadd ok dX8_bid_122 ?_
                refine g_iload ok dX8_bid_123 rfl ?_
                refine g_iast ok dX8_bid_125 (Vd.one rfl) (fun _ => rfl) ⟨by omega, by omega⟩ (by decide) rfl ⟨by omega, by omega⟩ ?_
                refine g_aload_n ok dX8_bid_126 rfl rfl ?_
                refine g_dup ok dX8_bid_127 rfl ?_
                refine g_geti2 σ (z := 17) ok dX8_bid_128 fl_X8_89 (Vd.one rfl) rfl rfl rfl rfl (fun h18 h19 => ?_)
                refine g_iconst (v := 1) ok dX8_bid_131 (by decide +kernel) ?_
                refine g_iadd ok dX8_bid_132 ?_
                refine g_puti (z := 17) ok dX8_bid_133 fw_X8_89 (Vd.one rfl) rfl rfl (Nat.le_of_ble_eq_true rfl) rfl ⟨by omega, by omega⟩ ?_
                refine g_aload_n ok dX8_bid_136 rfl rfl ?_
                refine g_geti3 (σ 28 0 17 + 1) (z := 17) ok dX8_bid_137 fl_X8_89 (Vd.one rfl) rfl rfl rfl (by rfl) (fun h20 h21 => ?_)
                refine g_iconst (v := 1) ok dX8_bid_140 (by decide +kernel) ?_
                refine g_isub ok dX8_bid_141 ?_
                refine g_i2l ok dX8_bid_142 ⟨by omega, by omega⟩ ?_
                exact g_lret ok hq dX8_bid_143 (ansL (by (simp only [rm_bid, BAD, NO, FULL, NONE, NOTHING, INDEX, SIZE] <;> (repeat (first | rw [if_pos (by omega)] | rw [if_neg (by omega)])) <;> omega)) (by (simp only [sm_bid] <;> (repeat (first | rw [if_pos (by omega)] | rw [if_neg (by omega)])) <;> first | rfl | (congr 1; omega))))
              · skip
                refine g_ldc2 (v := -9000000000000000003) ok dX8_bid_67 wd5_29 (by decide +kernel) ?_
                exact g_lret ok hq dX8_bid_70 (ansL (by (simp only [rm_bid, BAD, NO, FULL, NONE, NOTHING, INDEX, SIZE] <;> (repeat (first | rw [if_pos (by omega)] | rw [if_neg (by omega)])) <;> omega)) (by (simp only [sm_bid] <;> (repeat (first | rw [if_pos (by omega)] | rw [if_neg (by omega)])) <;> first | rfl | (congr 1; omega))))
            · skip
              refine g_ldc2 (v := -9000000000000000001) ok dX8_bid_54 wd4_69 (by decide +kernel) ?_
              exact g_lret ok hq dX8_bid_57 (ansL (by (simp only [rm_bid, BAD, NO, FULL, NONE, NOTHING, INDEX, SIZE] <;> (repeat (first | rw [if_pos (by omega)] | rw [if_neg (by omega)])) <;> omega)) (by (simp only [sm_bid] <;> (repeat (first | rw [if_pos (by omega)] | rw [if_neg (by omega)])) <;> first | rfl | (congr 1; omega))))

set_option maxRecDepth 100000 in
set_option maxHeartbeats 4000000 in
theorem c_X8_unbid (X : XW) (l : Launch) (σ : Mm)  (hD : MD σ) : Ct X l yX8_unbid cX8_unbid 1 (Option.some FieldType.long) 0 0 σ [.inr (.inr (28, 0))] (Ans (some (.inr (.inl (rm_unbid σ)))) (sm_unbid σ)) := by
  refine Ct.intro (own := RX8) (by decide) rfl (Nat.le_of_ble_eq_true rfl) (fun M hM ok hq => ?_)
  subst hM
  show G X M cX8_unbid 1 σ 0 [(0, .inr (.inr (28, 0)))] []
  have aD := hD.1
  refine g_aload_n ok dX8_unbid_0 rfl rfl ?_
  refine g_geti (z := 17) ok dX8_unbid_1 fl_X8_89 (Vd.one rfl) rfl rfl rfl (fun h1 h2 => ?_)
  refine g_if_ne (tgt := 11) ok dX8_unbid_4 (by decide) ⟨by omega, by omega⟩ (fun c3 => ?_) (fun c3 => ?_)
  · skip
    refine g_aload_n ok dX8_unbid_11 rfl rfl ?_
    refine g_dup ok dX8_unbid_12 rfl ?_
    refine g_geti (z := 17) ok dX8_unbid_13 fl_X8_89 (Vd.one rfl) rfl rfl rfl (fun h4 h5 => ?_)
    refine g_iconst (v := 1) ok dX8_unbid_16 (by decide +kernel) ?_
    refine g_isub ok dX8_unbid_17 ?_
    refine g_puti (z := 17) ok dX8_unbid_18 fw_X8_89 (Vd.one rfl) rfl rfl (Nat.le_of_ble_eq_true rfl) rfl ⟨by omega, by omega⟩ ?_
    refine g_aload_n ok dX8_unbid_21 rfl rfl ?_
    refine g_geti (z := 17) ok dX8_unbid_22 fl_X8_89 (Vd.one rfl) rfl rfl rfl (fun h6 h7 => ?_)
    refine g_i2l ok dX8_unbid_25 ⟨by omega, by omega⟩ ?_
    exact g_lret ok hq dX8_unbid_26 (ansL (by (simp only [rm_unbid, NO]; rw [if_neg (by omega)]; simp [up])) (by (simp only [sm_unbid] <;> (repeat (first | rw [if_pos (by omega)] | rw [if_neg (by omega)])) <;> first | rfl | (congr 1; omega))))
  · skip
    refine g_ldc2 (v := -9000000000000000002) ok dX8_unbid_7 wd4_104 (by decide +kernel) ?_
    exact g_lret ok hq dX8_unbid_10 (ansL (by (simp only [rm_unbid, BAD, NO, FULL, NONE, NOTHING, INDEX, SIZE] <;> (repeat (first | rw [if_pos (by omega)] | rw [if_neg (by omega)])) <;> omega)) (by (simp only [sm_unbid] <;> (repeat (first | rw [if_pos (by omega)] | rw [if_neg (by omega)])) <;> first | rfl | (congr 1; omega))))

set_option maxRecDepth 100000 in
set_option maxHeartbeats 4000000 in
theorem c_X8_meter (X : XW) (l : Launch) (σ : Mm) (z1 z2 : Int) (rz1 : R32 z1) (rz2 : R32 z2) : Ct X l yX8_meter cX8_meter 5 (Option.some FieldType.long) 1 25 σ [.inr (.inr (28, 0)), .inl z1, .inl z2] (Ans (some (.inr (.inl (rm_meter σ z1 z2)))) (sm_meter σ z1 z2)) := by
  refine Ct.intro (own := RX8) (by decide) rfl (Nat.le_of_ble_eq_true rfl) (fun M hM ok hq => ?_)
  subst hM
  have rz1l := rz1.1
  have rz1r := rz1.2
  have rz2l := rz2.1
  have rz2r := rz2.2
  show G X M cX8_meter 5 σ 0 [(0, .inr (.inr (28, 0))), (1, .inl z1), (2, .inl z2)] []
  refine g_iload_n ok dX8_meter_0 rfl rfl ?_
  refine g_i2l ok dX8_meter_1 ⟨by omega, by omega⟩ ?_
  refine g_lconst (v := 0) ok dX8_meter_2 (by decide +kernel) ?_
  refine g_ldc2 (v := 35) ok dX8_meter_3 wd4_74 (by decide +kernel) ?_
  refine g_cS ok dX8_meter_6 ms_X8_81 (c_X8_isIn X _ _ _ _ _ ⟨by omega, by omega⟩ ⟨by omega, by omega⟩ ⟨by omega, by omega⟩) rfl (by decide) rfl (Nat.le_of_ble_eq_true rfl) ?_
  refine g_ifb_eq (tgt := 26) ok dX8_meter_9 (by decide) (fun c1 => ?_) (fun c1 => ?_)
  · skip
    refine g_ldc2 (v := -9000000000000000001) ok dX8_meter_26 wd4_69 (by decide +kernel) ?_
    exact g_lret ok hq dX8_meter_29 (ansL (by (simp only [rm_meter, BAD, NO, FULL, NONE, NOTHING, INDEX, SIZE] <;> (repeat (first | rw [if_pos (by omega)] | rw [if_neg (by omega)])) <;> omega)) (by (simp only [sm_meter] <;> (repeat (first | rw [if_pos (by omega)] | rw [if_neg (by omega)])) <;> first | rfl | (congr 1; omega))))
  · skip
    refine g_iload_n ok dX8_meter_12 rfl rfl ?_
    refine g_i2l ok dX8_meter_13 ⟨by omega, by omega⟩ ?_
    refine g_ldc2 (v := -1001) ok dX8_meter_14 wd5_61 (by decide +kernel) ?_
    refine g_ldc2 (v := 1000) ok dX8_meter_17 wd5_62 (by decide +kernel) ?_
    refine g_cS ok dX8_meter_20 ms_X8_81 (c_X8_isIn X _ _ _ _ _ ⟨by omega, by omega⟩ ⟨by omega, by omega⟩ ⟨by omega, by omega⟩) rfl (by decide) rfl (Nat.le_of_ble_eq_true rfl) ?_
    refine g_ifb_ne (tgt := 30) ok dX8_meter_23 (by decide) (fun c2 => ?_) (fun c2 => ?_)
    · skip
      refine g_aload_n ok dX8_meter_30 rfl rfl ?_
      refine g_getr ok dX8_meter_31 fl_X8_63 (Vd.one rfl) rfl rfl ?_
      refine g_iload_n ok dX8_meter_34 rfl rfl ?_
      refine g_iald ok dX8_meter_35 (Vd.one rfl) (fun _ => rfl) ⟨by omega, by omega⟩ (by decide) rfl (fun h3 h4 => ?_)
      refine g_i2l ok dX8_meter_36 ⟨by omega, by omega⟩ ?_
      refine g_lstore_n ok dX8_meter_37 rfl (Nat.le_of_ble_eq_true rfl) ?_
      refine g_aload_n ok dX8_meter_38 rfl rfl ?_
      refine g_getr ok dX8_meter_39 fl_X8_63 (Vd.one rfl) rfl rfl ?_
      refine g_iload_n ok dX8_meter_42 rfl rfl ?_
      refine g_iload_n ok dX8_meter_43 rfl rfl ?_
      refine g_iast ok dX8_meter_44 (Vd.one rfl) (fun _ => rfl) ⟨by omega, by omega⟩ (by decide) rfl ⟨by omega, by omega⟩ ?_
      refine g_lload_n ok dX8_meter_45 rfl rfl ?_
      exact g_lret ok hq dX8_meter_46 (ansL (by (simp only [rm_meter, BAD, NO, FULL, NONE, NOTHING, INDEX, SIZE] <;> (repeat (first | rw [if_pos (by omega)] | rw [if_neg (by omega)])) <;> omega)) (by (simp only [sm_meter] <;> (repeat (first | rw [if_pos (by omega)] | rw [if_neg (by omega)])) <;> first | rfl | (congr 1; omega))))
    · skip
      refine g_ldc2 (v := -9000000000000000001) ok dX8_meter_26 wd4_69 (by decide +kernel) ?_
      exact g_lret ok hq dX8_meter_29 (ansL (by (simp only [rm_meter, BAD, NO, FULL, NONE, NOTHING, INDEX, SIZE] <;> (repeat (first | rw [if_pos (by omega)] | rw [if_neg (by omega)])) <;> omega)) (by (simp only [sm_meter] <;> (repeat (first | rw [if_pos (by omega)] | rw [if_neg (by omega)])) <;> first | rfl | (congr 1; omega))))

set_option maxRecDepth 100000 in
set_option maxHeartbeats 4000000 in
theorem c_X8_row (X : XW) (l : Launch) (σ : Mm) (z1 z2 : Int) (rz1 : R32 z1) (rz2 : R32 z2) (hR : MR σ) : Ct X l yX8_row cX8_row 3 (Option.some FieldType.long) 1 25 σ [.inr (.inr (28, 0)), .inl z1, .inl z2] (Ans (some (.inr (.inl (rm_row σ z1 z2)))) (σ)) := by
  refine Ct.intro (own := RX8) (by decide) rfl (Nat.le_of_ble_eq_true rfl) (fun M hM ok hq => ?_)
  subst hM
  have rz1l := rz1.1
  have rz1r := rz1.2
  have rz2l := rz2.1
  have rz2r := rz2.2
  show G X M cX8_row 3 σ 0 [(0, .inr (.inr (28, 0))), (1, .inl z1), (2, .inl z2)] []
  have aR := hR.1
  refine g_iload_n ok dX8_row_0 rfl rfl ?_
  refine g_i2l ok dX8_row_1 ⟨by omega, by omega⟩ ?_
  refine g_lconst (v := 0) ok dX8_row_2 (by decide +kernel) ?_
  refine g_aload_n ok dX8_row_3 rfl rfl ?_
  refine g_geti (z := 20) ok dX8_row_4 fl_X8_240 (Vd.one rfl) rfl rfl rfl (fun h1 h2 => ?_)
  refine g_iconst (v := 1) ok dX8_row_7 (by decide +kernel) ?_
  refine g_isub ok dX8_row_8 ?_
  refine g_i2l ok dX8_row_9 ⟨by omega, by omega⟩ ?_
  refine g_cS ok dX8_row_10 ms_X8_81 (c_X8_isIn X _ _ _ _ _ ⟨by omega, by omega⟩ ⟨by omega, by omega⟩ ⟨by omega, by omega⟩) rfl (by decide) rfl (Nat.le_of_ble_eq_true rfl) ?_
  refine g_ifb_eq (tgt := 41) ok dX8_row_13 (by decide) (fun c3 => ?_) (fun c3 => ?_)
  · skip
    refine g_ldc2 (v := -9000000000000000001) ok dX8_row_41 wd4_69 (by decide +kernel) ?_
    exact g_lret ok hq dX8_row_44 (ansL (by (simp only [rm_row, BAD, NO, FULL, NONE, NOTHING, INDEX, SIZE] <;> (repeat (first | rw [if_pos (by omega)] | rw [if_neg (by omega)])) <;> omega)) (by rfl))
  · skip
    refine g_iload_n ok dX8_row_16 rfl rfl ?_
    refine g_i2l ok dX8_row_17 ⟨by omega, by omega⟩ ?_
    refine g_lconst (v := 0) ok dX8_row_18 (by decide +kernel) ?_
    refine g_ldc2 (v := 4) ok dX8_row_19 wd4_125 (by decide +kernel) ?_
    refine g_cS ok dX8_row_22 ms_X8_81 (c_X8_isIn X _ _ _ _ _ ⟨by omega, by omega⟩ ⟨by omega, by omega⟩ ⟨by omega, by omega⟩) rfl (by decide) rfl (Nat.le_of_ble_eq_true rfl) ?_
    refine g_ifb_eq (tgt := 41) ok dX8_row_25 (by decide) (fun c4 => ?_) (fun c4 => ?_)
    · skip
      refine g_ldc2 (v := -9000000000000000001) ok dX8_row_41 wd4_69 (by decide +kernel) ?_
      exact g_lret ok hq dX8_row_44 (ansL (by (simp only [rm_row, BAD, NO, FULL, NONE, NOTHING, INDEX, SIZE] <;> (repeat (first | rw [if_pos (by omega)] | rw [if_neg (by omega)])) <;> omega)) (by rfl))
    · skip
      refine g_aload_n ok dX8_row_28 rfl rfl ?_
      refine g_getr ok dX8_row_29 fl_X8_66 (Vd.one rfl) rfl rfl ?_
      refine g_iconst (v := 5) ok dX8_row_32 (by decide +kernel) ?_
      refine g_iload_n ok dX8_row_33 rfl rfl ?_
      refine g_imul ok dX8_row_34 ?_
      refine g_iload_n ok dX8_row_35 rfl rfl ?_
      refine g_iadd ok dX8_row_36 ?_
      refine g_lald ok dX8_row_37 (Vd.one rfl) (fun _ => rfl) ⟨by omega, by omega⟩ (by decide) rfl (fun h5 h6 => ?_)
      refine g_goto (tgt := 44) ok dX8_row_38 (by decide) ?_
      exact g_lret ok hq dX8_row_44 (ansL (by (simp only [rm_row, BAD, NO, FULL, NONE, NOTHING, INDEX, SIZE] <;> (repeat (first | rw [if_pos (by omega)] | rw [if_neg (by omega)])) <;> omega)) (by rfl))

set_option maxRecDepth 100000 in
set_option maxHeartbeats 4000000 in
theorem c_X8_forge (X : XW) (l : Launch) (σ : Mm) (z1 z2 z3 : Int) (rz1 : R32 z1) (rz2 : R32 z2) (rz3 : R32 z3) (hR : MR σ) : Ct X l yX8_forge cX8_forge 6 (Option.some FieldType.long) 1 25 σ [.inr (.inr (28, 0)), .inl z1, .inl z2, .inl z3] (Ans (some (.inr (.inl (rm_forge σ z1 z2 z3)))) (sm_forge σ z1 z2 z3)) := by
  refine Ct.intro (own := RX8) (by decide) rfl (Nat.le_of_ble_eq_true rfl) (fun M hM ok hq => ?_)
  subst hM
  have rz1l := rz1.1
  have rz1r := rz1.2
  have rz2l := rz2.1
  have rz2r := rz2.2
  have rz3l := rz3.1
  have rz3r := rz3.2
  show G X M cX8_forge 6 σ 0 [(0, .inr (.inr (28, 0))), (1, .inl z1), (2, .inl z2), (3, .inl z3)] []
  have aR := hR.1
  refine g_iload_n ok dX8_forge_0 rfl rfl ?_
  refine g_i2l ok dX8_forge_1 ⟨by omega, by omega⟩ ?_
  refine g_lconst (v := 0) ok dX8_forge_2 (by decide +kernel) ?_
  refine g_aload_n ok dX8_forge_3 rfl rfl ?_
  refine g_geti (z := 20) ok dX8_forge_4 fl_X8_240 (Vd.one rfl) rfl rfl rfl (fun h1 h2 => ?_)
  refine g_iconst (v := 1) ok dX8_forge_7 (by decide +kernel) ?_
  refine g_isub ok dX8_forge_8 ?_
  refine g_i2l ok dX8_forge_9 ⟨by omega, by omega⟩ ?_
  refine g_cS ok dX8_forge_10 ms_X8_81 (c_X8_isIn X _ _ _ _ _ ⟨by omega, by omega⟩ ⟨by omega, by omega⟩ ⟨by omega, by omega⟩) rfl (by decide) rfl (Nat.le_of_ble_eq_true rfl) ?_
  refine g_ifb_eq (tgt := 49) ok dX8_forge_13 (by decide) (fun c3 => ?_) (fun c3 => ?_)
  · skip
    refine g_ldc2 (v := -9000000000000000001) ok dX8_forge_49 wd4_69 (by decide +kernel) ?_
    exact g_lret ok hq dX8_forge_52 (ansL (by (simp only [rm_forge, BAD, NO, FULL, NONE, NOTHING, INDEX, SIZE] <;> (repeat (first | rw [if_pos (by omega)] | rw [if_neg (by omega)])) <;> omega)) (by (simp only [sm_forge] <;> (repeat (first | rw [if_pos (by omega)] | rw [if_neg (by omega)])) <;> first | rfl | (congr 1; omega))))
  · skip
    refine g_iload_n ok dX8_forge_16 rfl rfl ?_
    refine g_i2l ok dX8_forge_17 ⟨by omega, by omega⟩ ?_
    refine g_ldc2 (v := 3) ok dX8_forge_18 wd4_87 (by decide +kernel) ?_
    refine g_ldc2 (v := 4) ok dX8_forge_21 wd4_125 (by decide +kernel) ?_
    refine g_cS ok dX8_forge_24 ms_X8_81 (c_X8_isIn X _ _ _ _ _ ⟨by omega, by omega⟩ ⟨by omega, by omega⟩ ⟨by omega, by omega⟩) rfl (by decide) rfl (Nat.le_of_ble_eq_true rfl) ?_
    refine g_ifb_eq (tgt := 49) ok dX8_forge_27 (by decide) (fun c4 => ?_) (fun c4 => ?_)
    · skip
      refine g_ldc2 (v := -9000000000000000001) ok dX8_forge_49 wd4_69 (by decide +kernel) ?_
      exact g_lret ok hq dX8_forge_52 (ansL (by (simp only [rm_forge, BAD, NO, FULL, NONE, NOTHING, INDEX, SIZE] <;> (repeat (first | rw [if_pos (by omega)] | rw [if_neg (by omega)])) <;> omega)) (by (simp only [sm_forge] <;> (repeat (first | rw [if_pos (by omega)] | rw [if_neg (by omega)])) <;> first | rfl | (congr 1; omega))))
    · skip
      refine g_iload_n ok dX8_forge_30 rfl rfl ?_
      refine g_iconst (v := 3) ok dX8_forge_31 (by decide +kernel) ?_
      refine g_icmp_ne (tgt := 53) ok dX8_forge_32 (by decide) ⟨by omega, by omega⟩ ⟨by omega, by omega⟩ (fun c5 => ?_) (fun c5 => ?_)
      · skip
        refine g_aload_n ok dX8_forge_53 rfl rfl ?_
        refine g_getr ok dX8_forge_54 fl_X8_66 (Vd.one rfl) rfl rfl ?_
        refine g_iconst (v := 5) ok dX8_forge_57 (by decide +kernel) ?_
        refine g_iload_n ok dX8_forge_58 rfl rfl ?_
        refine g_imul ok dX8_forge_59 ?_
        refine g_iload_n ok dX8_forge_60 rfl rfl ?_
        refine g_iadd ok dX8_forge_61 ?_
        refine g_lald ok dX8_forge_62 (Vd.one rfl) (fun _ => rfl) ⟨by omega, by omega⟩ (by decide) rfl (fun h6 h7 => ?_)
        refine g_lstore ok dX8_forge_63 (Nat.le_of_ble_eq_true rfl) ?_
        refine g_aload_n ok dX8_forge_65 rfl rfl ?_
        refine g_getr ok dX8_forge_66 fl_X8_66 (Vd.one rfl) rfl rfl ?_
        refine g_iconst (v := 5) ok dX8_forge_69 (by decide +kernel) ?_
        refine g_iload_n ok dX8_forge_70 rfl rfl ?_
        refine g_imul ok dX8_forge_71 ?_
        refine g_iload_n ok dX8_forge_72 rfl rfl ?_
        refine g_iadd ok dX8_forge_73 ?_
        refine g_iload_n ok dX8_forge_74 rfl rfl ?_
        refine g_i2l ok dX8_forge_75 ⟨by omega, by omega⟩ ?_
        refine g_last ok dX8_forge_76 (Vd.one rfl) (fun _ => rfl) ⟨by omega, by omega⟩ (by decide) rfl ⟨by omega, by omega⟩ ?_
        refine g_lload ok dX8_forge_77 rfl ?_
        exact g_lret ok hq dX8_forge_79 (ansL (by (simp only [rm_forge, BAD, NO, FULL, NONE, NOTHING, INDEX, SIZE] <;> (repeat (first | rw [if_pos (by omega)] | rw [if_neg (by omega)])) <;> omega)) (by (simp only [sm_forge] <;> (repeat (first | rw [if_pos (by omega)] | rw [if_neg (by omega)])) <;> first | rfl | (congr 1; omega))))
      · skip
        refine g_iload_n ok dX8_forge_35 rfl rfl ?_
        refine g_i2l ok dX8_forge_36 ⟨by omega, by omega⟩ ?_
        refine g_ldc2 (v := -100) ok dX8_forge_37 wd4_184 (by decide +kernel) ?_
        refine g_ldc2 (v := 100) ok dX8_forge_40 wd4_185 (by decide +kernel) ?_
        refine g_cS ok dX8_forge_43 ms_X8_81 (c_X8_isIn X _ _ _ _ _ ⟨by omega, by omega⟩ ⟨by omega, by omega⟩ ⟨by omega, by omega⟩) rfl (by decide) rfl (Nat.le_of_ble_eq_true rfl) ?_
        refine g_ifb_ne (tgt := 53) ok dX8_forge_46 (by decide) (fun c8 => ?_) (fun c8 => ?_)
        · skip
          refine g_aload_n ok dX8_forge_53 rfl rfl ?_
          refine g_getr ok dX8_forge_54 fl_X8_66 (Vd.one rfl) rfl rfl ?_
          refine g_iconst (v := 5) ok dX8_forge_57 (by decide +kernel) ?_
          refine g_iload_n ok dX8_forge_58 rfl rfl ?_
          refine g_imul ok dX8_forge_59 ?_
          refine g_iload_n ok dX8_forge_60 rfl rfl ?_
          refine g_iadd ok dX8_forge_61 ?_
          refine g_lald ok dX8_forge_62 (Vd.one rfl) (fun _ => rfl) ⟨by omega, by omega⟩ (by decide) rfl (fun h9 h10 => ?_)
          refine g_lstore ok dX8_forge_63 (Nat.le_of_ble_eq_true rfl) ?_
          refine g_aload_n ok dX8_forge_65 rfl rfl ?_
          refine g_getr ok dX8_forge_66 fl_X8_66 (Vd.one rfl) rfl rfl ?_
          refine g_iconst (v := 5) ok dX8_forge_69 (by decide +kernel) ?_
          refine g_iload_n ok dX8_forge_70 rfl rfl ?_
          refine g_imul ok dX8_forge_71 ?_
          refine g_iload_n ok dX8_forge_72 rfl rfl ?_
          refine g_iadd ok dX8_forge_73 ?_
          refine g_iload_n ok dX8_forge_74 rfl rfl ?_
          refine g_i2l ok dX8_forge_75 ⟨by omega, by omega⟩ ?_
          refine g_last ok dX8_forge_76 (Vd.one rfl) (fun _ => rfl) ⟨by omega, by omega⟩ (by decide) rfl ⟨by omega, by omega⟩ ?_
          refine g_lload ok dX8_forge_77 rfl ?_
          exact g_lret ok hq dX8_forge_79 (ansL (by (simp only [rm_forge, BAD, NO, FULL, NONE, NOTHING, INDEX, SIZE] <;> (repeat (first | rw [if_pos (by omega)] | rw [if_neg (by omega)])) <;> omega)) (by (simp only [sm_forge] <;> (repeat (first | rw [if_pos (by omega)] | rw [if_neg (by omega)])) <;> first | rfl | (congr 1; omega))))
        · skip
          refine g_ldc2 (v := -9000000000000000001) ok dX8_forge_49 wd4_69 (by decide +kernel) ?_
          exact g_lret ok hq dX8_forge_52 (ansL (by (simp only [rm_forge, BAD, NO, FULL, NONE, NOTHING, INDEX, SIZE] <;> (repeat (first | rw [if_pos (by omega)] | rw [if_neg (by omega)])) <;> omega)) (by (simp only [sm_forge] <;> (repeat (first | rw [if_pos (by omega)] | rw [if_neg (by omega)])) <;> first | rfl | (congr 1; omega))))

set_option maxRecDepth 100000 in
set_option maxHeartbeats 4000000 in
theorem c_X8_shut (X : XW) (l : Launch) (σ : Mm)   : Ct X l yX8_shut cX8_shut 3 (Option.some FieldType.long) 0 0 σ [.inr (.inr (28, 0))] (Ans (some (.inr (.inl (rm_shut σ)))) (sm_shut σ)) := by
  refine Ct.intro (own := RX8) (by decide) rfl (Nat.le_of_ble_eq_true rfl) (fun M hM ok hq => ?_)
  subst hM
  show G X M cX8_shut 3 σ 0 [(0, .inr (.inr (28, 0)))] []
  refine g_aload_n ok dX8_shut_0 rfl rfl ?_
  refine g_geti (z := 20) ok dX8_shut_1 fl_X8_240 (Vd.one rfl) rfl rfl rfl (fun h1 h2 => ?_)
  refine g_i2l ok dX8_shut_4 ⟨by omega, by omega⟩ ?_
  refine g_lstore_n ok dX8_shut_5 rfl (Nat.le_of_ble_eq_true rfl) ?_
  refine g_aload_n ok dX8_shut_6 rfl rfl ?_
  refine g_iconst (v := 0) ok dX8_shut_7 (by decide +kernel) ?_
  refine g_puti (z := 20) ok dX8_shut_8 fw_X8_240 (Vd.one rfl) rfl rfl (Nat.le_of_ble_eq_true rfl) rfl ⟨by omega, by omega⟩ ?_
  refine g_lload_n ok dX8_shut_11 rfl rfl ?_
  exact g_lret ok hq dX8_shut_12 (ansL (by (simp only [rm_shut, BAD, NO, FULL, NONE, NOTHING, INDEX, SIZE] <;> (repeat (first | rw [if_pos (by omega)] | rw [if_neg (by omega)])) <;> omega)) (by (simp only [sm_shut] <;> (repeat (first | rw [if_pos (by omega)] | rw [if_neg (by omega)])) <;> first | rfl | (congr 1; omega))))

set_option maxRecDepth 100000 in
set_option maxHeartbeats 4000000 in
theorem c_X8_warrant (X : XW) (l : Launch) (σ : Mm) (z1 z2 : Int) (rz1 : R32 z1) (rz2 : R32 z2) : Ct X l yX8_warrant cX8_warrant 5 (Option.some FieldType.long) 2 45 σ [.inr (.inr (28, 0)), .inl z1, .inl z2] (Ans (some (.inr (.inl (rm_warrant σ z1 z2)))) (sm_warrant σ z1 z2)) := by
  refine Ct.intro (own := RX8) (by decide) rfl (Nat.le_of_ble_eq_true rfl) (fun M hM ok hq => ?_)
  subst hM
  have rz1l := rz1.1
  have rz1r := rz1.2
  have rz2l := rz2.1
  have rz2r := rz2.2
  show G X M cX8_warrant 5 σ 0 [(0, .inr (.inr (28, 0))), (1, .inl z1), (2, .inl z2)] []
  refine g_iload_n ok dX8_warrant_0 rfl rfl ?_
  refine g_cS ok dX8_warrant_1 ms_X8_124 (c_X8_isStore X _ _ _ ⟨by omega, by omega⟩) rfl (by decide) rfl (Nat.le_of_ble_eq_true rfl) ?_
  refine g_ifb_eq (tgt := 19) ok dX8_warrant_4 (by decide) (fun c1 => ?_) (fun c1 => ?_)
  · skip
    refine g_ldc2 (v := -9000000000000000001) ok dX8_warrant_19 wd4_69 (by decide +kernel) ?_
    exact g_lret ok hq dX8_warrant_22 (ansL (by (simp only [rm_warrant, BAD, NO, FULL, NONE, NOTHING, INDEX, SIZE] <;> (repeat (first | rw [if_pos (by omega)] | rw [if_neg (by omega)])) <;> omega)) (by (simp only [sm_warrant] <;> (repeat (first | rw [if_pos (by omega)] | rw [if_neg (by omega)])) <;> first | rfl | (congr 1; omega))))
  · skip
    refine g_iload_n ok dX8_warrant_7 rfl rfl ?_
    refine g_i2l ok dX8_warrant_8 ⟨by omega, by omega⟩ ?_
    refine g_lconst (v := 0) ok dX8_warrant_9 (by decide +kernel) ?_
    refine g_ldc2 (v := 100000) ok dX8_warrant_10 wd5_102 (by decide +kernel) ?_
    refine g_cS ok dX8_warrant_13 ms_X8_81 (c_X8_isIn X _ _ _ _ _ ⟨by omega, by omega⟩ ⟨by omega, by omega⟩ ⟨by omega, by omega⟩) rfl (by decide) rfl (Nat.le_of_ble_eq_true rfl) ?_
    refine g_ifb_ne (tgt := 23) ok dX8_warrant_16 (by decide) (fun c2 => ?_) (fun c2 => ?_)
    · skip
      refine g_aload_n ok dX8_warrant_23 rfl rfl ?_
      refine g_getr ok dX8_warrant_24 fl_X8_30 (Vd.one rfl) rfl rfl ?_
      refine g_iload_n ok dX8_warrant_27 rfl rfl ?_
      refine g_iald ok dX8_warrant_28 (Vd.one rfl) (fun _ => rfl) ⟨by omega, by omega⟩ (by decide) rfl (fun h3 h4 => ?_)
      refine g_if_ge (tgt := 36) ok dX8_warrant_29 (by decide) ⟨by omega, by omega⟩ (fun c5 => ?_) (fun c5 => ?_)
      · skip
        refine g_aload_n ok dX8_warrant_36 rfl rfl ?_
        refine g_getr ok dX8_warrant_37 fl_X8_54 (Vd.one rfl) rfl rfl ?_
        refine g_iload_n ok dX8_warrant_40 rfl rfl ?_
        refine g_iald ok dX8_warrant_41 (Vd.one rfl) (fun _ => rfl) ⟨by omega, by omega⟩ (by decide) rfl (fun h6 h7 => ?_)
        refine g_i2l ok dX8_warrant_42 ⟨by omega, by omega⟩ ?_
        refine g_lstore_n ok dX8_warrant_43 rfl (Nat.le_of_ble_eq_true rfl) ?_
        refine g_aload_n ok dX8_warrant_44 rfl rfl ?_
        refine g_getr ok dX8_warrant_45 fl_X8_54 (Vd.one rfl) rfl rfl ?_
        refine g_iload_n ok dX8_warrant_48 rfl rfl ?_
        refine g_iload_n ok dX8_warrant_49 rfl rfl ?_
        refine g_iast ok dX8_warrant_50 (Vd.one rfl) (fun _ => rfl) ⟨by omega, by omega⟩ (by decide) rfl ⟨by omega, by omega⟩ ?_
        refine g_lload_n ok dX8_warrant_51 rfl rfl ?_
        exact g_lret ok hq dX8_warrant_52 (ansL (by (simp only [rm_warrant, BAD, NO, FULL, NONE, NOTHING, INDEX, SIZE] <;> (repeat (first | rw [if_pos (by omega)] | rw [if_neg (by omega)])) <;> omega)) (by (simp only [sm_warrant] <;> (repeat (first | rw [if_pos (by omega)] | rw [if_neg (by omega)])) <;> first | rfl | (congr 1; omega))))
      · skip
        refine g_ldc2 (v := -9000000000000000002) ok dX8_warrant_32 wd4_104 (by decide +kernel) ?_
        exact g_lret ok hq dX8_warrant_35 (ansL (by (simp only [rm_warrant, BAD, NO, FULL, NONE, NOTHING, INDEX, SIZE] <;> (repeat (first | rw [if_pos (by omega)] | rw [if_neg (by omega)])) <;> omega)) (by (simp only [sm_warrant] <;> (repeat (first | rw [if_pos (by omega)] | rw [if_neg (by omega)])) <;> first | rfl | (congr 1; omega))))
    · skip
      refine g_ldc2 (v := -9000000000000000001) ok dX8_warrant_19 wd4_69 (by decide +kernel) ?_
      exact g_lret ok hq dX8_warrant_22 (ansL (by (simp only [rm_warrant, BAD, NO, FULL, NONE, NOTHING, INDEX, SIZE] <;> (repeat (first | rw [if_pos (by omega)] | rw [if_neg (by omega)])) <;> omega)) (by (simp only [sm_warrant] <;> (repeat (first | rw [if_pos (by omega)] | rw [if_neg (by omega)])) <;> first | rfl | (congr 1; omega))))
