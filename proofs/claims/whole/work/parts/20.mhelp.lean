set_option maxRecDepth 100000 in
set_option maxHeartbeats 4000000 in
theorem c_X8_isIn (X : XW) (l : Launch) (σ : Mm) (z1 z2 z3 : Int) (h1 : R64 z1) (h2 : R64 z2) (h3 : R64 z3) : Ct X l yX8_isIn cX8_isIn 6 (Option.some FieldType.boolean) 0 0 σ [.inr (.inl z1), .inr (.inl z2), .inr (.inl z3)] (Ans (some (.inl (bI (z2 ≤ z1 ∧ z1 ≤ z3)))) (σ)) := by
  refine Ct.intro (own := RX8) (by decide) rfl (Nat.le_of_ble_eq_true rfl) (fun M hM ok hq => ?_)
  subst hM
  have h1l := h1.1
  have h1r := h1.2
  have h2l := h2.1
  have h2r := h2.2
  have h3l := h3.1
  have h3r := h3.2
  show G X M cX8_isIn 6 σ 0 [(0, .inr (.inl z1)), (2, .inr (.inl z2)), (4, .inr (.inl z3))] []
  refine g_lload_n ok dX8_isIn_0 rfl rfl ?_
  refine g_lload_n ok dX8_isIn_1 rfl rfl ?_
  refine g_lcmp_lt (tgt := 17) ok dX8_isIn_2 dX8_isIn_3 (by decide) ⟨by omega, by omega⟩ ⟨by omega, by omega⟩ (fun c1 => ?_) (fun c1 => ?_)
  · skip
    refine g_iconst (v := 0) ok dX8_isIn_17 (by decide +kernel) ?_
    exact g_zret ok hq dX8_isIn_18 (by omega) (by omega) (ansI (by first | (rw [bI_t (by omega)]) | (rw [bI_f (by omega)])) (by rfl))
  · skip
    refine g_lload_n ok dX8_isIn_6 rfl rfl ?_
    refine g_lload ok dX8_isIn_7 rfl ?_
    refine g_lcmp_gt (tgt := 17) ok dX8_isIn_9 dX8_isIn_10 (by decide) ⟨by omega, by omega⟩ ⟨by omega, by omega⟩ (fun c2 => ?_) (fun c2 => ?_)
    · skip
      refine g_iconst (v := 0) ok dX8_isIn_17 (by decide +kernel) ?_
      exact g_zret ok hq dX8_isIn_18 (by omega) (by omega) (ansI (by first | (rw [bI_t (by omega)]) | (rw [bI_f (by omega)])) (by rfl))
    · skip
      refine g_iconst (v := 1) ok dX8_isIn_13 (by decide +kernel) ?_
      refine g_goto (tgt := 18) ok dX8_isIn_14 (by decide) ?_
      exact g_zret ok hq dX8_isIn_18 (by omega) (by omega) (ansI (by first | (rw [bI_t (by omega)]) | (rw [bI_f (by omega)])) (by rfl))

set_option maxRecDepth 100000 in
set_option maxHeartbeats 4000000 in
theorem c_X8_isWorld (X : XW) (l : Launch) (σ : Mm) (z1 : Int) (rz1 : R32 z1) : Ct X l yX8_isWorld cX8_isWorld 1 (Option.some FieldType.boolean) 1 25 σ [.inl z1] (Ans (some (.inl (bI (0 ≤ z1 ∧ z1 ≤ 3)))) (σ)) := by
  refine Ct.intro (own := RX8) (by decide) rfl (Nat.le_of_ble_eq_true rfl) (fun M hM ok hq => ?_)
  subst hM
  have rz1l := rz1.1
  have rz1r := rz1.2
  show G X M cX8_isWorld 1 σ 0 [(0, .inl z1)] []
  refine g_iload_n ok dX8_isWorld_0 rfl rfl ?_
  refine g_i2l ok dX8_isWorld_1 ⟨by omega, by omega⟩ ?_
  refine g_lconst (v := 0) ok dX8_isWorld_2 (by decide +kernel) ?_
  refine g_ldc2 (v := 3) ok dX8_isWorld_3 wd4_87 (by decide +kernel) ?_
  refine g_cS ok dX8_isWorld_6 ms_X8_81 (c_X8_isIn X _ _ _ _ _ ⟨by omega, by omega⟩ ⟨by omega, by omega⟩ ⟨by omega, by omega⟩) rfl (by decide) rfl (Nat.le_of_ble_eq_true rfl) ?_
  exact g_zret ok hq dX8_isWorld_9 bI_in.1 bI_in.2 (ansI (by rfl) (by rfl))

set_option maxRecDepth 100000 in
set_option maxHeartbeats 4000000 in
theorem c_X8_isStore (X : XW) (l : Launch) (σ : Mm) (z1 : Int) (rz1 : R32 z1) : Ct X l yX8_isStore cX8_isStore 1 (Option.some FieldType.boolean) 1 25 σ [.inl z1] (Ans (some (.inl (bI (0 ≤ z1 ∧ z1 ≤ 3)))) (σ)) := by
  refine Ct.intro (own := RX8) (by decide) rfl (Nat.le_of_ble_eq_true rfl) (fun M hM ok hq => ?_)
  subst hM
  have rz1l := rz1.1
  have rz1r := rz1.2
  show G X M cX8_isStore 1 σ 0 [(0, .inl z1)] []
  refine g_iload_n ok dX8_isStore_0 rfl rfl ?_
  refine g_i2l ok dX8_isStore_1 ⟨by omega, by omega⟩ ?_
  refine g_lconst (v := 0) ok dX8_isStore_2 (by decide +kernel) ?_
  refine g_ldc2 (v := 3) ok dX8_isStore_3 wd4_87 (by decide +kernel) ?_
  refine g_cS ok dX8_isStore_6 ms_X8_81 (c_X8_isIn X _ _ _ _ _ ⟨by omega, by omega⟩ ⟨by omega, by omega⟩ ⟨by omega, by omega⟩) rfl (by decide) rfl (Nat.le_of_ble_eq_true rfl) ?_
  exact g_zret ok hq dX8_isStore_9 bI_in.1 bI_in.2 (ansI (by rfl) (by rfl))

set_option maxRecDepth 100000 in
set_option maxHeartbeats 4000000 in
theorem c_X8_areWorlds (X : XW) (l : Launch) (σ : Mm) (z1 : Int) (rz1 : R32 z1) : Ct X l yX8_areWorlds cX8_areWorlds 1 (Option.some FieldType.boolean) 1 25 σ [.inl z1] (Ans (some (.inl (bI (1 ≤ z1 ∧ z1 ≤ 15)))) (σ)) := by
  refine Ct.intro (own := RX8) (by decide) rfl (Nat.le_of_ble_eq_true rfl) (fun M hM ok hq => ?_)
  subst hM
  have rz1l := rz1.1
  have rz1r := rz1.2
  show G X M cX8_areWorlds 1 σ 0 [(0, .inl z1)] []
  refine g_iload_n ok dX8_areWorlds_0 rfl rfl ?_
  refine g_i2l ok dX8_areWorlds_1 ⟨by omega, by omega⟩ ?_
  refine g_lconst (v := 1) ok dX8_areWorlds_2 (by decide +kernel) ?_
  refine g_ldc2 (v := 15) ok dX8_areWorlds_3 wd4_234 (by decide +kernel) ?_
  refine g_cS ok dX8_areWorlds_6 ms_X8_81 (c_X8_isIn X _ _ _ _ _ ⟨by omega, by omega⟩ ⟨by omega, by omega⟩ ⟨by omega, by omega⟩) rfl (by decide) rfl (Nat.le_of_ble_eq_true rfl) ?_
  exact g_zret ok hq dX8_areWorlds_9 bI_in.1 bI_in.2 (ansI (by rfl) (by rfl))

set_option maxRecDepth 100000 in
set_option maxHeartbeats 4000000 in
theorem c_X8_isStep (X : XW) (l : Launch) (σ : Mm) (z1 : Int) (rz1 : R32 z1) (hT : MT σ) : Ct X l yX8_isStep cX8_isStep 2 (Option.some FieldType.boolean) 1 25 σ [.inr (.inr (28, 0)), .inl z1] (Ans (some (.inl (bI (0 ≤ z1 ∧ z1 ≤ σ 28 0 0 - 1)))) (σ)) := by
  refine Ct.intro (own := RX8) (by decide) rfl (Nat.le_of_ble_eq_true rfl) (fun M hM ok hq => ?_)
  subst hM
  have rz1l := rz1.1
  have rz1r := rz1.2
  show G X M cX8_isStep 2 σ 0 [(0, .inr (.inr (28, 0))), (1, .inl z1)] []
  have a1 := hT.1
  have a2 := hT.2
  refine g_iload_n ok dX8_isStep_0 rfl rfl ?_
  refine g_i2l ok dX8_isStep_1 ⟨by omega, by omega⟩ ?_
  refine g_lconst (v := 0) ok dX8_isStep_2 (by decide +kernel) ?_
  refine g_aload_n ok dX8_isStep_3 rfl rfl ?_
  refine g_geti (z := 0) ok dX8_isStep_4 fl_X8_7 (Vd.one rfl) rfl rfl rfl (fun h1 h2 => ?_)
  refine g_iconst (v := 1) ok dX8_isStep_7 (by decide +kernel) ?_
  refine g_isub ok dX8_isStep_8 ?_
  refine g_i2l ok dX8_isStep_9 ⟨by omega, by omega⟩ ?_
  refine g_cS ok dX8_isStep_10 ms_X8_81 (c_X8_isIn X _ _ _ _ _ ⟨by omega, by omega⟩ ⟨by omega, by omega⟩ ⟨by omega, by omega⟩) rfl (by decide) rfl (Nat.le_of_ble_eq_true rfl) ?_
  exact g_zret ok hq dX8_isStep_13 bI_in.1 bI_in.2 (ansI (by rfl) (by rfl))

set_option maxRecDepth 100000 in
set_option maxHeartbeats 4000000 in
theorem c_X8_cut (X : XW) (l : Launch) (σ : Mm) (z1 : Int) (rz1 : R32 z1) : Ct X l yX8_cut cX8_cut 3 (Option.some FieldType.int) 0 0 σ [.inl z1, .inl 2] (Ans (some (.inl (z1 / 2))) (σ)) := by
  refine Ct.intro (own := RX8) (by decide) rfl (Nat.le_of_ble_eq_true rfl) (fun M hM ok hq => ?_)
  subst hM
  have rz1l := rz1.1
  have rz1r := rz1.2
  show G X M cX8_cut 3 σ 0 [(0, .inl z1), (1, .inl 2)] []
  have e1 := tdiv2 z1
  have e2 := tmod2 z1
  have e3 : (0 ≤ z1 → z1.tdiv 2 = z1 / 2) ∧ (¬ 0 ≤ z1 → z1.tdiv 2 = -((-z1) / 2)) := by rw [e1]; constructor <;> intro h <;> simp [h]
  clear e1
  refine g_iload_n ok dX8_cut_0 rfl rfl ?_
  refine g_iload_n ok dX8_cut_1 rfl rfl ?_
  refine g_idiv ok dX8_cut_2 ⟨by omega, by omega⟩ ⟨by omega, by omega⟩ (by omega) ?_
  refine g_istore_n ok dX8_cut_3 rfl (Nat.le_of_ble_eq_true rfl) ?_
  refine g_iload_n ok dX8_cut_4 rfl rfl ?_
  refine g_iload_n ok dX8_cut_5 rfl rfl ?_
  refine g_irem ok dX8_cut_6 ⟨by omega, by omega⟩ ⟨by omega, by omega⟩ (by omega) ?_
  refine g_if_eq (tgt := 20) ok dX8_cut_7 (by decide) ⟨by omega, by omega⟩ (fun c1 => ?_) (fun c1 => ?_)
  · skip
    refine g_iload_n ok dX8_cut_20 rfl rfl ?_
    exact g_iret ok hq dX8_cut_21 (ansI (by omega) (by rfl))
  · skip
    refine g_iload_n ok dX8_cut_10 rfl rfl ?_
    refine g_if_ge (tgt := 20) ok dX8_cut_11 (by decide) ⟨by omega, by omega⟩ (fun c2 => ?_) (fun c2 => ?_)
    · skip
      refine g_iload_n ok dX8_cut_20 rfl rfl ?_
      exact g_iret ok hq dX8_cut_21 (ansI (by omega) (by rfl))
    · skip
      refine g_iload_n ok dX8_cut_14 rfl rfl ?_
      refine g_iconst (v := 1) ok dX8_cut_15 (by decide +kernel) ?_
      refine g_isub ok dX8_cut_16 ?_
      refine g_goto (tgt := 21) ok dX8_cut_17 (by decide) ?_
      exact g_iret ok hq dX8_cut_21 (ansI (by omega) (by rfl))

set_option maxRecDepth 100000 in
set_option maxHeartbeats 4000000 in
theorem c_X8_room (X : XW) (l : Launch) (σ : Mm) (z1 : Int) (b0 : 0 ≤ z1) (b1 : z1 < 36) : Ct X l yX8_room cX8_room 2 (Option.some FieldType.int) 0 0 σ [.inr (.inr (28, 0)), .inl z1] (Ans (some (.inl (rmM σ z1))) (σ)) := by
  refine Ct.intro (own := RX8) (by decide) rfl (Nat.le_of_ble_eq_true rfl) (fun M hM ok hq => ?_)
  subst hM
  show G X M cX8_room 2 σ 0 [(0, .inr (.inr (28, 0))), (1, .inl z1)] []
  refine g_aload_n ok dX8_room_0 rfl rfl ?_
  refine g_getr ok dX8_room_1 fl_X8_13 (Vd.one rfl) rfl rfl ?_
  refine g_iload_n ok dX8_room_4 rfl rfl ?_
  refine g_zald ok dX8_room_5 (Vd.one rfl) (fun _ => rfl) ⟨by omega, by omega⟩ (by decide) rfl (fun h1 h2 => ?_)
  refine g_if_eq (tgt := 13) ok dX8_room_6 (by decide) ⟨by omega, by omega⟩ (fun c3 => ?_) (fun c3 => ?_)
  · skip
    refine g_aload_n ok dX8_room_13 rfl rfl ?_
    refine g_getr ok dX8_room_14 fl_X8_17 (Vd.one rfl) rfl rfl ?_
    refine g_iload_n ok dX8_room_17 rfl rfl ?_
    refine g_iald ok dX8_room_18 (Vd.one rfl) (fun _ => rfl) ⟨by omega, by omega⟩ (by decide) rfl (fun h4 h5 => ?_)
    exact g_iret ok hq dX8_room_19 (ansI (by (simp only [rmM, BAD, NO, FULL, NONE, NOTHING, INDEX, SIZE] <;> (repeat (first | rw [if_pos (by omega)] | rw [if_neg (by omega)])) <;> omega)) (by rfl))
  · skip
    refine g_iconst (v := 0) ok dX8_room_9 (by decide +kernel) ?_
    refine g_goto (tgt := 19) ok dX8_room_10 (by decide) ?_
    exact g_iret ok hq dX8_room_19 (ansI (by (simp only [rmM, BAD, NO, FULL, NONE, NOTHING, INDEX, SIZE] <;> (repeat (first | rw [if_pos (by omega)] | rw [if_neg (by omega)])) <;> omega)) (by rfl))

set_option maxRecDepth 100000 in
set_option maxHeartbeats 4000000 in
theorem c_X8_priceOf (X : XW) (l : Launch) (σ : Mm) (z1 z2 : Int) (b0 : 0 ≤ z1) (b1 : z1 < 4) (b2 : 0 ≤ z2) (b3 : z2 < 36) (hP : MP σ) : Ct X l yX8_priceOf cX8_priceOf 3 (Option.some FieldType.int) 0 0 σ [.inr (.inr (28, 0)), .inl z1, .inl z2] (Ans (some (.inl (pM σ z1 z2))) (σ)) := by
  refine Ct.intro (own := RX8) (by decide) rfl (Nat.le_of_ble_eq_true rfl) (fun M hM ok hq => ?_)
  subst hM
  show G X M cX8_priceOf 3 σ 0 [(0, .inr (.inr (28, 0))), (1, .inl z1), (2, .inl z2)] []
  have a1 := hP.1 z1
  refine g_aload_n ok dX8_priceOf_0 rfl rfl ?_
  refine g_getr ok dX8_priceOf_1 fl_X8_21 (Vd.one rfl) rfl rfl ?_
  refine g_iload_n ok dX8_priceOf_4 rfl rfl ?_
  refine g_iald ok dX8_priceOf_5 (Vd.one rfl) (fun _ => rfl) ⟨by omega, by omega⟩ (by decide) rfl (fun h1 h2 => ?_)
  refine g_if_lt (tgt := 33) ok dX8_priceOf_6 (by decide) ⟨by omega, by omega⟩ (fun c3 => ?_) (fun c3 => ?_)
  · skip
    refine g_iconst (v := 0) ok dX8_priceOf_33 (by decide +kernel) ?_
    exact g_iret ok hq dX8_priceOf_34 (ansI (by (simp only [pM, BAD, NO, FULL, NONE, NOTHING, INDEX, SIZE] <;> (repeat (first | rw [if_pos (by omega)] | rw [if_neg (by omega)])) <;> omega)) (by rfl))
  · skip
    refine g_iload_n ok dX8_priceOf_9 rfl rfl ?_
    refine g_aload_n ok dX8_priceOf_10 rfl rfl ?_
    refine g_getr ok dX8_priceOf_11 fl_X8_24 (Vd.one rfl) rfl rfl ?_
    refine g_iload_n ok dX8_priceOf_14 rfl rfl ?_
    refine g_iald ok dX8_priceOf_15 (Vd.one rfl) (fun _ => rfl) ⟨by omega, by omega⟩ (by decide) rfl (fun h4 h5 => ?_)
    refine g_icmp_ge (tgt := 33) ok dX8_priceOf_16 (by decide) ⟨by omega, by omega⟩ ⟨by omega, by omega⟩ (fun c6 => ?_) (fun c6 => ?_)
    · skip
      refine g_iconst (v := 0) ok dX8_priceOf_33 (by decide +kernel) ?_
      exact g_iret ok hq dX8_priceOf_34 (ansI (by (simp only [pM, BAD, NO, FULL, NONE, NOTHING, INDEX, SIZE] <;> (repeat (first | rw [if_pos (by omega)] | rw [if_neg (by omega)])) <;> omega)) (by rfl))
    · skip
      refine g_aload_n ok dX8_priceOf_19 rfl rfl ?_
      refine g_getr ok dX8_priceOf_20 fl_X8_27 (Vd.one rfl) rfl rfl ?_
      refine g_bipush (v := 36) ok dX8_priceOf_23 (by decide +kernel) ?_
      refine g_iload_n ok dX8_priceOf_25 rfl rfl ?_
      refine g_imul ok dX8_priceOf_26 ?_
      refine g_iload_n ok dX8_priceOf_27 rfl rfl ?_
      refine g_iadd ok dX8_priceOf_28 ?_
      refine g_iald ok dX8_priceOf_29 (Vd.one rfl) (fun _ => rfl) ⟨by omega, by omega⟩ (by decide) rfl (fun h7 h8 => ?_)
      refine g_goto (tgt := 34) ok dX8_priceOf_30 (by decide) ?_
      exact g_iret ok hq dX8_priceOf_34 (ansI (by (simp only [pM, BAD, NO, FULL, NONE, NOTHING, INDEX, SIZE] <;> (repeat (first | rw [if_pos (by omega)] | rw [if_neg (by omega)])) <;> omega)) (by rfl))

set_option maxRecDepth 100000 in
set_option maxHeartbeats 4000000 in
theorem c_X8_isQuick (X : XW) (l : Launch) (σ : Mm) (z1 : Int) (b0 : 0 ≤ z1) (b1 : z1 < 4) : Ct X l yX8_isQuick cX8_isQuick 2 (Option.some FieldType.boolean) 0 0 σ [.inr (.inr (28, 0)), .inl z1] (Ans (some (.inl (bI (σ 34 0 z1 = 1 ∨ σ 34 0 z1 = 2)))) (σ)) := by
  refine Ct.intro (own := RX8) (by decide) rfl (Nat.le_of_ble_eq_true rfl) (fun M hM ok hq => ?_)
  subst hM
  show G X M cX8_isQuick 2 σ 0 [(0, .inr (.inr (28, 0))), (1, .inl z1)] []
  refine g_aload_n ok dX8_isQuick_0 rfl rfl ?_
  refine g_getr ok dX8_isQuick_1 fl_X8_30 (Vd.one rfl) rfl rfl ?_
  refine g_iload_n ok dX8_isQuick_4 rfl rfl ?_
  refine g_iald ok dX8_isQuick_5 (Vd.one rfl) (fun _ => rfl) ⟨by omega, by omega⟩ (by decide) rfl (fun h1 h2 => ?_)
  refine g_iconst (v := 1) ok dX8_isQuick_6 (by decide +kernel) ?_
  refine g_icmp_eq (tgt := 20) ok dX8_isQuick_7 (by decide) ⟨by omega, by omega⟩ ⟨by omega, by omega⟩ (fun c3 => ?_) (fun c3 => ?_)
  · skip
    refine g_iconst (v := 1) ok dX8_isQuick_20 (by decide +kernel) ?_
    refine g_goto (tgt := 25) ok dX8_isQuick_21 (by decide) ?_
    exact g_zret ok hq dX8_isQuick_25 (by omega) (by omega) (ansI (by first | (rw [bI_t (by omega)]) | (rw [bI_f (by omega)])) (by rfl))
  · skip
    refine g_aload_n ok dX8_isQuick_10 rfl rfl ?_
    refine g_getr ok dX8_isQuick_11 fl_X8_30 (Vd.one rfl) rfl rfl ?_
    refine g_iload_n ok dX8_isQuick_14 rfl rfl ?_
    refine g_iald ok dX8_isQuick_15 (Vd.one rfl) (fun _ => rfl) ⟨by omega, by omega⟩ (by decide) rfl (fun h4 h5 => ?_)
    refine g_iconst (v := 2) ok dX8_isQuick_16 (by decide +kernel) ?_
    refine g_icmp_ne (tgt := 24) ok dX8_isQuick_17 (by decide) ⟨by omega, by omega⟩ ⟨by omega, by omega⟩ (fun c6 => ?_) (fun c6 => ?_)
    · skip
      refine g_iconst (v := 0) ok dX8_isQuick_24 (by decide +kernel) ?_
      exact g_zret ok hq dX8_isQuick_25 (by omega) (by omega) (ansI (by first | (rw [bI_t (by omega)]) | (rw [bI_f (by omega)])) (by rfl))
    · skip
      refine g_iconst (v := 1) ok dX8_isQuick_20 (by decide +kernel) ?_
      refine g_goto (tgt := 25) ok dX8_isQuick_21 (by decide) ?_
      exact g_zret ok hq dX8_isQuick_25 (by omega) (by omega) (ansI (by first | (rw [bI_t (by omega)]) | (rw [bI_f (by omega)])) (by rfl))

set_option maxRecDepth 100000 in
set_option maxHeartbeats 4000000 in
theorem c_X8_isOld (X : XW) (l : Launch) (σ : Mm) (z1 : Int) (b0 : 0 ≤ z1) (b1 : z1 < 4) : Ct X l yX8_isOld cX8_isOld 2 (Option.some FieldType.boolean) 0 0 σ [.inr (.inr (28, 0)), .inl z1] (Ans (some (.inl (bI (σ 34 0 z1 = 3 ∨ σ 34 0 z1 = 4)))) (σ)) := by
  refine Ct.intro (own := RX8) (by decide) rfl (Nat.le_of_ble_eq_true rfl) (fun M hM ok hq => ?_)
  subst hM
  show G X M cX8_isOld 2 σ 0 [(0, .inr (.inr (28, 0))), (1, .inl z1)] []
  refine g_aload_n ok dX8_isOld_0 rfl rfl ?_
  refine g_getr ok dX8_isOld_1 fl_X8_30 (Vd.one rfl) rfl rfl ?_
  refine g_iload_n ok dX8_isOld_4 rfl rfl ?_
  refine g_iald ok dX8_isOld_5 (Vd.one rfl) (fun _ => rfl) ⟨by omega, by omega⟩ (by decide) rfl (fun h1 h2 => ?_)
  refine g_iconst (v := 3) ok dX8_isOld_6 (by decide +kernel) ?_
  refine g_icmp_eq (tgt := 20) ok dX8_isOld_7 (by decide) ⟨by omega, by omega⟩ ⟨by omega, by omega⟩ (fun c3 => ?_) (fun c3 => ?_)
  · skip
    refine g_iconst (v := 1) ok dX8_isOld_20 (by decide +kernel) ?_
    refine g_goto (tgt := 25) ok dX8_isOld_21 (by decide) ?_
    exact g_zret ok hq dX8_isOld_25 (by omega) (by omega) (ansI (by first | (rw [bI_t (by omega)]) | (rw [bI_f (by omega)])) (by rfl))
  · skip
    refine g_aload_n ok dX8_isOld_10 rfl rfl ?_
    refine g_getr ok dX8_isOld_11 fl_X8_30 (Vd.one rfl) rfl rfl ?_
    refine g_iload_n ok dX8_isOld_14 rfl rfl ?_
    refine g_iald ok dX8_isOld_15 (Vd.one rfl) (fun _ => rfl) ⟨by omega, by omega⟩ (by decide) rfl (fun h4 h5 => ?_)
    refine g_iconst (v := 4) ok dX8_isOld_16 (by decide +kernel) ?_
    refine g_icmp_ne (tgt := 24) ok dX8_isOld_17 (by decide) ⟨by omega, by omega⟩ ⟨by omega, by omega⟩ (fun c6 => ?_) (fun c6 => ?_)
    · skip
      refine g_iconst (v := 0) ok dX8_isOld_24 (by decide +kernel) ?_
      exact g_zret ok hq dX8_isOld_25 (by omega) (by omega) (ansI (by first | (rw [bI_t (by omega)]) | (rw [bI_f (by omega)])) (by rfl))
    · skip
      refine g_iconst (v := 1) ok dX8_isOld_20 (by decide +kernel) ?_
      refine g_goto (tgt := 25) ok dX8_isOld_21 (by decide) ?_
      exact g_zret ok hq dX8_isOld_25 (by omega) (by omega) (ansI (by first | (rw [bI_t (by omega)]) | (rw [bI_f (by omega)])) (by rfl))

set_option maxRecDepth 100000 in
set_option maxHeartbeats 4000000 in
theorem c_X8_in (X : XW) (l : Launch) (σ : Mm) (z1 : Int) (b0 : 0 ≤ z1) (b1 : z1 < 4) : Ct X l yX8_in cX8_in 2 (Option.some FieldType.int) 1 21 σ [.inr (.inr (28, 0)), .inl z1] (Ans (some (.inl (inM σ z1))) (σ)) := by
  refine Ct.intro (own := RX8) (by decide) rfl (Nat.le_of_ble_eq_true rfl) (fun M hM ok hq => ?_)
  subst hM
  show G X M cX8_in 2 σ 0 [(0, .inr (.inr (28, 0))), (1, .inl z1)] []
  refine g_aload_n ok dX8_in_0 rfl rfl ?_
  refine g_iload_n ok dX8_in_1 rfl rfl ?_
  refine g_cV ok dX8_in_2 mv_X8_136 (c_X8_isQuick X _ _ _ (by omega) (by omega)) rfl (Vd.one rfl) rfl rfl (by decide) rfl (Nat.le_of_ble_eq_true rfl) ?_
  refine g_ifb_eq (tgt := 19) ok dX8_in_5 (by decide) (fun c1 => ?_) (fun c1 => ?_)
  · skip
    refine g_aload_n ok dX8_in_19 rfl rfl ?_
    refine g_getr ok dX8_in_20 fl_X8_39 (Vd.one rfl) rfl rfl ?_
    refine g_iload_n ok dX8_in_23 rfl rfl ?_
    refine g_iald ok dX8_in_24 (Vd.one rfl) (fun _ => rfl) ⟨by omega, by omega⟩ (by decide) rfl (fun h2 h3 => ?_)
    exact g_iret ok hq dX8_in_25 (ansI (by (simp only [inM, BAD, NO, FULL, NONE, NOTHING, INDEX, SIZE] <;> (repeat (first | rw [if_pos (by omega)] | rw [if_neg (by omega)])) <;> omega)) (by rfl))
  · skip
    refine g_iconst (v := 2) ok dX8_in_8 (by decide +kernel) ?_
    refine g_aload_n ok dX8_in_9 rfl rfl ?_
    refine g_getr ok dX8_in_10 fl_X8_39 (Vd.one rfl) rfl rfl ?_
    refine g_iload_n ok dX8_in_13 rfl rfl ?_
    refine g_iald ok dX8_in_14 (Vd.one rfl) (fun _ => rfl) ⟨by omega, by omega⟩ (by decide) rfl (fun h4 h5 => ?_)
    refine g_imul ok dX8_in_15 ?_
    refine g_goto (tgt := 25) ok dX8_in_16 (by decide) ?_
    exact g_iret ok hq dX8_in_25 (ansI (by (simp only [inM, BAD, NO, FULL, NONE, NOTHING, INDEX, SIZE] <;> (repeat (first | rw [if_pos (by omega)] | rw [if_neg (by omega)])) <;> omega)) (by rfl))

set_option maxRecDepth 100000 in
set_option maxHeartbeats 4000000 in
theorem c_X8_out (X : XW) (l : Launch) (σ : Mm) (z1 : Int) (b0 : 0 ≤ z1) (b1 : z1 < 4) : Ct X l yX8_out cX8_out 2 (Option.some FieldType.int) 1 21 σ [.inr (.inr (28, 0)), .inl z1] (Ans (some (.inl (outM σ z1))) (σ)) := by
  refine Ct.intro (own := RX8) (by decide) rfl (Nat.le_of_ble_eq_true rfl) (fun M hM ok hq => ?_)
  subst hM
  show G X M cX8_out 2 σ 0 [(0, .inr (.inr (28, 0))), (1, .inl z1)] []
  refine g_aload_n ok dX8_out_0 rfl rfl ?_
  refine g_iload_n ok dX8_out_1 rfl rfl ?_
  refine g_cV ok dX8_out_2 mv_X8_136 (c_X8_isQuick X _ _ _ (by omega) (by omega)) rfl (Vd.one rfl) rfl rfl (by decide) rfl (Nat.le_of_ble_eq_true rfl) ?_
  refine g_ifb_eq (tgt := 19) ok dX8_out_5 (by decide) (fun c1 => ?_) (fun c1 => ?_)
  · skip
    refine g_aload_n ok dX8_out_19 rfl rfl ?_
    refine g_getr ok dX8_out_20 fl_X8_42 (Vd.one rfl) rfl rfl ?_
    refine g_iload_n ok dX8_out_23 rfl rfl ?_
    refine g_iald ok dX8_out_24 (Vd.one rfl) (fun _ => rfl) ⟨by omega, by omega⟩ (by decide) rfl (fun h2 h3 => ?_)
    exact g_iret ok hq dX8_out_25 (ansI (by (simp only [outM, BAD, NO, FULL, NONE, NOTHING, INDEX, SIZE] <;> (repeat (first | rw [if_pos (by omega)] | rw [if_neg (by omega)])) <;> omega)) (by rfl))
  · skip
    refine g_iconst (v := 2) ok dX8_out_8 (by decide +kernel) ?_
    refine g_aload_n ok dX8_out_9 rfl rfl ?_
    refine g_getr ok dX8_out_10 fl_X8_42 (Vd.one rfl) rfl rfl ?_
    refine g_iload_n ok dX8_out_13 rfl rfl ?_
    refine g_iald ok dX8_out_14 (Vd.one rfl) (fun _ => rfl) ⟨by omega, by omega⟩ (by decide) rfl (fun h4 h5 => ?_)
    refine g_imul ok dX8_out_15 ?_
    refine g_goto (tgt := 25) ok dX8_out_16 (by decide) ?_
    exact g_iret ok hq dX8_out_25 (ansI (by (simp only [outM, BAD, NO, FULL, NONE, NOTHING, INDEX, SIZE] <;> (repeat (first | rw [if_pos (by omega)] | rw [if_neg (by omega)])) <;> omega)) (by rfl))

set_option maxRecDepth 100000 in
set_option maxHeartbeats 4000000 in
theorem c_X8_loss (X : XW) (l : Launch) (σ : Mm) (z1 : Int) (b0 : 0 ≤ z1) (b1 : z1 < 4) (hS : MSt σ) : Ct X l yX8_loss cX8_loss 2 (Option.some FieldType.int) 0 0 σ [.inr (.inr (28, 0)), .inl z1] (Ans (some (.inl (lossM σ z1))) (σ)) := by
  refine Ct.intro (own := RX8) (by decide) rfl (Nat.le_of_ble_eq_true rfl) (fun M hM ok hq => ?_)
  subst hM
  show G X M cX8_loss 2 σ 0 [(0, .inr (.inr (28, 0))), (1, .inl z1)] []
  have aS := hS z1
  refine g_aload_n ok dX8_loss_0 rfl rfl ?_
  refine g_getr ok dX8_loss_1 fl_X8_30 (Vd.one rfl) rfl rfl ?_
  refine g_iload_n ok dX8_loss_4 rfl rfl ?_
  refine g_iald ok dX8_loss_5 (Vd.one rfl) (fun _ => rfl) ⟨by omega, by omega⟩ (by decide) rfl (fun h1 h2 => ?_)
  refine g_iconst (v := 2) ok dX8_loss_6 (by decide +kernel) ?_
  refine g_icmp_ne (tgt := 21) ok dX8_loss_7 (by decide) ⟨by omega, by omega⟩ ⟨by omega, by omega⟩ (fun c3 => ?_) (fun c3 => ?_)
  · skip
    refine g_aload_n ok dX8_loss_21 rfl rfl ?_
    refine g_getr ok dX8_loss_22 fl_X8_45 (Vd.one rfl) rfl rfl ?_
    refine g_iload_n ok dX8_loss_25 rfl rfl ?_
    refine g_iald ok dX8_loss_26 (Vd.one rfl) (fun _ => rfl) ⟨by omega, by omega⟩ (by decide) rfl (fun h4 h5 => ?_)
    exact g_iret ok hq dX8_loss_27 (ansI (by (simp only [lossM, BAD, NO, FULL, NONE, NOTHING, INDEX, SIZE] <;> (repeat (first | rw [if_pos (by omega)] | rw [if_neg (by omega)])) <;> omega)) (by rfl))
  · skip
    refine g_aload_n ok dX8_loss_10 rfl rfl ?_
    refine g_getr ok dX8_loss_11 fl_X8_45 (Vd.one rfl) rfl rfl ?_
    refine g_iload_n ok dX8_loss_14 rfl rfl ?_
    refine g_iald ok dX8_loss_15 (Vd.one rfl) (fun _ => rfl) ⟨by omega, by omega⟩ (by decide) rfl (fun h6 h7 => ?_)
    refine g_iconst (v := 2) ok dX8_loss_16 (by decide +kernel) ?_
    refine g_idivP ok dX8_loss_17 ⟨by omega, by omega⟩ ⟨by omega, by omega⟩ (by omega) (by omega) ?_
    refine g_goto (tgt := 27) ok dX8_loss_18 (by decide) ?_
    exact g_iret ok hq dX8_loss_27 (ansI (by (simp only [lossM, BAD, NO, FULL, NONE, NOTHING, INDEX, SIZE] <;> (repeat (first | rw [if_pos (by omega)] | rw [if_neg (by omega)])) <;> omega)) (by rfl))

set_option maxRecDepth 100000 in
set_option maxHeartbeats 4000000 in
theorem c_X8_topOf (X : XW) (l : Launch) (σ : Mm) (z1 : Int) (b0 : 0 ≤ z1) (b1 : z1 < 4) (hS : MSt σ) : Ct X l yX8_topOf cX8_topOf 2 (Option.some FieldType.int) 1 21 σ [.inr (.inr (28, 0)), .inl z1] (Ans (some (.inl (topM σ z1))) (σ)) := by
  refine Ct.intro (own := RX8) (by decide) rfl (Nat.le_of_ble_eq_true rfl) (fun M hM ok hq => ?_)
  subst hM
  show G X M cX8_topOf 2 σ 0 [(0, .inr (.inr (28, 0))), (1, .inl z1)] []
  have aS := hS z1
  refine g_aload_n ok dX8_topOf_0 rfl rfl ?_
  refine g_iload_n ok dX8_topOf_1 rfl rfl ?_
  refine g_cV ok dX8_topOf_2 mv_X8_139 (c_X8_isOld X _ _ _ (by omega) (by omega)) rfl (Vd.one rfl) rfl rfl (by decide) rfl (Nat.le_of_ble_eq_true rfl) ?_
  refine g_ifb_eq (tgt := 21) ok dX8_topOf_5 (by decide) (fun c1 => ?_) (fun c1 => ?_)
  · skip
    refine g_aload_n ok dX8_topOf_21 rfl rfl ?_
    refine g_getr ok dX8_topOf_22 fl_X8_33 (Vd.one rfl) rfl rfl ?_
    refine g_iload_n ok dX8_topOf_25 rfl rfl ?_
    refine g_iald ok dX8_topOf_26 (Vd.one rfl) (fun _ => rfl) ⟨by omega, by omega⟩ (by decide) rfl (fun h2 h3 => ?_)
    exact g_iret ok hq dX8_topOf_27 (ansI (by (simp only [topM, BAD, NO, FULL, NONE, NOTHING, INDEX, SIZE] <;> (repeat (first | rw [if_pos (by omega)] | rw [if_neg (by omega)])) <;> omega)) (by rfl))
  · skip
    refine g_aload_n ok dX8_topOf_8 rfl rfl ?_
    refine g_getr ok dX8_topOf_9 fl_X8_33 (Vd.one rfl) rfl rfl ?_
    refine g_iload_n ok dX8_topOf_12 rfl rfl ?_
    refine g_iald ok dX8_topOf_13 (Vd.one rfl) (fun _ => rfl) ⟨by omega, by omega⟩ (by decide) rfl (fun h4 h5 => ?_)
    refine g_iconst (v := 4) ok dX8_topOf_14 (by decide +kernel) ?_
    refine g_imul ok dX8_topOf_15 ?_
    refine g_iconst (v := 5) ok dX8_topOf_16 (by decide +kernel) ?_
    refine g_idivP ok dX8_topOf_17 ⟨by omega, by omega⟩ ⟨by omega, by omega⟩ (by omega) (by omega) ?_
    refine g_goto (tgt := 27) ok dX8_topOf_18 (by decide) ?_
    exact g_iret ok hq dX8_topOf_27 (ansI (by (simp only [topM, BAD, NO, FULL, NONE, NOTHING, INDEX, SIZE] <;> (repeat (first | rw [if_pos (by omega)] | rw [if_neg (by omega)])) <;> omega)) (by rfl))

set_option maxRecDepth 100000 in
set_option maxHeartbeats 4000000 in
theorem c_X8_floorOf (X : XW) (l : Launch) (σ : Mm) (z1 : Int) (b0 : 0 ≤ z1) (b1 : z1 < 4) (hS : MSt σ) : Ct X l yX8_floorOf cX8_floorOf 2 (Option.some FieldType.int) 0 0 σ [.inr (.inr (28, 0)), .inl z1] (Ans (some (.inl (floM σ z1))) (σ)) := by
  refine Ct.intro (own := RX8) (by decide) rfl (Nat.le_of_ble_eq_true rfl) (fun M hM ok hq => ?_)
  subst hM
  show G X M cX8_floorOf 2 σ 0 [(0, .inr (.inr (28, 0))), (1, .inl z1)] []
  have aS := hS z1
  refine g_aload_n ok dX8_floorOf_0 rfl rfl ?_
  refine g_getr ok dX8_floorOf_1 fl_X8_30 (Vd.one rfl) rfl rfl ?_
  refine g_iload_n ok dX8_floorOf_4 rfl rfl ?_
  refine g_iald ok dX8_floorOf_5 (Vd.one rfl) (fun _ => rfl) ⟨by omega, by omega⟩ (by decide) rfl (fun h1 h2 => ?_)
  refine g_iconst (v := 4) ok dX8_floorOf_6 (by decide +kernel) ?_
  refine g_icmp_ne (tgt := 22) ok dX8_floorOf_7 (by decide) ⟨by omega, by omega⟩ ⟨by omega, by omega⟩ (fun c3 => ?_) (fun c3 => ?_)
  · skip
    refine g_iconst (v := 0) ok dX8_floorOf_22 (by decide +kernel) ?_
    exact g_iret ok hq dX8_floorOf_23 (ansI (by (simp only [floM, BAD, NO, FULL, NONE, NOTHING, INDEX, SIZE] <;> (repeat (first | rw [if_pos (by omega)] | rw [if_neg (by omega)])) <;> omega)) (by rfl))
  · skip
    refine g_aload_n ok dX8_floorOf_10 rfl rfl ?_
    refine g_getr ok dX8_floorOf_11 fl_X8_33 (Vd.one rfl) rfl rfl ?_
    refine g_iload_n ok dX8_floorOf_14 rfl rfl ?_
    refine g_iald ok dX8_floorOf_15 (Vd.one rfl) (fun _ => rfl) ⟨by omega, by omega⟩ (by decide) rfl (fun h4 h5 => ?_)
    refine g_bipush (v := 10) ok dX8_floorOf_16 (by decide +kernel) ?_
    refine g_idivP ok dX8_floorOf_18 ⟨by omega, by omega⟩ ⟨by omega, by omega⟩ (by omega) (by omega) ?_
    refine g_goto (tgt := 23) ok dX8_floorOf_19 (by decide) ?_
    exact g_iret ok hq dX8_floorOf_23 (ansI (by (simp only [floM, BAD, NO, FULL, NONE, NOTHING, INDEX, SIZE] <;> (repeat (first | rw [if_pos (by omega)] | rw [if_neg (by omega)])) <;> omega)) (by rfl))

set_option maxRecDepth 100000 in
set_option maxHeartbeats 4000000 in
theorem c_X8_asked (X : XW) (l : Launch) (σ : Mm) (z1 : Int) (rz1 : R32 z1) : Ct X l yX8_asked cX8_asked 2 (Option.some FieldType.long) 2 45 σ [.inr (.inr (28, 0)), .inl z1] (P3 σ (¬ (0 ≤ z1 ∧ z1 ≤ 3)) ((0 ≤ z1 ∧ z1 ≤ 3) ∧ σ 34 0 z1 < 0) ((0 ≤ z1 ∧ z1 ≤ 3) ∧ 0 ≤ σ 34 0 z1) (.inr (.inl (-9000000000000000001))) (.inr (.inl (-9000000000000000002))) (.inr (.inl 0))) := by
  refine Ct.intro (own := RX8) (by decide) rfl (Nat.le_of_ble_eq_true rfl) (fun M hM ok hq => ?_)
  subst hM
  have rz1l := rz1.1
  have rz1r := rz1.2
  show G X M cX8_asked 2 σ 0 [(0, .inr (.inr (28, 0))), (1, .inl z1)] []
  refine g_iload_n ok dX8_asked_0 rfl rfl ?_
  refine g_cS ok dX8_asked_1 ms_X8_124 (c_X8_isStore X _ _ _ ⟨by omega, by omega⟩) rfl (by decide) rfl (Nat.le_of_ble_eq_true rfl) ?_
  refine g_ifb_ne (tgt := 13) ok dX8_asked_4 (by decide) (fun c1 => ?_) (fun c1 => ?_)
  · skip
    refine g_aload_n ok dX8_asked_13 rfl rfl ?_
    refine g_getr ok dX8_asked_14 fl_X8_30 (Vd.one rfl) rfl rfl ?_
    refine g_iload_n ok dX8_asked_17 rfl rfl ?_
    refine g_iald ok dX8_asked_18 (Vd.one rfl) (fun _ => rfl) ⟨by omega, by omega⟩ (by decide) rfl (fun h2 h3 => ?_)
    refine g_if_ge (tgt := 28) ok dX8_asked_19 (by decide) ⟨by omega, by omega⟩ (fun c4 => ?_) (fun c4 => ?_)
    · skip
      refine g_lconst (v := 0) ok dX8_asked_28 (by decide +kernel) ?_
      exact g_lret ok hq dX8_asked_29 (by exact ⟨rfl, by first | exact Or.inl ⟨by omega, rfl⟩ | exact Or.inr (Or.inl ⟨by omega, rfl⟩) | exact Or.inr (Or.inr ⟨by omega, rfl⟩)⟩)
    · skip
      refine g_ldc2 (v := -9000000000000000002) ok dX8_asked_22 wd4_104 (by decide +kernel) ?_
      refine g_goto (tgt := 29) ok dX8_asked_25 (by decide) ?_
      exact g_lret ok hq dX8_asked_29 (by exact ⟨rfl, by first | exact Or.inl ⟨by omega, rfl⟩ | exact Or.inr (Or.inl ⟨by omega, rfl⟩) | exact Or.inr (Or.inr ⟨by omega, rfl⟩)⟩)
  · skip
    refine g_ldc2 (v := -9000000000000000001) ok dX8_asked_7 wd4_69 (by decide +kernel) ?_
    refine g_goto (tgt := 29) ok dX8_asked_10 (by decide) ?_
    exact g_lret ok hq dX8_asked_29 (by exact ⟨rfl, by first | exact Or.inl ⟨by omega, rfl⟩ | exact Or.inr (Or.inl ⟨by omega, rfl⟩) | exact Or.inr (Or.inr ⟨by omega, rfl⟩)⟩)

set_option maxRecDepth 100000 in
set_option maxHeartbeats 4000000 in
theorem c_X8_between (X : XW) (l : Launch) (σ : Mm) (z1 z2 z3 : Int) (rz1 : R32 z1) (rz2 : R32 z2) (rz3 : R32 z3) : Ct X l yX8_between cX8_between 3 (Option.some FieldType.int) 0 0 σ [.inl z1, .inl z2, .inl z3] (Ans (some (.inl (btw z1 z2 z3))) (σ)) := by
  refine Ct.intro (own := RX8) (by decide) rfl (Nat.le_of_ble_eq_true rfl) (fun M hM ok hq => ?_)
  subst hM
  have rz1l := rz1.1
  have rz1r := rz1.2
  have rz2l := rz2.1
  have rz2r := rz2.2
  have rz3l := rz3.1
  have rz3r := rz3.2
  show G X M cX8_between 3 σ 0 [(0, .inl z1), (1, .inl z2), (2, .inl z3)] []
  refine g_iload_n ok dX8_between_0 rfl rfl ?_
  refine g_iload_n ok dX8_between_1 rfl rfl ?_
  refine g_icmp_ge (tgt := 9) ok dX8_between_2 (by decide) ⟨by omega, by omega⟩ ⟨by omega, by omega⟩ (fun c1 => ?_) (fun c1 => ?_)
  · skip
    refine g_iload_n ok dX8_between_9 rfl rfl ?_
    refine g_iload_n ok dX8_between_10 rfl rfl ?_
    refine g_icmp_le (tgt := 18) ok dX8_between_11 (by decide) ⟨by omega, by omega⟩ ⟨by omega, by omega⟩ (fun c2 => ?_) (fun c2 => ?_)
    · skip
      refine g_iload_n ok dX8_between_18 rfl rfl ?_
      exact g_iret ok hq dX8_between_19 (ansI (by (simp only [btw, BAD, NO, FULL, NONE, NOTHING, INDEX, SIZE] <;> (repeat (first | rw [if_pos (by omega)] | rw [if_neg (by omega)])) <;> omega)) (by rfl))
    · skip
      refine g_iload_n ok dX8_between_14 rfl rfl ?_
      refine g_goto (tgt := 19) ok dX8_between_15 (by decide) ?_
      exact g_iret ok hq dX8_between_19 (ansI (by (simp only [btw, BAD, NO, FULL, NONE, NOTHING, INDEX, SIZE] <;> (repeat (first | rw [if_pos (by omega)] | rw [if_neg (by omega)])) <;> omega)) (by rfl))
  · skip
    refine g_iload_n ok dX8_between_5 rfl rfl ?_
    refine g_goto (tgt := 19) ok dX8_between_6 (by decide) ?_
    exact g_iret ok hq dX8_between_19 (ansI (by (simp only [btw, BAD, NO, FULL, NONE, NOTHING, INDEX, SIZE] <;> (repeat (first | rw [if_pos (by omega)] | rw [if_neg (by omega)])) <;> omega)) (by rfl))
