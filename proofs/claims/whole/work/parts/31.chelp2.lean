set_option maxRecDepth 100000 in
set_option maxHeartbeats 4000000 in
theorem c_X0_renew (X : XW) (l : Launch) (σ : Mm) (i z1 z2 : Int) (b0 : 0 ≤ i) (b1 : i < 4) (c0 : 0 ≤ z1) (c1 : z1 ≤ 4) (c2 : 1 ≤ z2) (c3 : z2 ≤ 60) : Ct X l yX0_renew cX0_renew 3 (Option.none : Option FieldType) 2 43 σ [.inr (.inr (8, i)), .inl z1, .inl z2] (Ans none (nwB σ i z1 z2)) := by
  refine Ct.intro (own := RX0) (by decide) rfl (Nat.le_of_ble_eq_true rfl) (fun M hM ok hq => ?_)
  subst hM
  show G X M cX0_renew 3 σ 0 [(0, .inr (.inr (8, i))), (1, .inl z1), (2, .inl z2)] []
  refine g_aload_n ok dX0_renew_0 rfl rfl ?_
  refine g_iconst (v := 1) ok dX0_renew_1 (by decide +kernel) ?_
  refine g_putz (z := 0) ok dX0_renew_2 fw_X0_15 (Vd.four rfl (by omega) (by omega)) rfl rfl (Nat.le_of_ble_eq_true rfl) rfl (by omega) (by omega) ?_
  refine g_aload_n ok dX0_renew_5 rfl rfl ?_
  refine g_iload_n ok dX0_renew_6 rfl rfl ?_
  refine g_puti (z := 1) ok dX0_renew_7 fw_X0_19 (Vd.four rfl (by omega) (by omega)) rfl rfl (Nat.le_of_ble_eq_true rfl) rfl ⟨by omega, by omega⟩ ?_
  refine g_aload_n ok dX0_renew_10 rfl rfl ?_
  refine g_iload_n ok dX0_renew_11 rfl rfl ?_
  refine g_puti (z := 2) ok dX0_renew_12 fw_X0_23 (Vd.four rfl (by omega) (by omega)) rfl rfl (Nat.le_of_ble_eq_true rfl) rfl ⟨by omega, by omega⟩ ?_
  refine g_aload_n ok dX0_renew_15 rfl rfl ?_
  refine g_aload_n ok dX0_renew_16 rfl rfl ?_
  refine g_iconst (v := 4) ok dX0_renew_17 (by decide +kernel) ?_
  refine g_cV ok dX0_renew_18 mv_X0_26 (c_X0_isA X _ _ _ _ (by omega) (by omega) ⟨by omega, by omega⟩) rfl (Vd.four rfl (by omega) (by omega)) rfl rfl (by decide) rfl (Nat.le_of_ble_eq_true rfl) ?_
  rw [show (up (up (up σ 8 i 0 1) 8 i 1 z1) 8 i 2 z2) 8 i 1 = z1 by simp [up]]
  refine g_ifb_eq (tgt := 34) ok dX0_renew_21 (by decide) (fun c1 => ?_) (fun c1 => ?_)
  · skip
    refine g_iconst (v := 0) ok dX0_renew_34 (by decide +kernel) ?_
    refine g_puti (z := 4) ok dX0_renew_35 fw_X0_30 (Vd.four rfl (by omega) (by omega)) rfl rfl (Nat.le_of_ble_eq_true rfl) rfl ⟨by omega, by omega⟩ ?_
    refine g_aload_n ok dX0_renew_38 rfl rfl ?_
    refine g_aload_n ok dX0_renew_39 rfl rfl ?_
    refine g_iconst (v := 3) ok dX0_renew_40 (by decide +kernel) ?_
    refine g_cV ok dX0_renew_41 mv_X0_26 (c_X0_isA X _ _ _ _ (by omega) (by omega) ⟨by omega, by omega⟩) rfl (Vd.four rfl (by omega) (by omega)) rfl rfl (by decide) rfl (Nat.le_of_ble_eq_true rfl) ?_
    rw [show ∀ v, (up (up (up (up σ 8 i 0 1) 8 i 1 z1) 8 i 2 z2) 8 i 4 v) 8 i 1 = z1 from fun v => by simp [up]]
    refine g_ifb_eq (tgt := 58) ok dX0_renew_44 (by decide) (fun c2 => ?_) (fun c2 => ?_)
    · skip
      refine g_aload_n ok dX0_renew_58 rfl rfl ?_
      refine g_geti3 (z2) (z := 2) ok dX0_renew_59 fl_X0_23 (Vd.four rfl (by omega) (by omega)) rfl rfl rfl (by simp [up]) (fun h3 h4 => ?_)
      refine g_puti (z := 5) ok dX0_renew_62 fw_X0_33 (Vd.four rfl (by omega) (by omega)) rfl rfl (Nat.le_of_ble_eq_true rfl) rfl ⟨by omega, by omega⟩ ?_
      refine g_aload_n ok dX0_renew_65 rfl rfl ?_
      refine g_aload_n ok dX0_renew_66 rfl rfl ?_
      refine g_geti (z := 4) ok dX0_renew_67 fl_X0_30 (Vd.four rfl (by omega) (by omega)) rfl rfl rfl (fun h5 h6 => ?_)
      rw [show ∀ v h, (up (up (up (up (up σ 8 i 0 1) 8 i 1 z1) 8 i 2 z2) 8 i 4 v) 8 i 5 h) 8 i 4 = v from fun v h => by simp [up]]
      refine g_puti (z := 3) ok dX0_renew_70 fw_X0_36 (Vd.four rfl (by omega) (by omega)) rfl rfl (Nat.le_of_ble_eq_true rfl) rfl ⟨by omega, by omega⟩ ?_
      refine g_aload_n ok dX0_renew_73 rfl rfl ?_
      refine g_iconst (v := 0) ok dX0_renew_74 (by decide +kernel) ?_
      refine g_puti (z := 10) ok dX0_renew_75 fw_X0_39 (Vd.four rfl (by omega) (by omega)) rfl rfl (Nat.le_of_ble_eq_true rfl) rfl ⟨by omega, by omega⟩ ?_
      refine g_aload_n ok dX0_renew_78 rfl rfl ?_
      refine g_ldc (v := 100000) ok dX0_renew_79 wd2_123 (by decide +kernel) ?_
      refine g_puti (z := 11) ok dX0_renew_81 fw_X0_43 (Vd.four rfl (by omega) (by omega)) rfl rfl (Nat.le_of_ble_eq_true rfl) rfl ⟨by omega, by omega⟩ ?_
      refine g_aload_n ok dX0_renew_84 rfl rfl ?_
      refine g_cV0 ok dX0_renew_85 mv_X0_46 (c_X0_clearPlan X _ _ _ (by omega) (by omega)) rfl (Vd.four rfl (by omega) (by omega)) rfl rfl (by decide) rfl (Nat.le_of_ble_eq_true rfl) ?_
      exact g_vret ok hq dX0_renew_88 (ansV (by (unfold nwB; (repeat (first | rw [if_pos (by omega)] | rw [if_neg (by omega)])); (try (first | rfl | (exfalso; omega))))))
    · skip
      refine g_aload_n ok dX0_renew_47 rfl rfl ?_
      refine g_geti3 (z2) (z := 2) ok dX0_renew_48 fl_X0_23 (Vd.four rfl (by omega) (by omega)) rfl rfl rfl (by simp [up]) (fun h7 h8 => ?_)
      refine g_iconst (v := 4) ok dX0_renew_51 (by decide +kernel) ?_
      refine g_imul ok dX0_renew_52 ?_
      refine g_iconst (v := 5) ok dX0_renew_53 (by decide +kernel) ?_
      refine g_idivP ok dX0_renew_54 ⟨by omega, by omega⟩ ⟨by omega, by omega⟩ (by omega) (by omega) ?_
      refine g_goto (tgt := 62) ok dX0_renew_55 (by decide) ?_
      refine g_puti (z := 5) ok dX0_renew_62 fw_X0_33 (Vd.four rfl (by omega) (by omega)) rfl rfl (Nat.le_of_ble_eq_true rfl) rfl ⟨by omega, by omega⟩ ?_
      refine g_aload_n ok dX0_renew_65 rfl rfl ?_
      refine g_aload_n ok dX0_renew_66 rfl rfl ?_
      refine g_geti (z := 4) ok dX0_renew_67 fl_X0_30 (Vd.four rfl (by omega) (by omega)) rfl rfl rfl (fun h9 h10 => ?_)
      rw [show ∀ v h, (up (up (up (up (up σ 8 i 0 1) 8 i 1 z1) 8 i 2 z2) 8 i 4 v) 8 i 5 h) 8 i 4 = v from fun v h => by simp [up]]
      refine g_puti (z := 3) ok dX0_renew_70 fw_X0_36 (Vd.four rfl (by omega) (by omega)) rfl rfl (Nat.le_of_ble_eq_true rfl) rfl ⟨by omega, by omega⟩ ?_
      refine g_aload_n ok dX0_renew_73 rfl rfl ?_
      refine g_iconst (v := 0) ok dX0_renew_74 (by decide +kernel) ?_
      refine g_puti (z := 10) ok dX0_renew_75 fw_X0_39 (Vd.four rfl (by omega) (by omega)) rfl rfl (Nat.le_of_ble_eq_true rfl) rfl ⟨by omega, by omega⟩ ?_
      refine g_aload_n ok dX0_renew_78 rfl rfl ?_
      refine g_ldc (v := 100000) ok dX0_renew_79 wd2_123 (by decide +kernel) ?_
      refine g_puti (z := 11) ok dX0_renew_81 fw_X0_43 (Vd.four rfl (by omega) (by omega)) rfl rfl (Nat.le_of_ble_eq_true rfl) rfl ⟨by omega, by omega⟩ ?_
      refine g_aload_n ok dX0_renew_84 rfl rfl ?_
      refine g_cV0 ok dX0_renew_85 mv_X0_46 (c_X0_clearPlan X _ _ _ (by omega) (by omega)) rfl (Vd.four rfl (by omega) (by omega)) rfl rfl (by decide) rfl (Nat.le_of_ble_eq_true rfl) ?_
      exact g_vret ok hq dX0_renew_88 (ansV (by (unfold nwB; (repeat (first | rw [if_pos (by omega)] | rw [if_neg (by omega)])); (try (first | rfl | (exfalso; omega))))))
  · skip
    refine g_aload_n ok dX0_renew_24 rfl rfl ?_
    refine g_geti3 (z2) (z := 2) ok dX0_renew_25 fl_X0_23 (Vd.four rfl (by omega) (by omega)) rfl rfl rfl (by simp [up]) (fun h11 h12 => ?_)
    refine g_bipush (v := 10) ok dX0_renew_28 (by decide +kernel) ?_
    refine g_idivP ok dX0_renew_30 ⟨by omega, by omega⟩ ⟨by omega, by omega⟩ (by omega) (by omega) ?_
    refine g_goto (tgt := 35) ok dX0_renew_31 (by decide) ?_
    refine g_puti (z := 4) ok dX0_renew_35 fw_X0_30 (Vd.four rfl (by omega) (by omega)) rfl rfl (Nat.le_of_ble_eq_true rfl) rfl ⟨by omega, by omega⟩ ?_
    refine g_aload_n ok dX0_renew_38 rfl rfl ?_
    refine g_aload_n ok dX0_renew_39 rfl rfl ?_
    refine g_iconst (v := 3) ok dX0_renew_40 (by decide +kernel) ?_
    refine g_cV ok dX0_renew_41 mv_X0_26 (c_X0_isA X _ _ _ _ (by omega) (by omega) ⟨by omega, by omega⟩) rfl (Vd.four rfl (by omega) (by omega)) rfl rfl (by decide) rfl (Nat.le_of_ble_eq_true rfl) ?_
    rw [show ∀ v, (up (up (up (up σ 8 i 0 1) 8 i 1 z1) 8 i 2 z2) 8 i 4 v) 8 i 1 = z1 from fun v => by simp [up]]
    refine g_ifb_eq (tgt := 58) ok dX0_renew_44 (by decide) (fun c13 => ?_) (fun c13 => ?_)
    · skip
      refine g_aload_n ok dX0_renew_58 rfl rfl ?_
      refine g_geti3 (z2) (z := 2) ok dX0_renew_59 fl_X0_23 (Vd.four rfl (by omega) (by omega)) rfl rfl rfl (by simp [up]) (fun h14 h15 => ?_)
      refine g_puti (z := 5) ok dX0_renew_62 fw_X0_33 (Vd.four rfl (by omega) (by omega)) rfl rfl (Nat.le_of_ble_eq_true rfl) rfl ⟨by omega, by omega⟩ ?_
      refine g_aload_n ok dX0_renew_65 rfl rfl ?_
      refine g_aload_n ok dX0_renew_66 rfl rfl ?_
      refine g_geti (z := 4) ok dX0_renew_67 fl_X0_30 (Vd.four rfl (by omega) (by omega)) rfl rfl rfl (fun h16 h17 => ?_)
      rw [show ∀ v h, (up (up (up (up (up σ 8 i 0 1) 8 i 1 z1) 8 i 2 z2) 8 i 4 v) 8 i 5 h) 8 i 4 = v from fun v h => by simp [up]]
      refine g_puti (z := 3) ok dX0_renew_70 fw_X0_36 (Vd.four rfl (by omega) (by omega)) rfl rfl (Nat.le_of_ble_eq_true rfl) rfl ⟨by omega, by omega⟩ ?_
      refine g_aload_n ok dX0_renew_73 rfl rfl ?_
      refine g_iconst (v := 0) ok dX0_renew_74 (by decide +kernel) ?_
      refine g_puti (z := 10) ok dX0_renew_75 fw_X0_39 (Vd.four rfl (by omega) (by omega)) rfl rfl (Nat.le_of_ble_eq_true rfl) rfl ⟨by omega, by omega⟩ ?_
      refine g_aload_n ok dX0_renew_78 rfl rfl ?_
      refine g_ldc (v := 100000) ok dX0_renew_79 wd2_123 (by decide +kernel) ?_
      refine g_puti (z := 11) ok dX0_renew_81 fw_X0_43 (Vd.four rfl (by omega) (by omega)) rfl rfl (Nat.le_of_ble_eq_true rfl) rfl ⟨by omega, by omega⟩ ?_
      refine g_aload_n ok dX0_renew_84 rfl rfl ?_
      refine g_cV0 ok dX0_renew_85 mv_X0_46 (c_X0_clearPlan X _ _ _ (by omega) (by omega)) rfl (Vd.four rfl (by omega) (by omega)) rfl rfl (by decide) rfl (Nat.le_of_ble_eq_true rfl) ?_
      exact g_vret ok hq dX0_renew_88 (ansV (by (unfold nwB; (repeat (first | rw [if_pos (by omega)] | rw [if_neg (by omega)])); (try (first | rfl | (exfalso; omega))))))
    · skip
      refine g_aload_n ok dX0_renew_47 rfl rfl ?_
      refine g_geti3 (z2) (z := 2) ok dX0_renew_48 fl_X0_23 (Vd.four rfl (by omega) (by omega)) rfl rfl rfl (by simp [up]) (fun h18 h19 => ?_)
      refine g_iconst (v := 4) ok dX0_renew_51 (by decide +kernel) ?_
      refine g_imul ok dX0_renew_52 ?_
      refine g_iconst (v := 5) ok dX0_renew_53 (by decide +kernel) ?_
      refine g_idivP ok dX0_renew_54 ⟨by omega, by omega⟩ ⟨by omega, by omega⟩ (by omega) (by omega) ?_
      refine g_goto (tgt := 62) ok dX0_renew_55 (by decide) ?_
      refine g_puti (z := 5) ok dX0_renew_62 fw_X0_33 (Vd.four rfl (by omega) (by omega)) rfl rfl (Nat.le_of_ble_eq_true rfl) rfl ⟨by omega, by omega⟩ ?_
      refine g_aload_n ok dX0_renew_65 rfl rfl ?_
      refine g_aload_n ok dX0_renew_66 rfl rfl ?_
      refine g_geti (z := 4) ok dX0_renew_67 fl_X0_30 (Vd.four rfl (by omega) (by omega)) rfl rfl rfl (fun h20 h21 => ?_)
      rw [show ∀ v h, (up (up (up (up (up σ 8 i 0 1) 8 i 1 z1) 8 i 2 z2) 8 i 4 v) 8 i 5 h) 8 i 4 = v from fun v h => by simp [up]]
      refine g_puti (z := 3) ok dX0_renew_70 fw_X0_36 (Vd.four rfl (by omega) (by omega)) rfl rfl (Nat.le_of_ble_eq_true rfl) rfl ⟨by omega, by omega⟩ ?_
      refine g_aload_n ok dX0_renew_73 rfl rfl ?_
      refine g_iconst (v := 0) ok dX0_renew_74 (by decide +kernel) ?_
      refine g_puti (z := 10) ok dX0_renew_75 fw_X0_39 (Vd.four rfl (by omega) (by omega)) rfl rfl (Nat.le_of_ble_eq_true rfl) rfl ⟨by omega, by omega⟩ ?_
      refine g_aload_n ok dX0_renew_78 rfl rfl ?_
      refine g_ldc (v := 100000) ok dX0_renew_79 wd2_123 (by decide +kernel) ?_
      refine g_puti (z := 11) ok dX0_renew_81 fw_X0_43 (Vd.four rfl (by omega) (by omega)) rfl rfl (Nat.le_of_ble_eq_true rfl) rfl ⟨by omega, by omega⟩ ?_
      refine g_aload_n ok dX0_renew_84 rfl rfl ?_
      refine g_cV0 ok dX0_renew_85 mv_X0_46 (c_X0_clearPlan X _ _ _ (by omega) (by omega)) rfl (Vd.four rfl (by omega) (by omega)) rfl rfl (by decide) rfl (Nat.le_of_ble_eq_true rfl) ?_
      exact g_vret ok hq dX0_renew_88 (ansV (by (unfold nwB; (repeat (first | rw [if_pos (by omega)] | rw [if_neg (by omega)])); (try (first | rfl | (exfalso; omega))))))

set_option maxRecDepth 100000 in
set_option maxHeartbeats 4000000 in
theorem c_X0_setRates (X : XW) (l : Launch) (σ : Mm) (i z1 z2 : Int) (b0 : 0 ≤ i) (b1 : i < 4) (c0 : 1 ≤ z1) (c1 : z1 ≤ 20) (c2 : 1 ≤ z2) (c3 : z2 ≤ 20) : Ct X l yX0_setRates cX0_setRates 4 (Option.none : Option FieldType) 1 21 σ [.inr (.inr (8, i)), .inl z1, .inl z2] (Ans none (nwR σ i z1 z2)) := by
  refine Ct.intro (own := RX0) (by decide) rfl (Nat.le_of_ble_eq_true rfl) (fun M hM ok hq => ?_)
  subst hM
  show G X M cX0_setRates 4 σ 0 [(0, .inr (.inr (8, i))), (1, .inl z1), (2, .inl z2)] []
  refine g_aload_n ok dX0_setRates_0 rfl rfl ?_
  refine g_iconst (v := 1) ok dX0_setRates_1 (by decide +kernel) ?_
  refine g_cV ok dX0_setRates_2 mv_X0_26 (c_X0_isA X _ _ _ _ (by omega) (by omega) ⟨by omega, by omega⟩) rfl (Vd.four rfl (by omega) (by omega)) rfl rfl (by decide) rfl (Nat.le_of_ble_eq_true rfl) ?_
  refine g_ifb_eq (tgt := 12) ok dX0_setRates_5 (by decide) (fun c1 => ?_) (fun c1 => ?_)
  · skip
    refine g_iconst (v := 1) ok dX0_setRates_12 (by decide +kernel) ?_
    refine g_istore_n ok dX0_setRates_13 rfl (Nat.le_of_ble_eq_true rfl) ?_
    refine g_aload_n ok dX0_setRates_14 rfl rfl ?_
    refine g_iload_n ok dX0_setRates_15 rfl rfl ?_
    refine g_iload_n ok dX0_setRates_16 rfl rfl ?_
    refine g_imul ok dX0_setRates_17 ?_
    refine g_puti (z := 6) ok dX0_setRates_18 fw_X0_49 (Vd.four rfl (by omega) (by omega)) rfl rfl (Nat.le_of_ble_eq_true rfl) rfl ⟨by omega, by omega⟩ ?_
    refine g_aload_n ok dX0_setRates_21 rfl rfl ?_
    refine g_iload_n ok dX0_setRates_22 rfl rfl ?_
    refine g_iload_n ok dX0_setRates_23 rfl rfl ?_
    refine g_imul ok dX0_setRates_24 ?_
    refine g_puti (z := 7) ok dX0_setRates_25 fw_X0_52 (Vd.four rfl (by omega) (by omega)) rfl rfl (Nat.le_of_ble_eq_true rfl) rfl ⟨by omega, by omega⟩ ?_
    exact g_vret ok hq dX0_setRates_28 (ansV (by (unfold nwR; (repeat (first | rw [if_pos (by omega)] | rw [if_neg (by omega)])); (try (first | rfl | (exfalso; omega))))))
  · skip
    refine g_iconst (v := 2) ok dX0_setRates_8 (by decide +kernel) ?_
    refine g_goto (tgt := 13) ok dX0_setRates_9 (by decide) ?_
    refine g_istore_n ok dX0_setRates_13 rfl (Nat.le_of_ble_eq_true rfl) ?_
    refine g_aload_n ok dX0_setRates_14 rfl rfl ?_
    refine g_iload_n ok dX0_setRates_15 rfl rfl ?_
    refine g_iload_n ok dX0_setRates_16 rfl rfl ?_
    refine g_imul ok dX0_setRates_17 ?_
    refine g_puti (z := 6) ok dX0_setRates_18 fw_X0_49 (Vd.four rfl (by omega) (by omega)) rfl rfl (Nat.le_of_ble_eq_true rfl) rfl ⟨by omega, by omega⟩ ?_
    refine g_aload_n ok dX0_setRates_21 rfl rfl ?_
    refine g_iload_n ok dX0_setRates_22 rfl rfl ?_
    refine g_iload_n ok dX0_setRates_23 rfl rfl ?_
    refine g_imul ok dX0_setRates_24 ?_
    refine g_puti (z := 7) ok dX0_setRates_25 fw_X0_52 (Vd.four rfl (by omega) (by omega)) rfl rfl (Nat.le_of_ble_eq_true rfl) rfl ⟨by omega, by omega⟩ ?_
    exact g_vret ok hq dX0_setRates_28 (ansV (by (unfold nwR; (repeat (first | rw [if_pos (by omega)] | rw [if_neg (by omega)])); (try (first | rfl | (exfalso; omega))))))

set_option maxRecDepth 100000 in
set_option maxHeartbeats 4000000 in
theorem c_X0_setLosses (X : XW) (l : Launch) (σ : Mm) (i z1 z2 : Int) (b0 : 0 ≤ i) (b1 : i < 4) (c0 : 0 ≤ z1) (c1 : z1 ≤ 50) (c2 : 0 ≤ z2) (c3 : z2 ≤ 100) : Ct X l yX0_setLosses cX0_setLosses 3 (Option.none : Option FieldType) 1 21 σ [.inr (.inr (8, i)), .inl z1, .inl z2] (Ans none (nwL σ i z1 z2)) := by
  refine Ct.intro (own := RX0) (by decide) rfl (Nat.le_of_ble_eq_true rfl) (fun M hM ok hq => ?_)
  subst hM
  show G X M cX0_setLosses 3 σ 0 [(0, .inr (.inr (8, i))), (1, .inl z1), (2, .inl z2)] []
  refine g_aload_n ok dX0_setLosses_0 rfl rfl ?_
  refine g_aload_n ok dX0_setLosses_1 rfl rfl ?_
  refine g_iconst (v := 2) ok dX0_setLosses_2 (by decide +kernel) ?_
  refine g_cV ok dX0_setLosses_3 mv_X0_26 (c_X0_isA X _ _ _ _ (by omega) (by omega) ⟨by omega, by omega⟩) rfl (Vd.four rfl (by omega) (by omega)) rfl rfl (by decide) rfl (Nat.le_of_ble_eq_true rfl) ?_
  refine g_ifb_eq (tgt := 15) ok dX0_setLosses_6 (by decide) (fun c1 => ?_) (fun c1 => ?_)
  · skip
    refine g_iload_n ok dX0_setLosses_15 rfl rfl ?_
    refine g_puti (z := 8) ok dX0_setLosses_16 fw_X0_55 (Vd.four rfl (by omega) (by omega)) rfl rfl (Nat.le_of_ble_eq_true rfl) rfl ⟨by omega, by omega⟩ ?_
    refine g_aload_n ok dX0_setLosses_19 rfl rfl ?_
    refine g_iload_n ok dX0_setLosses_20 rfl rfl ?_
    refine g_puti (z := 9) ok dX0_setLosses_21 fw_X0_58 (Vd.four rfl (by omega) (by omega)) rfl rfl (Nat.le_of_ble_eq_true rfl) rfl ⟨by omega, by omega⟩ ?_
    exact g_vret ok hq dX0_setLosses_24 (ansV (by (unfold nwL; (repeat (first | rw [if_pos (by omega)] | rw [if_neg (by omega)])); (try (first | rfl | (exfalso; omega))))))
  · skip
    refine g_iload_n ok dX0_setLosses_9 rfl rfl ?_
    refine g_iconst (v := 2) ok dX0_setLosses_10 (by decide +kernel) ?_
    refine g_idivP ok dX0_setLosses_11 ⟨by omega, by omega⟩ ⟨by omega, by omega⟩ (by omega) (by omega) ?_
    refine g_goto (tgt := 16) ok dX0_setLosses_12 (by decide) ?_
    refine g_puti (z := 8) ok dX0_setLosses_16 fw_X0_55 (Vd.four rfl (by omega) (by omega)) rfl rfl (Nat.le_of_ble_eq_true rfl) rfl ⟨by omega, by omega⟩ ?_
    refine g_aload_n ok dX0_setLosses_19 rfl rfl ?_
    refine g_iload_n ok dX0_setLosses_20 rfl rfl ?_
    refine g_puti (z := 9) ok dX0_setLosses_21 fw_X0_58 (Vd.four rfl (by omega) (by omega)) rfl rfl (Nat.le_of_ble_eq_true rfl) rfl ⟨by omega, by omega⟩ ?_
    exact g_vret ok hq dX0_setLosses_24 (ansV (by (unfold nwL; (repeat (first | rw [if_pos (by omega)] | rw [if_neg (by omega)])); (try (first | rfl | (exfalso; omega))))))

set_option maxRecDepth 100000 in
set_option maxHeartbeats 4000000 in
theorem c_X3_keptBack (X : XW) (l : Launch) (σ : Mm) (z1 : Int) (c0 : 0 ≤ z1) (c1 : z1 < 36) : Ct X l yX3_keptBack cX3_keptBack 2 (Option.some FieldType.int) 0 0 σ [.inr (.inr (1, 0)), .inl z1] (Ans (some (.inl (kbC σ z1))) (σ)) := by
  refine Ct.intro (own := RX3) (by decide) rfl (Nat.le_of_ble_eq_true rfl) (fun M hM ok hq => ?_)
  subst hM
  show G X M cX3_keptBack 2 σ 0 [(0, .inr (.inr (1, 0))), (1, .inl z1)] []
  refine g_aload_n ok dX3_keptBack_0 rfl rfl ?_
  refine g_getr ok dX3_keptBack_1 fl_X3_15 (Vd.one rfl) rfl rfl ?_
  refine g_iload_n ok dX3_keptBack_4 rfl rfl ?_
  refine g_zald ok dX3_keptBack_5 (Vd.one rfl) (fun _ => rfl) ⟨by omega, by omega⟩ (by decide) rfl (fun h1 h2 => ?_)
  refine g_if_eq (tgt := 13) ok dX3_keptBack_6 (by decide) ⟨by omega, by omega⟩ (fun c3 => ?_) (fun c3 => ?_)
  · skip
    refine g_aload_n ok dX3_keptBack_13 rfl rfl ?_
    refine g_getr ok dX3_keptBack_14 fl_X3_19 (Vd.one rfl) rfl rfl ?_
    refine g_iload_n ok dX3_keptBack_17 rfl rfl ?_
    refine g_iald ok dX3_keptBack_18 (Vd.one rfl) (fun _ => rfl) ⟨by omega, by omega⟩ (by decide) rfl (fun h4 h5 => ?_)
    exact g_iret ok hq dX3_keptBack_19 (ansI (by (simp only [kbC, BAD, NO, FULL, NONE, NOTHING, INDEX, SIZE] <;> (repeat (first | rw [if_pos (by omega)] | rw [if_neg (by omega)])) <;> omega)) (by rfl))
  · skip
    refine g_iconst (v := 0) ok dX3_keptBack_9 (by decide +kernel) ?_
    refine g_goto (tgt := 19) ok dX3_keptBack_10 (by decide) ?_
    exact g_iret ok hq dX3_keptBack_19 (ansI (by (simp only [kbC, BAD, NO, FULL, NONE, NOTHING, INDEX, SIZE] <;> (repeat (first | rw [if_pos (by omega)] | rw [if_neg (by omega)])) <;> omega)) (by rfl))

set_option maxRecDepth 100000 in
set_option maxHeartbeats 4000000 in
theorem c_X3_darkSteps (X : XW) (l : Launch) (σ : Mm)  (hT : CT σ) : Ct X l yX3_darkSteps cX3_darkSteps 3 (Option.some FieldType.int) 0 0 σ [.inr (.inr (1, 0))] (Ans (some (.inl (sm (fun k => if σ 2 0 k = 0 then 0 else 1) (σ 1 0 0)))) (σ)) := by
  refine Ct.intro (own := RX3) (by decide) rfl (Nat.le_of_ble_eq_true rfl) (fun M hM ok hq => ?_)
  subst hM
  show G X M cX3_darkSteps 3 σ 0 [(0, .inr (.inr (1, 0)))] []
  have aT := hT.1
  have aT2 := hT.2
  refine g_iconst (v := 0) ok dX3_darkSteps_0 (by decide +kernel) ?_
  refine g_istore_n ok dX3_darkSteps_1 rfl (Nat.le_of_ble_eq_true rfl) ?_
  refine g_iconst (v := 0) ok dX3_darkSteps_2 (by decide +kernel) ?_
  refine g_istore_n ok dX3_darkSteps_3 rfl (Nat.le_of_ble_eq_true rfl) ?_
  have L4 : ∀ (n : Nat) (k : Int) (c : Int), (0 ≤ k) → (k ≤ σ 1 0 0) → (c = sm (fun k => if σ 2 0 k = 0 then 0 else 1) k) → (σ 1 0 0 - k < n) → G X M cX3_darkSteps 3 σ 4 [(0, .inr (.inr (1, 0))), (1, .inl c), (2, .inl k)] [] := by
    intro n
    induction n with
    | zero => intro k c hk0 hk1 hc hm; exact absurd hm (by omega)
    | succ n L4ih =>
      intro k c hk0 hk1 hc hm
      refine g_iload_n ok dX3_darkSteps_4 rfl rfl ?_
      refine g_aload_n ok dX3_darkSteps_5 rfl rfl ?_
      refine g_geti (z := 0) ok dX3_darkSteps_6 fl_X3_9 (Vd.one rfl) rfl rfl rfl (fun h1 h2 => ?_)
      refine g_icmp_ge (tgt := 35) ok dX3_darkSteps_9 (by decide) ⟨by omega, by omega⟩ ⟨by omega, by omega⟩ (fun c3 => ?_) (fun c3 => ?_)
      · skip
        refine g_iload_n ok dX3_darkSteps_35 rfl rfl ?_
        exact g_iret ok hq dX3_darkSteps_36 (ansI (by (rw [hc, show k = σ 1 0 0 by omega])) (by rfl))
      · skip
        refine g_iload_n ok dX3_darkSteps_12 rfl rfl ?_
        refine g_aload_n ok dX3_darkSteps_13 rfl rfl ?_
        refine g_getr ok dX3_darkSteps_14 fl_X3_15 (Vd.one rfl) rfl rfl ?_
        refine g_iload_n ok dX3_darkSteps_17 rfl rfl ?_
        refine g_zald ok dX3_darkSteps_18 (Vd.one rfl) (fun _ => rfl) ⟨by omega, by omega⟩ (by decide) rfl (fun h4 h5 => ?_)
        refine g_if_eq (tgt := 26) ok dX3_darkSteps_19 (by decide) ⟨by omega, by omega⟩ (fun c6 => ?_) (fun c6 => ?_)
        · skip
          refine g_iconst (v := 0) ok dX3_darkSteps_26 (by decide +kernel) ?_
          refine g_iadd ok dX3_darkSteps_27 ?_
          refine g_istore_n ok dX3_darkSteps_28 rfl (Nat.le_of_ble_eq_true rfl) ?_
          refine g_iinc ok dX3_darkSteps_29 rfl rfl (Nat.le_of_ble_eq_true rfl) ?_
          refine g_goto (tgt := 4) ok dX3_darkSteps_32 (by decide) ?_
          refine G.norm [(0, .inr (.inr (1, 0))), (1, .inl _), (2, .inl _)] ⟨rfl, rfl, rfl, trivial⟩ (L4ih _ _ ?_ ?_ ?_ ?_)
          · omega
          · omega
          · (rw [sm_s hk0, hc]; (try dsimp only); first | rw [if_pos (by omega)] | rw [if_neg (by omega)])
          · omega
        · skip
          refine g_iconst (v := 1) ok dX3_darkSteps_22 (by decide +kernel) ?_
          refine g_goto (tgt := 27) ok dX3_darkSteps_23 (by decide) ?_
          refine g_iadd ok dX3_darkSteps_27 ?_
          refine g_istore_n ok dX3_darkSteps_28 rfl (Nat.le_of_ble_eq_true rfl) ?_
          refine g_iinc ok dX3_darkSteps_29 rfl rfl (Nat.le_of_ble_eq_true rfl) ?_
          refine g_goto (tgt := 4) ok dX3_darkSteps_32 (by decide) ?_
          refine G.norm [(0, .inr (.inr (1, 0))), (1, .inl _), (2, .inl _)] ⟨rfl, rfl, rfl, trivial⟩ (L4ih _ _ ?_ ?_ ?_ ?_)
          · omega
          · omega
          · (rw [sm_s hk0, hc]; (try dsimp only); first | rw [if_pos (by omega)] | rw [if_neg (by omega)])
          · omega
  refine G.norm [(0, .inr (.inr (1, 0))), (1, .inl _), (2, .inl _)] ⟨rfl, rfl, rfl, trivial⟩ (L4 (37 : Nat) _ _ ?_ ?_ ?_ ?_)
  · omega
  · omega
  · rfl
  · omega

set_option maxRecDepth 100000 in
set_option maxHeartbeats 4000000 in
theorem c_X3_allowsMove (X : XW) (l : Launch) (σ : Mm) (i z1 z2 : Int) (b0 : 0 ≤ i) (b1 : i < 4) (c0 : 0 ≤ z1) (c1 : z1 < 36) (rz2 : R32 z2) (hS : CS σ) (hK : CK σ) : Ct X l yX3_allowsMove cX3_allowsMove 4 (Option.some FieldType.boolean) 1 22 σ [.inr (.inr (1, 0)), .inr (.inr (8, i)), .inl z1, .inl z2] (Ans (some (.inl (bI (amC σ i z1 z2)))) (σ)) := by
  refine Ct.intro (own := RX3) (by decide) rfl (Nat.le_of_ble_eq_true rfl) (fun M hM ok hq => ?_)
  subst hM
  have rz2l := rz2.1
  have rz2r := rz2.2
  show G X M cX3_allowsMove 4 σ 0 [(0, .inr (.inr (1, 0))), (1, .inr (.inr (8, i))), (2, .inl z1), (3, .inl z2)] []
  have aK := kbC_b hK z1
  have aS := hS i
  refine g_iload_n ok dX3_allowsMove_0 rfl rfl ?_
  refine g_if_eq (tgt := 26) ok dX3_allowsMove_1 (by decide) ⟨by omega, by omega⟩ (fun c1 => ?_) (fun c1 => ?_)
  · skip
    refine g_iconst (v := 1) ok dX3_allowsMove_26 (by decide +kernel) ?_
    refine g_goto (tgt := 31) ok dX3_allowsMove_27 (by decide) ?_
    exact g_zret ok hq dX3_allowsMove_31 (by omega) (by omega) (ansI (by first | (rw [bI_t (by unfold amC; omega)]) | (rw [bI_f (by unfold amC; omega)])) (by rfl))
  · skip
    refine g_aload_n ok dX3_allowsMove_4 rfl rfl ?_
    refine g_getr ok dX3_allowsMove_5 fl_X3_15 (Vd.one rfl) rfl rfl ?_
    refine g_iload_n ok dX3_allowsMove_8 rfl rfl ?_
    refine g_zald ok dX3_allowsMove_9 (Vd.one rfl) (fun _ => rfl) ⟨by omega, by omega⟩ (by decide) rfl (fun h2 h3 => ?_)
    refine g_if_ne (tgt := 30) ok dX3_allowsMove_10 (by decide) ⟨by omega, by omega⟩ (fun c4 => ?_) (fun c4 => ?_)
    · skip
      refine g_iconst (v := 0) ok dX3_allowsMove_30 (by decide +kernel) ?_
      exact g_zret ok hq dX3_allowsMove_31 (by omega) (by omega) (ansI (by first | (rw [bI_t (by unfold amC; omega)]) | (rw [bI_f (by unfold amC; omega)])) (by rfl))
    · skip
      refine g_aload_n ok dX3_allowsMove_13 rfl rfl ?_
      refine g_iload_n ok dX3_allowsMove_14 rfl rfl ?_
      refine g_aload_n ok dX3_allowsMove_15 rfl rfl ?_
      refine g_iload_n ok dX3_allowsMove_16 rfl rfl ?_
      refine g_cV ok dX3_allowsMove_17 mv_X3_23 (c_X3_keptBack X _ _ _ (by omega) (by omega)) rfl (Vd.one rfl) rfl rfl (by decide) rfl (Nat.le_of_ble_eq_true rfl) ?_
      refine g_cV ok dX3_allowsMove_20 mv_X3_27 (c_X0_isInRates X _ _ _ _ _ (by omega) (by omega) ⟨by omega, by omega⟩ (by omega) (by omega) hS) rfl (Vd.four rfl (by omega) (by omega)) rfl rfl (by decide) rfl (Nat.le_of_ble_eq_true rfl) ?_
      refine g_ifb_eq (tgt := 30) ok dX3_allowsMove_23 (by decide) (fun c5 => ?_) (fun c5 => ?_)
      · skip
        refine g_iconst (v := 0) ok dX3_allowsMove_30 (by decide +kernel) ?_
        exact g_zret ok hq dX3_allowsMove_31 (by omega) (by omega) (ansI (by first | (rw [bI_t (by unfold amC; omega)]) | (rw [bI_f (by unfold amC; omega)])) (by rfl))
      · skip
        refine g_iconst (v := 1) ok dX3_allowsMove_26 (by decide +kernel) ?_
        refine g_goto (tgt := 31) ok dX3_allowsMove_27 (by decide) ?_
        exact g_zret ok hq dX3_allowsMove_31 (by omega) (by omega) (ansI (by first | (rw [bI_t (by unfold amC; omega)]) | (rw [bI_f (by unfold amC; omega)])) (by rfl))

set_option maxRecDepth 100000 in
set_option maxHeartbeats 4000000 in
theorem c_X3_faultAt (X : XW) (l : Launch) (σ : Mm) (i z1 z2 : Int) (b0 : 0 ≤ i) (b1 : i < 4) (c0 : 0 ≤ z1) (c1 : z1 < 36) (rz2 : R32 z2) (hS : CS σ) (hK : CK σ) (hL : CL σ) (hT : CT σ) : Ct X l yX3_faultAt cX3_faultAt 4 (Option.some FieldType.int) 2 45 σ [.inr (.inr (1, 0)), .inr (.inr (8, i)), .inl z1, .inl z2] (Ans (some (.inl (ftC σ i z1 (σ 9 i z1) z2))) (σ)) := by
  refine Ct.intro (own := RX3) (by decide) rfl (Nat.le_of_ble_eq_true rfl) (fun M hM ok hq => ?_)
  subst hM
  have rz2l := rz2.1
  have rz2r := rz2.2
  show G X M cX3_faultAt 4 σ 0 [(0, .inr (.inr (1, 0))), (1, .inr (.inr (8, i))), (2, .inl z1), (3, .inl z2)] []
  have aT := hT.1
  have aT2 := hT.2
  have aK := kbC_b hK z1
  have aS := hS i
  have aL := hL i z1
  refine g_aload_n ok dX3_faultAt_0 rfl rfl ?_
  refine g_aload_n ok dX3_faultAt_1 rfl rfl ?_
  refine g_iload_n ok dX3_faultAt_2 rfl rfl ?_
  refine g_aload_n ok dX3_faultAt_3 rfl rfl ?_
  refine g_getr ok dX3_faultAt_4 fl_X3_36 (Vd.four rfl (by omega) (by omega)) rfl rfl ?_
  refine g_iload_n ok dX3_faultAt_7 rfl rfl ?_
  refine g_iald ok dX3_faultAt_8 (Vd.four rfl (by omega) (by omega)) (fun _ => rfl) ⟨by omega, by omega⟩ (by decide) rfl (fun h1 h2 => ?_)
  refine g_cV ok dX3_faultAt_9 mv_X3_45 (c_X3_allowsMove X _ _ _ _ _ (by omega) (by omega) (by omega) (by omega) ⟨by omega, by omega⟩ hS hK) rfl (Vd.one rfl) rfl rfl (by decide) rfl (Nat.le_of_ble_eq_true rfl) ?_
  refine g_ifb_ne (tgt := 30) ok dX3_faultAt_12 (by decide) (fun c3 => ?_) (fun c3 => ?_)
  · skip
    refine g_iload_n ok dX3_faultAt_30 rfl rfl ?_
    refine g_aload_n ok dX3_faultAt_31 rfl rfl ?_
    refine g_geti (z := 4) ok dX3_faultAt_32 fl_X3_49 (Vd.four rfl (by omega) (by omega)) rfl rfl rfl (fun h4 h5 => ?_)
    refine g_aload_n ok dX3_faultAt_35 rfl rfl ?_
    refine g_iload_n ok dX3_faultAt_36 rfl rfl ?_
    refine g_cV ok dX3_faultAt_37 mv_X3_23 (c_X3_keptBack X _ _ _ (by omega) (by omega)) rfl (Vd.one rfl) rfl rfl (by decide) rfl (Nat.le_of_ble_eq_true rfl) ?_
    refine g_iadd ok dX3_faultAt_40 ?_
    refine g_icmp_ge (tgt := 46) ok dX3_faultAt_41 (by decide) ⟨by omega, by omega⟩ ⟨by omega, by omega⟩ (fun c6 => ?_) (fun c6 => ?_)
    · skip
      refine g_iload_n ok dX3_faultAt_46 rfl rfl ?_
      refine g_aload_n ok dX3_faultAt_47 rfl rfl ?_
      refine g_geti (z := 5) ok dX3_faultAt_48 fl_X3_52 (Vd.four rfl (by omega) (by omega)) rfl rfl rfl (fun h7 h8 => ?_)
      refine g_aload_n ok dX3_faultAt_51 rfl rfl ?_
      refine g_iload_n ok dX3_faultAt_52 rfl rfl ?_
      refine g_cV ok dX3_faultAt_53 mv_X3_23 (c_X3_keptBack X _ _ _ (by omega) (by omega)) rfl (Vd.one rfl) rfl rfl (by decide) rfl (Nat.le_of_ble_eq_true rfl) ?_
      refine g_isub ok dX3_faultAt_56 ?_
      refine g_icmp_le (tgt := 62) ok dX3_faultAt_57 (by decide) ⟨by omega, by omega⟩ ⟨by omega, by omega⟩ (fun c9 => ?_) (fun c9 => ?_)
      · skip
        refine g_iload_n ok dX3_faultAt_62 rfl rfl ?_
        refine g_aload_n ok dX3_faultAt_63 rfl rfl ?_
        refine g_geti (z := 0) ok dX3_faultAt_64 fl_X3_9 (Vd.one rfl) rfl rfl rfl (fun h10 h11 => ?_)
        refine g_iconst (v := 1) ok dX3_faultAt_67 (by decide +kernel) ?_
        refine g_isub ok dX3_faultAt_68 ?_
        refine g_icmp_ne (tgt := 84) ok dX3_faultAt_69 (by decide) ⟨by omega, by omega⟩ ⟨by omega, by omega⟩ (fun c12 => ?_) (fun c12 => ?_)
        · skip
          refine g_iconst (v := 0) ok dX3_faultAt_84 (by decide +kernel) ?_
          exact g_iret ok hq dX3_faultAt_85 (ansI (by (unfold ftC; first | (rw [if_pos (by assumption)]; (repeat (first | rw [if_pos (by omega)] | rw [if_neg (by omega)])); (try (first | rfl | (exfalso; omega)))) | (rw [if_neg (by assumption)]; (repeat (first | rw [if_pos (by omega)] | rw [if_neg (by omega)])); (try (first | rfl | (exfalso; omega)))))) (by rfl))
        · skip
          refine g_iload_n ok dX3_faultAt_72 rfl rfl ?_
          refine g_aload_n ok dX3_faultAt_73 rfl rfl ?_
          refine g_geti (z := 10) ok dX3_faultAt_74 fl_X3_55 (Vd.four rfl (by omega) (by omega)) rfl rfl rfl (fun h13 h14 => ?_)
          refine g_icmp_ge (tgt := 84) ok dX3_faultAt_77 (by decide) ⟨by omega, by omega⟩ ⟨by omega, by omega⟩ (fun c15 => ?_) (fun c15 => ?_)
          · skip
            refine g_iconst (v := 0) ok dX3_faultAt_84 (by decide +kernel) ?_
            exact g_iret ok hq dX3_faultAt_85 (ansI (by (unfold ftC; first | (rw [if_pos (by assumption)]; (repeat (first | rw [if_pos (by omega)] | rw [if_neg (by omega)])); (try (first | rfl | (exfalso; omega)))) | (rw [if_neg (by assumption)]; (repeat (first | rw [if_pos (by omega)] | rw [if_neg (by omega)])); (try (first | rfl | (exfalso; omega)))))) (by rfl))
          · skip
            refine g_iconst (v := 5) ok dX3_faultAt_80 (by decide +kernel) ?_
            refine g_goto (tgt := 85) ok dX3_faultAt_81 (by decide) ?_
            exact g_iret ok hq dX3_faultAt_85 (ansI (by (unfold ftC; first | (rw [if_pos (by assumption)]; (repeat (first | rw [if_pos (by omega)] | rw [if_neg (by omega)])); (try (first | rfl | (exfalso; omega)))) | (rw [if_neg (by assumption)]; (repeat (first | rw [if_pos (by omega)] | rw [if_neg (by omega)])); (try (first | rfl | (exfalso; omega)))))) (by rfl))
      · skip
        refine g_iconst (v := 4) ok dX3_faultAt_60 (by decide +kernel) ?_
        exact g_iret ok hq dX3_faultAt_61 (ansI (by (unfold ftC; first | (rw [if_pos (by assumption)]; (repeat (first | rw [if_pos (by omega)] | rw [if_neg (by omega)])); (try (first | rfl | (exfalso; omega)))) | (rw [if_neg (by assumption)]; (repeat (first | rw [if_pos (by omega)] | rw [if_neg (by omega)])); (try (first | rfl | (exfalso; omega)))))) (by rfl))
    · skip
      refine g_iconst (v := 3) ok dX3_faultAt_44 (by decide +kernel) ?_
      exact g_iret ok hq dX3_faultAt_45 (ansI (by (unfold ftC; first | (rw [if_pos (by assumption)]; (repeat (first | rw [if_pos (by omega)] | rw [if_neg (by omega)])); (try (first | rfl | (exfalso; omega)))) | (rw [if_neg (by assumption)]; (repeat (first | rw [if_pos (by omega)] | rw [if_neg (by omega)])); (try (first | rfl | (exfalso; omega)))))) (by rfl))
  · skip
    refine g_aload_n ok dX3_faultAt_15 rfl rfl ?_
    refine g_getr ok dX3_faultAt_16 fl_X3_15 (Vd.one rfl) rfl rfl ?_
    refine g_iload_n ok dX3_faultAt_19 rfl rfl ?_
    refine g_zald ok dX3_faultAt_20 (Vd.one rfl) (fun _ => rfl) ⟨by omega, by omega⟩ (by decide) rfl (fun h16 h17 => ?_)
    refine g_if_eq (tgt := 28) ok dX3_faultAt_21 (by decide) ⟨by omega, by omega⟩ (fun c18 => ?_) (fun c18 => ?_)
    · skip
      refine g_iconst (v := 2) ok dX3_faultAt_28 (by decide +kernel) ?_
      exact g_iret ok hq dX3_faultAt_29 (ansI (by (unfold ftC; first | (rw [if_pos (by assumption)]; (repeat (first | rw [if_pos (by omega)] | rw [if_neg (by omega)])); (try (first | rfl | (exfalso; omega)))) | (rw [if_neg (by assumption)]; (repeat (first | rw [if_pos (by omega)] | rw [if_neg (by omega)])); (try (first | rfl | (exfalso; omega)))))) (by rfl))
    · skip
      refine g_iconst (v := 1) ok dX3_faultAt_24 (by decide +kernel) ?_
      refine g_goto (tgt := 29) ok dX3_faultAt_25 (by decide) ?_
      exact g_iret ok hq dX3_faultAt_29 (ansI (by (unfold ftC; first | (rw [if_pos (by assumption)]; (repeat (first | rw [if_pos (by omega)] | rw [if_neg (by omega)])); (try (first | rfl | (exfalso; omega)))) | (rw [if_neg (by assumption)]; (repeat (first | rw [if_pos (by omega)] | rw [if_neg (by omega)])); (try (first | rfl | (exfalso; omega)))))) (by rfl))

set_option maxRecDepth 100000 in
set_option maxHeartbeats 4000000 in
theorem c_X3_firstFault (X : XW) (l : Launch) (σ : Mm) (i : Int) (b0 : 0 ≤ i) (b1 : i < 4) (hS : CS σ) (hK : CK σ) (hL : CL σ) (hT : CT σ) : Ct X l yX3_firstFault cX3_firstFault 5 (Option.some FieldType.long) 3 68 σ [.inr (.inr (1, 0)), .inr (.inr (8, i))] (Ans (some (.inr (.inl (whC σ i)))) (σ)) := by
  refine Ct.intro (own := RX3) (by decide) rfl (Nat.le_of_ble_eq_true rfl) (fun M hM ok hq => ?_)
  subst hM
  show G X M cX3_firstFault 5 σ 0 [(0, .inr (.inr (1, 0))), (1, .inr (.inr (8, i)))] []
  have aT := hT.1
  have aT2 := hT.2
  have aS := hS i
  refine g_aload_n ok dX3_firstFault_0 rfl rfl ?_
  refine g_geti (z := 3) ok dX3_firstFault_1 fl_X3_33 (Vd.four rfl (by omega) (by omega)) rfl rfl rfl (fun h1 h2 => ?_)
  refine g_istore_n ok dX3_firstFault_4 rfl (Nat.le_of_ble_eq_true rfl) ?_
  refine g_iconst (v := 0) ok dX3_firstFault_5 (by decide +kernel) ?_
  refine g_istore_n ok dX3_firstFault_6 rfl (Nat.le_of_ble_eq_true rfl) ?_
  have L7 : ∀ (n : Nat) (t : Int) (c : Int), (0 ≤ t) → (t ≤ σ 1 0 0) → (c = σ 8 i 3 + sm (fun k => σ 9 i k) t) → (whC σ i = fst (fun t => ftC σ i t (σ 9 i t) (bhC σ i t)) t (σ 1 0 0 - t).toNat) → (σ 1 0 0 - t < n) → G X M cX3_firstFault 5 σ 7 [(0, .inr (.inr (1, 0))), (1, .inr (.inr (8, i))), (2, .inl c), (3, .inl t)] [] := by
    intro n
    induction n with
    | zero => intro t c hk0 hk1 hc hw hm; exact absurd hm (by omega)
    | succ n L7ih =>
      intro t c hk0 hk1 hc hw hm
      have e1 : c + σ 9 i t = bhC σ i t := by unfold bhC; rw [sm_s hk0]; (try dsimp only); omega
      have aB := bhC_b hS hL i (t := t) (by omega)
      have aF := ftC_b σ i t (σ 9 i t) (c + σ 9 i t)
      refine g_iload_n ok dX3_firstFault_7 rfl rfl ?_
      refine g_aload_n ok dX3_firstFault_8 rfl rfl ?_
      refine g_geti (z := 0) ok dX3_firstFault_9 fl_X3_9 (Vd.one rfl) rfl rfl rfl (fun h3 h4 => ?_)
      refine g_icmp_ge (tgt := 53) ok dX3_firstFault_12 (by decide) ⟨by omega, by omega⟩ ⟨by omega, by omega⟩ (fun c5 => ?_) (fun c5 => ?_)
      · skip
        refine g_ldc2 (v := -9000000000000000005) ok dX3_firstFault_53 wd2_202 (by decide +kernel) ?_
        exact g_lret ok hq dX3_firstFault_56 (ansL (by (rw [hw, fst_end (by omega)]; rfl)) (by rfl))
      · skip
        have aB2 := aB (by omega)
        refine g_iload_n ok dX3_firstFault_15 rfl rfl ?_
        refine g_aload_n ok dX3_firstFault_16 rfl rfl ?_
        refine g_getr ok dX3_firstFault_17 fl_X3_36 (Vd.four rfl (by omega) (by omega)) rfl rfl ?_
        refine g_iload_n ok dX3_firstFault_20 rfl rfl ?_
        refine g_iald ok dX3_firstFault_21 (Vd.four rfl (by omega) (by omega)) (fun _ => rfl) ⟨by omega, by omega⟩ (by decide) rfl (fun h6 h7 => ?_)
        refine g_iadd ok dX3_firstFault_22 ?_
        refine g_istore_n ok dX3_firstFault_23 rfl (Nat.le_of_ble_eq_true rfl) ?_
        refine g_aload_n ok dX3_firstFault_24 rfl rfl ?_
        refine g_aload_n ok dX3_firstFault_25 rfl rfl ?_
        refine g_iload_n ok dX3_firstFault_26 rfl rfl ?_
        refine g_iload_n ok dX3_firstFault_27 rfl rfl ?_
        refine g_cV ok dX3_firstFault_28 mv_X3_39 (c_X3_faultAt X _ _ _ _ _ (by omega) (by omega) (by omega) (by omega) ⟨by omega, by omega⟩ hS hK hL hT) rfl (Vd.one rfl) rfl rfl (by decide) rfl (Nat.le_of_ble_eq_true rfl) ?_
        refine g_istore ok dX3_firstFault_31 (Nat.le_of_ble_eq_true rfl) ?_
        refine g_iload ok dX3_firstFault_33 rfl ?_
        refine g_if_eq (tgt := 47) ok dX3_firstFault_35 (by decide) ⟨by omega, by omega⟩ (fun c8 => ?_) (fun c8 => ?_)
        · skip
          refine g_iinc ok dX3_firstFault_47 rfl rfl (Nat.le_of_ble_eq_true rfl) ?_
          refine g_goto (tgt := 7) ok dX3_firstFault_50 (by decide) ?_
          refine G.norm [(0, .inr (.inr (1, 0))), (1, .inr (.inr (8, i))), (2, .inl _), (3, .inl _)] ⟨rfl, rfl, rfl, rfl, trivial⟩ (L7ih _ _ ?_ ?_ ?_ ?_ ?_)
          · omega
          · omega
          · (rw [sm_s hk0]; (try dsimp only); omega)
          · (rw [hw]; exact fst_go (by omega) (by rw [← e1]; assumption))
          · omega
        · skip
          refine g_bipush (v := 10) ok dX3_firstFault_38 (by decide +kernel) ?_
          refine g_iload_n ok dX3_firstFault_40 rfl rfl ?_
          refine g_imul ok dX3_firstFault_41 ?_
          refine g_iload ok dX3_firstFault_42 rfl ?_
          refine g_iadd ok dX3_firstFault_44 ?_
          refine g_i2l ok dX3_firstFault_45 ⟨by omega, by omega⟩ ?_
          exact g_lret ok hq dX3_firstFault_46 (ansL (by (rw [hw, fst_stop (by omega) (by rw [← e1]; assumption), ← e1])) (by rfl))
  refine G.norm [(0, .inr (.inr (1, 0))), (1, .inr (.inr (8, i))), (2, .inl _), (3, .inl _)] ⟨rfl, rfl, rfl, rfl, trivial⟩ (L7 (37 : Nat) _ _ ?_ ?_ ?_ ?_ ?_)
  · omega
  · omega
  · (rw [sm_0]; omega)
  · (unfold whC; rw [Int.sub_zero])
  · omega

set_option maxRecDepth 100000 in
set_option maxHeartbeats 4000000 in
theorem c_X1_add (X : XW) (l : Launch) (σ : Mm) (z1 z2 z3 z4 : Int) (rz1 : R32 z1) (rz2 : R32 z2) (rz3 : R32 z3) (rz4 : R32 z4) (hd : 0 ≤ σ 15 0 0 ∧ σ 15 0 0 < 12) : Ct X l yX1_add cX1_add 5 (Option.some FieldType.int) 0 0 σ [.inr (.inr (15, 0)), .inl z1, .inl z2, .inl z3, .inl z4] (Ans (some (.inl (σ 15 0 0))) (adB σ z1 z2 z3 z4)) := by
  refine Ct.intro (own := RX1) (by decide) rfl (Nat.le_of_ble_eq_true rfl) (fun M hM ok hq => ?_)
  subst hM
  have rz1l := rz1.1
  have rz1r := rz1.2
  have rz2l := rz2.1
  have rz2r := rz2.2
  have rz3l := rz3.1
  have rz3r := rz3.2
  have rz4l := rz4.1
  have rz4r := rz4.2
  show G X M cX1_add 5 σ 0 [(0, .inr (.inr (15, 0))), (1, .inl z1), (2, .inl z2), (3, .inl z3), (4, .inl z4)] []
  refine g_aload_n ok dX1_add_0 rfl rfl ?_
  refine g_getr ok dX1_add_1 fl_X1_9 (Vd.one rfl) rfl rfl ?_
  refine g_aload_n ok dX1_add_4 rfl rfl ?_
  refine g_geti (z := 0) ok dX1_add_5 fl_X1_24 (Vd.one rfl) rfl rfl rfl (fun h1 h2 => ?_)
  refine g_iload_n ok dX1_add_8 rfl rfl ?_
  refine g_iast ok dX1_add_9 (Vd.one rfl) (fun _ => rfl) ⟨by omega, by omega⟩ (by decide) rfl ⟨by omega, by omega⟩ ?_
  refine g_aload_n ok dX1_add_10 rfl rfl ?_
  refine g_getr ok dX1_add_11 fl_X1_15 (Vd.one rfl) rfl rfl ?_
  refine g_aload_n ok dX1_add_14 rfl rfl ?_
  refine g_geti2 σ (z := 0) ok dX1_add_15 fl_X1_24 (Vd.one rfl) rfl rfl rfl rfl (fun h3 h4 => ?_)
  refine g_iload_n ok dX1_add_18 rfl rfl ?_
  refine g_iast ok dX1_add_19 (Vd.one rfl) (fun _ => rfl) ⟨by omega, by omega⟩ (by decide) rfl ⟨by omega, by omega⟩ ?_
  refine g_aload_n ok dX1_add_20 rfl rfl ?_
  refine g_getr ok dX1_add_21 fl_X1_18 (Vd.one rfl) rfl rfl ?_
  refine g_aload_n ok dX1_add_24 rfl rfl ?_
  refine g_geti2 σ (z := 0) ok dX1_add_25 fl_X1_24 (Vd.one rfl) rfl rfl rfl rfl (fun h5 h6 => ?_)
  refine g_iload_n ok dX1_add_28 rfl rfl ?_
  refine g_iast ok dX1_add_29 (Vd.one rfl) (fun _ => rfl) ⟨by omega, by omega⟩ (by decide) rfl ⟨by omega, by omega⟩ ?_
  refine g_aload_n ok dX1_add_30 rfl rfl ?_
  refine g_getr ok dX1_add_31 fl_X1_21 (Vd.one rfl) rfl rfl ?_
  refine g_aload_n ok dX1_add_34 rfl rfl ?_
  refine g_geti2 σ (z := 0) ok dX1_add_35 fl_X1_24 (Vd.one rfl) rfl rfl rfl rfl (fun h7 h8 => ?_)
  refine g_iload ok dX1_add_38 rfl ?_
  refine g_iast ok dX1_add_40 (Vd.one rfl) (fun _ => rfl) ⟨by omega, by omega⟩ (by decide) rfl ⟨by omega, by omega⟩ ?_
  refine g_aload_n ok dX1_add_41 rfl rfl ?_
  refine g_dup ok dX1_add_42 rfl ?_
  refine g_geti2 σ (z := 0) ok dX1_add_43 fl_X1_24 (Vd.one rfl) rfl rfl rfl rfl (fun h9 h10 => ?_)
  refine g_iconst (v := 1) ok dX1_add_46 (by decide +kernel) ?_
  refine g_iadd ok dX1_add_47 ?_
  refine g_puti (z := 0) ok dX1_add_48 fw_X1_24 (Vd.one rfl) rfl rfl (Nat.le_of_ble_eq_true rfl) rfl ⟨by omega, by omega⟩ ?_
  refine g_aload_n ok dX1_add_51 rfl rfl ?_
  refine g_geti3 (σ 15 0 0 + 1) (z := 0) ok dX1_add_52 fl_X1_24 (Vd.one rfl) rfl rfl rfl (by rfl) (fun h11 h12 => ?_)
  refine g_iconst (v := 1) ok dX1_add_55 (by decide +kernel) ?_
  refine g_isub ok dX1_add_56 ?_
  exact g_iret ok hq dX1_add_57 (ansI (by omega) (by rfl))

set_option maxRecDepth 100000 in
set_option maxHeartbeats 4000000 in
theorem c_X1_isTaken (X : XW) (l : Launch) (σ : Mm) (z1 w : Int) (c0 : 0 ≤ z1) (c1 : z1 < 12) (c2 : 0 ≤ w) (c3 : w < 4) (hP : CP σ) (hD : CD σ) : Ct X l yX1_isTaken cX1_isTaken 5 (Option.some FieldType.boolean) 2 43 σ [.inr (.inr (15, 0)), .inl z1, .inr (.inr (6, w))] (Ans (some (.inl (bI (takC σ z1 w)))) (σ)) := by
  refine Ct.intro (own := RX1) (by decide) rfl (Nat.le_of_ble_eq_true rfl) (fun M hM ok hq => ?_)
  subst hM
  show G X M cX1_isTaken 5 σ 0 [(0, .inr (.inr (15, 0))), (1, .inl z1), (2, .inr (.inr (6, w)))] []
  have aD := hD.2 z1
  have aN := mul_b (x := σ 19 0 z1) (y := σ 17 0 z1 - σ 16 0 z1 + 1) (A := 10000) (B := 36) (by omega) (by omega) (by omega)
  refine g_iconst (v := 0) ok dX1_isTaken_0 (by decide +kernel) ?_
  refine g_istore_n ok dX1_isTaken_1 rfl (Nat.le_of_ble_eq_true rfl) ?_
  refine g_aload_n ok dX1_isTaken_2 rfl rfl ?_
  refine g_getr ok dX1_isTaken_3 fl_X1_9 (Vd.one rfl) rfl rfl ?_
  refine g_iload_n ok dX1_isTaken_6 rfl rfl ?_
  refine g_iald ok dX1_isTaken_7 (Vd.one rfl) (fun _ => rfl) ⟨by omega, by omega⟩ (by decide) rfl (fun h1 h2 => ?_)
  refine g_istore ok dX1_isTaken_8 (Nat.le_of_ble_eq_true rfl) ?_
  have L10 : ∀ (n : Nat) (t : Int) (c : Int), (σ 16 0 z1 ≤ t) → (t ≤ σ 17 0 z1 + 1) → (c = sm (fun k => pC σ w (σ 16 0 z1 + k)) (t - σ 16 0 z1)) → (-10000 * (t - σ 16 0 z1) ≤ c ∧ c ≤ 10000 * (t - σ 16 0 z1)) → (σ 17 0 z1 + 1 - t < n) → G X M cX1_isTaken 5 σ 10 [(0, .inr (.inr (15, 0))), (1, .inl z1), (2, .inr (.inr (6, w))), (3, .inl c), (4, .inl t)] [] := by
    intro n
    induction n with
    | zero => intro t c hk0 hk1 hc hb hm; exact absurd hm (by omega)
    | succ n L10ih =>
      intro t c hk0 hk1 hc hb hm
      have aP := pC_b hP w t
      refine g_iload ok dX1_isTaken_10 rfl ?_
      refine g_aload_n ok dX1_isTaken_12 rfl rfl ?_
      refine g_getr ok dX1_isTaken_13 fl_X1_15 (Vd.one rfl) rfl rfl ?_
      refine g_iload_n ok dX1_isTaken_16 rfl rfl ?_
      refine g_iald ok dX1_isTaken_17 (Vd.one rfl) (fun _ => rfl) ⟨by omega, by omega⟩ (by decide) rfl (fun h3 h4 => ?_)
      refine g_icmp_gt (tgt := 36) ok dX1_isTaken_18 (by decide) ⟨by omega, by omega⟩ ⟨by omega, by omega⟩ (fun c5 => ?_) (fun c5 => ?_)
      · skip
        refine g_aload_n ok dX1_isTaken_36 rfl rfl ?_
        refine g_getr ok dX1_isTaken_37 fl_X1_21 (Vd.one rfl) rfl rfl ?_
        refine g_iload_n ok dX1_isTaken_40 rfl rfl ?_
        refine g_iald ok dX1_isTaken_41 (Vd.one rfl) (fun _ => rfl) ⟨by omega, by omega⟩ (by decide) rfl (fun h6 h7 => ?_)
        refine g_aload_n ok dX1_isTaken_42 rfl rfl ?_
        refine g_getr ok dX1_isTaken_43 fl_X1_15 (Vd.one rfl) rfl rfl ?_
        refine g_iload_n ok dX1_isTaken_46 rfl rfl ?_
        refine g_iald ok dX1_isTaken_47 (Vd.one rfl) (fun _ => rfl) ⟨by omega, by omega⟩ (by decide) rfl (fun h8 h9 => ?_)
        refine g_aload_n ok dX1_isTaken_48 rfl rfl ?_
        refine g_getr ok dX1_isTaken_49 fl_X1_9 (Vd.one rfl) rfl rfl ?_
        refine g_iload_n ok dX1_isTaken_52 rfl rfl ?_
        refine g_iald ok dX1_isTaken_53 (Vd.one rfl) (fun _ => rfl) ⟨by omega, by omega⟩ (by decide) rfl (fun h10 h11 => ?_)
        refine g_isub ok dX1_isTaken_54 ?_
        refine g_iconst (v := 1) ok dX1_isTaken_55 (by decide +kernel) ?_
        refine g_iadd ok dX1_isTaken_56 ?_
        refine g_imul ok dX1_isTaken_57 ?_
        refine g_istore ok dX1_isTaken_58 (Nat.le_of_ble_eq_true rfl) ?_
        have e1 : tkC σ z1 w = c := by unfold tkC; rw [show σ 17 0 z1 - σ 16 0 z1 + 1 = t - σ 16 0 z1 by omega, ← hc]
        refine g_aload_n ok dX1_isTaken_60 rfl rfl ?_
        refine g_getr ok dX1_isTaken_61 fl_X1_18 (Vd.one rfl) rfl rfl ?_
        refine g_iload_n ok dX1_isTaken_64 rfl rfl ?_
        refine g_iald ok dX1_isTaken_65 (Vd.one rfl) (fun _ => rfl) ⟨by omega, by omega⟩ (by decide) rfl (fun h12 h13 => ?_)
        refine g_if_ge (tgt := 83) ok dX1_isTaken_66 (by decide) ⟨by omega, by omega⟩ (fun c14 => ?_) (fun c14 => ?_)
        · skip
          refine g_iload_n ok dX1_isTaken_83 rfl rfl ?_
          refine g_iload ok dX1_isTaken_84 rfl ?_
          refine g_icmp_gt (tgt := 93) ok dX1_isTaken_86 (by decide) ⟨by omega, by omega⟩ ⟨by omega, by omega⟩ (fun c15 => ?_) (fun c15 => ?_)
          · skip
            refine g_iconst (v := 0) ok dX1_isTaken_93 (by decide +kernel) ?_
            exact g_zret ok hq dX1_isTaken_94 (by omega) (by omega) (ansI (by first | (rw [bI_t (by unfold takC; rw [e1]; omega)]) | (rw [bI_f (by unfold takC; rw [e1]; omega)])) (by rfl))
          · skip
            refine g_iconst (v := 1) ok dX1_isTaken_89 (by decide +kernel) ?_
            refine g_goto (tgt := 94) ok dX1_isTaken_90 (by decide) ?_
            exact g_zret ok hq dX1_isTaken_94 (by omega) (by omega) (ansI (by first | (rw [bI_t (by unfold takC; rw [e1]; omega)]) | (rw [bI_f (by unfold takC; rw [e1]; omega)])) (by rfl))
        · skip
          refine g_iload_n ok dX1_isTaken_69 rfl rfl ?_
          refine g_iload ok dX1_isTaken_70 rfl ?_
          refine g_icmp_lt (tgt := 79) ok dX1_isTaken_72 (by decide) ⟨by omega, by omega⟩ ⟨by omega, by omega⟩ (fun c16 => ?_) (fun c16 => ?_)
          · skip
            refine g_iconst (v := 0) ok dX1_isTaken_79 (by decide +kernel) ?_
            refine g_goto (tgt := 94) ok dX1_isTaken_80 (by decide) ?_
            exact g_zret ok hq dX1_isTaken_94 (by omega) (by omega) (ansI (by first | (rw [bI_t (by unfold takC; rw [e1]; omega)]) | (rw [bI_f (by unfold takC; rw [e1]; omega)])) (by rfl))
          · skip
            refine g_iconst (v := 1) ok dX1_isTaken_75 (by decide +kernel) ?_
            refine g_goto (tgt := 94) ok dX1_isTaken_76 (by decide) ?_
            exact g_zret ok hq dX1_isTaken_94 (by omega) (by omega) (ansI (by first | (rw [bI_t (by unfold takC; rw [e1]; omega)]) | (rw [bI_f (by unfold takC; rw [e1]; omega)])) (by rfl))
      · skip
        refine g_iload_n ok dX1_isTaken_21 rfl rfl ?_
        refine g_aload_n ok dX1_isTaken_22 rfl rfl ?_
        refine g_iload ok dX1_isTaken_23 rfl ?_
        refine g_cV ok dX1_isTaken_25 mv_X1_28 (c_X6_priceOf X _ _ _ _ (by omega) (by omega) ⟨by omega, by omega⟩ hP) rfl (Vd.four rfl (by omega) (by omega)) rfl rfl (by decide) rfl (Nat.le_of_ble_eq_true rfl) ?_
        refine g_iadd ok dX1_isTaken_28 ?_
        refine g_istore_n ok dX1_isTaken_29 rfl (Nat.le_of_ble_eq_true rfl) ?_
        refine g_iinc ok dX1_isTaken_30 rfl rfl (Nat.le_of_ble_eq_true rfl) ?_
        refine g_goto (tgt := 10) ok dX1_isTaken_33 (by decide) ?_
        refine G.norm [(0, .inr (.inr (15, 0))), (1, .inl z1), (2, .inr (.inr (6, w))), (3, .inl _), (4, .inl _)] ⟨rfl, rfl, rfl, rfl, rfl, trivial⟩ (L10ih _ _ ?_ ?_ ?_ ?_ ?_)
        · omega
        · omega
        · (rw [show t + 1 - σ 16 0 z1 = (t - σ 16 0 z1) + 1 by omega, sm_s (by omega), hc]; (try dsimp only); rw [show σ 16 0 z1 + (t - σ 16 0 z1) = t by omega])
        · omega
        · omega
  refine G.norm [(0, .inr (.inr (15, 0))), (1, .inl z1), (2, .inr (.inr (6, w))), (3, .inl _), (4, .inl _)] ⟨rfl, rfl, rfl, rfl, rfl, trivial⟩ (L10 (38 : Nat) _ _ ?_ ?_ ?_ ?_ ?_)
  · omega
  · omega
  · (rw [Int.sub_self, sm_0])
  · omega
  · omega

set_option maxRecDepth 100000 in
set_option maxHeartbeats 4000000 in
theorem c_X1_sumWanted (X : XW) (l : Launch) (σ : Mm) (w z1 : Int) (c0 : 0 ≤ w) (c1 : w < 4) (c2 : 0 ≤ z1) (c3 : z1 < 36) (hP : CP σ) (hD : CD σ) : Ct X l yX1_sumWanted cX1_sumWanted 5 (Option.some FieldType.int) 3 67 σ [.inr (.inr (15, 0)), .inr (.inr (6, w)), .inl z1] (Ans (some (.inl (waC σ w z1))) (σ)) := by
  refine Ct.intro (own := RX1) (by decide) rfl (Nat.le_of_ble_eq_true rfl) (fun M hM ok hq => ?_)
  subst hM
  show G X M cX1_sumWanted 5 σ 0 [(0, .inr (.inr (15, 0))), (1, .inr (.inr (6, w))), (2, .inl z1)] []
  have aD := hD.1
  refine g_iconst (v := 0) ok dX1_sumWanted_0 (by decide +kernel) ?_
  refine g_istore_n ok dX1_sumWanted_1 rfl (Nat.le_of_ble_eq_true rfl) ?_
  refine g_iconst (v := 0) ok dX1_sumWanted_2 (by decide +kernel) ?_
  refine g_istore ok dX1_sumWanted_3 (Nat.le_of_ble_eq_true rfl) ?_
  have L5 : ∀ (n : Nat) (k : Int) (c : Int), (0 ≤ k) → (k ≤ σ 15 0 0) → (c = sm (fun b => if (σ 16 0 b ≤ z1 ∧ z1 ≤ σ 17 0 b) ∧ takC σ b w then σ 18 0 b else 0) k) → (σ 15 0 0 - k < n) → G X M cX1_sumWanted 5 σ 5 [(0, .inr (.inr (15, 0))), (1, .inr (.inr (6, w))), (2, .inl z1), (3, .inl c), (4, .inl k)] [] := by
    intro n
    induction n with
    | zero => intro k c hk0 hk1 hc hm; exact absurd hm (by omega)
    | succ n L5ih =>
      intro k c hk0 hk1 hc hm
      have aB := hD.2 k
      refine g_iload ok dX1_sumWanted_5 rfl ?_
      refine g_aload_n ok dX1_sumWanted_7 rfl rfl ?_
      refine g_geti (z := 0) ok dX1_sumWanted_8 fl_X1_24 (Vd.one rfl) rfl rfl rfl (fun h1 h2 => ?_)
      refine g_icmp_ge (tgt := 61) ok dX1_sumWanted_11 (by decide) ⟨by omega, by omega⟩ ⟨by omega, by omega⟩ (fun c3 => ?_) (fun c3 => ?_)
      · skip
        refine g_iload_n ok dX1_sumWanted_61 rfl rfl ?_
        exact g_iret ok hq dX1_sumWanted_62 (ansI (by (unfold waC; rw [hc, show k = σ 15 0 0 by omega])) (by rfl))
      · skip
        refine g_iload_n ok dX1_sumWanted_14 rfl rfl ?_
        refine g_aload_n ok dX1_sumWanted_15 rfl rfl ?_
        refine g_getr ok dX1_sumWanted_16 fl_X1_9 (Vd.one rfl) rfl rfl ?_
        refine g_iload ok dX1_sumWanted_19 rfl ?_
        refine g_iald ok dX1_sumWanted_21 (Vd.one rfl) (fun _ => rfl) ⟨by omega, by omega⟩ (by decide) rfl (fun h4 h5 => ?_)
        refine g_aload_n ok dX1_sumWanted_22 rfl rfl ?_
        refine g_getr ok dX1_sumWanted_23 fl_X1_15 (Vd.one rfl) rfl rfl ?_
        refine g_iload ok dX1_sumWanted_26 rfl ?_
        refine g_iald ok dX1_sumWanted_28 (Vd.one rfl) (fun _ => rfl) ⟨by omega, by omega⟩ (by decide) rfl (fun h6 h7 => ?_)
        refine g_cN ok dX1_sumWanted_29 mn_X1_34 (c_X7_within X _ _ _ _ _ ⟨by omega, by omega⟩ ⟨by omega, by omega⟩ ⟨by omega, by omega⟩) rfl (by decide) rfl (Nat.le_of_ble_eq_true rfl) ?_
        refine g_ifb_eq (tgt := 55) ok dX1_sumWanted_32 (by decide) (fun c8 => ?_) (fun c8 => ?_)
        · skip
          refine g_iinc ok dX1_sumWanted_55 rfl rfl (Nat.le_of_ble_eq_true rfl) ?_
          refine g_goto (tgt := 5) ok dX1_sumWanted_58 (by decide) ?_
          refine G.norm [(0, .inr (.inr (15, 0))), (1, .inr (.inr (6, w))), (2, .inl z1), (3, .inl _), (4, .inl _)] ⟨rfl, rfl, rfl, rfl, rfl, trivial⟩ (L5ih _ _ ?_ ?_ ?_ ?_)
          · omega
          · omega
          · (rw [sm_s hk0, hc]; (try dsimp only); first | (rw [if_pos ⟨by assumption, by assumption⟩]) | (rw [if_neg (fun q => absurd q.2 (by assumption)), Int.add_zero]) | (rw [if_neg (fun q => absurd q.1 (by assumption)), Int.add_zero]))
          · omega
        · skip
          refine g_aload_n ok dX1_sumWanted_35 rfl rfl ?_
          refine g_iload ok dX1_sumWanted_36 rfl ?_
          refine g_aload_n ok dX1_sumWanted_38 rfl rfl ?_
          refine g_cV ok dX1_sumWanted_39 mv_X1_38 (c_X1_isTaken X _ _ _ _ (by omega) (by omega) (by omega) (by omega) hP hD) rfl (Vd.one rfl) rfl rfl (by decide) rfl (Nat.le_of_ble_eq_true rfl) ?_
          refine g_ifb_eq (tgt := 55) ok dX1_sumWanted_42 (by decide) (fun c9 => ?_) (fun c9 => ?_)
          · skip
            refine g_iinc ok dX1_sumWanted_55 rfl rfl (Nat.le_of_ble_eq_true rfl) ?_
            refine g_goto (tgt := 5) ok dX1_sumWanted_58 (by decide) ?_
            refine G.norm [(0, .inr (.inr (15, 0))), (1, .inr (.inr (6, w))), (2, .inl z1), (3, .inl _), (4, .inl _)] ⟨rfl, rfl, rfl, rfl, rfl, trivial⟩ (L5ih _ _ ?_ ?_ ?_ ?_)
            · omega
            · omega
            · (rw [sm_s hk0, hc]; (try dsimp only); first | (rw [if_pos ⟨by assumption, by assumption⟩]) | (rw [if_neg (fun q => absurd q.2 (by assumption)), Int.add_zero]) | (rw [if_neg (fun q => absurd q.1 (by assumption)), Int.add_zero]))
            · omega
          · skip
            refine g_iload_n ok dX1_sumWanted_45 rfl rfl ?_
            refine g_aload_n ok dX1_sumWanted_46 rfl rfl ?_
            refine g_getr ok dX1_sumWanted_47 fl_X1_18 (Vd.one rfl) rfl rfl ?_
            refine g_iload ok dX1_sumWanted_50 rfl ?_
            refine g_iald ok dX1_sumWanted_52 (Vd.one rfl) (fun _ => rfl) ⟨by omega, by omega⟩ (by decide) rfl (fun h10 h11 => ?_)
            refine g_iadd ok dX1_sumWanted_53 ?_
            refine g_istore_n ok dX1_sumWanted_54 rfl (Nat.le_of_ble_eq_true rfl) ?_
            refine g_iinc ok dX1_sumWanted_55 rfl rfl (Nat.le_of_ble_eq_true rfl) ?_
            refine g_goto (tgt := 5) ok dX1_sumWanted_58 (by decide) ?_
            refine G.norm [(0, .inr (.inr (15, 0))), (1, .inr (.inr (6, w))), (2, .inl z1), (3, .inl _), (4, .inl _)] ⟨rfl, rfl, rfl, rfl, rfl, trivial⟩ (L5ih _ _ ?_ ?_ ?_ ?_)
            · omega
            · omega
            · (rw [sm_s hk0, hc]; (try dsimp only); first | (rw [if_pos ⟨by assumption, by assumption⟩]) | (rw [if_neg (fun q => absurd q.2 (by assumption)), Int.add_zero]) | (rw [if_neg (fun q => absurd q.1 (by assumption)), Int.add_zero]))
            · omega
  refine G.norm [(0, .inr (.inr (15, 0))), (1, .inr (.inr (6, w))), (2, .inl z1), (3, .inl _), (4, .inl _)] ⟨rfl, rfl, rfl, rfl, rfl, trivial⟩ (L5 (13 : Nat) _ _ ?_ ?_ ?_ ?_)
  · omega
  · omega
  · rfl
  · omega

set_option maxRecDepth 100000 in
set_option maxHeartbeats 4000000 in
theorem c_X4_readingsThere (X : XW) (l : Launch) (σ : Mm)   : Ct X l yX4_readingsThere cX4_readingsThere 3 (Option.some FieldType.int) 0 0 σ [.inr (.inr (20, 0))] (Ans (some (.inl (sm (fun k => if σ 21 0 k = -1001 then 0 else 1) 36))) (σ)) := by
  refine Ct.intro (own := RX4) (by decide) rfl (Nat.le_of_ble_eq_true rfl) (fun M hM ok hq => ?_)
  subst hM
  show G X M cX4_readingsThere 3 σ 0 [(0, .inr (.inr (20, 0)))] []
  refine g_iconst (v := 0) ok dX4_readingsThere_0 (by decide +kernel) ?_
  refine g_istore_n ok dX4_readingsThere_1 rfl (Nat.le_of_ble_eq_true rfl) ?_
  refine g_iconst (v := 0) ok dX4_readingsThere_2 (by decide +kernel) ?_
  refine g_istore_n ok dX4_readingsThere_3 rfl (Nat.le_of_ble_eq_true rfl) ?_
  have L4 : ∀ (n : Nat) (k : Int) (c : Int), (0 ≤ k) → (k ≤ 36) → (c = sm (fun k => if σ 21 0 k = -1001 then 0 else 1) k) → (36 - k < n) → G X M cX4_readingsThere 3 σ 4 [(0, .inr (.inr (20, 0))), (1, .inl c), (2, .inl k)] [] := by
    intro n
    induction n with
    | zero => intro k c hk0 hk1 hc hm; exact absurd hm (by omega)
    | succ n L4ih =>
      intro k c hk0 hk1 hc hm
      refine g_iload_n ok dX4_readingsThere_4 rfl rfl ?_
      refine g_bipush (v := 36) ok dX4_readingsThere_5 (by decide +kernel) ?_
      refine g_icmp_ge (tgt := 36) ok dX4_readingsThere_7 (by decide) ⟨by omega, by omega⟩ ⟨by omega, by omega⟩ (fun c1 => ?_) (fun c1 => ?_)
      · skip
        refine g_iload_n ok dX4_readingsThere_36 rfl rfl ?_
        exact g_iret ok hq dX4_readingsThere_37 (ansI (by (rw [hc, show k = 36 by omega])) (by rfl))
      · skip
        refine g_iload_n ok dX4_readingsThere_10 rfl rfl ?_
        refine g_aload_n ok dX4_readingsThere_11 rfl rfl ?_
        refine g_getr ok dX4_readingsThere_12 fl_X4_9 (Vd.one rfl) rfl rfl ?_
        refine g_iload_n ok dX4_readingsThere_15 rfl rfl ?_
        refine g_iald ok dX4_readingsThere_16 (Vd.one rfl) (fun _ => rfl) ⟨by omega, by omega⟩ (by decide) rfl (fun h2 h3 => ?_)
        refine g_sipush (v := -1001) ok dX4_readingsThere_17 (by decide +kernel) ?_
        refine g_icmp_ne (tgt := 27) ok dX4_readingsThere_20 (by decide) ⟨by omega, by omega⟩ ⟨by omega, by omega⟩ (fun c4 => ?_) (fun c4 => ?_)
        · skip
          refine g_iconst (v := 1) ok dX4_readingsThere_27 (by decide +kernel) ?_
          refine g_iadd ok dX4_readingsThere_28 ?_
          refine g_istore_n ok dX4_readingsThere_29 rfl (Nat.le_of_ble_eq_true rfl) ?_
          refine g_iinc ok dX4_readingsThere_30 rfl rfl (Nat.le_of_ble_eq_true rfl) ?_
          refine g_goto (tgt := 4) ok dX4_readingsThere_33 (by decide) ?_
          refine G.norm [(0, .inr (.inr (20, 0))), (1, .inl _), (2, .inl _)] ⟨rfl, rfl, rfl, trivial⟩ (L4ih _ _ ?_ ?_ ?_ ?_)
          · omega
          · omega
          · (rw [sm_s hk0, hc]; (try dsimp only); first | rw [if_pos (by omega)] | rw [if_neg (by omega)])
          · omega
        · skip
          refine g_iconst (v := 0) ok dX4_readingsThere_23 (by decide +kernel) ?_
          refine g_goto (tgt := 28) ok dX4_readingsThere_24 (by decide) ?_
          refine g_iadd ok dX4_readingsThere_28 ?_
          refine g_istore_n ok dX4_readingsThere_29 rfl (Nat.le_of_ble_eq_true rfl) ?_
          refine g_iinc ok dX4_readingsThere_30 rfl rfl (Nat.le_of_ble_eq_true rfl) ?_
          refine g_goto (tgt := 4) ok dX4_readingsThere_33 (by decide) ?_
          refine G.norm [(0, .inr (.inr (20, 0))), (1, .inl _), (2, .inl _)] ⟨rfl, rfl, rfl, trivial⟩ (L4ih _ _ ?_ ?_ ?_ ?_)
          · omega
          · omega
          · (rw [sm_s hk0, hc]; (try dsimp only); first | rw [if_pos (by omega)] | rw [if_neg (by omega)])
          · omega
  refine G.norm [(0, .inr (.inr (20, 0))), (1, .inl _), (2, .inl _)] ⟨rfl, rfl, rfl, trivial⟩ (L4 (37 : Nat) _ _ ?_ ?_ ?_ ?_)
  · omega
  · omega
  · rfl
  · omega

set_option maxRecDepth 100000 in
set_option maxHeartbeats 4000000 in
theorem c_X4_nearestAhead (X : XW) (l : Launch) (σ : Mm) (z1 : Int) (c0 : 0 ≤ z1) (c1 : z1 < 36) (hE : CE σ) : Ct X l yX4_nearestAhead cX4_nearestAhead 3 (Option.some FieldType.int) 0 0 σ [.inr (.inr (20, 0)), .inl z1] (Ans (some (.inl (nr (fun k => σ 21 0 k) (-1) 37 (z1 - 1)))) (σ)) := by
  refine Ct.intro (own := RX4) (by decide) rfl (Nat.le_of_ble_eq_true rfl) (fun M hM ok hq => ?_)
  subst hM
  show G X M cX4_nearestAhead 3 σ 0 [(0, .inr (.inr (20, 0))), (1, .inl z1)] []
  refine g_iload_n ok dX4_nearestAhead_0 rfl rfl ?_
  refine g_iconst (v := 1) ok dX4_nearestAhead_1 (by decide +kernel) ?_
  refine g_isub ok dX4_nearestAhead_2 ?_
  refine g_istore_n ok dX4_nearestAhead_3 rfl (Nat.le_of_ble_eq_true rfl) ?_
  have L4 : ∀ (n : Nat) (k : Int), (-1 ≤ k) → (k ≤ 35) → (nr (fun k => σ 21 0 k) (-1) 37 (z1 - 1) = nr (fun k => σ 21 0 k) (-1) n k) → (k + 1 < n) → G X M cX4_nearestAhead 3 σ 4 [(0, .inr (.inr (20, 0))), (1, .inl z1), (2, .inl k)] [] := by
    intro n
    induction n with
    | zero => intro k hk0 hk1 hw hm; exact absurd hm (by omega)
    | succ n L4ih =>
      intro k hk0 hk1 hw hm
      have hk35 : k ≤ 35 ∨ k = 36 := by omega
      refine g_iload_n ok dX4_nearestAhead_4 rfl rfl ?_
      refine g_if_lt (tgt := 33) ok dX4_nearestAhead_5 (by decide) ⟨by omega, by omega⟩ (fun c1 => ?_) (fun c1 => ?_)
      · skip
        refine g_sipush (v := -1001) ok dX4_nearestAhead_33 (by decide +kernel) ?_
        exact g_iret ok hq dX4_nearestAhead_36 (ansI (by (rw [hw]; first | exact (nr_hit (by omega) (by omega) (by assumption)).symm | exact (nr_out (by omega)).symm)) (by rfl))
      · skip
        refine g_aload_n ok dX4_nearestAhead_8 rfl rfl ?_
        refine g_getr ok dX4_nearestAhead_9 fl_X4_9 (Vd.one rfl) rfl rfl ?_
        refine g_iload_n ok dX4_nearestAhead_12 rfl rfl ?_
        refine g_iald ok dX4_nearestAhead_13 (Vd.one rfl) (fun _ => rfl) ⟨by omega, by omega⟩ (by decide) rfl (fun h2 h3 => ?_)
        refine g_sipush (v := -1001) ok dX4_nearestAhead_14 (by decide +kernel) ?_
        refine g_icmp_eq (tgt := 27) ok dX4_nearestAhead_17 (by decide) ⟨by omega, by omega⟩ ⟨by omega, by omega⟩ (fun c4 => ?_) (fun c4 => ?_)
        · skip
          refine g_iinc ok dX4_nearestAhead_27 rfl rfl (Nat.le_of_ble_eq_true rfl) ?_
          refine g_goto (tgt := 4) ok dX4_nearestAhead_30 (by decide) ?_
          refine G.norm [(0, .inr (.inr (20, 0))), (1, .inl z1), (2, .inl _)] ⟨rfl, rfl, rfl, trivial⟩ (L4ih _ ?_ ?_ ?_ ?_)
          · omega
          · omega
          · (rw [hw]; exact nr_go (by omega) (by omega) (by assumption))
          · omega
        · skip
          refine g_aload_n ok dX4_nearestAhead_20 rfl rfl ?_
          refine g_getr ok dX4_nearestAhead_21 fl_X4_9 (Vd.one rfl) rfl rfl ?_
          refine g_iload_n ok dX4_nearestAhead_24 rfl rfl ?_
          refine g_iald ok dX4_nearestAhead_25 (Vd.one rfl) (fun _ => rfl) ⟨by omega, by omega⟩ (by decide) rfl (fun h5 h6 => ?_)
          exact g_iret ok hq dX4_nearestAhead_26 (ansI (by (rw [hw]; first | exact (nr_hit (by omega) (by omega) (by assumption)).symm | exact (nr_out (by omega)).symm)) (by rfl))
  refine G.norm [(0, .inr (.inr (20, 0))), (1, .inl z1), (2, .inl _)] ⟨rfl, rfl, rfl, trivial⟩ (L4 (37 : Nat) _ ?_ ?_ ?_ ?_)
  · omega
  · omega
  · rfl
  · omega

set_option maxRecDepth 100000 in
set_option maxHeartbeats 4000000 in
theorem c_X4_nearestBehind (X : XW) (l : Launch) (σ : Mm) (z1 : Int) (c0 : 0 ≤ z1) (c1 : z1 < 36) (hE : CE σ) : Ct X l yX4_nearestBehind cX4_nearestBehind 3 (Option.some FieldType.int) 0 0 σ [.inr (.inr (20, 0)), .inl z1] (Ans (some (.inl (nr (fun k => σ 21 0 k) (1) 37 (z1 + 1)))) (σ)) := by
  refine Ct.intro (own := RX4) (by decide) rfl (Nat.le_of_ble_eq_true rfl) (fun M hM ok hq => ?_)
  subst hM
  show G X M cX4_nearestBehind 3 σ 0 [(0, .inr (.inr (20, 0))), (1, .inl z1)] []
  refine g_iload_n ok dX4_nearestBehind_0 rfl rfl ?_
  refine g_iconst (v := 1) ok dX4_nearestBehind_1 (by decide +kernel) ?_
  refine g_iadd ok dX4_nearestBehind_2 ?_
  refine g_istore_n ok dX4_nearestBehind_3 rfl (Nat.le_of_ble_eq_true rfl) ?_
  have L4 : ∀ (n : Nat) (k : Int), (0 ≤ k) → (k ≤ 36) → (nr (fun k => σ 21 0 k) (1) 37 (z1 + 1) = nr (fun k => σ 21 0 k) (1) n k) → (36 - k < n) → G X M cX4_nearestBehind 3 σ 4 [(0, .inr (.inr (20, 0))), (1, .inl z1), (2, .inl k)] [] := by
    intro n
    induction n with
    | zero => intro k hk0 hk1 hw hm; exact absurd hm (by omega)
    | succ n L4ih =>
      intro k hk0 hk1 hw hm
      have hk35 : k ≤ 35 ∨ k = 36 := by omega
      refine g_iload_n ok dX4_nearestBehind_4 rfl rfl ?_
      refine g_bipush (v := 36) ok dX4_nearestBehind_5 (by decide +kernel) ?_
      refine g_icmp_ge (tgt := 35) ok dX4_nearestBehind_7 (by decide) ⟨by omega, by omega⟩ ⟨by omega, by omega⟩ (fun c1 => ?_) (fun c1 => ?_)
      · skip
        refine g_sipush (v := -1001) ok dX4_nearestBehind_35 (by decide +kernel) ?_
        exact g_iret ok hq dX4_nearestBehind_38 (ansI (by (rw [hw]; first | exact (nr_hit (by omega) (by omega) (by assumption)).symm | exact (nr_out (by omega)).symm)) (by rfl))
      · skip
        refine g_aload_n ok dX4_nearestBehind_10 rfl rfl ?_
        refine g_getr ok dX4_nearestBehind_11 fl_X4_9 (Vd.one rfl) rfl rfl ?_
        refine g_iload_n ok dX4_nearestBehind_14 rfl rfl ?_
        refine g_iald ok dX4_nearestBehind_15 (Vd.one rfl) (fun _ => rfl) ⟨by omega, by omega⟩ (by decide) rfl (fun h2 h3 => ?_)
        refine g_sipush (v := -1001) ok dX4_nearestBehind_16 (by decide +kernel) ?_
        refine g_icmp_eq (tgt := 29) ok dX4_nearestBehind_19 (by decide) ⟨by omega, by omega⟩ ⟨by omega, by omega⟩ (fun c4 => ?_) (fun c4 => ?_)
        · skip
          refine g_iinc ok dX4_nearestBehind_29 rfl rfl (Nat.le_of_ble_eq_true rfl) ?_
          refine g_goto (tgt := 4) ok dX4_nearestBehind_32 (by decide) ?_
          refine G.norm [(0, .inr (.inr (20, 0))), (1, .inl z1), (2, .inl _)] ⟨rfl, rfl, rfl, trivial⟩ (L4ih _ ?_ ?_ ?_ ?_)
          · omega
          · omega
          · (rw [hw]; exact nr_go (by omega) (by omega) (by assumption))
          · omega
        · skip
          refine g_aload_n ok dX4_nearestBehind_22 rfl rfl ?_
          refine g_getr ok dX4_nearestBehind_23 fl_X4_9 (Vd.one rfl) rfl rfl ?_
          refine g_iload_n ok dX4_nearestBehind_26 rfl rfl ?_
          refine g_iald ok dX4_nearestBehind_27 (Vd.one rfl) (fun _ => rfl) ⟨by omega, by omega⟩ (by decide) rfl (fun h5 h6 => ?_)
          exact g_iret ok hq dX4_nearestBehind_28 (ansI (by (rw [hw]; first | exact (nr_hit (by omega) (by omega) (by assumption)).symm | exact (nr_out (by omega)).symm)) (by rfl))
  refine G.norm [(0, .inr (.inr (20, 0))), (1, .inl z1), (2, .inl _)] ⟨rfl, rfl, rfl, trivial⟩ (L4 (37 : Nat) _ ?_ ?_ ?_ ?_)
  · omega
  · omega
  · rfl
  · omega

set_option maxRecDepth 100000 in
set_option maxHeartbeats 4000000 in
theorem c_X4_counting (X : XW) (l : Launch) (σ : Mm) (z1 : Int) (c0 : 0 ≤ z1) (c1 : z1 < 36) (hE : CE σ) : Ct X l yX4_counting cX4_counting 4 (Option.some FieldType.int) 1 22 σ [.inr (.inr (20, 0)), .inl z1] (Ans (some (.inl (cnC σ z1))) (σ)) := by
  refine Ct.intro (own := RX4) (by decide) rfl (Nat.le_of_ble_eq_true rfl) (fun M hM ok hq => ?_)
  subst hM
  show G X M cX4_counting 4 σ 0 [(0, .inr (.inr (20, 0))), (1, .inl z1)] []
  have a1 := nr_b (f := fun k => σ 21 0 k) (way := -1) (fun t => hE t) 37 (z1 - 1)
  have a2 := nr_b (f := fun k => σ 21 0 k) (way := 1) (fun t => hE t) 37 (z1 + 1)
  have a3 := hE z1
  refine g_aload_n ok dX4_counting_0 rfl rfl ?_
  refine g_getr ok dX4_counting_1 fl_X4_9 (Vd.one rfl) rfl rfl ?_
  refine g_iload_n ok dX4_counting_4 rfl rfl ?_
  refine g_iald ok dX4_counting_5 (Vd.one rfl) (fun _ => rfl) ⟨by omega, by omega⟩ (by decide) rfl (fun h1 h2 => ?_)
  refine g_sipush (v := -1001) ok dX4_counting_6 (by decide +kernel) ?_
  refine g_icmp_eq (tgt := 19) ok dX4_counting_9 (by decide) ⟨by omega, by omega⟩ ⟨by omega, by omega⟩ (fun c3 => ?_) (fun c3 => ?_)
  · skip
    refine g_aload_n ok dX4_counting_19 rfl rfl ?_
    refine g_iload_n ok dX4_counting_20 rfl rfl ?_
    refine g_cV ok dX4_counting_21 mv_X4_21 (c_X4_nearestAhead X _ _ _ (by omega) (by omega) hE) rfl (Vd.one rfl) rfl rfl (by decide) rfl (Nat.le_of_ble_eq_true rfl) ?_
    refine g_istore_n ok dX4_counting_24 rfl (Nat.le_of_ble_eq_true rfl) ?_
    refine g_aload_n ok dX4_counting_25 rfl rfl ?_
    refine g_iload_n ok dX4_counting_26 rfl rfl ?_
    refine g_cV ok dX4_counting_27 mv_X4_25 (c_X4_nearestBehind X _ _ _ (by omega) (by omega) hE) rfl (Vd.one rfl) rfl rfl (by decide) rfl (Nat.le_of_ble_eq_true rfl) ?_
    refine g_istore_n ok dX4_counting_30 rfl (Nat.le_of_ble_eq_true rfl) ?_
    refine g_iload_n ok dX4_counting_31 rfl rfl ?_
    refine g_sipush (v := -1001) ok dX4_counting_32 (by decide +kernel) ?_
    refine g_icmp_eq (tgt := 53) ok dX4_counting_35 (by decide) ⟨by omega, by omega⟩ ⟨by omega, by omega⟩ (fun c4 => ?_) (fun c4 => ?_)
    · skip
      refine g_iload_n ok dX4_counting_53 rfl rfl ?_
      refine g_sipush (v := -1001) ok dX4_counting_54 (by decide +kernel) ?_
      refine g_icmp_ne (tgt := 69) ok dX4_counting_57 (by decide) ⟨by omega, by omega⟩ ⟨by omega, by omega⟩ (fun c5 => ?_) (fun c5 => ?_)
      · skip
        refine g_iload_n ok dX4_counting_69 rfl rfl ?_
        refine g_sipush (v := -1001) ok dX4_counting_70 (by decide +kernel) ?_
        refine g_icmp_ne (tgt := 80) ok dX4_counting_73 (by decide) ⟨by omega, by omega⟩ ⟨by omega, by omega⟩ (fun c6 => ?_) (fun c6 => ?_)
        · skip
          refine g_iload_n ok dX4_counting_80 rfl rfl ?_
          exact g_iret ok hq dX4_counting_81 (ansI (by (simp only [cnC, cnF] <;> (repeat (first | rw [if_pos (by omega)] | rw [if_neg (by omega)])) <;> omega)) (by rfl))
        · skip
          refine g_iload_n ok dX4_counting_76 rfl rfl ?_
          refine g_goto (tgt := 81) ok dX4_counting_77 (by decide) ?_
          exact g_iret ok hq dX4_counting_81 (ansI (by (simp only [cnC, cnF] <;> (repeat (first | rw [if_pos (by omega)] | rw [if_neg (by omega)])) <;> omega)) (by rfl))
      · skip
        refine g_iload_n ok dX4_counting_60 rfl rfl ?_
        refine g_sipush (v := -1001) ok dX4_counting_61 (by decide +kernel) ?_
        refine g_icmp_ne (tgt := 69) ok dX4_counting_64 (by decide) ⟨by omega, by omega⟩ ⟨by omega, by omega⟩ (fun c7 => ?_) (fun c7 => ?_)
        · skip
          refine g_iload_n ok dX4_counting_69 rfl rfl ?_
          refine g_sipush (v := -1001) ok dX4_counting_70 (by decide +kernel) ?_
          refine g_icmp_ne (tgt := 80) ok dX4_counting_73 (by decide) ⟨by omega, by omega⟩ ⟨by omega, by omega⟩ (fun c8 => ?_) (fun c8 => ?_)
          · skip
            refine g_iload_n ok dX4_counting_80 rfl rfl ?_
            exact g_iret ok hq dX4_counting_81 (ansI (by (simp only [cnC, cnF] <;> (repeat (first | rw [if_pos (by omega)] | rw [if_neg (by omega)])) <;> omega)) (by rfl))
          · skip
            refine g_iload_n ok dX4_counting_76 rfl rfl ?_
            refine g_goto (tgt := 81) ok dX4_counting_77 (by decide) ?_
            exact g_iret ok hq dX4_counting_81 (ansI (by (simp only [cnC, cnF] <;> (repeat (first | rw [if_pos (by omega)] | rw [if_neg (by omega)])) <;> omega)) (by rfl))
        · skip
          refine g_iconst (v := 0) ok dX4_counting_67 (by decide +kernel) ?_
          exact g_iret ok hq dX4_counting_68 (ansI (by (simp only [cnC, cnF] <;> (repeat (first | rw [if_pos (by omega)] | rw [if_neg (by omega)])) <;> omega)) (by rfl))
    · skip
      refine g_iload_n ok dX4_counting_38 rfl rfl ?_
      refine g_sipush (v := -1001) ok dX4_counting_39 (by decide +kernel) ?_
      refine g_icmp_eq (tgt := 53) ok dX4_counting_42 (by decide) ⟨by omega, by omega⟩ ⟨by omega, by omega⟩ (fun c9 => ?_) (fun c9 => ?_)
      · skip
        refine g_iload_n ok dX4_counting_53 rfl rfl ?_
        refine g_sipush (v := -1001) ok dX4_counting_54 (by decide +kernel) ?_
        refine g_icmp_ne (tgt := 69) ok dX4_counting_57 (by decide) ⟨by omega, by omega⟩ ⟨by omega, by omega⟩ (fun c10 => ?_) (fun c10 => ?_)
        · skip
          refine g_iload_n ok dX4_counting_69 rfl rfl ?_
          refine g_sipush (v := -1001) ok dX4_counting_70 (by decide +kernel) ?_
          refine g_icmp_ne (tgt := 80) ok dX4_counting_73 (by decide) ⟨by omega, by omega⟩ ⟨by omega, by omega⟩ (fun c11 => ?_) (fun c11 => ?_)
          · skip
            refine g_iload_n ok dX4_counting_80 rfl rfl ?_
            exact g_iret ok hq dX4_counting_81 (ansI (by (simp only [cnC, cnF] <;> (repeat (first | rw [if_pos (by omega)] | rw [if_neg (by omega)])) <;> omega)) (by rfl))
          · skip
            refine g_iload_n ok dX4_counting_76 rfl rfl ?_
            refine g_goto (tgt := 81) ok dX4_counting_77 (by decide) ?_
            exact g_iret ok hq dX4_counting_81 (ansI (by (simp only [cnC, cnF] <;> (repeat (first | rw [if_pos (by omega)] | rw [if_neg (by omega)])) <;> omega)) (by rfl))
        · skip
          refine g_iload_n ok dX4_counting_60 rfl rfl ?_
          refine g_sipush (v := -1001) ok dX4_counting_61 (by decide +kernel) ?_
          refine g_icmp_ne (tgt := 69) ok dX4_counting_64 (by decide) ⟨by omega, by omega⟩ ⟨by omega, by omega⟩ (fun c12 => ?_) (fun c12 => ?_)
          · skip
            refine g_iload_n ok dX4_counting_69 rfl rfl ?_
            refine g_sipush (v := -1001) ok dX4_counting_70 (by decide +kernel) ?_
            refine g_icmp_ne (tgt := 80) ok dX4_counting_73 (by decide) ⟨by omega, by omega⟩ ⟨by omega, by omega⟩ (fun c13 => ?_) (fun c13 => ?_)
            · skip
              refine g_iload_n ok dX4_counting_80 rfl rfl ?_
              exact g_iret ok hq dX4_counting_81 (ansI (by (simp only [cnC, cnF] <;> (repeat (first | rw [if_pos (by omega)] | rw [if_neg (by omega)])) <;> omega)) (by rfl))
            · skip
              refine g_iload_n ok dX4_counting_76 rfl rfl ?_
              refine g_goto (tgt := 81) ok dX4_counting_77 (by decide) ?_
              exact g_iret ok hq dX4_counting_81 (ansI (by (simp only [cnC, cnF] <;> (repeat (first | rw [if_pos (by omega)] | rw [if_neg (by omega)])) <;> omega)) (by rfl))
          · skip
            refine g_iconst (v := 0) ok dX4_counting_67 (by decide +kernel) ?_
            exact g_iret ok hq dX4_counting_68 (ansI (by (simp only [cnC, cnF] <;> (repeat (first | rw [if_pos (by omega)] | rw [if_neg (by omega)])) <;> omega)) (by rfl))
      · skip
        refine g_iload_n ok dX4_counting_45 rfl rfl ?_
        refine g_iload_n ok dX4_counting_46 rfl rfl ?_
        refine g_iadd ok dX4_counting_47 ?_
        refine g_iconst (v := 2) ok dX4_counting_48 (by decide +kernel) ?_
        refine g_cS ok dX4_counting_49 ms_X4_28 (c_J9_floorDiv_7cf53 X _ _ _ ⟨by omega, by omega⟩) rfl (by decide) rfl (Nat.le_of_ble_eq_true rfl) ?_
        exact g_iret ok hq dX4_counting_52 (ansI (by (simp only [cnC, cnF] <;> (repeat (first | rw [if_pos (by omega)] | rw [if_neg (by omega)])) <;> omega)) (by rfl))
  · skip
    refine g_aload_n ok dX4_counting_12 rfl rfl ?_
    refine g_getr ok dX4_counting_13 fl_X4_9 (Vd.one rfl) rfl rfl ?_
    refine g_iload_n ok dX4_counting_16 rfl rfl ?_
    refine g_iald ok dX4_counting_17 (Vd.one rfl) (fun _ => rfl) ⟨by omega, by omega⟩ (by decide) rfl (fun h14 h15 => ?_)
    exact g_iret ok hq dX4_counting_18 (ansI (by (simp only [cnC, cnF] <;> (repeat (first | rw [if_pos (by omega)] | rw [if_neg (by omega)])) <;> omega)) (by rfl))

set_option maxRecDepth 100000 in
set_option maxHeartbeats 4000000 in
theorem c_X2_add (X : XW) (l : Launch) (σ : Mm) (z1 z2 z3 z4 z5 : Int) (rz1 : R32 z1) (rz2 : R32 z2) (rz3 : R32 z3) (rz4 : R32 z4) (rz5 : R64 z5) (hd : 0 ≤ σ 22 0 0 ∧ σ 22 0 0 < 150) : Ct X l yX2_add cX2_add 7 (Option.none : Option FieldType) 0 0 σ [.inr (.inr (22, 0)), .inl z1, .inl z2, .inl z3, .inl z4, .inr (.inl z5)] (Ans none (adR σ z1 z2 z3 z4 z5)) := by
  refine Ct.intro (own := RX2) (by decide) rfl (Nat.le_of_ble_eq_true rfl) (fun M hM ok hq => ?_)
  subst hM
  have rz1l := rz1.1
  have rz1r := rz1.2
  have rz2l := rz2.1
  have rz2r := rz2.2
  have rz3l := rz3.1
  have rz3r := rz3.2
  have rz4l := rz4.1
  have rz4r := rz4.2
  have rz5l := rz5.1
  have rz5r := rz5.2
  show G X M cX2_add 7 σ 0 [(0, .inr (.inr (22, 0))), (1, .inl z1), (2, .inl z2), (3, .inl z3), (4, .inl z4), (5, .inr (.inl z5))] []
  refine g_aload_n ok dX2_add_0 rfl rfl ?_
  refine g_getr ok dX2_add_1 fl_X2_9 (Vd.one rfl) rfl rfl ?_
  refine g_aload_n ok dX2_add_4 rfl rfl ?_
  refine g_geti (z := 0) ok dX2_add_5 fl_X2_28 (Vd.one rfl) rfl rfl rfl (fun h1 h2 => ?_)
  refine g_iload_n ok dX2_add_8 rfl rfl ?_
  refine g_iast ok dX2_add_9 (Vd.one rfl) (fun _ => rfl) ⟨by omega, by omega⟩ (by decide) rfl ⟨by omega, by omega⟩ ?_
  refine g_aload_n ok dX2_add_10 rfl rfl ?_
  refine g_getr ok dX2_add_11 fl_X2_15 (Vd.one rfl) rfl rfl ?_
  refine g_aload_n ok dX2_add_14 rfl rfl ?_
  refine g_geti2 σ (z := 0) ok dX2_add_15 fl_X2_28 (Vd.one rfl) rfl rfl rfl rfl (fun h3 h4 => ?_)
  refine g_iload_n ok dX2_add_18 rfl rfl ?_
  refine g_iast ok dX2_add_19 (Vd.one rfl) (fun _ => rfl) ⟨by omega, by omega⟩ (by decide) rfl ⟨by omega, by omega⟩ ?_
  refine g_aload_n ok dX2_add_20 rfl rfl ?_
  refine g_getr ok dX2_add_21 fl_X2_18 (Vd.one rfl) rfl rfl ?_
  refine g_aload_n ok dX2_add_24 rfl rfl ?_
  refine g_geti2 σ (z := 0) ok dX2_add_25 fl_X2_28 (Vd.one rfl) rfl rfl rfl rfl (fun h5 h6 => ?_)
  refine g_iload_n ok dX2_add_28 rfl rfl ?_
  refine g_iast ok dX2_add_29 (Vd.one rfl) (fun _ => rfl) ⟨by omega, by omega⟩ (by decide) rfl ⟨by omega, by omega⟩ ?_
  refine g_aload_n ok dX2_add_30 rfl rfl ?_
  refine g_getr ok dX2_add_31 fl_X2_21 (Vd.one rfl) rfl rfl ?_
  refine g_aload_n ok dX2_add_34 rfl rfl ?_
  refine g_geti2 σ (z := 0) ok dX2_add_35 fl_X2_28 (Vd.one rfl) rfl rfl rfl rfl (fun h7 h8 => ?_)
  refine g_iload ok dX2_add_38 rfl ?_
  refine g_iast ok dX2_add_40 (Vd.one rfl) (fun _ => rfl) ⟨by omega, by omega⟩ (by decide) rfl ⟨by omega, by omega⟩ ?_
  refine g_aload_n ok dX2_add_41 rfl rfl ?_
  refine g_getr ok dX2_add_42 fl_X2_24 (Vd.one rfl) rfl rfl ?_
  refine g_aload_n ok dX2_add_45 rfl rfl ?_
  refine g_geti2 σ (z := 0) ok dX2_add_46 fl_X2_28 (Vd.one rfl) rfl rfl rfl rfl (fun h9 h10 => ?_)
  refine g_lload ok dX2_add_49 rfl ?_
  refine g_last ok dX2_add_51 (Vd.one rfl) (fun _ => rfl) ⟨by omega, by omega⟩ (by decide) rfl ⟨by omega, by omega⟩ ?_
  refine g_aload_n ok dX2_add_52 rfl rfl ?_
  refine g_dup ok dX2_add_53 rfl ?_
  refine g_geti2 σ (z := 0) ok dX2_add_54 fl_X2_28 (Vd.one rfl) rfl rfl rfl rfl (fun h11 h12 => ?_)
  refine g_iconst (v := 1) ok dX2_add_57 (by decide +kernel) ?_
  refine g_iadd ok dX2_add_58 ?_
  refine g_puti (z := 0) ok dX2_add_59 fw_X2_28 (Vd.one rfl) rfl rfl (Nat.le_of_ble_eq_true rfl) rfl ⟨by omega, by omega⟩ ?_
  exact g_vret ok hq dX2_add_62 (ansV (by rfl))

set_option maxRecDepth 100000 in
set_option maxHeartbeats 4000000 in
theorem c_X2_fact (X : XW) (l : Launch) (σ : Mm) (z1 z2 : Int) (c0 : 0 ≤ z1) (c1 : z1 < 150) (rz2 : R32 z2) : Ct X l yX2_fact cX2_fact 3 (Option.some FieldType.long) 0 0 σ [.inr (.inr (22, 0)), .inl z1, .inl z2] (Ans (some (.inr (.inl (bkC σ z1 z2)))) (σ)) := by
  refine Ct.intro (own := RX2) (by decide) rfl (Nat.le_of_ble_eq_true rfl) (fun M hM ok hq => ?_)
  subst hM
  have rz2l := rz2.1
  have rz2r := rz2.2
  show G X M cX2_fact 3 σ 0 [(0, .inr (.inr (22, 0))), (1, .inl z1), (2, .inl z2)] []
  refine g_iload_n ok dX2_fact_0 rfl rfl ?_
  rcases (show z2 = 0 ∨ z2 = 1 ∨ z2 = 2 ∨ z2 = 3 ∨ (z2 < 0 ∨ 3 < z2) by omega) with w1 | w1 | w1 | w1 | w1
  · skip
    refine g_tabIn (tgt := 32) ok dX2_fact_1 ⟨by omega, by omega⟩ (by omega) (by omega) (off := 31) (by rw [w1]; rfl) (by decide) ?_
    refine g_aload_n ok dX2_fact_32 rfl rfl ?_
    refine g_getr ok dX2_fact_33 fl_X2_9 (Vd.one rfl) rfl rfl ?_
    refine g_iload_n ok dX2_fact_36 rfl rfl ?_
    refine g_iald ok dX2_fact_37 (Vd.one rfl) (fun _ => rfl) ⟨by omega, by omega⟩ (by decide) rfl (fun h2 h3 => ?_)
    refine g_i2l ok dX2_fact_38 ⟨by omega, by omega⟩ ?_
    exact g_lret ok hq dX2_fact_39 (ansL (by (simp only [bkC, BAD, NO, FULL, NONE, NOTHING, INDEX, SIZE] <;> (repeat (first | rw [if_pos (by omega)] | rw [if_neg (by omega)])) <;> omega)) (by rfl))
  · skip
    refine g_tabIn (tgt := 40) ok dX2_fact_1 ⟨by omega, by omega⟩ (by omega) (by omega) (off := 39) (by rw [w1]; rfl) (by decide) ?_
    refine g_aload_n ok dX2_fact_40 rfl rfl ?_
    refine g_getr ok dX2_fact_41 fl_X2_15 (Vd.one rfl) rfl rfl ?_
    refine g_iload_n ok dX2_fact_44 rfl rfl ?_
    refine g_iald ok dX2_fact_45 (Vd.one rfl) (fun _ => rfl) ⟨by omega, by omega⟩ (by decide) rfl (fun h4 h5 => ?_)
    refine g_i2l ok dX2_fact_46 ⟨by omega, by omega⟩ ?_
    exact g_lret ok hq dX2_fact_47 (ansL (by (simp only [bkC, BAD, NO, FULL, NONE, NOTHING, INDEX, SIZE] <;> (repeat (first | rw [if_pos (by omega)] | rw [if_neg (by omega)])) <;> omega)) (by rfl))
  · skip
    refine g_tabIn (tgt := 48) ok dX2_fact_1 ⟨by omega, by omega⟩ (by omega) (by omega) (off := 47) (by rw [w1]; rfl) (by decide) ?_
    refine g_aload_n ok dX2_fact_48 rfl rfl ?_
    refine g_getr ok dX2_fact_49 fl_X2_18 (Vd.one rfl) rfl rfl ?_
    refine g_iload_n ok dX2_fact_52 rfl rfl ?_
    refine g_iald ok dX2_fact_53 (Vd.one rfl) (fun _ => rfl) ⟨by omega, by omega⟩ (by decide) rfl (fun h6 h7 => ?_)
    refine g_i2l ok dX2_fact_54 ⟨by omega, by omega⟩ ?_
    exact g_lret ok hq dX2_fact_55 (ansL (by (simp only [bkC, BAD, NO, FULL, NONE, NOTHING, INDEX, SIZE] <;> (repeat (first | rw [if_pos (by omega)] | rw [if_neg (by omega)])) <;> omega)) (by rfl))
  · skip
    refine g_tabIn (tgt := 56) ok dX2_fact_1 ⟨by omega, by omega⟩ (by omega) (by omega) (off := 55) (by rw [w1]; rfl) (by decide) ?_
    refine g_aload_n ok dX2_fact_56 rfl rfl ?_
    refine g_getr ok dX2_fact_57 fl_X2_21 (Vd.one rfl) rfl rfl ?_
    refine g_iload_n ok dX2_fact_60 rfl rfl ?_
    refine g_iald ok dX2_fact_61 (Vd.one rfl) (fun _ => rfl) ⟨by omega, by omega⟩ (by decide) rfl (fun h8 h9 => ?_)
    refine g_i2l ok dX2_fact_62 ⟨by omega, by omega⟩ ?_
    exact g_lret ok hq dX2_fact_63 (ansL (by (simp only [bkC, BAD, NO, FULL, NONE, NOTHING, INDEX, SIZE] <;> (repeat (first | rw [if_pos (by omega)] | rw [if_neg (by omega)])) <;> omega)) (by rfl))
  · skip
    refine g_tabOut (tgt := 64) ok dX2_fact_1 ⟨by omega, by omega⟩ (by omega) (by decide) ?_
    refine g_aload_n ok dX2_fact_64 rfl rfl ?_
    refine g_getr ok dX2_fact_65 fl_X2_24 (Vd.one rfl) rfl rfl ?_
    refine g_iload_n ok dX2_fact_68 rfl rfl ?_
    refine g_lald ok dX2_fact_69 (Vd.one rfl) (fun _ => rfl) ⟨by omega, by omega⟩ (by decide) rfl (fun h10 h11 => ?_)
    exact g_lret ok hq dX2_fact_70 (ansL (by (simp only [bkC, BAD, NO, FULL, NONE, NOTHING, INDEX, SIZE] <;> (repeat (first | rw [if_pos (by omega)] | rw [if_neg (by omega)])) <;> omega)) (by rfl))

set_option maxRecDepth 100000 in
set_option maxHeartbeats 4000000 in
theorem c_X2_allMoney (X : XW) (l : Launch) (σ : Mm)  (hR : CR σ) : Ct X l yX2_allMoney cX2_allMoney 4 (Option.some FieldType.long) 0 0 σ [.inr (.inr (22, 0))] (Ans (some (.inr (.inl (sm (fun k => σ 27 0 k) (σ 22 0 0))))) (σ)) := by
  refine Ct.intro (own := RX2) (by decide) rfl (Nat.le_of_ble_eq_true rfl) (fun M hM ok hq => ?_)
  subst hM
  show G X M cX2_allMoney 4 σ 0 [(0, .inr (.inr (22, 0)))] []
  have aR := hR.1
  refine g_lconst (v := 0) ok dX2_allMoney_0 (by decide +kernel) ?_
  refine g_lstore_n ok dX2_allMoney_1 rfl (Nat.le_of_ble_eq_true rfl) ?_
  refine g_iconst (v := 0) ok dX2_allMoney_2 (by decide +kernel) ?_
  refine g_istore_n ok dX2_allMoney_3 rfl (Nat.le_of_ble_eq_true rfl) ?_
  have L4 : ∀ (n : Nat) (k : Int) (c : Int), (0 ≤ k) → (k ≤ σ 22 0 0) → (c = sm (fun k => σ 27 0 k) k) → (σ 22 0 0 - k < n) → G X M cX2_allMoney 4 σ 4 [(0, .inr (.inr (22, 0))), (1, .inr (.inl c)), (3, .inl k)] [] := by
    intro n
    induction n with
    | zero => intro k c hk0 hk1 hc hm; exact absurd hm (by omega)
    | succ n L4ih =>
      intro k c hk0 hk1 hc hm
      refine g_iload_n ok dX2_allMoney_4 rfl rfl ?_
      refine g_aload_n ok dX2_allMoney_5 rfl rfl ?_
      refine g_geti (z := 0) ok dX2_allMoney_6 fl_X2_28 (Vd.one rfl) rfl rfl rfl (fun h1 h2 => ?_)
      refine g_icmp_ge (tgt := 27) ok dX2_allMoney_9 (by decide) ⟨by omega, by omega⟩ ⟨by omega, by omega⟩ (fun c3 => ?_) (fun c3 => ?_)
      · skip
        refine g_lload_n ok dX2_allMoney_27 rfl rfl ?_
        exact g_lret ok hq dX2_allMoney_28 (ansL (by (rw [hc, show k = σ 22 0 0 by omega])) (by rfl))
      · skip
        refine g_lload_n ok dX2_allMoney_12 rfl rfl ?_
        refine g_aload_n ok dX2_allMoney_13 rfl rfl ?_
        refine g_getr ok dX2_allMoney_14 fl_X2_24 (Vd.one rfl) rfl rfl ?_
        refine g_iload_n ok dX2_allMoney_17 rfl rfl ?_
        refine g_lald ok dX2_allMoney_18 (Vd.one rfl) (fun _ => rfl) ⟨by omega, by omega⟩ (by decide) rfl (fun h4 h5 => ?_)
        refine g_ladd ok dX2_allMoney_19 ?_
        refine g_lstore_n ok dX2_allMoney_20 rfl (Nat.le_of_ble_eq_true rfl) ?_
        refine g_iinc ok dX2_allMoney_21 rfl rfl (Nat.le_of_ble_eq_true rfl) ?_
        refine g_goto (tgt := 4) ok dX2_allMoney_24 (by decide) ?_
        refine G.norm [(0, .inr (.inr (22, 0))), (1, .inr (.inl _)), (3, .inl _)] ⟨rfl, rfl, rfl, trivial⟩ (L4ih _ _ ?_ ?_ ?_ ?_)
        · omega
        · omega
        · (rw [sm_s hk0, hc])
        · omega
  refine G.norm [(0, .inr (.inr (22, 0))), (1, .inr (.inl _)), (3, .inl _)] ⟨rfl, rfl, rfl, trivial⟩ (L4 (151 : Nat) _ _ ?_ ?_ ?_ ?_)
  · omega
  · omega
  · rfl
  · omega

set_option maxRecDepth 100000 in
set_option maxHeartbeats 4000000 in
theorem c_X2_firstBeyond (X : XW) (l : Launch) (σ : Mm) (i z1 : Int) (b0 : 0 ≤ i) (b1 : i < 4) (rz1 : R32 z1) (hR : CR σ) (c0 : 0 ≤ z1) : Ct X l yX2_firstBeyond cX2_firstBeyond 5 (Option.some FieldType.long) 1 16 σ [.inr (.inr (22, 0)), .inl i, .inl z1] (Ans (some (.inr (.inl (fsr (vdC σ i z1) 0 (σ 22 0 0).toNat)))) (σ)) := by
  refine Ct.intro (own := RX2) (by decide) rfl (Nat.le_of_ble_eq_true rfl) (fun M hM ok hq => ?_)
  subst hM
  have rz1l := rz1.1
  have rz1r := rz1.2
  show G X M cX2_firstBeyond 5 σ 0 [(0, .inr (.inr (22, 0))), (1, .inl i), (2, .inl z1)] []
  have aR := hR.1
  refine g_iconst (v := 0) ok dX2_firstBeyond_0 (by decide +kernel) ?_
  refine g_istore_n ok dX2_firstBeyond_1 rfl (Nat.le_of_ble_eq_true rfl) ?_
  refine g_iconst (v := 0) ok dX2_firstBeyond_2 (by decide +kernel) ?_
  refine g_istore ok dX2_firstBeyond_3 (Nat.le_of_ble_eq_true rfl) ?_
  have L5 : ∀ (n : Nat) (t : Int) (c : Int), (0 ≤ t) → (t ≤ σ 22 0 0) → (c = sm (szC σ i) t) → (0 ≤ c ∧ c ≤ 100 * t) → (fsr (vdC σ i z1) 0 (σ 22 0 0).toNat = fsr (vdC σ i z1) t (σ 22 0 0 - t).toNat) → (σ 22 0 0 - t < n) → G X M cX2_firstBeyond 5 σ 5 [(0, .inr (.inr (22, 0))), (1, .inl i), (2, .inl z1), (3, .inl c), (4, .inl t)] [] := by
    intro n
    induction n with
    | zero => intro t c hk0 hk1 hc hb hw hm; exact absurd hm (by omega)
    | succ n L5ih =>
      intro t c hk0 hk1 hc hb hw hm
      have aB := hR.2 t
      have e0 := sm_s (f := szC σ i) hk0
      have e2 : σ 23 0 t = i → szC σ i t = absC (σ 26 0 t) := fun h => by unfold szC; rw [if_pos h]
      have e3 : ¬ σ 23 0 t = i → szC σ i t = 0 := fun h => by unfold szC; rw [if_neg h]
      have aA : 0 ≤ absC (σ 26 0 t) ∧ absC (σ 26 0 t) ≤ 100 := by unfold absC; split <;> omega
      refine g_iload ok dX2_firstBeyond_5 rfl ?_
      refine g_aload_n ok dX2_firstBeyond_7 rfl rfl ?_
      refine g_geti (z := 0) ok dX2_firstBeyond_8 fl_X2_28 (Vd.one rfl) rfl rfl rfl (fun h1 h2 => ?_)
      refine g_icmp_ge (tgt := 53) ok dX2_firstBeyond_11 (by decide) ⟨by omega, by omega⟩ ⟨by omega, by omega⟩ (fun c3 => ?_) (fun c3 => ?_)
      · skip
        refine g_ldc2 (v := -9000000000000000005) ok dX2_firstBeyond_53 wd3_176 (by decide +kernel) ?_
        exact g_lret ok hq dX2_firstBeyond_56 (ansL (by (rw [hw, fsr_end (by omega)]; rfl)) (by rfl))
      · skip
        refine g_aload_n ok dX2_firstBeyond_14 rfl rfl ?_
        refine g_getr ok dX2_firstBeyond_15 fl_X2_9 (Vd.one rfl) rfl rfl ?_
        refine g_iload ok dX2_firstBeyond_18 rfl ?_
        refine g_iald ok dX2_firstBeyond_20 (Vd.one rfl) (fun _ => rfl) ⟨by omega, by omega⟩ (by decide) rfl (fun h4 h5 => ?_)
        refine g_iload_n ok dX2_firstBeyond_21 rfl rfl ?_
        refine g_icmp_ne (tgt := 47) ok dX2_firstBeyond_22 (by decide) ⟨by omega, by omega⟩ ⟨by omega, by omega⟩ (fun c6 => ?_) (fun c6 => ?_)
        · skip
          refine g_iinc ok dX2_firstBeyond_47 rfl rfl (Nat.le_of_ble_eq_true rfl) ?_
          refine g_goto (tgt := 5) ok dX2_firstBeyond_50 (by decide) ?_
          refine G.norm [(0, .inr (.inr (22, 0))), (1, .inl i), (2, .inl z1), (3, .inl _), (4, .inl _)] ⟨rfl, rfl, rfl, rfl, rfl, trivial⟩ (L5ih _ _ ?_ ?_ ?_ ?_ ?_ ?_)
          · omega
          · omega
          · (rw [e0]; first | (rw [e2 (by assumption)]; unfold absC; omega) | (rw [e3 (by assumption)]; omega))
          · (first | (have := aA; unfold absC at this; omega) | omega)
          · (rw [hw]; exact fsr_go (by omega) (by unfold vdC; first | (rw [if_neg (fun q => absurd q.1 (by assumption))]; done) | (rw [if_neg (fun q => absurd q.2 (by rw [e0, e2 (by assumption), ← hc]; unfold absC; omega))])))
          · omega
        · skip
          refine g_iload_n ok dX2_firstBeyond_25 rfl rfl ?_
          refine g_aload_n ok dX2_firstBeyond_26 rfl rfl ?_
          refine g_getr ok dX2_firstBeyond_27 fl_X2_21 (Vd.one rfl) rfl rfl ?_
          refine g_iload ok dX2_firstBeyond_30 rfl ?_
          refine g_iald ok dX2_firstBeyond_32 (Vd.one rfl) (fun _ => rfl) ⟨by omega, by omega⟩ (by decide) rfl (fun h7 h8 => ?_)
          refine g_abs ok dX2_firstBeyond_33 wd3_197 wd3_122 wd1_12 wd3_123 ⟨Nat.le_of_ble_eq_true rfl, Nat.le_of_ble_eq_true rfl⟩ ⟨by omega, by omega⟩ ?_
          have aA2 := aA
          unfold absC at aA2
          refine g_iadd ok dX2_firstBeyond_36 ?_
          refine g_istore_n ok dX2_firstBeyond_37 rfl (Nat.le_of_ble_eq_true rfl) ?_
          refine g_iload_n ok dX2_firstBeyond_38 rfl rfl ?_
          refine g_iload_n ok dX2_firstBeyond_39 rfl rfl ?_
          refine g_icmp_le (tgt := 47) ok dX2_firstBeyond_40 (by decide) ⟨by omega, by omega⟩ ⟨by omega, by omega⟩ (fun c9 => ?_) (fun c9 => ?_)
          · skip
            refine g_iinc ok dX2_firstBeyond_47 rfl rfl (Nat.le_of_ble_eq_true rfl) ?_
            refine g_goto (tgt := 5) ok dX2_firstBeyond_50 (by decide) ?_
            refine G.norm [(0, .inr (.inr (22, 0))), (1, .inl i), (2, .inl z1), (3, .inl _), (4, .inl _)] ⟨rfl, rfl, rfl, rfl, rfl, trivial⟩ (L5ih _ _ ?_ ?_ ?_ ?_ ?_ ?_)
            · omega
            · omega
            · (rw [e0]; first | (rw [e2 (by assumption)]; unfold absC; omega) | (rw [e3 (by assumption)]; omega))
            · (first | (have := aA; unfold absC at this; omega) | omega)
            · (rw [hw]; exact fsr_go (by omega) (by unfold vdC; first | (rw [if_neg (fun q => absurd q.1 (by assumption))]; done) | (rw [if_neg (fun q => absurd q.2 (by rw [e0, e2 (by assumption), ← hc]; unfold absC; omega))])))
            · omega
          · skip
            refine g_iload ok dX2_firstBeyond_43 rfl ?_
            refine g_i2l ok dX2_firstBeyond_45 ⟨by omega, by omega⟩ ?_
            exact g_lret ok hq dX2_firstBeyond_46 (ansL (by (rw [hw, fsr_stop (by omega) (by unfold vdC; rw [if_pos ⟨by assumption, by rw [e0, e2 (by assumption), ← hc]; unfold absC; omega⟩]; decide)])) (by rfl))
  refine G.norm [(0, .inr (.inr (22, 0))), (1, .inl i), (2, .inl z1), (3, .inl _), (4, .inl _)] ⟨rfl, rfl, rfl, rfl, rfl, trivial⟩ (L5 (151 : Nat) _ _ ?_ ?_ ?_ ?_ ?_ ?_)
  · omega
  · omega
  · rfl
  · omega
  · (rw [Int.sub_zero])
  · omega

set_option maxRecDepth 100000 in
set_option maxHeartbeats 4000000 in
theorem c_X2_firstWrong (X : XW) (l : Launch) (σ : Mm) (i : Int) (b0 : 0 ≤ i) (b1 : i < 4) (hS : CS σ) (hP : CP σ) (hR : CR σ) : Ct X l yX2_firstWrong cX2_firstWrong 10 (Option.some FieldType.long) 2 47 σ [.inr (.inr (22, 0)), .inl i, .inr (.inr (8, i)), .inr (.inr (4, 0))] (Ans (some (.inr (.inl (fwC σ i)))) (σ)) := by
  refine Ct.intro (own := RX2) (by decide) rfl (Nat.le_of_ble_eq_true rfl) (fun M hM ok hq => ?_)
  subst hM
  show G X M cX2_firstWrong 10 σ 0 [(0, .inr (.inr (22, 0))), (1, .inl i), (2, .inr (.inr (8, i))), (3, .inr (.inr (4, 0)))] []
  have aR := hR.1
  have aS := hS i
  refine g_ldc2 (v := -9000000000000000005) ok dX2_firstWrong_0 wd3_176 (by decide +kernel) ?_
  refine g_lstore ok dX2_firstWrong_3 (Nat.le_of_ble_eq_true rfl) ?_
  refine g_aload_n ok dX2_firstWrong_5 rfl rfl ?_
  refine g_geti (z := 3) ok dX2_firstWrong_6 fl_X2_34 (Vd.four rfl (by omega) (by omega)) rfl rfl rfl (fun h1 h2 => ?_)
  refine g_istore ok dX2_firstWrong_9 (Nat.le_of_ble_eq_true rfl) ?_
  refine g_aload_n ok dX2_firstWrong_11 rfl rfl ?_
  refine g_geti (z := 0) ok dX2_firstWrong_12 fl_X2_28 (Vd.one rfl) rfl rfl rfl (fun h3 h4 => ?_)
  refine g_iconst (v := 1) ok dX2_firstWrong_15 (by decide +kernel) ?_
  refine g_isub ok dX2_firstWrong_16 ?_
  refine g_istore ok dX2_firstWrong_17 (Nat.le_of_ble_eq_true rfl) ?_
  have L19 : ∀ (n : Nat) (k : Int) (c : Int) (f : Int), (-1 ≤ k) → (k ≤ σ 22 0 0 - 1) → (c = σ 8 i 3 - (sm (nbC σ i) (σ 22 0 0) - sm (nbC σ i) (k + 1))) → (f = fsr (wrC σ i) (k + 1) (σ 22 0 0 - (k + 1)).toNat) → (k + 1 < n) → G X M cX2_firstWrong 10 σ 19 [(0, .inr (.inr (22, 0))), (1, .inl i), (2, .inr (.inr (8, i))), (3, .inr (.inr (4, 0))), (4, .inr (.inl f)), (6, .inl c), (7, .inl k)] [] := by
    intro n
    induction n with
    | zero => intro k c f hk0 hk1 hc hf hm; exact absurd hm (by omega)
    | succ n L19ih =>
      intro k c f hk0 hk1 hc hf hm
      have aB := hR.2 k
      have e2 : σ 23 0 k = i → nbC σ i k = σ 26 0 k := fun h => by unfold nbC; rw [if_pos h]
      have e3 : ¬ σ 23 0 k = i → nbC σ i k = 0 := fun h => by unfold nbC; rw [if_neg h]
      refine g_iload ok dX2_firstWrong_19 rfl ?_
      refine g_if_lt (tgt := 117) ok dX2_firstWrong_21 (by decide) ⟨by omega, by omega⟩ (fun c5 => ?_) (fun c5 => ?_)
      · skip
        refine g_lload ok dX2_firstWrong_117 rfl ?_
        exact g_lret ok hq dX2_firstWrong_119 (ansL (by (unfold fwC; rw [hf, show k + 1 = 0 by omega, Int.sub_zero])) (by rfl))
      · skip
        have e0 := sm_s (f := nbC σ i) (t := k) (by omega)
        have e4 : σ 23 0 k = i → c - σ 26 0 k = ahC σ i k := fun h => by unfold ahC; rw [e0, e2 h] at hc; omega
        have aH := ahC_b hR hS i (i := k) (by omega) (by omega)
        refine g_aload_n ok dX2_firstWrong_24 rfl rfl ?_
        refine g_getr ok dX2_firstWrong_25 fl_X2_9 (Vd.one rfl) rfl rfl ?_
        refine g_iload ok dX2_firstWrong_28 rfl ?_
        refine g_iald ok dX2_firstWrong_30 (Vd.one rfl) (fun _ => rfl) ⟨by omega, by omega⟩ (by decide) rfl (fun h6 h7 => ?_)
        refine g_iload_n ok dX2_firstWrong_31 rfl rfl ?_
        refine g_icmp_ne (tgt := 111) ok dX2_firstWrong_32 (by decide) ⟨by omega, by omega⟩ ⟨by omega, by omega⟩ (fun c8 => ?_) (fun c8 => ?_)
        · skip
          refine g_iinc ok dX2_firstWrong_111 rfl rfl (Nat.le_of_ble_eq_true rfl) ?_
          refine g_goto (tgt := 19) ok dX2_firstWrong_114 (by decide) ?_
          refine G.norm [(0, .inr (.inr (22, 0))), (1, .inl i), (2, .inr (.inr (8, i))), (3, .inr (.inr (4, 0))), (4, .inr (.inl _)), (6, .inl _), (7, .inl _)] ⟨rfl, rfl, rfl, rfl, rfl, rfl, rfl, trivial⟩ (L19ih _ _ _ ?_ ?_ ?_ ?_ ?_)
          · omega
          · omega
          · (first | (rw [show k + -1 + 1 = k by omega]; rw [e0, e2 (by assumption)] at hc; omega) | (rw [show k + -1 + 1 = k by omega]; rw [e0, e3 (by assumption)] at hc; omega))
          · (rw [show k + -1 + 1 = k by omega]; first | (rw [fsr_go (by omega) (by unfold wrC; rw [if_neg (by assumption)])]; exact hf) | (rw [fsr_go (by omega) (by unfold wrC; rw [if_pos (by assumption), if_pos ⟨by assumption, by rw [← e4 (by assumption)]; omega⟩])]; exact hf) | (rw [fsr_stop (by omega) (by unfold wrC; rw [if_pos (by assumption), if_neg (fun q => absurd q.1 (by assumption))]; decide)]) | (rw [fsr_stop (by omega) (by unfold wrC; rw [if_pos (by assumption), if_neg (fun q => absurd q.2 (by rw [← e4 (by assumption)]; assumption))]; decide)]))
          · omega
        · skip
          have e5 := e4 (by assumption)
          refine g_iload ok dX2_firstWrong_35 rfl ?_
          refine g_aload_n ok dX2_firstWrong_37 rfl rfl ?_
          refine g_getr ok dX2_firstWrong_38 fl_X2_21 (Vd.one rfl) rfl rfl ?_
          refine g_iload ok dX2_firstWrong_41 rfl ?_
          refine g_iald ok dX2_firstWrong_43 (Vd.one rfl) (fun _ => rfl) ⟨by omega, by omega⟩ (by decide) rfl (fun h9 h10 => ?_)
          refine g_isub ok dX2_firstWrong_44 ?_
          refine g_istore ok dX2_firstWrong_45 (Nat.le_of_ble_eq_true rfl) ?_
          refine g_aload_n ok dX2_firstWrong_47 rfl rfl ?_
          refine g_aload_n ok dX2_firstWrong_48 rfl rfl ?_
          refine g_getr ok dX2_firstWrong_49 fl_X2_21 (Vd.one rfl) rfl rfl ?_
          refine g_iload ok dX2_firstWrong_52 rfl ?_
          refine g_iald ok dX2_firstWrong_54 (Vd.one rfl) (fun _ => rfl) ⟨by omega, by omega⟩ (by decide) rfl (fun h11 h12 => ?_)
          refine g_aload_n ok dX2_firstWrong_55 rfl rfl ?_
          refine g_aload_n ok dX2_firstWrong_56 rfl rfl ?_
          refine g_getr ok dX2_firstWrong_57 fl_X2_15 (Vd.one rfl) rfl rfl ?_
          refine g_iload ok dX2_firstWrong_60 rfl ?_
          refine g_iald ok dX2_firstWrong_62 (Vd.one rfl) (fun _ => rfl) ⟨by omega, by omega⟩ (by decide) rfl (fun h13 h14 => ?_)
          refine g_aald ok dX2_firstWrong_63 (Vd.one rfl) (fun _ => rfl) ⟨by omega, by omega⟩ rfl ?_
          refine g_aload_n ok dX2_firstWrong_64 rfl rfl ?_
          refine g_getr ok dX2_firstWrong_65 fl_X2_18 (Vd.one rfl) rfl rfl ?_
          refine g_iload ok dX2_firstWrong_68 rfl ?_
          refine g_iald ok dX2_firstWrong_70 (Vd.one rfl) (fun _ => rfl) ⟨by omega, by omega⟩ (by decide) rfl (fun h15 h16 => ?_)
          refine g_cV ok dX2_firstWrong_71 mv_X2_39 (c_X6_priceOf X _ _ _ _ (by omega) (by omega) ⟨by omega, by omega⟩ hP) rfl (Vd.four rfl (by omega) (by omega)) rfl rfl (by decide) rfl (Nat.le_of_ble_eq_true rfl) ?_
          have aP := pC_b hP (σ 24 0 k) (σ 25 0 k)
          refine g_i2l ok dX2_firstWrong_74 ⟨by omega, by omega⟩ ?_
          refine g_cV ok dX2_firstWrong_75 mv_X2_45 (c_X0_moneyOf X _ _ _ _ _ (by omega) (by omega) (by omega) (by omega) hS) rfl (Vd.four rfl (by omega) (by omega)) rfl rfl (by decide) rfl (Nat.le_of_ble_eq_true rfl) ?_
          have aM := monC_b hS i (d := σ 26 0 k) (p := pC σ (σ 24 0 k) (σ 25 0 k)) (by omega) (by omega)
          refine g_lstore ok dX2_firstWrong_78 (Nat.le_of_ble_eq_true rfl) ?_
          refine g_aload_n ok dX2_firstWrong_80 rfl rfl ?_
          refine g_getr ok dX2_firstWrong_81 fl_X2_24 (Vd.one rfl) rfl rfl ?_
          refine g_iload ok dX2_firstWrong_84 rfl ?_
          refine g_lald ok dX2_firstWrong_86 (Vd.one rfl) (fun _ => rfl) ⟨by omega, by omega⟩ (by decide) rfl (fun h17 h18 => ?_)
          refine g_lload ok dX2_firstWrong_87 rfl ?_
          refine g_lcmp_ne (tgt := 106) ok dX2_firstWrong_89 dX2_firstWrong_90 (by decide) ⟨by omega, by omega⟩ ⟨by omega, by omega⟩ (fun c19 => ?_) (fun c19 => ?_)
          · skip
            refine g_iload ok dX2_firstWrong_106 rfl ?_
            refine g_i2l ok dX2_firstWrong_108 ⟨by omega, by omega⟩ ?_
            refine g_lstore ok dX2_firstWrong_109 (Nat.le_of_ble_eq_true rfl) ?_
            refine g_iinc ok dX2_firstWrong_111 rfl rfl (Nat.le_of_ble_eq_true rfl) ?_
            refine g_goto (tgt := 19) ok dX2_firstWrong_114 (by decide) ?_
            refine G.norm [(0, .inr (.inr (22, 0))), (1, .inl i), (2, .inr (.inr (8, i))), (3, .inr (.inr (4, 0))), (4, .inr (.inl _)), (6, .inl _), (7, .inl _)] ⟨rfl, rfl, rfl, rfl, rfl, rfl, rfl, trivial⟩ (L19ih _ _ _ ?_ ?_ ?_ ?_ ?_)
            · omega
            · omega
            · (first | (rw [show k + -1 + 1 = k by omega]; rw [e0, e2 (by assumption)] at hc; omega) | (rw [show k + -1 + 1 = k by omega]; rw [e0, e3 (by assumption)] at hc; omega))
            · (rw [show k + -1 + 1 = k by omega]; first | (rw [fsr_go (by omega) (by unfold wrC; rw [if_neg (by assumption)])]; exact hf) | (rw [fsr_go (by omega) (by unfold wrC; rw [if_pos (by assumption), if_pos ⟨by assumption, by rw [← e4 (by assumption)]; omega⟩])]; exact hf) | (rw [fsr_stop (by omega) (by unfold wrC; rw [if_pos (by assumption), if_neg (fun q => absurd q.1 (by assumption))]; decide)]) | (rw [fsr_stop (by omega) (by unfold wrC; rw [if_pos (by assumption), if_neg (fun q => absurd q.2 (by rw [← e4 (by assumption)]; assumption))]; decide)]))
            · omega
          · skip
            refine g_iload ok dX2_firstWrong_93 rfl ?_
            refine g_iconst (v := 0) ok dX2_firstWrong_95 (by decide +kernel) ?_
            refine g_aload_n ok dX2_firstWrong_96 rfl rfl ?_
            refine g_geti (z := 2) ok dX2_firstWrong_97 fl_X2_49 (Vd.four rfl (by omega) (by omega)) rfl rfl rfl (fun h20 h21 => ?_)
            refine g_cN ok dX2_firstWrong_100 mn_X2_52 (c_X7_within X _ _ _ _ _ ⟨by omega, by omega⟩ ⟨by omega, by omega⟩ ⟨by omega, by omega⟩) rfl (by decide) rfl (Nat.le_of_ble_eq_true rfl) ?_
            refine g_ifb_ne (tgt := 111) ok dX2_firstWrong_103 (by decide) (fun c22 => ?_) (fun c22 => ?_)
            · skip
              refine g_iinc ok dX2_firstWrong_111 rfl rfl (Nat.le_of_ble_eq_true rfl) ?_
              refine g_goto (tgt := 19) ok dX2_firstWrong_114 (by decide) ?_
              refine G.norm [(0, .inr (.inr (22, 0))), (1, .inl i), (2, .inr (.inr (8, i))), (3, .inr (.inr (4, 0))), (4, .inr (.inl _)), (6, .inl _), (7, .inl _)] ⟨rfl, rfl, rfl, rfl, rfl, rfl, rfl, trivial⟩ (L19ih _ _ _ ?_ ?_ ?_ ?_ ?_)
              · omega
              · omega
              · (first | (rw [show k + -1 + 1 = k by omega]; rw [e0, e2 (by assumption)] at hc; omega) | (rw [show k + -1 + 1 = k by omega]; rw [e0, e3 (by assumption)] at hc; omega))
              · (rw [show k + -1 + 1 = k by omega]; first | (rw [fsr_go (by omega) (by unfold wrC; rw [if_neg (by assumption)])]; exact hf) | (rw [fsr_go (by omega) (by unfold wrC; rw [if_pos (by assumption), if_pos ⟨by assumption, by rw [← e4 (by assumption)]; omega⟩])]; exact hf) | (rw [fsr_stop (by omega) (by unfold wrC; rw [if_pos (by assumption), if_neg (fun q => absurd q.1 (by assumption))]; decide)]) | (rw [fsr_stop (by omega) (by unfold wrC; rw [if_pos (by assumption), if_neg (fun q => absurd q.2 (by rw [← e4 (by assumption)]; assumption))]; decide)]))
              · omega
            · skip
              refine g_iload ok dX2_firstWrong_106 rfl ?_
              refine g_i2l ok dX2_firstWrong_108 ⟨by omega, by omega⟩ ?_
              refine g_lstore ok dX2_firstWrong_109 (Nat.le_of_ble_eq_true rfl) ?_
              refine g_iinc ok dX2_firstWrong_111 rfl rfl (Nat.le_of_ble_eq_true rfl) ?_
              refine g_goto (tgt := 19) ok dX2_firstWrong_114 (by decide) ?_
              refine G.norm [(0, .inr (.inr (22, 0))), (1, .inl i), (2, .inr (.inr (8, i))), (3, .inr (.inr (4, 0))), (4, .inr (.inl _)), (6, .inl _), (7, .inl _)] ⟨rfl, rfl, rfl, rfl, rfl, rfl, rfl, trivial⟩ (L19ih _ _ _ ?_ ?_ ?_ ?_ ?_)
              · omega
              · omega
              · (first | (rw [show k + -1 + 1 = k by omega]; rw [e0, e2 (by assumption)] at hc; omega) | (rw [show k + -1 + 1 = k by omega]; rw [e0, e3 (by assumption)] at hc; omega))
              · (rw [show k + -1 + 1 = k by omega]; first | (rw [fsr_go (by omega) (by unfold wrC; rw [if_neg (by assumption)])]; exact hf) | (rw [fsr_go (by omega) (by unfold wrC; rw [if_pos (by assumption), if_pos ⟨by assumption, by rw [← e4 (by assumption)]; omega⟩])]; exact hf) | (rw [fsr_stop (by omega) (by unfold wrC; rw [if_pos (by assumption), if_neg (fun q => absurd q.1 (by assumption))]; decide)]) | (rw [fsr_stop (by omega) (by unfold wrC; rw [if_pos (by assumption), if_neg (fun q => absurd q.2 (by rw [← e4 (by assumption)]; assumption))]; decide)]))
              · omega
  refine G.norm [(0, .inr (.inr (22, 0))), (1, .inl i), (2, .inr (.inr (8, i))), (3, .inr (.inr (4, 0))), (4, .inr (.inl _)), (6, .inl _), (7, .inl _)] ⟨rfl, rfl, rfl, rfl, rfl, rfl, rfl, trivial⟩ (L19 (152 : Nat) _ _ _ ?_ ?_ ?_ ?_ ?_)
  · omega
  · omega
  · (rw [show σ 22 0 0 - 1 + 1 = σ 22 0 0 by omega]; omega)
  · (rw [fsr_end (by omega)]; rfl)
  · omega
