theorem bIr {c : Prop} [Decidable c] : R32 (bI c) := ⟨by have := (bI_in (c := c)).1; omega, by have := (bI_in (c := c)).2; omega⟩
set_option maxRecDepth 100000 in
set_option maxHeartbeats 4000000 in
theorem c_X7_within (X : XW) (l : Launch) (σ : Mm) (z1 z2 z3 : Int) (h1 : R32 z1) (h2 : R32 z2) (h3 : R32 z3) : Ct X l yX7_within cX7_within 3 (Option.some FieldType.boolean) 0 0 σ [.inl z1, .inl z2, .inl z3] (Ans (some (.inl (bI (z2 ≤ z1 ∧ z1 ≤ z3)))) (σ)) := by
  refine Ct.intro (own := RX7) (by decide) rfl (Nat.le_of_ble_eq_true rfl) (fun M hM ok hq => ?_)
  subst hM
  have h1l := h1.1
  have h1r := h1.2
  have h2l := h2.1
  have h2r := h2.2
  have h3l := h3.1
  have h3r := h3.2
  show G X M cX7_within 3 σ 0 [(0, .inl z1), (1, .inl z2), (2, .inl z3)] []
  refine g_iload_n ok dX7_within_0 rfl rfl ?_
  refine g_iload_n ok dX7_within_1 rfl rfl ?_
  refine g_icmp_lt (tgt := 14) ok dX7_within_2 (by decide) ⟨by omega, by omega⟩ ⟨by omega, by omega⟩ (fun c1 => ?_) (fun c1 => ?_)
  · skip
    refine g_iconst (v := 0) ok dX7_within_14 (by decide +kernel) ?_
    exact g_zret ok hq dX7_within_15 (by omega) (by omega) (ansI (by first | (rw [bI_t (by omega)]) | (rw [bI_f (by omega)])) (by rfl))
  · skip
    refine g_iload_n ok dX7_within_5 rfl rfl ?_
    refine g_iload_n ok dX7_within_6 rfl rfl ?_
    refine g_icmp_gt (tgt := 14) ok dX7_within_7 (by decide) ⟨by omega, by omega⟩ ⟨by omega, by omega⟩ (fun c2 => ?_) (fun c2 => ?_)
    · skip
      refine g_iconst (v := 0) ok dX7_within_14 (by decide +kernel) ?_
      exact g_zret ok hq dX7_within_15 (by omega) (by omega) (ansI (by first | (rw [bI_t (by omega)]) | (rw [bI_f (by omega)])) (by rfl))
    · skip
      refine g_iconst (v := 1) ok dX7_within_10 (by decide +kernel) ?_
      refine g_goto (tgt := 15) ok dX7_within_11 (by decide) ?_
      exact g_zret ok hq dX7_within_15 (by omega) (by omega) (ansI (by first | (rw [bI_t (by omega)]) | (rw [bI_f (by omega)])) (by rfl))

set_option maxRecDepth 100000 in
set_option maxHeartbeats 4000000 in
theorem c_X7_isAnyStep (X : XW) (l : Launch) (σ : Mm) (z1 : Int) (h1 : R32 z1) : Ct X l yX7_isAnyStep cX7_isAnyStep 1 (Option.some FieldType.boolean) 1 22 σ [.inl z1] (Ans (some (.inl (bI (0 ≤ z1 ∧ z1 ≤ 35)))) (σ)) := by
  refine Ct.intro (own := RX7) (by decide) rfl (Nat.le_of_ble_eq_true rfl) (fun M hM ok hq => ?_)
  subst hM
  have h1l := h1.1
  have h1r := h1.2
  show G X M cX7_isAnyStep 1 σ 0 [(0, .inl z1)] []
  refine g_iload_n ok dX7_isAnyStep_0 rfl rfl ?_
  refine g_iconst (v := 0) ok dX7_isAnyStep_1 (by decide +kernel) ?_
  refine g_bipush (v := 35) ok dX7_isAnyStep_2 (by decide +kernel) ?_
  refine g_cS ok dX7_isAnyStep_4 ms_X7_60 (c_X7_within X _ _ _ _ _ ⟨by omega, by omega⟩ ⟨by omega, by omega⟩ ⟨by omega, by omega⟩) rfl (by decide) rfl (by decide) ?_
  exact g_zret ok hq dX7_isAnyStep_7 bI_in.1 bI_in.2 (ansI (by rfl) (by rfl))

set_option maxRecDepth 100000 in
set_option maxHeartbeats 4000000 in
theorem c_X7_isWorld (X : XW) (l : Launch) (σ : Mm) (z1 : Int) (h1 : R32 z1) : Ct X l yX7_isWorld cX7_isWorld 1 (Option.some FieldType.boolean) 1 22 σ [.inl z1] (Ans (some (.inl (bI (0 ≤ z1 ∧ z1 ≤ 3)))) (σ)) := by
  refine Ct.intro (own := RX7) (by decide) rfl (Nat.le_of_ble_eq_true rfl) (fun M hM ok hq => ?_)
  subst hM
  have h1l := h1.1
  have h1r := h1.2
  show G X M cX7_isWorld 1 σ 0 [(0, .inl z1)] []
  refine g_iload_n ok dX7_isWorld_0 rfl rfl ?_
  refine g_iconst (v := 0) ok dX7_isWorld_1 (by decide +kernel) ?_
  refine g_iconst (v := 3) ok dX7_isWorld_2 (by decide +kernel) ?_
  refine g_cS ok dX7_isWorld_3 ms_X7_60 (c_X7_within X _ _ _ _ _ ⟨by omega, by omega⟩ ⟨by omega, by omega⟩ ⟨by omega, by omega⟩) rfl (by decide) rfl (by decide) ?_
  exact g_zret ok hq dX7_isWorld_6 bI_in.1 bI_in.2 (ansI (by rfl) (by rfl))

set_option maxRecDepth 100000 in
set_option maxHeartbeats 4000000 in
theorem c_X7_areWorlds (X : XW) (l : Launch) (σ : Mm) (z1 : Int) (h1 : R32 z1) : Ct X l yX7_areWorlds cX7_areWorlds 1 (Option.some FieldType.boolean) 1 22 σ [.inl z1] (Ans (some (.inl (bI (1 ≤ z1 ∧ z1 ≤ 15)))) (σ)) := by
  refine Ct.intro (own := RX7) (by decide) rfl (Nat.le_of_ble_eq_true rfl) (fun M hM ok hq => ?_)
  subst hM
  have h1l := h1.1
  have h1r := h1.2
  show G X M cX7_areWorlds 1 σ 0 [(0, .inl z1)] []
  refine g_iload_n ok dX7_areWorlds_0 rfl rfl ?_
  refine g_iconst (v := 1) ok dX7_areWorlds_1 (by decide +kernel) ?_
  refine g_bipush (v := 15) ok dX7_areWorlds_2 (by decide +kernel) ?_
  refine g_cS ok dX7_areWorlds_4 ms_X7_60 (c_X7_within X _ _ _ _ _ ⟨by omega, by omega⟩ ⟨by omega, by omega⟩ ⟨by omega, by omega⟩) rfl (by decide) rfl (by decide) ?_
  exact g_zret ok hq dX7_areWorlds_7 bI_in.1 bI_in.2 (ansI (by rfl) (by rfl))

set_option maxRecDepth 100000 in
set_option maxHeartbeats 4000000 in
theorem c_X7_isBattery (X : XW) (l : Launch) (σ : Mm) (z1 : Int) (h1 : R32 z1) : Ct X l yX7_isBattery cX7_isBattery 1 (Option.some FieldType.boolean) 1 22 σ [.inl z1] (Ans (some (.inl (bI (0 ≤ z1 ∧ z1 ≤ 3)))) (σ)) := by
  refine Ct.intro (own := RX7) (by decide) rfl (Nat.le_of_ble_eq_true rfl) (fun M hM ok hq => ?_)
  subst hM
  have h1l := h1.1
  have h1r := h1.2
  show G X M cX7_isBattery 1 σ 0 [(0, .inl z1)] []
  refine g_iload_n ok dX7_isBattery_0 rfl rfl ?_
  refine g_iconst (v := 0) ok dX7_isBattery_1 (by decide +kernel) ?_
  refine g_iconst (v := 3) ok dX7_isBattery_2 (by decide +kernel) ?_
  refine g_cS ok dX7_isBattery_3 ms_X7_60 (c_X7_within X _ _ _ _ _ ⟨by omega, by omega⟩ ⟨by omega, by omega⟩ ⟨by omega, by omega⟩) rfl (by decide) rfl (by decide) ?_
  exact g_zret ok hq dX7_isBattery_6 bI_in.1 bI_in.2 (ansI (by rfl) (by rfl))

set_option maxRecDepth 100000 in
set_option maxHeartbeats 4000000 in
theorem c_X7_isKind (X : XW) (l : Launch) (σ : Mm) (z1 : Int) (h1 : R32 z1) : Ct X l yX7_isKind cX7_isKind 1 (Option.some FieldType.boolean) 1 22 σ [.inl z1] (Ans (some (.inl (bI (0 ≤ z1 ∧ z1 ≤ 4)))) (σ)) := by
  refine Ct.intro (own := RX7) (by decide) rfl (Nat.le_of_ble_eq_true rfl) (fun M hM ok hq => ?_)
  subst hM
  have h1l := h1.1
  have h1r := h1.2
  show G X M cX7_isKind 1 σ 0 [(0, .inl z1)] []
  refine g_iload_n ok dX7_isKind_0 rfl rfl ?_
  refine g_iconst (v := 0) ok dX7_isKind_1 (by decide +kernel) ?_
  refine g_iconst (v := 4) ok dX7_isKind_2 (by decide +kernel) ?_
  refine g_cS ok dX7_isKind_3 ms_X7_60 (c_X7_within X _ _ _ _ _ ⟨by omega, by omega⟩ ⟨by omega, by omega⟩ ⟨by omega, by omega⟩) rfl (by decide) rfl (by decide) ?_
  exact g_zret ok hq dX7_isKind_6 bI_in.1 bI_in.2 (ansI (by rfl) (by rfl))

set_option maxRecDepth 100000 in
set_option maxHeartbeats 4000000 in
theorem c_X8_isIn (X : XW) (l : Launch) (σ : Mm) (z1 z2 z3 : Int) (h1 : R64 z1) (h2 : R64 z2) (h3 : R64 z3) : Ct X l yX8_isIn cX8_isIn 6 (Option.some FieldType.boolean) 0 0 σ [.inr (.inl z1), .inr (.inl z2), .inr (.inl z3)] (Ans (some (.inl (bI (z2 ≤ z1 ∧ z1 ≤ z3)))) (σ)) := by
  refine Ct.intro (own := RX8) (by decide) rfl (Nat.le_of_ble_eq_true rfl) (fun M hM ok hq => ?_)
  subst hM
  have h1l := h1.1
  have h1r := h1.2
  have h2l := h2.1
  have h2r := h2.2
  have h3l := h3.1
  have h3r := h3.2
  show G X M cX8_isIn 6 σ 0 [(0, .inr (.inl z1)), (2, .inr (.inl z2)), (4, .inr (.inl z3))] []
  refine g_lload_n ok dX8_isIn_0 rfl rfl ?_
  refine g_lload_n ok dX8_isIn_1 rfl rfl ?_
  refine g_lcmp_lt (tgt := 17) ok dX8_isIn_2 dX8_isIn_3 (by decide) ⟨by omega, by omega⟩ ⟨by omega, by omega⟩ (fun c1 => ?_) (fun c1 => ?_)
  · skip
    refine g_iconst (v := 0) ok dX8_isIn_17 (by decide +kernel) ?_
    exact g_zret ok hq dX8_isIn_18 (by omega) (by omega) (ansI (by first | (rw [bI_t (by omega)]) | (rw [bI_f (by omega)])) (by rfl))
  · skip
    refine g_lload_n ok dX8_isIn_6 rfl rfl ?_
    refine g_lload ok dX8_isIn_7 rfl ?_
    refine g_lcmp_gt (tgt := 17) ok dX8_isIn_9 dX8_isIn_10 (by decide) ⟨by omega, by omega⟩ ⟨by omega, by omega⟩ (fun c2 => ?_) (fun c2 => ?_)
    · skip
      refine g_iconst (v := 0) ok dX8_isIn_17 (by decide +kernel) ?_
      exact g_zret ok hq dX8_isIn_18 (by omega) (by omega) (ansI (by first | (rw [bI_t (by omega)]) | (rw [bI_f (by omega)])) (by rfl))
    · skip
      refine g_iconst (v := 1) ok dX8_isIn_13 (by decide +kernel) ?_
      refine g_goto (tgt := 18) ok dX8_isIn_14 (by decide) ?_
      exact g_zret ok hq dX8_isIn_18 (by omega) (by omega) (ansI (by first | (rw [bI_t (by omega)]) | (rw [bI_f (by omega)])) (by rfl))

set_option maxRecDepth 100000 in
set_option maxHeartbeats 4000000 in
theorem c_X8_isWorld (X : XW) (l : Launch) (σ : Mm) (z1 : Int) (h1 : R32 z1) : Ct X l yX8_isWorld cX8_isWorld 1 (Option.some FieldType.boolean) 1 25 σ [.inl z1] (Ans (some (.inl (bI (0 ≤ z1 ∧ z1 ≤ 3)))) (σ)) := by
  refine Ct.intro (own := RX8) (by decide) rfl (Nat.le_of_ble_eq_true rfl) (fun M hM ok hq => ?_)
  subst hM
  have h1l := h1.1
  have h1r := h1.2
  show G X M cX8_isWorld 1 σ 0 [(0, .inl z1)] []
  refine g_iload_n ok dX8_isWorld_0 rfl rfl ?_
  refine g_i2l ok dX8_isWorld_1 ⟨by omega, by omega⟩ ?_
  refine g_lconst (v := 0) ok dX8_isWorld_2 (by decide +kernel) ?_
  refine g_ldc2 (v := 3) ok dX8_isWorld_3 wd4_88 (by decide +kernel) ?_
  refine g_cS ok dX8_isWorld_6 ms_X8_81 (c_X8_isIn X _ _ _ _ _ ⟨by omega, by omega⟩ ⟨by omega, by omega⟩ ⟨by omega, by omega⟩) rfl (by decide) rfl (by decide) ?_
  exact g_zret ok hq dX8_isWorld_9 bI_in.1 bI_in.2 (ansI (by rfl) (by rfl))

set_option maxRecDepth 100000 in
set_option maxHeartbeats 4000000 in
theorem c_X8_isStore (X : XW) (l : Launch) (σ : Mm) (z1 : Int) (h1 : R32 z1) : Ct X l yX8_isStore cX8_isStore 1 (Option.some FieldType.boolean) 1 25 σ [.inl z1] (Ans (some (.inl (bI (0 ≤ z1 ∧ z1 ≤ 3)))) (σ)) := by
  refine Ct.intro (own := RX8) (by decide) rfl (Nat.le_of_ble_eq_true rfl) (fun M hM ok hq => ?_)
  subst hM
  have h1l := h1.1
  have h1r := h1.2
  show G X M cX8_isStore 1 σ 0 [(0, .inl z1)] []
  refine g_iload_n ok dX8_isStore_0 rfl rfl ?_
  refine g_i2l ok dX8_isStore_1 ⟨by omega, by omega⟩ ?_
  refine g_lconst (v := 0) ok dX8_isStore_2 (by decide +kernel) ?_
  refine g_ldc2 (v := 3) ok dX8_isStore_3 wd4_88 (by decide +kernel) ?_
  refine g_cS ok dX8_isStore_6 ms_X8_81 (c_X8_isIn X _ _ _ _ _ ⟨by omega, by omega⟩ ⟨by omega, by omega⟩ ⟨by omega, by omega⟩) rfl (by decide) rfl (by decide) ?_
  exact g_zret ok hq dX8_isStore_9 bI_in.1 bI_in.2 (ansI (by rfl) (by rfl))

set_option maxRecDepth 100000 in
set_option maxHeartbeats 4000000 in
theorem c_X8_areWorlds (X : XW) (l : Launch) (σ : Mm) (z1 : Int) (h1 : R32 z1) : Ct X l yX8_areWorlds cX8_areWorlds 1 (Option.some FieldType.boolean) 1 25 σ [.inl z1] (Ans (some (.inl (bI (1 ≤ z1 ∧ z1 ≤ 15)))) (σ)) := by
  refine Ct.intro (own := RX8) (by decide) rfl (Nat.le_of_ble_eq_true rfl) (fun M hM ok hq => ?_)
  subst hM
  have h1l := h1.1
  have h1r := h1.2
  show G X M cX8_areWorlds 1 σ 0 [(0, .inl z1)] []
  refine g_iload_n ok dX8_areWorlds_0 rfl rfl ?_
  refine g_i2l ok dX8_areWorlds_1 ⟨by omega, by omega⟩ ?_
  refine g_lconst (v := 1) ok dX8_areWorlds_2 (by decide +kernel) ?_
  refine g_ldc2 (v := 15) ok dX8_areWorlds_3 wd4_235 (by decide +kernel) ?_
  refine g_cS ok dX8_areWorlds_6 ms_X8_81 (c_X8_isIn X _ _ _ _ _ ⟨by omega, by omega⟩ ⟨by omega, by omega⟩ ⟨by omega, by omega⟩) rfl (by decide) rfl (by decide) ?_
  exact g_zret ok hq dX8_areWorlds_9 bI_in.1 bI_in.2 (ansI (by rfl) (by rfl))

def BAD : Int := -9000000000000000001
def NO : Int := -9000000000000000002
def FULL : Int := -9000000000000000003
def NONE : Int := -9000000000000000005
def NOTHING : Int := -9000000000000000011
def INDEX : Int := -9000000000000000013
def SIZE : Int := -9000000000000000014
def rm_dark (σ : Mm) (z1 z2 : Int) : Int := if (0 ≤ z1 ∧ z1 ≤ 35) ∧ (0 ≤ z2 ∧ z2 ≤ 1) then σ 29 0 z1 else BAD
def sm_dark (σ : Mm) (z1 z2 : Int) : Mm := if (0 ≤ z1 ∧ z1 ≤ 35) ∧ (0 ≤ z2 ∧ z2 ≤ 1) then up σ 29 0 z1 z2 else σ
set_option maxRecDepth 100000 in
set_option maxHeartbeats 4000000 in
theorem c_X8_dark (X : XW) (l : Launch) (σ : Mm) (z1 z2 : Int) (h1 : R32 z1) (h2 : R32 z2) : Ct X l yX8_dark cX8_dark 4 (Option.some FieldType.long) 1 25 σ [.inr (.inr (28, 0)), .inl z1, .inl z2] (Ans (some (.inr (.inl (rm_dark σ z1 z2)))) (sm_dark σ z1 z2)) := by
  refine Ct.intro (own := RX8) (by decide) rfl (Nat.le_of_ble_eq_true rfl) (fun M hM ok hq => ?_)
  subst hM
  have h1l := h1.1
  have h1r := h1.2
  have h2l := h2.1
  have h2r := h2.2
  show G X M cX8_dark 4 σ 0 [(0, .inr (.inr (28, 0))), (1, .inl z1), (2, .inl z2)] []
  refine g_iload_n ok dX8_dark_0 rfl rfl ?_
  refine g_i2l ok dX8_dark_1 ⟨by omega, by omega⟩ ?_
  refine g_lconst (v := 0) ok dX8_dark_2 (by decide +kernel) ?_
  refine g_ldc2 (v := 35) ok dX8_dark_3 wd4_75 (by decide +kernel) ?_
  refine g_cS ok dX8_dark_6 ms_X8_81 (c_X8_isIn X _ _ _ _ _ ⟨by omega, by omega⟩ ⟨by omega, by omega⟩ ⟨by omega, by omega⟩) rfl (by decide) rfl (by decide) ?_
  refine g_ifb_eq (tgt := 22) ok dX8_dark_9 (by decide) (fun c1 => ?_) (fun c1 => ?_)
  · skip
    refine g_ldc2 (v := -9000000000000000001) ok dX8_dark_22 wd4_70 (by decide +kernel) ?_
    exact g_lret ok hq dX8_dark_25 (ansL (by unfold rm_dark BAD; split <;> omega) (by unfold sm_dark; split <;> first | rfl | (exfalso; omega) | (congr 1; omega)))
  · skip
    refine g_iload_n ok dX8_dark_12 rfl rfl ?_
    refine g_i2l ok dX8_dark_13 ⟨by omega, by omega⟩ ?_
    refine g_lconst (v := 0) ok dX8_dark_14 (by decide +kernel) ?_
    refine g_lconst (v := 1) ok dX8_dark_15 (by decide +kernel) ?_
    refine g_cS ok dX8_dark_16 ms_X8_81 (c_X8_isIn X _ _ _ _ _ ⟨by omega, by omega⟩ ⟨by omega, by omega⟩ ⟨by omega, by omega⟩) rfl (by decide) rfl (by decide) ?_
    refine g_ifb_ne (tgt := 26) ok dX8_dark_19 (by decide) (fun c2 => ?_) (fun c2 => ?_)
    · skip
      refine g_aload_n ok dX8_dark_26 rfl rfl ?_
      refine g_getr ok dX8_dark_27 fl_X8_13 (Vd.one rfl) rfl rfl ?_
      refine g_iload_n ok dX8_dark_30 rfl rfl ?_
      refine g_zald ok dX8_dark_31 (Vd.one rfl) (fun _ => rfl) ⟨by omega, by omega⟩ (by decide) rfl (fun h3 h4 => ?_)
      refine g_istore_n ok dX8_dark_32 rfl (Nat.le_of_ble_eq_true rfl) ?_
      refine g_aload_n ok dX8_dark_33 rfl rfl ?_
      refine g_getr ok dX8_dark_34 fl_X8_13 (Vd.one rfl) rfl rfl ?_
      refine g_iload_n ok dX8_dark_37 rfl rfl ?_
      refine g_iload_n ok dX8_dark_38 rfl rfl ?_
      refine g_iconst (v := 1) ok dX8_dark_39 (by decide +kernel) ?_
      refine g_icmp_ne (tgt := 47) ok dX8_dark_40 (by decide) ⟨by omega, by omega⟩ ⟨by omega, by omega⟩ (fun c5 => ?_) (fun c5 => ?_)
      · skip
        refine g_iconst (v := 0) ok dX8_dark_47 (by decide +kernel) ?_
        refine g_zast ok dX8_dark_48 (Vd.one rfl) (fun _ => rfl) ⟨by omega, by omega⟩ (by decide) rfl (by omega) (by omega) ?_
        refine g_iload_n ok dX8_dark_49 rfl rfl ?_
        refine g_if_eq (tgt := 57) ok dX8_dark_50 (by decide) ⟨by omega, by omega⟩ (fun c6 => ?_) (fun c6 => ?_)
        · skip
          refine g_lconst (v := 0) ok dX8_dark_57 (by decide +kernel) ?_
          exact g_lret ok hq dX8_dark_58 (ansL (by unfold rm_dark BAD; split <;> omega) (by unfold sm_dark; split <;> first | rfl | (exfalso; omega) | (congr 1; omega)))
        · skip
          refine g_lconst (v := 1) ok dX8_dark_53 (by decide +kernel) ?_
          refine g_goto (tgt := 58) ok dX8_dark_54 (by decide) ?_
          exact g_lret ok hq dX8_dark_58 (ansL (by unfold rm_dark BAD; split <;> omega) (by unfold sm_dark; split <;> first | rfl | (exfalso; omega) | (congr 1; omega)))
      · skip
        refine g_iconst (v := 1) ok dX8_dark_43 (by decide +kernel) ?_
        refine g_goto (tgt := 48) ok dX8_dark_44 (by decide) ?_
        refine g_zast ok dX8_dark_48 (Vd.one rfl) (fun _ => rfl) ⟨by omega, by omega⟩ (by decide) rfl (by omega) (by omega) ?_
        refine g_iload_n ok dX8_dark_49 rfl rfl ?_
        refine g_if_eq (tgt := 57) ok dX8_dark_50 (by decide) ⟨by omega, by omega⟩ (fun c7 => ?_) (fun c7 => ?_)
        · skip
          refine g_lconst (v := 0) ok dX8_dark_57 (by decide +kernel) ?_
          exact g_lret ok hq dX8_dark_58 (ansL (by unfold rm_dark BAD; split <;> omega) (by unfold sm_dark; split <;> first | rfl | (exfalso; omega) | (congr 1; omega)))
        · skip
          refine g_lconst (v := 1) ok dX8_dark_53 (by decide +kernel) ?_
          refine g_goto (tgt := 58) ok dX8_dark_54 (by decide) ?_
          exact g_lret ok hq dX8_dark_58 (ansL (by unfold rm_dark BAD; split <;> omega) (by unfold sm_dark; split <;> first | rfl | (exfalso; omega) | (congr 1; omega)))
    · skip
      refine g_ldc2 (v := -9000000000000000001) ok dX8_dark_22 wd4_70 (by decide +kernel) ?_
      exact g_lret ok hq dX8_dark_25 (ansL (by unfold rm_dark BAD; split <;> omega) (by unfold sm_dark; split <;> first | rfl | (exfalso; omega) | (congr 1; omega)))
