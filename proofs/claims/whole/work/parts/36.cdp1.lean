set_option maxRecDepth 100000 in
set_option maxHeartbeats 4000000 in
theorem c_X5_worthOf (X : XW) (l : Launch) (σ : Mm) (z1 z2 : Int) (c0 : 0 ≤ z1) (c1 : z1 ≤ 36) (c2 : 0 ≤ z2) (c3 : z2 ≤ 60) : Ct X l yX5_worthOf cX5_worthOf 3 (Option.some FieldType.long) 0 0 σ [.inr (.inr (10, 0)), .inl z1, .inl z2] (Ans (some (.inr (.inl (σ 11 0 (z1 * 61 + z2))))) (σ)) := by
  refine Ct.intro (own := RX5) (by decide) rfl (Nat.le_of_ble_eq_true rfl) (fun M hM ok hq => ?_)
  subst hM
  show G X M cX5_worthOf 3 σ 0 [(0, .inr (.inr (10, 0))), (1, .inl z1), (2, .inl z2)] []
  refine g_aload_n ok dX5_worthOf_0 rfl rfl ?_
  refine g_getr ok dX5_worthOf_1 fl_X5_15 (Vd.one rfl) rfl rfl ?_
  refine g_iload_n ok dX5_worthOf_4 rfl rfl ?_
  refine g_bipush (v := 61) ok dX5_worthOf_5 (by decide +kernel) ?_
  refine g_imul ok dX5_worthOf_7 ?_
  refine g_iload_n ok dX5_worthOf_8 rfl rfl ?_
  refine g_iadd ok dX5_worthOf_9 ?_
  refine g_lald ok dX5_worthOf_10 (Vd.one rfl) (fun _ => rfl) ⟨by omega, by omega⟩ (by decide) rfl (fun h1 h2 => ?_)
  exact g_lret ok hq dX5_worthOf_11 (ansL (by rfl) (by rfl))

set_option maxRecDepth 100000 in
set_option maxHeartbeats 4000000 in
theorem c_X5_firstMove (X : XW) (l : Launch) (σ : Mm) (z1 : Int) (c0 : 0 ≤ z1) (c1 : z1 ≤ 60) (hB : PB σ) : Ct X l yX5_firstMove cX5_firstMove 2 (Option.some FieldType.int) 1 15 σ [.inr (.inr (10, 0)), .inl z1] (Ans (some (.inl (fmS σ z1))) (σ)) := by
  refine Ct.intro (own := RX5) (by decide) rfl (Nat.le_of_ble_eq_true rfl) (fun M hM ok hq => ?_)
  subst hM
  show G X M cX5_firstMove 2 σ 0 [(0, .inr (.inr (10, 0))), (1, .inl z1)] []
  obtain ⟨g6, g7, g8, g9⟩ := hB
  refine g_aload_n ok dX5_firstMove_0 rfl rfl ?_
  refine g_geti (z := 6) ok dX5_firstMove_1 fl_X5_116 (Vd.one rfl) rfl rfl rfl (fun h1 h2 => ?_)
  refine g_aload_n ok dX5_firstMove_4 rfl rfl ?_
  refine g_geti (z := 8) ok dX5_firstMove_5 fl_X5_131 (Vd.one rfl) rfl rfl rfl (fun h3 h4 => ?_)
  refine g_iload_n ok dX5_firstMove_8 rfl rfl ?_
  refine g_isub ok dX5_firstMove_9 ?_
  refine g_max ok dX5_firstMove_10 wd3_26 wd3_27 wd1_12 wd3_28 ⟨Nat.le_of_ble_eq_true rfl, Nat.le_of_ble_eq_true rfl⟩ ⟨by omega, by omega⟩ ⟨by omega, by omega⟩ ?_
  exact g_iret ok hq dX5_firstMove_13 (ansI (by rfl) (by rfl))

set_option maxRecDepth 100000 in
set_option maxHeartbeats 4000000 in
theorem c_X5_lastMove (X : XW) (l : Launch) (σ : Mm) (z1 : Int) (c0 : 0 ≤ z1) (c1 : z1 ≤ 60) (hB : PB σ) : Ct X l yX5_lastMove cX5_lastMove 2 (Option.some FieldType.int) 1 15 σ [.inr (.inr (10, 0)), .inl z1] (Ans (some (.inl (lmS σ z1))) (σ)) := by
  refine Ct.intro (own := RX5) (by decide) rfl (Nat.le_of_ble_eq_true rfl) (fun M hM ok hq => ?_)
  subst hM
  show G X M cX5_lastMove 2 σ 0 [(0, .inr (.inr (10, 0))), (1, .inl z1)] []
  obtain ⟨g6, g7, g8, g9⟩ := hB
  refine g_aload_n ok dX5_lastMove_0 rfl rfl ?_
  refine g_geti (z := 7) ok dX5_lastMove_1 fl_X5_125 (Vd.one rfl) rfl rfl rfl (fun h1 h2 => ?_)
  refine g_aload_n ok dX5_lastMove_4 rfl rfl ?_
  refine g_geti (z := 9) ok dX5_lastMove_5 fl_X5_137 (Vd.one rfl) rfl rfl rfl (fun h3 h4 => ?_)
  refine g_iload_n ok dX5_lastMove_8 rfl rfl ?_
  refine g_isub ok dX5_lastMove_9 ?_
  refine g_min ok dX5_lastMove_10 wd3_23 wd3_24 wd1_12 wd3_25 ⟨Nat.le_of_ble_eq_true rfl, Nat.le_of_ble_eq_true rfl⟩ ⟨by omega, by omega⟩ ⟨by omega, by omega⟩ ?_
  exact g_iret ok hq dX5_lastMove_13 (ansI (by rfl) (by rfl))

set_option maxRecDepth 100000 in
set_option maxHeartbeats 4000000 in
theorem c_X5_worthThrough (X : XW) (l : Launch) (σ : Mm) (z1 z2 z3 : Int) (c0 : 0 ≤ z1) (c1 : z1 < 36) (c2 : 0 ≤ z2) (c3 : z2 ≤ 60) (c4 : -40 ≤ z3) (c5 : z3 ≤ 40) (c6 : 0 ≤ z2 + z3) (c7 : z2 + z3 ≤ 60) : Ct X l yX5_worthThrough cX5_worthThrough 8 (Option.some FieldType.long) 0 0 σ [.inr (.inr (10, 0)), .inl z1, .inl z2, .inl z3] (Ans (some (.inr (.inl (wqS σ z1 z2 z3)))) (σ)) := by
  refine Ct.intro (own := RX5) (by decide) rfl (Nat.le_of_ble_eq_true rfl) (fun M hM ok hq => ?_)
  subst hM
  show G X M cX5_worthThrough 8 σ 0 [(0, .inr (.inr (10, 0))), (1, .inl z1), (2, .inl z2), (3, .inl z3)] []
  have hN : NONE = -9000000000000000005 := rfl
  refine g_aload_n ok dX5_worthThrough_0 rfl rfl ?_
  refine g_getr ok dX5_worthThrough_1 fl_X5_18 (Vd.one rfl) rfl rfl ?_
  refine g_iload_n ok dX5_worthThrough_4 rfl rfl ?_
  refine g_bipush (v := 40) ok dX5_worthThrough_5 (by decide +kernel) ?_
  refine g_iadd ok dX5_worthThrough_7 ?_
  refine g_lald ok dX5_worthThrough_8 (Vd.one rfl) (fun _ => rfl) ⟨by omega, by omega⟩ (by decide) rfl (fun h1 h2 => ?_)
  refine g_lstore ok dX5_worthThrough_9 (Nat.le_of_ble_eq_true rfl) ?_
  refine g_aload_n ok dX5_worthThrough_11 rfl rfl ?_
  refine g_getr ok dX5_worthThrough_12 fl_X5_15 (Vd.one rfl) rfl rfl ?_
  refine g_iload_n ok dX5_worthThrough_15 rfl rfl ?_
  refine g_iconst (v := 1) ok dX5_worthThrough_16 (by decide +kernel) ?_
  refine g_iadd ok dX5_worthThrough_17 ?_
  refine g_bipush (v := 61) ok dX5_worthThrough_18 (by decide +kernel) ?_
  refine g_imul ok dX5_worthThrough_20 ?_
  refine g_iload_n ok dX5_worthThrough_21 rfl rfl ?_
  refine g_iadd ok dX5_worthThrough_22 ?_
  refine g_iload_n ok dX5_worthThrough_23 rfl rfl ?_
  refine g_iadd ok dX5_worthThrough_24 ?_
  refine g_lald ok dX5_worthThrough_25 (Vd.one rfl) (fun _ => rfl) ⟨by omega, by omega⟩ (by decide) rfl (fun h3 h4 => ?_)
  refine g_lstore ok dX5_worthThrough_26 (Nat.le_of_ble_eq_true rfl) ?_
  refine g_lload ok dX5_worthThrough_28 rfl ?_
  refine g_ldc2 (v := -9000000000000000005) ok dX5_worthThrough_30 wd3_17 (by decide +kernel) ?_
  refine g_lcmp_eq (tgt := 46) ok dX5_worthThrough_33 dX5_worthThrough_34 (by decide) ⟨by omega, by omega⟩ ⟨by omega, by omega⟩ (fun c5 => ?_) (fun c5 => ?_)
  · skip
    refine g_ldc2 (v := -9000000000000000005) ok dX5_worthThrough_46 wd3_17 (by decide +kernel) ?_
    refine g_goto (tgt := 57) ok dX5_worthThrough_49 (by decide) ?_
    exact g_lret ok hq dX5_worthThrough_57 (ansL (by (unfold wqS; first | (rw [if_pos (by omega)]; rfl) | (rw [if_neg (by omega)]))) (by rfl))
  · skip
    refine g_lload ok dX5_worthThrough_37 rfl ?_
    refine g_ldc2 (v := -9000000000000000005) ok dX5_worthThrough_39 wd3_17 (by decide +kernel) ?_
    refine g_lcmp_ne (tgt := 52) ok dX5_worthThrough_42 dX5_worthThrough_43 (by decide) ⟨by omega, by omega⟩ ⟨by omega, by omega⟩ (fun c6 => ?_) (fun c6 => ?_)
    · skip
      refine g_lload ok dX5_worthThrough_52 rfl ?_
      refine g_lload ok dX5_worthThrough_54 rfl ?_
      refine g_ladd ok dX5_worthThrough_56 ?_
      exact g_lret ok hq dX5_worthThrough_57 (ansL (by (unfold wqS; first | (rw [if_pos (by omega)]; rfl) | (rw [if_neg (by omega)]))) (by rfl))
    · skip
      refine g_ldc2 (v := -9000000000000000005) ok dX5_worthThrough_46 wd3_17 (by decide +kernel) ?_
      refine g_goto (tgt := 57) ok dX5_worthThrough_49 (by decide) ?_
      exact g_lret ok hq dX5_worthThrough_57 (ansL (by (unfold wqS; first | (rw [if_pos (by omega)]; rfl) | (rw [if_neg (by omega)]))) (by rfl))

theorem gF_end {w : Int → Int} {fm lm d : Int} (h : lm < d) (h0 : fm ≤ d) (h1 : d ≤ lm + 1 ∨ d = fm) : gF w fm (d - fm).toNat = gF w fm (lm + 1 - fm).toNat := by
  by_cases q : d = lm + 1
  · rw [q]
  · rw [show (d - fm).toNat = 0 by omega, show (lm + 1 - fm).toNat = 0 by omega]

set_option maxRecDepth 100000 in
set_option maxHeartbeats 4000000 in
theorem c_X5_greatest (X : XW) (l : Launch) (σ : Mm) (z1 z2 : Int) (c0 : 0 ≤ z1) (c1 : z1 < 36) (c2 : 0 ≤ z2) (c3 : z2 ≤ 60) (hB : PB σ) (hQ : QB σ z1 z2) : Ct X l yX5_greatest cX5_greatest 9 (Option.some FieldType.long) 2 36 σ [.inr (.inr (10, 0)), .inl z1, .inl z2] (Ans (some (.inr (.inl (grS σ z1 z2)))) (σ)) := by
  refine Ct.intro (own := RX5) (by decide) rfl (Nat.le_of_ble_eq_true rfl) (fun M hM ok hq => ?_)
  subst hM
  show G X M cX5_greatest 9 σ 0 [(0, .inr (.inr (10, 0))), (1, .inl z1), (2, .inl z2)] []
  have hN : NONE = -9000000000000000005 := rfl
  have aF : ∀ d, fmS σ z2 ≤ d → d ≤ lmS σ z2 → (-40 ≤ d ∧ d ≤ 40) ∧ (0 ≤ z2 + d ∧ z2 + d ≤ 60) := fun d h1 h2 => by unfold fmS at h1; unfold lmS at h2; obtain ⟨g6, g7, g8, g9⟩ := hB; omega
  have aG : -60 ≤ fmS σ z2 ∧ fmS σ z2 ≤ 60 := by unfold fmS; obtain ⟨g6, g7, g8, g9⟩ := hB; omega
  have aH : -100 ≤ lmS σ z2 ∧ lmS σ z2 ≤ 60 := by unfold lmS; obtain ⟨g6, g7, g8, g9⟩ := hB; omega
  refine g_ldc2 (v := -9000000000000000005) ok dX5_greatest_0 wd3_17 (by decide +kernel) ?_
  refine g_lstore_n ok dX5_greatest_3 rfl (Nat.le_of_ble_eq_true rfl) ?_
  refine g_aload_n ok dX5_greatest_4 rfl rfl ?_
  refine g_iload_n ok dX5_greatest_5 rfl rfl ?_
  refine g_cV ok dX5_greatest_6 mv_X5_148 (c_X5_lastMove X _ _ _ (by omega) (by omega) hB) rfl (Vd.one rfl) rfl rfl (by decide) rfl (Nat.le_of_ble_eq_true rfl) ?_
  refine g_istore ok dX5_greatest_9 (Nat.le_of_ble_eq_true rfl) ?_
  refine g_aload_n ok dX5_greatest_11 rfl rfl ?_
  refine g_iload_n ok dX5_greatest_12 rfl rfl ?_
  refine g_cV ok dX5_greatest_13 mv_X5_151 (c_X5_firstMove X _ _ _ (by omega) (by omega) hB) rfl (Vd.one rfl) rfl rfl (by decide) rfl (Nat.le_of_ble_eq_true rfl) ?_
  refine g_istore ok dX5_greatest_16 (Nat.le_of_ble_eq_true rfl) ?_
  have L18 : ∀ (n : Nat) (d : Int) (c : Int), (fmS σ z2 ≤ d) → (d ≤ lmS σ z2 + 1 ∨ d = fmS σ z2) → (c = gF (wqS σ z1 z2) (fmS σ z2) (d - fmS σ z2).toNat) → (bN c) → (61 - d < n) → G X M cX5_greatest 9 σ 18 [(0, .inr (.inr (10, 0))), (1, .inl z1), (2, .inl z2), (3, .inr (.inl c)), (5, .inl (lmS σ z2)), (6, .inl d)] [] := by
    intro n
    induction n with
    | zero => intro d c hd0 hd1 hc hbn hm; exact absurd hm (by omega)
    | succ n L18ih =>
      intro d c hd0 hd1 hc hbn hm
      refine g_iload ok dX5_greatest_18 rfl ?_
      refine g_iload ok dX5_greatest_20 rfl ?_
      refine g_icmp_gt (tgt := 51) ok dX5_greatest_22 (by decide) ⟨by omega, by omega⟩ ⟨by omega, by omega⟩ (fun c1 => ?_) (fun c1 => ?_)
      · skip
        refine g_lload_n ok dX5_greatest_51 rfl rfl ?_
        exact g_lret ok hq dX5_greatest_52 (ansL (by (unfold grS; rw [hc]; exact gF_end (by omega) hd0 hd1)) (by rfl))
      · skip
        have aD := aF d (by omega) (by omega)
        have aQ := hQ d (by omega) (by omega)
        unfold bN at aQ
        have hbn2 := hbn
        unfold bN at hbn2
        refine g_aload_n ok dX5_greatest_25 rfl rfl ?_
        refine g_iload_n ok dX5_greatest_26 rfl rfl ?_
        refine g_iload_n ok dX5_greatest_27 rfl rfl ?_
        refine g_iload ok dX5_greatest_28 rfl ?_
        refine g_cV ok dX5_greatest_30 mv_X5_154 (c_X5_worthThrough X _ _ _ _ _ (by omega) (by omega) (by omega) (by omega) (by omega) (by omega) (by omega) (by omega)) rfl (Vd.one rfl) rfl rfl (by decide) rfl (Nat.le_of_ble_eq_true rfl) ?_
        refine g_lstore ok dX5_greatest_33 (Nat.le_of_ble_eq_true rfl) ?_
        refine g_lload ok dX5_greatest_35 rfl ?_
        refine g_lload_n ok dX5_greatest_37 rfl rfl ?_
        refine g_lcmp_le (tgt := 45) ok dX5_greatest_38 dX5_greatest_39 (by decide) ⟨by omega, by omega⟩ ⟨by omega, by omega⟩ (fun c2 => ?_) (fun c2 => ?_)
        · skip
          refine g_iinc ok dX5_greatest_45 rfl rfl (Nat.le_of_ble_eq_true rfl) ?_
          refine g_goto (tgt := 18) ok dX5_greatest_48 (by decide) ?_
          refine G.norm [(0, .inr (.inr (10, 0))), (1, .inl z1), (2, .inl z2), (3, .inr (.inl _)), (5, .inl (lmS σ z2)), (6, .inl _)] ⟨rfl, rfl, rfl, rfl, rfl, rfl, trivial⟩ (L18ih _ _ ?_ ?_ ?_ ?_ ?_)
          · omega
          · omega
          · (rw [gF_st hd0, ← hc]; first | rw [if_pos (by omega)] | rw [if_neg (by omega)])
          · first | exact aQ | exact hbn
          · omega
        · skip
          refine g_lload ok dX5_greatest_42 rfl ?_
          refine g_lstore_n ok dX5_greatest_44 rfl (Nat.le_of_ble_eq_true rfl) ?_
          refine g_iinc ok dX5_greatest_45 rfl rfl (Nat.le_of_ble_eq_true rfl) ?_
          refine g_goto (tgt := 18) ok dX5_greatest_48 (by decide) ?_
          refine G.norm [(0, .inr (.inr (10, 0))), (1, .inl z1), (2, .inl z2), (3, .inr (.inl _)), (5, .inl (lmS σ z2)), (6, .inl _)] ⟨rfl, rfl, rfl, rfl, rfl, rfl, trivial⟩ (L18ih _ _ ?_ ?_ ?_ ?_ ?_)
          · omega
          · omega
          · (rw [gF_st hd0, ← hc]; first | rw [if_pos (by omega)] | rw [if_neg (by omega)])
          · first | exact aQ | exact hbn
          · omega
  refine G.norm [(0, .inr (.inr (10, 0))), (1, .inl z1), (2, .inl z2), (3, .inr (.inl _)), (5, .inl (lmS σ z2)), (6, .inl _)] ⟨rfl, rfl, rfl, rfl, rfl, rfl, trivial⟩ (L18 (300 : Nat) _ _ ?_ ?_ ?_ ?_ ?_)
  · omega
  · omega
  · (rw [Int.sub_self]; rfl)
  · exact Or.inl rfl
  · omega

set_option maxRecDepth 100000 in
set_option maxHeartbeats 4000000 in
theorem c_X5_leastBest (X : XW) (l : Launch) (σ : Mm) (z1 z2 : Int) (c0 : 0 ≤ z1) (c1 : z1 < 36) (c2 : 0 ≤ z2) (c3 : z2 ≤ 60) (hB : PB σ) (hQ : QB σ z1 z2) : Ct X l yX5_leastBest cX5_leastBest 5 (Option.some FieldType.int) 2 36 σ [.inr (.inr (10, 0)), .inl z1, .inl z2] (Ans (some (.inl (lbS σ z1 z2))) (σ)) := by
  refine Ct.intro (own := RX5) (by decide) rfl (Nat.le_of_ble_eq_true rfl) (fun M hM ok hq => ?_)
  subst hM
  show G X M cX5_leastBest 5 σ 0 [(0, .inr (.inr (10, 0))), (1, .inl z1), (2, .inl z2)] []
  have hN : NONE = -9000000000000000005 := rfl
  refine G.rg (fun hRg => ?_)
  have aW : R64 (σ 11 0 (z1 * 61 + z2)) := (by have q := hRg 11 0 (z1 * 61 + z2); exact q)
  have aW1 := aW.1
  have aW2 := aW.2
  have aF : ∀ d, fmS σ z2 ≤ d → d ≤ lmS σ z2 → (-40 ≤ d ∧ d ≤ 40) ∧ (0 ≤ z2 + d ∧ z2 + d ≤ 60) := fun d h1 h2 => by unfold fmS at h1; unfold lmS at h2; obtain ⟨g6, g7, g8, g9⟩ := hB; omega
  have aG : -60 ≤ fmS σ z2 ∧ fmS σ z2 ≤ 60 := by unfold fmS; obtain ⟨g6, g7, g8, g9⟩ := hB; omega
  have aH : -100 ≤ lmS σ z2 ∧ lmS σ z2 ≤ 60 := by unfold lmS; obtain ⟨g6, g7, g8, g9⟩ := hB; omega
  refine g_aload_n ok dX5_leastBest_0 rfl rfl ?_
  refine g_iload_n ok dX5_leastBest_1 rfl rfl ?_
  refine g_cV ok dX5_leastBest_2 mv_X5_148 (c_X5_lastMove X _ _ _ (by omega) (by omega) hB) rfl (Vd.one rfl) rfl rfl (by decide) rfl (Nat.le_of_ble_eq_true rfl) ?_
  refine g_istore_n ok dX5_leastBest_5 rfl (Nat.le_of_ble_eq_true rfl) ?_
  refine g_aload_n ok dX5_leastBest_6 rfl rfl ?_
  refine g_iload_n ok dX5_leastBest_7 rfl rfl ?_
  refine g_cV ok dX5_leastBest_8 mv_X5_151 (c_X5_firstMove X _ _ _ (by omega) (by omega) hB) rfl (Vd.one rfl) rfl rfl (by decide) rfl (Nat.le_of_ble_eq_true rfl) ?_
  refine g_istore ok dX5_leastBest_11 (Nat.le_of_ble_eq_true rfl) ?_
  have L13 : ∀ (n : Nat) (d : Int), (fmS σ z2 ≤ d) → (d ≤ lmS σ z2 + 1 ∨ d = fmS σ z2) → (lbF (wqS σ z1 z2) (σ 11 0 (z1 * 61 + z2)) (lmS σ z2 + 1 - fmS σ z2).toNat (fmS σ z2) = lbF (wqS σ z1 z2) (σ 11 0 (z1 * 61 + z2)) (lmS σ z2 + 1 - d).toNat d) → (61 - d < n) → G X M cX5_leastBest 5 σ 13 [(0, .inr (.inr (10, 0))), (1, .inl z1), (2, .inl z2), (3, .inl (lmS σ z2)), (4, .inl d)] [] := by
    intro n
    induction n with
    | zero => intro d hd0 hd1 hl hm; exact absurd hm (by omega)
    | succ n L13ih =>
      intro d hd0 hd1 hl hm
      refine g_iload ok dX5_leastBest_13 rfl ?_
      refine g_iload_n ok dX5_leastBest_15 rfl rfl ?_
      refine g_icmp_gt (tgt := 46) ok dX5_leastBest_16 (by decide) ⟨by omega, by omega⟩ ⟨by omega, by omega⟩ (fun c1 => ?_) (fun c1 => ?_)
      · skip
        refine g_iconst (v := 0) ok dX5_leastBest_46 (by decide +kernel) ?_
        exact g_iret ok hq dX5_leastBest_47 (ansI (by (unfold lbS; rw [hl, lbF_end (by omega)])) (by rfl))
      · skip
        have aD := aF d (by omega) (by omega)
        have aQ := hQ d (by omega) (by omega)
        unfold bN at aQ
        refine g_aload_n ok dX5_leastBest_19 rfl rfl ?_
        refine g_iload_n ok dX5_leastBest_20 rfl rfl ?_
        refine g_iload_n ok dX5_leastBest_21 rfl rfl ?_
        refine g_iload ok dX5_leastBest_22 rfl ?_
        refine g_cV ok dX5_leastBest_24 mv_X5_154 (c_X5_worthThrough X _ _ _ _ _ (by omega) (by omega) (by omega) (by omega) (by omega) (by omega) (by omega) (by omega)) rfl (Vd.one rfl) rfl rfl (by decide) rfl (Nat.le_of_ble_eq_true rfl) ?_
        refine g_aload_n ok dX5_leastBest_27 rfl rfl ?_
        refine g_iload_n ok dX5_leastBest_28 rfl rfl ?_
        refine g_iload_n ok dX5_leastBest_29 rfl rfl ?_
        refine g_cV ok dX5_leastBest_30 mv_X5_158 (c_X5_worthOf X _ _ _ _ (by omega) (by omega) (by omega) (by omega)) rfl (Vd.one rfl) rfl rfl (by decide) rfl (Nat.le_of_ble_eq_true rfl) ?_
        refine g_lcmp_ne (tgt := 40) ok dX5_leastBest_33 dX5_leastBest_34 (by decide) ⟨by omega, by omega⟩ ⟨by omega, by omega⟩ (fun c2 => ?_) (fun c2 => ?_)
        · skip
          refine g_iinc ok dX5_leastBest_40 rfl rfl (Nat.le_of_ble_eq_true rfl) ?_
          refine g_goto (tgt := 13) ok dX5_leastBest_43 (by decide) ?_
          refine G.norm [(0, .inr (.inr (10, 0))), (1, .inl z1), (2, .inl z2), (3, .inl (lmS σ z2)), (4, .inl _)] ⟨rfl, rfl, rfl, rfl, rfl, trivial⟩ (L13ih _ ?_ ?_ ?_ ?_)
          · omega
          · omega
          · (rw [hl]; exact lbF_go (by omega) (by assumption))
          · omega
        · skip
          refine g_iload ok dX5_leastBest_37 rfl ?_
          exact g_iret ok hq dX5_leastBest_39 (ansI (by (unfold lbS; rw [hl, lbF_hit (by omega) (by assumption)])) (by rfl))
  refine G.norm [(0, .inr (.inr (10, 0))), (1, .inl z1), (2, .inl z2), (3, .inl (lmS σ z2)), (4, .inl _)] ⟨rfl, rfl, rfl, rfl, rfl, trivial⟩ (L13 (300 : Nat) _ ?_ ?_ ?_ ?_)
  · omega
  · omega
  · rfl
  · omega

theorem spW_0 (s : Mm) (t c : Int) : spW s t c (fmS s c) = s := by
  funext b j y
  unfold spW
  rw [if_neg (by omega)]
theorem spW_hit {s : Mm} {t c d : Int} (h0 : fmS s c ≤ d) (hw : wqS s t c d = s 11 0 (t * 61 + c)) : up (spW s t c d) 14 0 (c + d) (min 1000000000 (s 14 0 (c + d) + s 13 0 c)) = spW s t c (d + 1) := by
  funext b j y
  unfold up
  by_cases h : b = 14 ∧ j = 0 ∧ y = c + d
  · rw [if_pos h]
    obtain ⟨rfl, rfl, rfl⟩ := h
    unfold spW
    rw [if_pos ⟨rfl, rfl, ⟨by omega, by omega⟩, by rw [show c + d - c = d by omega]; exact hw⟩]
  · rw [if_neg h]
    unfold spW
    by_cases q : b = 14 ∧ j = 0 ∧ (fmS s c ≤ y - c ∧ y - c < d) ∧ wqS s t c (y - c) = s 11 0 (t * 61 + c)
    · rw [if_pos q, if_pos ⟨q.1, q.2.1, ⟨q.2.2.1.1, by omega⟩, q.2.2.2⟩]
    · rw [if_neg q, if_neg (fun x => q ⟨x.1, x.2.1, ⟨x.2.2.1.1, by have : ¬ y = c + d := fun z => h ⟨x.1, x.2.1, z⟩; omega⟩, x.2.2.2⟩)]
theorem spW_miss {s : Mm} {t c d : Int} (hw : ¬ wqS s t c d = s 11 0 (t * 61 + c)) : spW s t c d = spW s t c (d + 1) := by
  funext b j y
  unfold spW
  by_cases q : b = 14 ∧ j = 0 ∧ (fmS s c ≤ y - c ∧ y - c < d) ∧ wqS s t c (y - c) = s 11 0 (t * 61 + c)
  · rw [if_pos q, if_pos ⟨q.1, q.2.1, ⟨q.2.2.1.1, by omega⟩, q.2.2.2⟩]
  · rw [if_neg q, if_neg (fun x => q ⟨x.1, x.2.1, ⟨x.2.2.1.1, by have : ¬ y - c = d := fun z => hw (z ▸ x.2.2.2); omega⟩, x.2.2.2⟩)]
theorem spW_14 {s : Mm} {t c d : Int} : spW s t c d 14 0 (c + d) = s 14 0 (c + d) := by
  unfold spW
  rw [if_neg (by omega)]
def spF (s : Mm) (t c : Int) : Mm := if s 13 0 c = 0 then s else spW s t c (lmS s c + 1)
theorem spW_end {s : Mm} {t c d : Int} (h : lmS s c < d) (h0 : fmS s c ≤ d) (h1 : d ≤ lmS s c + 1 ∨ d = fmS s c) : spW s t c d = spW s t c (lmS s c + 1) := by
  by_cases q : d = lmS s c + 1
  · rw [q]
  · have e : d = fmS s c := by omega
    rw [e, spW_0]
    funext b j y
    unfold spW
    rw [if_neg (by omega)]

set_option maxRecDepth 100000 in
set_option maxHeartbeats 4000000 in
theorem c_X5_spreadWays (X : XW) (l : Launch) (σ : Mm) (z1 z2 : Int) (c0 : 0 ≤ z1) (c1 : z1 < 36) (c2 : 0 ≤ z2) (c3 : z2 ≤ 60) (hB : PB σ) (hQ : QB σ z1 z2) (hY : ∀ y, 0 ≤ y → y ≤ 60 → 0 ≤ σ 13 0 y ∧ σ 13 0 y ≤ 1000000000) (hX : ∀ y, 0 ≤ y → y ≤ 60 → 0 ≤ σ 14 0 y ∧ σ 14 0 y ≤ 1000000000) : Ct X l yX5_spreadWays cX5_spreadWays 5 (Option.none : Option FieldType) 2 36 σ [.inr (.inr (10, 0)), .inl z1, .inl z2] (Ans none (spF σ z1 z2)) := by
  refine Ct.intro (own := RX5) (by decide) rfl (Nat.le_of_ble_eq_true rfl) (fun M hM ok hq => ?_)
  subst hM
  show G X M cX5_spreadWays 5 σ 0 [(0, .inr (.inr (10, 0))), (1, .inl z1), (2, .inl z2)] []
  have hN : NONE = -9000000000000000005 := rfl
  refine G.rg (fun hRg => ?_)
  have aW : R64 (σ 11 0 (z1 * 61 + z2)) := (by have q := hRg 11 0 (z1 * 61 + z2); exact q)
  have aW1 := aW.1
  have aW2 := aW.2
  have aY := hY z2 (by omega) (by omega)
  have aF : ∀ d, fmS σ z2 ≤ d → d ≤ lmS σ z2 → (-40 ≤ d ∧ d ≤ 40) ∧ (0 ≤ z2 + d ∧ z2 + d ≤ 60) := fun d h1 h2 => by unfold fmS at h1; unfold lmS at h2; obtain ⟨g6, g7, g8, g9⟩ := hB; omega
  have aG : -60 ≤ fmS σ z2 ∧ fmS σ z2 ≤ 60 := by unfold fmS; obtain ⟨g6, g7, g8, g9⟩ := hB; omega
  have aH : -100 ≤ lmS σ z2 ∧ lmS σ z2 ≤ 60 := by unfold lmS; obtain ⟨g6, g7, g8, g9⟩ := hB; omega
  refine g_aload_n ok dX5_spreadWays_0 rfl rfl ?_
  refine g_getr ok dX5_spreadWays_1 fl_X5_21 (Vd.one rfl) rfl rfl ?_
  refine g_iload_n ok dX5_spreadWays_4 rfl rfl ?_
  refine g_lald ok dX5_spreadWays_5 (Vd.one rfl) (fun _ => rfl) ⟨by omega, by omega⟩ (by decide) rfl (fun h1 h2 => ?_)
  refine g_lconst (v := 0) ok dX5_spreadWays_6 (by decide +kernel) ?_
  refine g_lcmp_ne (tgt := 12) ok dX5_spreadWays_7 dX5_spreadWays_8 (by decide) ⟨by omega, by omega⟩ ⟨by omega, by omega⟩ (fun c3 => ?_) (fun c3 => ?_)
  · skip
    refine g_aload_n ok dX5_spreadWays_12 rfl rfl ?_
    refine g_iload_n ok dX5_spreadWays_13 rfl rfl ?_
    refine g_cV ok dX5_spreadWays_14 mv_X5_148 (c_X5_lastMove X _ _ _ (by omega) (by omega) hB) rfl (Vd.one rfl) rfl rfl (by decide) rfl (Nat.le_of_ble_eq_true rfl) ?_
    refine g_istore_n ok dX5_spreadWays_17 rfl (Nat.le_of_ble_eq_true rfl) ?_
    refine g_aload_n ok dX5_spreadWays_18 rfl rfl ?_
    refine g_iload_n ok dX5_spreadWays_19 rfl rfl ?_
    refine g_cV ok dX5_spreadWays_20 mv_X5_151 (c_X5_firstMove X _ _ _ (by omega) (by omega) hB) rfl (Vd.one rfl) rfl rfl (by decide) rfl (Nat.le_of_ble_eq_true rfl) ?_
    refine g_istore ok dX5_spreadWays_23 (Nat.le_of_ble_eq_true rfl) ?_
    have L25 : ∀ (n : Nat) (d : Int) (s : Mm), (fmS σ z2 ≤ d) → (d ≤ lmS σ z2 + 1 ∨ d = fmS σ z2) → (s = spW σ z1 z2 d) → (61 - d < n) → G X M cX5_spreadWays 5 s 25 [(0, .inr (.inr (10, 0))), (1, .inl z1), (2, .inl z2), (3, .inl (lmS σ z2)), (4, .inl d)] [] := by
      intro n
      induction n with
      | zero => intro d s hd0 hd1 hs hm; exact absurd hm (by omega)
      | succ n L25ih =>
        intro d s hd0 hd1 hs hm
        subst hs
        refine g_iload ok dX5_spreadWays_25 rfl ?_
        refine g_iload_n ok dX5_spreadWays_27 rfl rfl ?_
        refine g_icmp_gt (tgt := 86) ok dX5_spreadWays_28 (by decide) ⟨by omega, by omega⟩ ⟨by omega, by omega⟩ (fun c4 => ?_) (fun c4 => ?_)
        · skip
          exact g_vret ok hq dX5_spreadWays_86 (ansV (by (unfold spF; rw [if_neg (by omega)]; exact spW_end (by omega) hd0 hd1)))
        · skip
          have aD := aF d (by omega) (by omega)
          have aQ := hQ d (by omega) (by omega)
          unfold bN at aQ
          have aX := hX (z2 + d) (by omega) (by omega)
          refine g_aload_n ok dX5_spreadWays_31 rfl rfl ?_
          refine g_iload_n ok dX5_spreadWays_32 rfl rfl ?_
          refine g_iload_n ok dX5_spreadWays_33 rfl rfl ?_
          refine g_iload ok dX5_spreadWays_34 rfl ?_
          refine g_cV ok dX5_spreadWays_36 mv_X5_154 (c_X5_worthThrough X _ _ _ _ _ (by omega) (by omega) (by omega) (by omega) (by omega) (by omega) (by omega) (by omega)) rfl (Vd.one rfl) rfl rfl (by decide) rfl (Nat.le_of_ble_eq_true rfl) ?_
          change G X M cX5_spreadWays 5 _ _ _ (.inr (.inl (wqS σ z1 z2 d)) :: _)
          refine g_aload_n ok dX5_spreadWays_39 rfl rfl ?_
          refine g_iload_n ok dX5_spreadWays_40 rfl rfl ?_
          refine g_iload_n ok dX5_spreadWays_41 rfl rfl ?_
          refine g_cV ok dX5_spreadWays_42 mv_X5_158 (c_X5_worthOf X _ _ _ _ (by omega) (by omega) (by omega) (by omega)) rfl (Vd.one rfl) rfl rfl (by decide) rfl (Nat.le_of_ble_eq_true rfl) ?_
          change G X M cX5_spreadWays 5 _ _ _ (.inr (.inl (σ 11 0 (z1 * 61 + z2))) :: _)
          refine g_lcmp_ne (tgt := 80) ok dX5_spreadWays_45 dX5_spreadWays_46 (by decide) ⟨by omega, by omega⟩ ⟨by omega, by omega⟩ (fun c5 => ?_) (fun c5 => ?_)
          · skip
            refine g_iinc ok dX5_spreadWays_80 rfl rfl (Nat.le_of_ble_eq_true rfl) ?_
            refine g_goto (tgt := 25) ok dX5_spreadWays_83 (by decide) ?_
            refine G.norm [(0, .inr (.inr (10, 0))), (1, .inl z1), (2, .inl z2), (3, .inl (lmS σ z2)), (4, .inl _)] ⟨rfl, rfl, rfl, rfl, rfl, trivial⟩ (L25ih _ _ ?_ ?_ ?_ ?_)
            · omega
            · omega
            · (first | exact spW_hit hd0 (by assumption) | exact spW_miss (by assumption))
            · omega
          · skip
            refine g_aload_n ok dX5_spreadWays_49 rfl rfl ?_
            refine g_getr ok dX5_spreadWays_50 fl_X5_24 (Vd.one rfl) rfl rfl ?_
            refine g_iload_n ok dX5_spreadWays_53 rfl rfl ?_
            refine g_iload ok dX5_spreadWays_54 rfl ?_
            refine g_iadd ok dX5_spreadWays_56 ?_
            refine g_ldc2 (v := 1000000000) ok dX5_spreadWays_57 wd3_72 (by decide +kernel) ?_
            refine g_aload_n ok dX5_spreadWays_60 rfl rfl ?_
            refine g_getr ok dX5_spreadWays_61 fl_X5_24 (Vd.one rfl) rfl rfl ?_
            refine g_iload_n ok dX5_spreadWays_64 rfl rfl ?_
            refine g_iload ok dX5_spreadWays_65 rfl ?_
            refine g_iadd ok dX5_spreadWays_67 ?_
            refine g_lald ok dX5_spreadWays_68 (Vd.one rfl) (fun _ => rfl) ⟨by omega, by omega⟩ (by decide) rfl (fun h6 h7 => ?_)
            rw [spW_14]
            refine g_aload_n ok dX5_spreadWays_69 rfl rfl ?_
            refine g_getr ok dX5_spreadWays_70 fl_X5_21 (Vd.one rfl) rfl rfl ?_
            refine g_iload_n ok dX5_spreadWays_73 rfl rfl ?_
            refine g_lald2 σ ok dX5_spreadWays_74 (Vd.one rfl) (fun _ => rfl) ⟨by omega, by omega⟩ (by decide) rfl rfl (fun h8 h9 => ?_)
            refine g_ladd ok dX5_spreadWays_75 ?_
            refine g_minL ok dX5_spreadWays_76 wd3_73 wd2_232 wd1_12 wd2_233 ⟨Nat.le_of_ble_eq_true rfl, Nat.le_of_ble_eq_true rfl⟩ ⟨by omega, by omega⟩ ⟨by omega, by omega⟩ ?_
            refine g_last ok dX5_spreadWays_79 (Vd.one rfl) (fun _ => rfl) ⟨by omega, by omega⟩ (by decide) rfl ⟨by omega, by omega⟩ ?_
            refine g_iinc ok dX5_spreadWays_80 rfl rfl (Nat.le_of_ble_eq_true rfl) ?_
            refine g_goto (tgt := 25) ok dX5_spreadWays_83 (by decide) ?_
            refine G.norm [(0, .inr (.inr (10, 0))), (1, .inl z1), (2, .inl z2), (3, .inl (lmS σ z2)), (4, .inl _)] ⟨rfl, rfl, rfl, rfl, rfl, trivial⟩ (L25ih _ _ ?_ ?_ ?_ ?_)
            · omega
            · omega
            · (first | exact spW_hit hd0 (by assumption) | exact spW_miss (by assumption))
            · omega
    refine G.norm [(0, .inr (.inr (10, 0))), (1, .inl z1), (2, .inl z2), (3, .inl (lmS σ z2)), (4, .inl _)] ⟨rfl, rfl, rfl, rfl, rfl, trivial⟩ (L25 (300 : Nat) _ _ ?_ ?_ ?_ ?_)
    · omega
    · omega
    · (rw [spW_0])
    · omega
  · skip
    exact g_vret ok hq dX5_spreadWays_11 (ansV (by (unfold spF; rw [if_pos (by omega)])))
