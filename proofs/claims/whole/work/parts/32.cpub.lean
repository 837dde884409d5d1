theorem G.topI {X : XW} {M : MX} {cc : ByteArray} {nL : Nat} {σ : Mm} {pc : Nat} {ls : List (Nat × AV)} {st : List AV} {a v : Int} (h : a = v) (k : G X M cc nL σ pc ls (.inl v :: st)) : G X M cc nL σ pc ls (.inl a :: st) := h ▸ k
section COPY
variable {X : XW} {M : MX} {cc : ByteArray} {nL fr lo : Nat} {own : String} {σ : Mm} {pc : Nat} {ls : List (Nat × AV)} {st : List AV}
theorem cpy_i {f g : Int → Int} {sp dp n : Int} (h1 : 0 ≤ sp) (h2 : 0 ≤ dp) (h3 : 0 ≤ n) : va_cpy (fun j : Nat => iI (f j)) (fun j : Nat => iI (g j)) sp.toNat dp.toNat n.toNat = fun j : Nat => iI (if dp ≤ (j : Int) ∧ (j : Int) < dp + n then f (sp + ((j : Int) - dp)) else g j) := by
  funext k
  unfold va_cpy
  by_cases h : dp ≤ (k : Int) ∧ (k : Int) < dp + n
  · rw [if_pos (by omega), if_pos h]
    show iI (f ((sp.toNat + (k - dp.toNat) : Nat) : Int)) = _
    rw [show ((sp.toNat + (k - dp.toNat) : Nat) : Int) = sp + ((k : Int) - dp) by omega]
  · rw [if_neg (by omega), if_neg h]
theorem g_copyI {idx a b n0 n1 : Nat} {i j sp dp n : Int} (ok : MOk X M cc nL fr lo own) (hd : decode cc pc = .ok (.invokestatic idx, 3)) (hw : Cond.methodLink own idx arraycopyName ∈ Wds) (w1 : Cond.native arraycopyName ∈ Wds) (w2 : Cond.static arraycopyName ∈ Wds) (w3 : Cond.initialized "java/lang/System" ∈ Wds) (hf : 1 ≤ fr ∧ catS st + (nativeFrameWords "java/lang/System" "arraycopy" 5 + 11) ≤ lo)
    (hv : Vd a i) (hv2 : Vd b j) (he : ∀ g, encF X a i g = aI X n0 g) (he2 : ∀ g, encF X b j g = aI X n1 g) (h1 : 0 ≤ sp) (h2 : 0 ≤ dp) (h3 : 0 ≤ n) (h4 : sp + n ≤ n0) (h5 : dp + n ≤ n1) (hn : n0 < 2147483648 ∧ n1 < 2147483648) (hta : ∀ z, tyk a z = 0) (htb : ∀ z, tyk b z = 0)
    (kk : G X M cc nL (cpyA σ a i sp b j dp n) (pc + 3) ls st) : G X M cc nL σ pc ls (.inl n :: .inl dp :: .inr (.inr (b, j)) :: .inl sp :: .inr (.inr (a, i)) :: st) := by
  obtain ⟨p, l, e, R, s, m, args, below, meth, c, Q⟩ := M
  obtain ⟨hx, hb, hml, hown, hts, hK, hfr, hlo⟩ := ok
  intro H locs la hM hR hS hl
  obtain ⟨k1, hp1, hw1⟩ := wl_get (X := X) (σ := σ) hv
  obtain ⟨k2, hp2, hw2⟩ := wl_get (X := X) (σ := σ) hv2
  rw [he] at hw1
  rw [he2] at hw2
  have q1 : R32 sp := ⟨by omega, by omega⟩
  have q2 : R32 dp := ⟨by omega, by omega⟩
  have q3 : R32 n := ⟨by omega, by omega⟩
  refine va_copyi (sp := iI sp) (dp := iI dp) (n := iI n) (ty := .int) hx hb (hml.trans hl.1.symm) hown (hts _ hw) (hts _ w1) (hts _ w2) (hts _ w3) hK.1 hM.P hK.2.1.D hS k1 k2 0 0 hw1 hw2 rfl rfl rfl (fun z => by rw [← iI_0, iI_lt q1 r0] at z; omega) (fun z => by rw [← iI_0, iI_lt q2 r0] at z; omega) (fun z => by rw [← iI_0, iI_lt q3 r0] at z; omega) (by rw [iI_clamp h1 q1, iI_clamp h3 q3]; omega) (by rw [iI_clamp h2 q2, iI_clamp h3 q3]; omega) (fun _ _ => rfl) (by rw [hfr]; exact hf.1) (by rw [hlo, catS_eq]; exact hf.2) hd (fun H1 locs1 hP1 _ hS1 => ?_)
  rw [iI_clamp h1 q1, iI_clamp h2 q2, iI_clamp h3 q3, cpy_i h1 h2 h3] at hP1
  refine kk H1 locs1 la (Mem.put (g := fun y => if dp ≤ y ∧ y < dp + n then σ a i (sp + (y - dp)) else σ b j y) hp2 ?_ hP1 ?_ ?_) ?_ hS1 hl
  · rw [he2]; rfl
  · funext y
    rw [cpyA_e]
    simp
  · intro b' j' h
    funext y
    unfold cpyA
    rw [if_neg (fun q => h ⟨q.1, q.2.1⟩)]
  · intro a' i' z
    unfold cpyA
    split
    · rename_i q
      rw [q.1, htb]
      have := hR a i (sp + (z - dp))
      rw [hta] at this
      exact this
    · exact hR a' i' z
end COPY
set_option maxRecDepth 100000 in
set_option maxHeartbeats 4000000 in
theorem c_X7_time (X : XW) (l : Launch) (σ : Mm) (z1 : Int) (rz1 : R32 z1) : Ct X l yX7_time cX7_time 4 (Option.some FieldType.long) 2 43 σ [.inr (.inr (0, 0)), .inl z1] (Ans (some (.inr (.inl (rc_time σ z1)))) (sc_time σ z1)) := by
  refine Ct.intro (own := RX7) (by decide) rfl (Nat.le_of_ble_eq_true rfl) (fun M hM ok hq => ?_)
  subst hM
  have rz1l := rz1.1
  have rz1r := rz1.2
  show G X M cX7_time 4 σ 0 [(0, .inr (.inr (0, 0))), (1, .inl z1)] []
  refine g_iload_n ok dX7_time_0 rfl rfl ?_
  refine g_iconst (v := 1) ok dX7_time_1 (by decide +kernel) ?_
  refine g_bipush (v := 36) ok dX7_time_2 (by decide +kernel) ?_
  refine g_cS ok dX7_time_4 ms_X7_58 (c_X7_within X _ _ _ _ _ ⟨by omega, by omega⟩ ⟨by omega, by omega⟩ ⟨by omega, by omega⟩) rfl (by decide) rfl (Nat.le_of_ble_eq_true rfl) ?_
  refine g_ifb_ne (tgt := 14) ok dX7_time_7 (by decide) (fun c1 => ?_) (fun c1 => ?_)
  · skip
    refine g_aload_n ok dX7_time_14 rfl rfl ?_
    refine g_getr ok dX7_time_15 fl_X7_40 (Vd.one rfl) rfl rfl ?_
    refine g_geti (z := 0) ok dX7_time_18 fl_X7_64 (Vd.one rfl) rfl rfl rfl (fun h2 h3 => ?_)
    refine g_istore_n ok dX7_time_21 rfl (Nat.le_of_ble_eq_true rfl) ?_
    refine g_aload_n ok dX7_time_22 rfl rfl ?_
    refine g_getr ok dX7_time_23 fl_X7_12 (Vd.one rfl) rfl rfl ?_
    refine g_iload_n ok dX7_time_26 rfl rfl ?_
    refine g_puti (z := 0) ok dX7_time_27 fw_X7_68 (Vd.one rfl) rfl rfl (Nat.le_of_ble_eq_true rfl) rfl ⟨by omega, by omega⟩ ?_
    refine g_aload_n ok dX7_time_30 rfl rfl ?_
    refine g_getr ok dX7_time_31 fl_X7_40 (Vd.one rfl) rfl rfl ?_
    refine g_iconst (v := 0) ok dX7_time_34 (by decide +kernel) ?_
    refine g_puti (z := 0) ok dX7_time_35 fw_X7_64 (Vd.one rfl) rfl rfl (Nat.le_of_ble_eq_true rfl) rfl ⟨by omega, by omega⟩ ?_
    refine g_iconst (v := 0) ok dX7_time_38 (by decide +kernel) ?_
    refine g_istore_n ok dX7_time_39 rfl (Nat.le_of_ble_eq_true rfl) ?_
    refine g_iload_n ok dX7_time_40 rfl rfl ?_
    refine g_iconst (v := 4) ok dX7_time_41 (by decide +kernel) ?_
    refine g_icmp_ge (tgt := 60) ok dX7_time_42 (by decide) ⟨by omega, by omega⟩ ⟨by omega, by omega⟩ (fun c4 => ?_) (fun c4 => ?_)
    · skip
      exfalso
      omega
    · skip
      refine g_aload_n ok dX7_time_45 rfl rfl ?_
      refine g_getr ok dX7_time_46 fl_X7_25 (Vd.one rfl) rfl rfl ?_
      refine g_iload_n ok dX7_time_49 rfl rfl ?_
      refine g_aald ok dX7_time_50 (Vd.one rfl) (fun _ => rfl) ⟨by omega, by omega⟩ rfl ?_
      refine g_cV0 ok dX7_time_51 mv_X7_71 (c_X0_clearPlan X _ _ _ (by omega) (by omega)) rfl (Vd.four rfl (by omega) (by omega)) rfl rfl (by decide) rfl (Nat.le_of_ble_eq_true rfl) ?_
      refine g_iinc (v := 1) ok dX7_time_54 rfl rfl (Nat.le_of_ble_eq_true rfl) ?_
      refine g_goto (tgt := 40) ok dX7_time_57 (by decide) ?_
      refine g_iload_n ok dX7_time_40 rfl rfl ?_
      refine g_iconst (v := 4) ok dX7_time_41 (by decide +kernel) ?_
      refine g_icmp_ge (tgt := 60) ok dX7_time_42 (by decide) ⟨by omega, by omega⟩ ⟨by omega, by omega⟩ (fun c5 => ?_) (fun c5 => ?_)
      · skip
        exfalso
        omega
      · skip
        refine g_aload_n ok dX7_time_45 rfl rfl ?_
        refine g_getr ok dX7_time_46 fl_X7_25 (Vd.one rfl) rfl rfl ?_
        refine g_iload_n ok dX7_time_49 rfl rfl ?_
        refine g_aald ok dX7_time_50 (Vd.one rfl) (fun _ => rfl) ⟨by omega, by omega⟩ rfl ?_
        refine g_cV0 ok dX7_time_51 mv_X7_71 (c_X0_clearPlan X _ _ _ (by omega) (by omega)) rfl (Vd.four rfl (by omega) (by omega)) rfl rfl (by decide) rfl (Nat.le_of_ble_eq_true rfl) ?_
        refine g_iinc (v := 2) ok dX7_time_54 rfl rfl (Nat.le_of_ble_eq_true rfl) ?_
        refine g_goto (tgt := 40) ok dX7_time_57 (by decide) ?_
        refine g_iload_n ok dX7_time_40 rfl rfl ?_
        refine g_iconst (v := 4) ok dX7_time_41 (by decide +kernel) ?_
        refine g_icmp_ge (tgt := 60) ok dX7_time_42 (by decide) ⟨by omega, by omega⟩ ⟨by omega, by omega⟩ (fun c6 => ?_) (fun c6 => ?_)
        · skip
          exfalso
          omega
        · skip
          refine g_aload_n ok dX7_time_45 rfl rfl ?_
          refine g_getr ok dX7_time_46 fl_X7_25 (Vd.one rfl) rfl rfl ?_
          refine g_iload_n ok dX7_time_49 rfl rfl ?_
          refine g_aald ok dX7_time_50 (Vd.one rfl) (fun _ => rfl) ⟨by omega, by omega⟩ rfl ?_
          refine g_cV0 ok dX7_time_51 mv_X7_71 (c_X0_clearPlan X _ _ _ (by omega) (by omega)) rfl (Vd.four rfl (by omega) (by omega)) rfl rfl (by decide) rfl (Nat.le_of_ble_eq_true rfl) ?_
          refine g_iinc (v := 3) ok dX7_time_54 rfl rfl (Nat.le_of_ble_eq_true rfl) ?_
          refine g_goto (tgt := 40) ok dX7_time_57 (by decide) ?_
          refine g_iload_n ok dX7_time_40 rfl rfl ?_
          refine g_iconst (v := 4) ok dX7_time_41 (by decide +kernel) ?_
          refine g_icmp_ge (tgt := 60) ok dX7_time_42 (by decide) ⟨by omega, by omega⟩ ⟨by omega, by omega⟩ (fun c7 => ?_) (fun c7 => ?_)
          · skip
            exfalso
            omega
          · skip
            refine g_aload_n ok dX7_time_45 rfl rfl ?_
            refine g_getr ok dX7_time_46 fl_X7_25 (Vd.one rfl) rfl rfl ?_
            refine g_iload_n ok dX7_time_49 rfl rfl ?_
            refine g_aald ok dX7_time_50 (Vd.one rfl) (fun _ => rfl) ⟨by omega, by omega⟩ rfl ?_
            refine g_cV0 ok dX7_time_51 mv_X7_71 (c_X0_clearPlan X _ _ _ (by omega) (by omega)) rfl (Vd.four rfl (by omega) (by omega)) rfl rfl (by decide) rfl (Nat.le_of_ble_eq_true rfl) ?_
            refine g_iinc (v := 4) ok dX7_time_54 rfl rfl (Nat.le_of_ble_eq_true rfl) ?_
            refine g_goto (tgt := 40) ok dX7_time_57 (by decide) ?_
            refine g_iload_n ok dX7_time_40 rfl rfl ?_
            refine g_iconst (v := 4) ok dX7_time_41 (by decide +kernel) ?_
            refine g_icmp_ge (tgt := 60) ok dX7_time_42 (by decide) ⟨by omega, by omega⟩ ⟨by omega, by omega⟩ (fun c8 => ?_) (fun c8 => ?_)
            · skip
              refine g_iload_n ok dX7_time_60 rfl rfl ?_
              refine g_i2l ok dX7_time_61 ⟨by omega, by omega⟩ ?_
              exact g_lret ok hq dX7_time_62 (ansL (by (simp only [rc_time, BAD, NO, FULL, NONE, NOTHING, INDEX, SIZE] <;> (repeat (first | rw [if_pos (by omega)] | rw [if_neg (by omega)])) <;> omega)) (by (simp only [sc_time] <;> (repeat (first | rw [if_pos (by omega)] | rw [if_neg (by omega)])) <;> first | rfl | (congr 1; omega))))
            · skip
              exfalso
              omega
  · skip
    refine g_ldc2 (v := -9000000000000000001) ok dX7_time_10 wd2_31 (by decide +kernel) ?_
    exact g_lret ok hq dX7_time_13 (ansL (by (simp only [rc_time, BAD, NO, FULL, NONE, NOTHING, INDEX, SIZE] <;> (repeat (first | rw [if_pos (by omega)] | rw [if_neg (by omega)])) <;> omega)) (by (simp only [sc_time] <;> (repeat (first | rw [if_pos (by omega)] | rw [if_neg (by omega)])) <;> first | rfl | (congr 1; omega))))

set_option maxRecDepth 100000 in
set_option maxHeartbeats 4000000 in
theorem c_X7_dark (X : XW) (l : Launch) (σ : Mm) (z1 z2 : Int) (rz1 : R32 z1) (rz2 : R32 z2) : Ct X l yX7_dark cX7_dark 4 (Option.some FieldType.long) 2 42 σ [.inr (.inr (0, 0)), .inl z1, .inl z2] (Ans (some (.inr (.inl (rc_dark σ z1 z2)))) (sc_dark σ z1 z2)) := by
  refine Ct.intro (own := RX7) (by decide) rfl (Nat.le_of_ble_eq_true rfl) (fun M hM ok hq => ?_)
  subst hM
  have rz1l := rz1.1
  have rz1r := rz1.2
  have rz2l := rz2.1
  have rz2r := rz2.2
  show G X M cX7_dark 4 σ 0 [(0, .inr (.inr (0, 0))), (1, .inl z1), (2, .inl z2)] []
  refine g_iload_n ok dX7_dark_0 rfl rfl ?_
  refine g_cS ok dX7_dark_1 ms_X7_74 (c_X7_isAnyStep X _ _ _ ⟨by omega, by omega⟩) rfl (by decide) rfl (Nat.le_of_ble_eq_true rfl) ?_
  refine g_ifb_eq (tgt := 16) ok dX7_dark_4 (by decide) (fun c1 => ?_) (fun c1 => ?_)
  · skip
    refine g_ldc2 (v := -9000000000000000001) ok dX7_dark_16 wd2_31 (by decide +kernel) ?_
    exact g_lret ok hq dX7_dark_19 (ansL (by (simp only [rc_dark, BAD, NO, FULL, NONE, NOTHING, INDEX, SIZE] <;> (repeat (first | rw [if_pos (by omega)] | rw [if_neg (by omega)])) <;> omega)) (by (simp only [sc_dark] <;> (repeat (first | rw [if_pos (by omega)] | rw [if_neg (by omega)])) <;> first | rfl | (congr 1; omega))))
  · skip
    refine g_iload_n ok dX7_dark_7 rfl rfl ?_
    refine g_iconst (v := 0) ok dX7_dark_8 (by decide +kernel) ?_
    refine g_iconst (v := 1) ok dX7_dark_9 (by decide +kernel) ?_
    refine g_cS ok dX7_dark_10 ms_X7_58 (c_X7_within X _ _ _ _ _ ⟨by omega, by omega⟩ ⟨by omega, by omega⟩ ⟨by omega, by omega⟩) rfl (by decide) rfl (Nat.le_of_ble_eq_true rfl) ?_
    refine g_ifb_ne (tgt := 20) ok dX7_dark_13 (by decide) (fun c2 => ?_) (fun c2 => ?_)
    · skip
      refine g_aload_n ok dX7_dark_20 rfl rfl ?_
      refine g_getr ok dX7_dark_21 fl_X7_12 (Vd.one rfl) rfl rfl ?_
      refine g_getr ok dX7_dark_24 fl_X7_78 (Vd.one rfl) rfl rfl ?_
      refine g_iload_n ok dX7_dark_27 rfl rfl ?_
      refine g_zald ok dX7_dark_28 (Vd.one rfl) (fun _ => rfl) ⟨by omega, by omega⟩ (by decide) rfl (fun h3 h4 => ?_)
      refine g_istore_n ok dX7_dark_29 rfl (Nat.le_of_ble_eq_true rfl) ?_
      refine g_aload_n ok dX7_dark_30 rfl rfl ?_
      refine g_getr ok dX7_dark_31 fl_X7_12 (Vd.one rfl) rfl rfl ?_
      refine g_getr ok dX7_dark_34 fl_X7_78 (Vd.one rfl) rfl rfl ?_
      refine g_iload_n ok dX7_dark_37 rfl rfl ?_
      refine g_iload_n ok dX7_dark_38 rfl rfl ?_
      refine g_iconst (v := 1) ok dX7_dark_39 (by decide +kernel) ?_
      refine g_icmp_ne (tgt := 47) ok dX7_dark_40 (by decide) ⟨by omega, by omega⟩ ⟨by omega, by omega⟩ (fun c5 => ?_) (fun c5 => ?_)
      · skip
        refine g_iconst (v := 0) ok dX7_dark_47 (by decide +kernel) ?_
        refine g_zast ok dX7_dark_48 (Vd.one rfl) (fun _ => rfl) ⟨by omega, by omega⟩ (by decide) rfl (by omega) (by omega) ?_
        refine g_iload_n ok dX7_dark_49 rfl rfl ?_
        refine g_cS ok dX7_dark_50 ms_X7_82 (c_X7_oneIf X _ _ _ (by first | omega | exact bI_in.1) (by first | omega | exact bI_in.2)) rfl (by decide) rfl (Nat.le_of_ble_eq_true rfl) ?_
        exact g_lret ok hq dX7_dark_53 (ansL (by (simp only [rc_dark, BAD, NO, FULL, NONE, NOTHING, INDEX, SIZE] <;> (repeat (first | rw [if_pos (by omega)] | rw [if_neg (by omega)])) <;> omega)) (by (simp only [sc_dark] <;> (repeat (first | rw [if_pos (by omega)] | rw [if_neg (by omega)])) <;> first | rfl | (congr 1; omega))))
      · skip
        refine g_iconst (v := 1) ok dX7_dark_43 (by decide +kernel) ?_
        refine g_goto (tgt := 48) ok dX7_dark_44 (by decide) ?_
        refine g_zast ok dX7_dark_48 (Vd.one rfl) (fun _ => rfl) ⟨by omega, by omega⟩ (by decide) rfl (by omega) (by omega) ?_
        refine g_iload_n ok dX7_dark_49 rfl rfl ?_
        refine g_cS ok dX7_dark_50 ms_X7_82 (c_X7_oneIf X _ _ _ (by first | omega | exact bI_in.1) (by first | omega | exact bI_in.2)) rfl (by decide) rfl (Nat.le_of_ble_eq_true rfl) ?_
        exact g_lret ok hq dX7_dark_53 (ansL (by (simp only [rc_dark, BAD, NO, FULL, NONE, NOTHING, INDEX, SIZE] <;> (repeat (first | rw [if_pos (by omega)] | rw [if_neg (by omega)])) <;> omega)) (by (simp only [sc_dark] <;> (repeat (first | rw [if_pos (by omega)] | rw [if_neg (by omega)])) <;> first | rfl | (congr 1; omega))))
    · skip
      refine g_ldc2 (v := -9000000000000000001) ok dX7_dark_16 wd2_31 (by decide +kernel) ?_
      exact g_lret ok hq dX7_dark_19 (ansL (by (simp only [rc_dark, BAD, NO, FULL, NONE, NOTHING, INDEX, SIZE] <;> (repeat (first | rw [if_pos (by omega)] | rw [if_neg (by omega)])) <;> omega)) (by (simp only [sc_dark] <;> (repeat (first | rw [if_pos (by omega)] | rw [if_neg (by omega)])) <;> first | rfl | (congr 1; omega))))

set_option maxRecDepth 100000 in
set_option maxHeartbeats 4000000 in
theorem c_X7_keep (X : XW) (l : Launch) (σ : Mm) (z1 z2 : Int) (rz1 : R32 z1) (rz2 : R32 z2) : Ct X l yX7_keep cX7_keep 4 (Option.some FieldType.long) 2 42 σ [.inr (.inr (0, 0)), .inl z1, .inl z2] (Ans (some (.inr (.inl (rc_keep σ z1 z2)))) (sc_keep σ z1 z2)) := by
  refine Ct.intro (own := RX7) (by decide) rfl (Nat.le_of_ble_eq_true rfl) (fun M hM ok hq => ?_)
  subst hM
  have rz1l := rz1.1
  have rz1r := rz1.2
  have rz2l := rz2.1
  have rz2r := rz2.2
  show G X M cX7_keep 4 σ 0 [(0, .inr (.inr (0, 0))), (1, .inl z1), (2, .inl z2)] []
  refine g_iload_n ok dX7_keep_0 rfl rfl ?_
  refine g_cS ok dX7_keep_1 ms_X7_74 (c_X7_isAnyStep X _ _ _ ⟨by omega, by omega⟩) rfl (by decide) rfl (Nat.le_of_ble_eq_true rfl) ?_
  refine g_ifb_eq (tgt := 17) ok dX7_keep_4 (by decide) (fun c1 => ?_) (fun c1 => ?_)
  · skip
    refine g_ldc2 (v := -9000000000000000001) ok dX7_keep_17 wd2_31 (by decide +kernel) ?_
    exact g_lret ok hq dX7_keep_20 (ansL (by (simp only [rc_keep, BAD, NO, FULL, NONE, NOTHING, INDEX, SIZE] <;> (repeat (first | rw [if_pos (by omega)] | rw [if_neg (by omega)])) <;> omega)) (by (simp only [sc_keep] <;> (repeat (first | rw [if_pos (by omega)] | rw [if_neg (by omega)])) <;> first | rfl | (congr 1; omega))))
  · skip
    refine g_iload_n ok dX7_keep_7 rfl rfl ?_
    refine g_iconst (v := 0) ok dX7_keep_8 (by decide +kernel) ?_
    refine g_bipush (v := 10) ok dX7_keep_9 (by decide +kernel) ?_
    refine g_cS ok dX7_keep_11 ms_X7_58 (c_X7_within X _ _ _ _ _ ⟨by omega, by omega⟩ ⟨by omega, by omega⟩ ⟨by omega, by omega⟩) rfl (by decide) rfl (Nat.le_of_ble_eq_true rfl) ?_
    refine g_ifb_ne (tgt := 21) ok dX7_keep_14 (by decide) (fun c2 => ?_) (fun c2 => ?_)
    · skip
      refine g_aload_n ok dX7_keep_21 rfl rfl ?_
      refine g_getr ok dX7_keep_22 fl_X7_12 (Vd.one rfl) rfl rfl ?_
      refine g_getr ok dX7_keep_25 fl_X7_86 (Vd.one rfl) rfl rfl ?_
      refine g_iload_n ok dX7_keep_28 rfl rfl ?_
      refine g_iald ok dX7_keep_29 (Vd.one rfl) (fun _ => rfl) ⟨by omega, by omega⟩ (by decide) rfl (fun h3 h4 => ?_)
      refine g_istore_n ok dX7_keep_30 rfl (Nat.le_of_ble_eq_true rfl) ?_
      refine g_aload_n ok dX7_keep_31 rfl rfl ?_
      refine g_getr ok dX7_keep_32 fl_X7_12 (Vd.one rfl) rfl rfl ?_
      refine g_getr ok dX7_keep_35 fl_X7_86 (Vd.one rfl) rfl rfl ?_
      refine g_iload_n ok dX7_keep_38 rfl rfl ?_
      refine g_iload_n ok dX7_keep_39 rfl rfl ?_
      refine g_iast ok dX7_keep_40 (Vd.one rfl) (fun _ => rfl) ⟨by omega, by omega⟩ (by decide) rfl ⟨by omega, by omega⟩ ?_
      refine g_iload_n ok dX7_keep_41 rfl rfl ?_
      refine g_i2l ok dX7_keep_42 ⟨by omega, by omega⟩ ?_
      exact g_lret ok hq dX7_keep_43 (ansL (by (simp only [rc_keep, BAD, NO, FULL, NONE, NOTHING, INDEX, SIZE] <;> (repeat (first | rw [if_pos (by omega)] | rw [if_neg (by omega)])) <;> omega)) (by (simp only [sc_keep] <;> (repeat (first | rw [if_pos (by omega)] | rw [if_neg (by omega)])) <;> first | rfl | (congr 1; omega))))
    · skip
      refine g_ldc2 (v := -9000000000000000001) ok dX7_keep_17 wd2_31 (by decide +kernel) ?_
      exact g_lret ok hq dX7_keep_20 (ansL (by (simp only [rc_keep, BAD, NO, FULL, NONE, NOTHING, INDEX, SIZE] <;> (repeat (first | rw [if_pos (by omega)] | rw [if_neg (by omega)])) <;> omega)) (by (simp only [sc_keep] <;> (repeat (first | rw [if_pos (by omega)] | rw [if_neg (by omega)])) <;> first | rfl | (congr 1; omega))))

set_option maxRecDepth 100000 in
set_option maxHeartbeats 4000000 in
theorem c_X7_world (X : XW) (l : Launch) (σ : Mm) (z1 z2 z3 : Int) (rz1 : R32 z1) (rz2 : R32 z2) (rz3 : R32 z3) : Ct X l yX7_world cX7_world 4 (Option.some FieldType.long) 2 45 σ [.inr (.inr (0, 0)), .inl z1, .inl z2, .inl z3] (Ans (some (.inr (.inl (rc_world z1 z2 z3)))) (sc_world σ z1 z2 z3)) := by
  refine Ct.intro (own := RX7) (by decide) rfl (Nat.le_of_ble_eq_true rfl) (fun M hM ok hq => ?_)
  subst hM
  have rz1l := rz1.1
  have rz1r := rz1.2
  have rz2l := rz2.1
  have rz2r := rz2.2
  have rz3l := rz3.1
  have rz3r := rz3.2
  show G X M cX7_world 4 σ 0 [(0, .inr (.inr (0, 0))), (1, .inl z1), (2, .inl z2), (3, .inl z3)] []
  refine g_iload_n ok dX7_world_0 rfl rfl ?_
  refine g_cS ok dX7_world_1 ms_X7_90 (c_X7_isWorld X _ _ _ ⟨by omega, by omega⟩) rfl (by decide) rfl (Nat.le_of_ble_eq_true rfl) ?_
  refine g_ifb_eq (tgt := 27) ok dX7_world_4 (by decide) (fun c1 => ?_) (fun c1 => ?_)
  · skip
    refine g_ldc2 (v := -9000000000000000001) ok dX7_world_27 wd2_31 (by decide +kernel) ?_
    exact g_lret ok hq dX7_world_30 (ansL (by (simp only [rc_world, BAD, NO, FULL, NONE, NOTHING, INDEX, SIZE] <;> (repeat (first | rw [if_pos (by omega)] | rw [if_neg (by omega)])) <;> omega)) (by (simp only [sc_world] <;> (repeat (first | rw [if_pos (by omega)] | rw [if_neg (by omega)])) <;> first | rfl | (congr 1; omega))))
  · skip
    refine g_iload_n ok dX7_world_7 rfl rfl ?_
    refine g_iconst (v := 0) ok dX7_world_8 (by decide +kernel) ?_
    refine g_lim ok dX7_world_9 wd2_58 ?_
    refine g_limLen ok dX7_world_12 ?_
    refine g_iconst (v := 1) ok dX7_world_13 (by decide +kernel) ?_
    refine g_isub ok dX7_world_14 ?_
    refine g_cS ok dX7_world_15 ms_X7_58 (c_X7_within X _ _ _ _ _ ⟨by omega, by omega⟩ ⟨by omega, by omega⟩ ⟨by omega, by omega⟩) rfl (by decide) rfl (Nat.le_of_ble_eq_true rfl) ?_
    refine g_ifb_eq (tgt := 27) ok dX7_world_18 (by decide) (fun c2 => ?_) (fun c2 => ?_)
    · skip
      refine g_ldc2 (v := -9000000000000000001) ok dX7_world_27 wd2_31 (by decide +kernel) ?_
      exact g_lret ok hq dX7_world_30 (ansL (by (simp only [rc_world, BAD, NO, FULL, NONE, NOTHING, INDEX, SIZE] <;> (repeat (first | rw [if_pos (by omega)] | rw [if_neg (by omega)])) <;> omega)) (by (simp only [sc_world] <;> (repeat (first | rw [if_pos (by omega)] | rw [if_neg (by omega)])) <;> first | rfl | (congr 1; omega))))
    · skip
      refine g_iload_n ok dX7_world_21 rfl rfl ?_
      refine g_bipush (v := 36) ok dX7_world_22 (by decide +kernel) ?_
      refine g_icmp_le (tgt := 31) ok dX7_world_24 (by decide) ⟨by omega, by omega⟩ ⟨by omega, by omega⟩ (fun c3 => ?_) (fun c3 => ?_)
      · skip
        refine g_iload_n ok dX7_world_31 rfl rfl ?_
        refine g_if_ge (tgt := 39) ok dX7_world_32 (by decide) ⟨by omega, by omega⟩ (fun c4 => ?_) (fun c4 => ?_)
        · skip
          refine g_aload_n ok dX7_world_39 rfl rfl ?_
          refine g_getr ok dX7_world_40 fl_X7_18 (Vd.one rfl) rfl rfl ?_
          refine g_iload_n ok dX7_world_43 rfl rfl ?_
          refine g_aald ok dX7_world_44 (Vd.one rfl) (fun _ => rfl) ⟨by omega, by omega⟩ rfl ?_
          refine g_iload_n ok dX7_world_45 rfl rfl ?_
          refine g_iload_n ok dX7_world_46 rfl rfl ?_
          refine g_cV0 ok dX7_world_47 mv_X7_98 (c_X6_renew X _ _ _ _ _ (by omega) (by omega) ⟨by omega, by omega⟩ ⟨by omega, by omega⟩) rfl (Vd.four rfl (by omega) (by omega)) rfl rfl (by decide) rfl (Nat.le_of_ble_eq_true rfl) ?_
          refine g_iload_n ok dX7_world_50 rfl rfl ?_
          refine g_i2l ok dX7_world_51 ⟨by omega, by omega⟩ ?_
          exact g_lret ok hq dX7_world_52 (ansL (by (simp only [rc_world, BAD, NO, FULL, NONE, NOTHING, INDEX, SIZE] <;> (repeat (first | rw [if_pos (by omega)] | rw [if_neg (by omega)])) <;> omega)) (by (simp only [sc_world] <;> (repeat (first | rw [if_pos (by omega)] | rw [if_neg (by omega)])) <;> first | rfl | (congr 1; omega))))
        · skip
          refine g_ldc2 (v := -9000000000000000014) ok dX7_world_35 wd2_60 (by decide +kernel) ?_
          exact g_lret ok hq dX7_world_38 (ansL (by (simp only [rc_world, BAD, NO, FULL, NONE, NOTHING, INDEX, SIZE] <;> (repeat (first | rw [if_pos (by omega)] | rw [if_neg (by omega)])) <;> omega)) (by (simp only [sc_world] <;> (repeat (first | rw [if_pos (by omega)] | rw [if_neg (by omega)])) <;> first | rfl | (congr 1; omega))))
      · skip
        refine g_ldc2 (v := -9000000000000000001) ok dX7_world_27 wd2_31 (by decide +kernel) ?_
        exact g_lret ok hq dX7_world_30 (ansL (by (simp only [rc_world, BAD, NO, FULL, NONE, NOTHING, INDEX, SIZE] <;> (repeat (first | rw [if_pos (by omega)] | rw [if_neg (by omega)])) <;> omega)) (by (simp only [sc_world] <;> (repeat (first | rw [if_pos (by omega)] | rw [if_neg (by omega)])) <;> first | rfl | (congr 1; omega))))

set_option maxRecDepth 100000 in
set_option maxHeartbeats 4000000 in
theorem c_X7_lose (X : XW) (l : Launch) (σ : Mm) (z1 : Int) (rz1 : R32 z1) (hP : CP σ) : Ct X l yX7_lose cX7_lose 3 (Option.some FieldType.long) 2 42 σ [.inr (.inr (0, 0)), .inl z1] (Ans (some (.inr (.inl (rc_lose σ z1)))) (sc_lose σ z1)) := by
  refine Ct.intro (own := RX7) (by decide) rfl (Nat.le_of_ble_eq_true rfl) (fun M hM ok hq => ?_)
  subst hM
  have rz1l := rz1.1
  have rz1r := rz1.2
  show G X M cX7_lose 3 σ 0 [(0, .inr (.inr (0, 0))), (1, .inl z1)] []
  have aP := hP z1
  refine g_iload_n ok dX7_lose_0 rfl rfl ?_
  refine g_cS ok dX7_lose_1 ms_X7_90 (c_X7_isWorld X _ _ _ ⟨by omega, by omega⟩) rfl (by decide) rfl (Nat.le_of_ble_eq_true rfl) ?_
  refine g_ifb_ne (tgt := 11) ok dX7_lose_4 (by decide) (fun c1 => ?_) (fun c1 => ?_)
  · skip
    refine g_aload_n ok dX7_lose_11 rfl rfl ?_
    refine g_getr ok dX7_lose_12 fl_X7_18 (Vd.one rfl) rfl rfl ?_
    refine g_iload_n ok dX7_lose_15 rfl rfl ?_
    refine g_aald ok dX7_lose_16 (Vd.one rfl) (fun _ => rfl) ⟨by omega, by omega⟩ rfl ?_
    refine g_astore_n ok dX7_lose_17 rfl (Nat.le_of_ble_eq_true rfl) ?_
    refine g_aload_n ok dX7_lose_18 rfl rfl ?_
    refine g_getz (z := 0) ok dX7_lose_19 fl_X7_102 (Vd.four rfl (by omega) (by omega)) rfl rfl rfl (fun h2 h3 => ?_)
    refine g_if_ne (tgt := 29) ok dX7_lose_22 (by decide) ⟨by omega, by omega⟩ (fun c4 => ?_) (fun c4 => ?_)
    · skip
      refine g_aload_n ok dX7_lose_29 rfl rfl ?_
      refine g_iconst (v := 0) ok dX7_lose_30 (by decide +kernel) ?_
      refine g_putz (z := 0) ok dX7_lose_31 fw_X7_102 (Vd.four rfl (by omega) (by omega)) rfl rfl (Nat.le_of_ble_eq_true rfl) rfl (by omega) (by omega) ?_
      refine g_aload_n ok dX7_lose_34 rfl rfl ?_
      refine g_geti2 σ (z := 2) ok dX7_lose_35 fl_X7_108 (Vd.four rfl (by omega) (by omega)) rfl rfl rfl (by simp [up]) (fun h5 h6 => ?_)
      refine g_i2l ok dX7_lose_38 ⟨by omega, by omega⟩ ?_
      exact g_lret ok hq dX7_lose_39 (ansL (by (simp only [rc_lose, BAD, NO, FULL, NONE, NOTHING, INDEX, SIZE] <;> (repeat (first | rw [if_pos (by omega)] | rw [if_neg (by omega)])) <;> omega)) (by (simp only [sc_lose] <;> (repeat (first | rw [if_pos (by omega)] | rw [if_neg (by omega)])) <;> first | rfl | (congr 1; omega))))
    · skip
      refine g_ldc2 (v := -9000000000000000011) ok dX7_lose_25 wd2_70 (by decide +kernel) ?_
      exact g_lret ok hq dX7_lose_28 (ansL (by (simp only [rc_lose, BAD, NO, FULL, NONE, NOTHING, INDEX, SIZE] <;> (repeat (first | rw [if_pos (by omega)] | rw [if_neg (by omega)])) <;> omega)) (by (simp only [sc_lose] <;> (repeat (first | rw [if_pos (by omega)] | rw [if_neg (by omega)])) <;> first | rfl | (congr 1; omega))))
  · skip
    refine g_ldc2 (v := -9000000000000000001) ok dX7_lose_7 wd2_31 (by decide +kernel) ?_
    exact g_lret ok hq dX7_lose_10 (ansL (by (simp only [rc_lose, BAD, NO, FULL, NONE, NOTHING, INDEX, SIZE] <;> (repeat (first | rw [if_pos (by omega)] | rw [if_neg (by omega)])) <;> omega)) (by (simp only [sc_lose] <;> (repeat (first | rw [if_pos (by omega)] | rw [if_neg (by omega)])) <;> first | rfl | (congr 1; omega))))

set_option maxRecDepth 100000 in
set_option maxHeartbeats 4000000 in
theorem c_X7_price (X : XW) (l : Launch) (σ : Mm) (z1 z2 z3 : Int) (rz1 : R32 z1) (rz2 : R32 z2) (rz3 : R32 z3) (hP : CP σ) : Ct X l yX7_price cX7_price 6 (Option.some FieldType.long) 2 43 σ [.inr (.inr (0, 0)), .inl z1, .inl z2, .inl z3] (Ans (some (.inr (.inl (rc_price σ z1 z2 z3)))) (sc_price σ z1 z2 z3)) := by
  refine Ct.intro (own := RX7) (by decide) rfl (Nat.le_of_ble_eq_true rfl) (fun M hM ok hq => ?_)
  subst hM
  have rz1l := rz1.1
  have rz1r := rz1.2
  have rz2l := rz2.1
  have rz2r := rz2.2
  have rz3l := rz3.1
  have rz3r := rz3.2
  show G X M cX7_price 6 σ 0 [(0, .inr (.inr (0, 0))), (1, .inl z1), (2, .inl z2), (3, .inl z3)] []
  have aP := hP z1
  have aL := limZ_b (σ 6 z1 1)
  refine g_iload_n ok dX7_price_0 rfl rfl ?_
  refine g_cS ok dX7_price_1 ms_X7_90 (c_X7_isWorld X _ _ _ ⟨by omega, by omega⟩) rfl (by decide) rfl (Nat.le_of_ble_eq_true rfl) ?_
  refine g_ifb_ne (tgt := 11) ok dX7_price_4 (by decide) (fun c1 => ?_) (fun c1 => ?_)
  · skip
    refine g_aload_n ok dX7_price_11 rfl rfl ?_
    refine g_getr ok dX7_price_12 fl_X7_18 (Vd.one rfl) rfl rfl ?_
    refine g_iload_n ok dX7_price_15 rfl rfl ?_
    refine g_aald ok dX7_price_16 (Vd.one rfl) (fun _ => rfl) ⟨by omega, by omega⟩ rfl ?_
    refine g_astore ok dX7_price_17 (Nat.le_of_ble_eq_true rfl) ?_
    refine g_aload ok dX7_price_19 rfl ?_
    refine g_getz (z := 0) ok dX7_price_21 fl_X7_102 (Vd.four rfl (by omega) (by omega)) rfl rfl rfl (fun h2 h3 => ?_)
    refine g_if_ne (tgt := 31) ok dX7_price_24 (by decide) ⟨by omega, by omega⟩ (fun c4 => ?_) (fun c4 => ?_)
    · skip
      refine g_iload_n ok dX7_price_31 rfl rfl ?_
      refine g_iconst (v := 0) ok dX7_price_32 (by decide +kernel) ?_
      refine g_aload ok dX7_price_33 rfl ?_
      refine g_geti (z := 2) ok dX7_price_35 fl_X7_108 (Vd.four rfl (by omega) (by omega)) rfl rfl rfl (fun h5 h6 => ?_)
      refine g_iconst (v := 1) ok dX7_price_38 (by decide +kernel) ?_
      refine g_isub ok dX7_price_39 ?_
      refine g_cS ok dX7_price_40 ms_X7_58 (c_X7_within X _ _ _ _ _ ⟨by omega, by omega⟩ ⟨by omega, by omega⟩ ⟨by omega, by omega⟩) rfl (by decide) rfl (Nat.le_of_ble_eq_true rfl) ?_
      refine g_ifb_ne (tgt := 50) ok dX7_price_43 (by decide) (fun c7 => ?_) (fun c7 => ?_)
      · skip
        refine g_aload ok dX7_price_50 rfl ?_
        refine g_iload_n ok dX7_price_52 rfl rfl ?_
        refine g_cV ok dX7_price_53 mv_X7_113 (c_X6_fits X _ _ _ _ (by omega) (by omega) ⟨by omega, by omega⟩ hP) rfl (Vd.four rfl (by omega) (by omega)) rfl rfl (by decide) rfl (Nat.le_of_ble_eq_true rfl) ?_
        refine g_ifb_ne (tgt := 63) ok dX7_price_56 (by decide) (fun c8 => ?_) (fun c8 => ?_)
        · skip
          refine g_aload ok dX7_price_63 rfl ?_
          refine g_getr ok dX7_price_65 fl_X7_116 (Vd.four rfl (by omega) (by omega)) rfl rfl ?_
          refine g_iload_n ok dX7_price_68 rfl rfl ?_
          refine g_iald ok dX7_price_69 (Vd.four rfl (by omega) (by omega)) (fun _ => rfl) ⟨by omega, by omega⟩ (by decide) rfl (fun h9 h10 => ?_)
          refine g_istore ok dX7_price_70 (Nat.le_of_ble_eq_true rfl) ?_
          refine g_aload ok dX7_price_72 rfl ?_
          refine g_getr ok dX7_price_74 fl_X7_116 (Vd.four rfl (by omega) (by omega)) rfl rfl ?_
          refine g_iload_n ok dX7_price_77 rfl rfl ?_
          refine g_iload_n ok dX7_price_78 rfl rfl ?_
          refine g_iast ok dX7_price_79 (Vd.four rfl (by omega) (by omega)) (fun _ => rfl) ⟨by omega, by omega⟩ (by decide) rfl ⟨by omega, by omega⟩ ?_
          refine g_iload ok dX7_price_80 rfl ?_
          refine g_i2l ok dX7_price_82 ⟨by omega, by omega⟩ ?_
          exact g_lret ok hq dX7_price_83 (ansL (by (simp only [rc_price, BAD, NO, FULL, NONE, NOTHING, INDEX, SIZE] <;> (repeat (first | rw [if_pos (by omega)] | rw [if_neg (by omega)])) <;> omega)) (by (simp only [sc_price] <;> (repeat (first | rw [if_pos (by omega)] | rw [if_neg (by omega)])) <;> first | rfl | (congr 1; omega))))
        · skip
          refine g_ldc2 (v := -9000000000000000001) ok dX7_price_59 wd2_31 (by decide +kernel) ?_
          exact g_lret ok hq dX7_price_62 (ansL (by (simp only [rc_price, BAD, NO, FULL, NONE, NOTHING, INDEX, SIZE] <;> (repeat (first | rw [if_pos (by omega)] | rw [if_neg (by omega)])) <;> omega)) (by (simp only [sc_price] <;> (repeat (first | rw [if_pos (by omega)] | rw [if_neg (by omega)])) <;> first | rfl | (congr 1; omega))))
      · skip
        refine g_ldc2 (v := -9000000000000000013) ok dX7_price_46 wd2_75 (by decide +kernel) ?_
        exact g_lret ok hq dX7_price_49 (ansL (by (simp only [rc_price, BAD, NO, FULL, NONE, NOTHING, INDEX, SIZE] <;> (repeat (first | rw [if_pos (by omega)] | rw [if_neg (by omega)])) <;> omega)) (by (simp only [sc_price] <;> (repeat (first | rw [if_pos (by omega)] | rw [if_neg (by omega)])) <;> first | rfl | (congr 1; omega))))
    · skip
      refine g_ldc2 (v := -9000000000000000011) ok dX7_price_27 wd2_70 (by decide +kernel) ?_
      exact g_lret ok hq dX7_price_30 (ansL (by (simp only [rc_price, BAD, NO, FULL, NONE, NOTHING, INDEX, SIZE] <;> (repeat (first | rw [if_pos (by omega)] | rw [if_neg (by omega)])) <;> omega)) (by (simp only [sc_price] <;> (repeat (first | rw [if_pos (by omega)] | rw [if_neg (by omega)])) <;> first | rfl | (congr 1; omega))))
  · skip
    refine g_ldc2 (v := -9000000000000000001) ok dX7_price_7 wd2_31 (by decide +kernel) ?_
    exact g_lret ok hq dX7_price_10 (ansL (by (simp only [rc_price, BAD, NO, FULL, NONE, NOTHING, INDEX, SIZE] <;> (repeat (first | rw [if_pos (by omega)] | rw [if_neg (by omega)])) <;> omega)) (by (simp only [sc_price] <;> (repeat (first | rw [if_pos (by omega)] | rw [if_neg (by omega)])) <;> first | rfl | (congr 1; omega))))

set_option maxRecDepth 100000 in
set_option maxHeartbeats 4000000 in
theorem c_X7_copy (X : XW) (l : Launch) (σ : Mm) (z1 z2 z3 z4 z5 : Int) (rz1 : R32 z1) (rz2 : R32 z2) (rz3 : R32 z3) (rz4 : R32 z4) (rz5 : R32 z5) (hP : CP σ) : Ct X l yX7_copy cX7_copy 8 (Option.some FieldType.long) 2 60 σ [.inr (.inr (0, 0)), .inl z1, .inl z2, .inl z3, .inl z4, .inl z5] (Ans (some (.inr (.inl (rc_copy σ z1 z2 z3 z4 z5)))) (sc_copy σ z1 z2 z3 z4 z5)) := by
  refine Ct.intro (own := RX7) (by decide) rfl (Nat.le_of_ble_eq_true rfl) (fun M hM ok hq => ?_)
  subst hM
  have rz1l := rz1.1
  have rz1r := rz1.2
  have rz2l := rz2.1
  have rz2r := rz2.2
  have rz3l := rz3.1
  have rz3r := rz3.2
  have rz4l := rz4.1
  have rz4r := rz4.2
  have rz5l := rz5.1
  have rz5r := rz5.2
  show G X M cX7_copy 8 σ 0 [(0, .inr (.inr (0, 0))), (1, .inl z1), (2, .inl z2), (3, .inl z3), (4, .inl z4), (5, .inl z5)] []
  have aP := hP z1
  have aP3 := hP z3
  refine g_iload_n ok dX7_copy_0 rfl rfl ?_
  refine g_cS ok dX7_copy_1 ms_X7_90 (c_X7_isWorld X _ _ _ ⟨by omega, by omega⟩) rfl (by decide) rfl (Nat.le_of_ble_eq_true rfl) ?_
  refine g_ifb_eq (tgt := 14) ok dX7_copy_4 (by decide) (fun c1 => ?_) (fun c1 => ?_)
  · skip
    refine g_ldc2 (v := -9000000000000000001) ok dX7_copy_14 wd2_31 (by decide +kernel) ?_
    exact g_lret ok hq dX7_copy_17 (ansL (by (simp only [rc_copy, BAD, NO, FULL, NONE, NOTHING, INDEX, SIZE] <;> (repeat (first | rw [if_pos (by omega)] | rw [if_neg (by omega)])) <;> omega)) (by (simp only [sc_copy] <;> (repeat (first | rw [if_pos (by omega)] | rw [if_neg (by omega)])) <;> first | rfl | (congr 1; omega))))
  · skip
    refine g_iload_n ok dX7_copy_7 rfl rfl ?_
    refine g_cS ok dX7_copy_8 ms_X7_90 (c_X7_isWorld X _ _ _ ⟨by omega, by omega⟩) rfl (by decide) rfl (Nat.le_of_ble_eq_true rfl) ?_
    refine g_ifb_ne (tgt := 18) ok dX7_copy_11 (by decide) (fun c2 => ?_) (fun c2 => ?_)
    · skip
      refine g_aload_n ok dX7_copy_18 rfl rfl ?_
      refine g_getr ok dX7_copy_19 fl_X7_18 (Vd.one rfl) rfl rfl ?_
      refine g_iload_n ok dX7_copy_22 rfl rfl ?_
      refine g_aald ok dX7_copy_23 (Vd.one rfl) (fun _ => rfl) ⟨by omega, by omega⟩ rfl ?_
      refine g_astore ok dX7_copy_24 (Nat.le_of_ble_eq_true rfl) ?_
      refine g_aload_n ok dX7_copy_26 rfl rfl ?_
      refine g_getr ok dX7_copy_27 fl_X7_18 (Vd.one rfl) rfl rfl ?_
      refine g_iload_n ok dX7_copy_30 rfl rfl ?_
      refine g_aald ok dX7_copy_31 (Vd.one rfl) (fun _ => rfl) ⟨by omega, by omega⟩ rfl ?_
      refine g_astore ok dX7_copy_32 (Nat.le_of_ble_eq_true rfl) ?_
      refine g_aload ok dX7_copy_34 rfl ?_
      refine g_getz (z := 0) ok dX7_copy_36 fl_X7_102 (Vd.four rfl (by omega) (by omega)) rfl rfl rfl (fun h3 h4 => ?_)
      refine g_if_eq (tgt := 50) ok dX7_copy_39 (by decide) ⟨by omega, by omega⟩ (fun c5 => ?_) (fun c5 => ?_)
      · skip
        refine g_ldc2 (v := -9000000000000000011) ok dX7_copy_50 wd2_70 (by decide +kernel) ?_
        exact g_lret ok hq dX7_copy_53 (ansL (by (simp only [rc_copy, BAD, NO, FULL, NONE, NOTHING, INDEX, SIZE] <;> (repeat (first | rw [if_pos (by omega)] | rw [if_neg (by omega)])) <;> omega)) (by (simp only [sc_copy] <;> (repeat (first | rw [if_pos (by omega)] | rw [if_neg (by omega)])) <;> first | rfl | (congr 1; omega))))
      · skip
        refine g_aload ok dX7_copy_42 rfl ?_
        refine g_getz (z := 0) ok dX7_copy_44 fl_X7_102 (Vd.four rfl (by omega) (by omega)) rfl rfl rfl (fun h6 h7 => ?_)
        refine g_if_ne (tgt := 54) ok dX7_copy_47 (by decide) ⟨by omega, by omega⟩ (fun c8 => ?_) (fun c8 => ?_)
        · skip
          refine g_aload ok dX7_copy_54 rfl ?_
          refine g_geti (z := 1) ok dX7_copy_56 fl_X7_119 (Vd.four rfl (by omega) (by omega)) rfl rfl rfl (fun h9 h10 => ?_)
          refine g_aload ok dX7_copy_59 rfl ?_
          refine g_geti (z := 1) ok dX7_copy_61 fl_X7_119 (Vd.four rfl (by omega) (by omega)) rfl rfl rfl (fun h11 h12 => ?_)
          refine g_icmp_eq (tgt := 71) ok dX7_copy_64 (by decide) ⟨by omega, by omega⟩ ⟨by omega, by omega⟩ (fun c13 => ?_) (fun c13 => ?_)
          · skip
            refine g_aload ok dX7_copy_71 rfl ?_
            refine g_iload_n ok dX7_copy_73 rfl rfl ?_
            refine g_iload ok dX7_copy_74 rfl ?_
            refine g_cV ok dX7_copy_76 mv_X7_124 (c_X6_hasRun X _ _ _ _ _ (by omega) (by omega) ⟨by omega, by omega⟩ ⟨by omega, by omega⟩ hP) rfl (Vd.four rfl (by omega) (by omega)) rfl rfl (by decide) rfl (Nat.le_of_ble_eq_true rfl) ?_
            have hh1 : hrC σ z1 z2 z5 ↔ ((0 ≤ z2 ∧ z2 ≤ σ 6 z1 2) ∧ (0 ≤ z5 ∧ z5 ≤ σ 6 z1 2 - z2)) := Iff.rfl
            rw [bI_iff hh1]
            refine g_ifb_eq (tgt := 94) ok dX7_copy_79 (by decide) (fun c14 => ?_) (fun c14 => ?_)
            · skip
              refine g_ldc2 (v := -9000000000000000013) ok dX7_copy_94 wd2_75 (by decide +kernel) ?_
              exact g_lret ok hq dX7_copy_97 (ansL (by (simp only [rc_copy, BAD, NO, FULL, NONE, NOTHING, INDEX, SIZE] <;> (repeat (first | rw [if_pos (by omega)] | rw [if_neg (by omega)])) <;> omega)) (by (simp only [sc_copy] <;> (repeat (first | rw [if_pos (by omega)] | rw [if_neg (by omega)])) <;> first | rfl | (congr 1; omega))))
            · skip
              refine g_aload ok dX7_copy_82 rfl ?_
              refine g_iload ok dX7_copy_84 rfl ?_
              refine g_iload ok dX7_copy_86 rfl ?_
              refine g_cV ok dX7_copy_88 mv_X7_124 (c_X6_hasRun X _ _ _ _ _ (by omega) (by omega) ⟨by omega, by omega⟩ ⟨by omega, by omega⟩ hP) rfl (Vd.four rfl (by omega) (by omega)) rfl rfl (by decide) rfl (Nat.le_of_ble_eq_true rfl) ?_
              have hh2 : hrC σ z3 z4 z5 ↔ ((0 ≤ z4 ∧ z4 ≤ σ 6 z3 2) ∧ (0 ≤ z5 ∧ z5 ≤ σ 6 z3 2 - z4)) := Iff.rfl
              rw [bI_iff hh2]
              refine g_ifb_ne (tgt := 98) ok dX7_copy_91 (by decide) (fun c15 => ?_) (fun c15 => ?_)
              · skip
                refine g_aload ok dX7_copy_98 rfl ?_
                refine g_getr ok dX7_copy_100 fl_X7_116 (Vd.four rfl (by omega) (by omega)) rfl rfl ?_
                refine g_iload_n ok dX7_copy_103 rfl rfl ?_
                refine g_aload ok dX7_copy_104 rfl ?_
                refine g_getr ok dX7_copy_106 fl_X7_116 (Vd.four rfl (by omega) (by omega)) rfl rfl ?_
                refine g_iload ok dX7_copy_109 rfl ?_
                refine g_iload ok dX7_copy_111 rfl ?_
                refine g_copyI ok dX7_copy_113 wd2_91 wd2_93 wd2_92 wd1_11 ⟨Nat.le_of_ble_eq_true rfl, Nat.le_of_ble_eq_true rfl⟩ (Vd.four rfl (by omega) (by omega)) (Vd.four rfl (by omega) (by omega)) (fun _ => rfl) (fun _ => rfl) (by omega) (by omega) (by omega) (by omega) (by omega) ⟨by decide, by decide⟩ (fun _ => rfl) (fun _ => rfl) ?_
                refine g_iload ok dX7_copy_116 rfl ?_
                refine g_i2l ok dX7_copy_118 ⟨by omega, by omega⟩ ?_
                exact g_lret ok hq dX7_copy_119 (ansL (by (simp only [rc_copy, BAD, NO, FULL, NONE, NOTHING, INDEX, SIZE] <;> (repeat (first | rw [if_pos (by omega)] | rw [if_neg (by omega)])) <;> omega)) (by (simp only [sc_copy] <;> (repeat (first | rw [if_pos (by omega)] | rw [if_neg (by omega)])) <;> first | rfl | (congr 1; omega))))
              · skip
                refine g_ldc2 (v := -9000000000000000013) ok dX7_copy_94 wd2_75 (by decide +kernel) ?_
                exact g_lret ok hq dX7_copy_97 (ansL (by (simp only [rc_copy, BAD, NO, FULL, NONE, NOTHING, INDEX, SIZE] <;> (repeat (first | rw [if_pos (by omega)] | rw [if_neg (by omega)])) <;> omega)) (by (simp only [sc_copy] <;> (repeat (first | rw [if_pos (by omega)] | rw [if_neg (by omega)])) <;> first | rfl | (congr 1; omega))))
          · skip
            refine g_ldc2 (v := -9000000000000000002) ok dX7_copy_67 wd2_86 (by decide +kernel) ?_
            exact g_lret ok hq dX7_copy_70 (ansL (by (simp only [rc_copy, BAD, NO, FULL, NONE, NOTHING, INDEX, SIZE] <;> (repeat (first | rw [if_pos (by omega)] | rw [if_neg (by omega)])) <;> omega)) (by (simp only [sc_copy] <;> (repeat (first | rw [if_pos (by omega)] | rw [if_neg (by omega)])) <;> first | rfl | (congr 1; omega))))
        · skip
          refine g_ldc2 (v := -9000000000000000011) ok dX7_copy_50 wd2_70 (by decide +kernel) ?_
          exact g_lret ok hq dX7_copy_53 (ansL (by (simp only [rc_copy, BAD, NO, FULL, NONE, NOTHING, INDEX, SIZE] <;> (repeat (first | rw [if_pos (by omega)] | rw [if_neg (by omega)])) <;> omega)) (by (simp only [sc_copy] <;> (repeat (first | rw [if_pos (by omega)] | rw [if_neg (by omega)])) <;> first | rfl | (congr 1; omega))))
    · skip
      refine g_ldc2 (v := -9000000000000000001) ok dX7_copy_14 wd2_31 (by decide +kernel) ?_
      exact g_lret ok hq dX7_copy_17 (ansL (by (simp only [rc_copy, BAD, NO, FULL, NONE, NOTHING, INDEX, SIZE] <;> (repeat (first | rw [if_pos (by omega)] | rw [if_neg (by omega)])) <;> omega)) (by (simp only [sc_copy] <;> (repeat (first | rw [if_pos (by omega)] | rw [if_neg (by omega)])) <;> first | rfl | (congr 1; omega))))

set_option maxRecDepth 100000 in
set_option maxHeartbeats 4000000 in
theorem c_X7_told (X : XW) (l : Launch) (σ : Mm) (z1 z2 : Int) (rz1 : R32 z1) (rz2 : R32 z2) (hP : CP σ) : Ct X l yX7_told cX7_told 3 (Option.some FieldType.long) 2 43 σ [.inr (.inr (0, 0)), .inl z1, .inl z2] (Ans (some (.inr (.inl (rc_told σ z1 z2)))) (σ)) := by
  refine Ct.intro (own := RX7) (by decide) rfl (Nat.le_of_ble_eq_true rfl) (fun M hM ok hq => ?_)
  subst hM
  have rz1l := rz1.1
  have rz1r := rz1.2
  have rz2l := rz2.1
  have rz2r := rz2.2
  show G X M cX7_told 3 σ 0 [(0, .inr (.inr (0, 0))), (1, .inl z1), (2, .inl z2)] []
  have aP := pC_b hP z1 z2
  refine g_iload_n ok dX7_told_0 rfl rfl ?_
  refine g_cS ok dX7_told_1 ms_X7_90 (c_X7_isWorld X _ _ _ ⟨by omega, by omega⟩) rfl (by decide) rfl (Nat.le_of_ble_eq_true rfl) ?_
  refine g_ifb_eq (tgt := 14) ok dX7_told_4 (by decide) (fun c1 => ?_) (fun c1 => ?_)
  · skip
    refine g_ldc2 (v := -9000000000000000001) ok dX7_told_14 wd2_31 (by decide +kernel) ?_
    exact g_lret ok hq dX7_told_17 (ansL (by (simp only [rc_told, BAD, NO, FULL, NONE, NOTHING, INDEX, SIZE] <;> (repeat (first | rw [if_pos (by omega)] | rw [if_neg (by omega)])) <;> omega)) (by rfl))
  · skip
    refine g_iload_n ok dX7_told_7 rfl rfl ?_
    refine g_cS ok dX7_told_8 ms_X7_74 (c_X7_isAnyStep X _ _ _ ⟨by omega, by omega⟩) rfl (by decide) rfl (Nat.le_of_ble_eq_true rfl) ?_
    refine g_ifb_ne (tgt := 18) ok dX7_told_11 (by decide) (fun c2 => ?_) (fun c2 => ?_)
    · skip
      refine g_aload_n ok dX7_told_18 rfl rfl ?_
      refine g_getr ok dX7_told_19 fl_X7_18 (Vd.one rfl) rfl rfl ?_
      refine g_iload_n ok dX7_told_22 rfl rfl ?_
      refine g_aald ok dX7_told_23 (Vd.one rfl) (fun _ => rfl) ⟨by omega, by omega⟩ rfl ?_
      refine g_iload_n ok dX7_told_24 rfl rfl ?_
      refine g_cV ok dX7_told_25 mv_X7_134 (c_X6_priceOf X _ _ _ _ (by omega) (by omega) ⟨by omega, by omega⟩ hP) rfl (Vd.four rfl (by omega) (by omega)) rfl rfl (by decide) rfl (Nat.le_of_ble_eq_true rfl) ?_
      refine g_i2l ok dX7_told_28 ⟨by omega, by omega⟩ ?_
      exact g_lret ok hq dX7_told_29 (ansL (by (simp only [rc_told, BAD, NO, FULL, NONE, NOTHING, INDEX, SIZE] <;> (repeat (first | rw [if_pos (by omega)] | rw [if_neg (by omega)])) <;> omega)) (by rfl))
    · skip
      refine g_ldc2 (v := -9000000000000000001) ok dX7_told_14 wd2_31 (by decide +kernel) ?_
      exact g_lret ok hq dX7_told_17 (ansL (by (simp only [rc_told, BAD, NO, FULL, NONE, NOTHING, INDEX, SIZE] <;> (repeat (first | rw [if_pos (by omega)] | rw [if_neg (by omega)])) <;> omega)) (by rfl))

set_option maxRecDepth 100000 in
set_option maxHeartbeats 4000000 in
theorem c_X7_store (X : XW) (l : Launch) (σ : Mm) (z1 z2 z3 z4 z5 : Int) (rz1 : R32 z1) (rz2 : R32 z2) (rz3 : R32 z3) (rz4 : R32 z4) (rz5 : R32 z5) : Ct X l yX7_store cX7_store 7 (Option.some FieldType.long) 3 65 σ [.inr (.inr (0, 0)), .inl z1, .inl z2, .inl z3, .inl z4, .inl z5] (Ans (some (.inr (.inl (rc_store z1 z2 z3 z4 z5)))) (sc_store σ z1 z2 z3 z4 z5)) := by
  refine Ct.intro (own := RX7) (by decide) rfl (Nat.le_of_ble_eq_true rfl) (fun M hM ok hq => ?_)
  subst hM
  have rz1l := rz1.1
  have rz1r := rz1.2
  have rz2l := rz2.1
  have rz2r := rz2.2
  have rz3l := rz3.1
  have rz3r := rz3.2
  have rz4l := rz4.1
  have rz4r := rz4.2
  have rz5l := rz5.1
  have rz5r := rz5.2
  show G X M cX7_store 7 σ 0 [(0, .inr (.inr (0, 0))), (1, .inl z1), (2, .inl z2), (3, .inl z3), (4, .inl z4), (5, .inl z5)] []
  refine g_iload_n ok dX7_store_0 rfl rfl ?_
  refine g_cS ok dX7_store_1 ms_X7_138 (c_X7_isBattery X _ _ _ ⟨by omega, by omega⟩) rfl (by decide) rfl (Nat.le_of_ble_eq_true rfl) ?_
  refine g_ifb_eq (tgt := 24) ok dX7_store_4 (by decide) (fun c1 => ?_) (fun c1 => ?_)
  · skip
    refine g_ldc2 (v := -9000000000000000001) ok dX7_store_24 wd2_31 (by decide +kernel) ?_
    exact g_lret ok hq dX7_store_27 (ansL (by (simp only [rc_store, okSc, BAD, NO, FULL, NONE, NOTHING, INDEX, SIZE] <;> (repeat (first | rw [if_pos (by omega)] | rw [if_neg (by omega)])) <;> omega)) (by (unfold sc_store; first | (rw [if_pos (by unfold okSc; omega)]) | (rw [if_neg (by unfold okSc; omega)]))))
  · skip
    refine g_iload_n ok dX7_store_7 rfl rfl ?_
    refine g_cS ok dX7_store_8 ms_X7_141 (c_X7_isKind X _ _ _ ⟨by omega, by omega⟩) rfl (by decide) rfl (Nat.le_of_ble_eq_true rfl) ?_
    refine g_ifb_eq (tgt := 24) ok dX7_store_11 (by decide) (fun c2 => ?_) (fun c2 => ?_)
    · skip
      refine g_ldc2 (v := -9000000000000000001) ok dX7_store_24 wd2_31 (by decide +kernel) ?_
      exact g_lret ok hq dX7_store_27 (ansL (by (simp only [rc_store, okSc, BAD, NO, FULL, NONE, NOTHING, INDEX, SIZE] <;> (repeat (first | rw [if_pos (by omega)] | rw [if_neg (by omega)])) <;> omega)) (by (unfold sc_store; first | (rw [if_pos (by unfold okSc; omega)]) | (rw [if_neg (by unfold okSc; omega)]))))
    · skip
      refine g_iload_n ok dX7_store_14 rfl rfl ?_
      refine g_iconst (v := 1) ok dX7_store_15 (by decide +kernel) ?_
      refine g_bipush (v := 60) ok dX7_store_16 (by decide +kernel) ?_
      refine g_cS ok dX7_store_18 ms_X7_58 (c_X7_within X _ _ _ _ _ ⟨by omega, by omega⟩ ⟨by omega, by omega⟩ ⟨by omega, by omega⟩) rfl (by decide) rfl (Nat.le_of_ble_eq_true rfl) ?_
      refine g_ifb_ne (tgt := 28) ok dX7_store_21 (by decide) (fun c3 => ?_) (fun c3 => ?_)
      · skip
        refine g_iload ok dX7_store_28 rfl ?_
        refine g_cS ok dX7_store_30 ms_X7_144 (c_X7_areRates X _ _ _ ⟨by omega, by omega⟩) rfl (by decide) rfl (Nat.le_of_ble_eq_true rfl) ?_
        refine g_ifb_eq (tgt := 48) ok dX7_store_33 (by decide) (fun c4 => ?_) (fun c4 => ?_)
        · skip
          refine g_ldc2 (v := -9000000000000000001) ok dX7_store_48 wd2_31 (by decide +kernel) ?_
          exact g_lret ok hq dX7_store_51 (ansL (by (simp only [rc_store, okSc, BAD, NO, FULL, NONE, NOTHING, INDEX, SIZE] <;> (repeat (first | rw [if_pos (by omega)] | rw [if_neg (by omega)])) <;> omega)) (by (unfold sc_store; first | (rw [if_pos (by unfold okSc; omega)]) | (rw [if_neg (by unfold okSc; omega)]))))
        · skip
          refine g_iload ok dX7_store_36 rfl ?_
          refine g_iconst (v := 0) ok dX7_store_38 (by decide +kernel) ?_
          refine g_sipush (v := 5150) ok dX7_store_39 (by decide +kernel) ?_
          refine g_cS ok dX7_store_42 ms_X7_58 (c_X7_within X _ _ _ _ _ ⟨by omega, by omega⟩ ⟨by omega, by omega⟩ ⟨by omega, by omega⟩) rfl (by decide) rfl (Nat.le_of_ble_eq_true rfl) ?_
          refine g_ifb_ne (tgt := 52) ok dX7_store_45 (by decide) (fun c5 => ?_) (fun c5 => ?_)
          · skip
            refine g_aload_n ok dX7_store_52 rfl rfl ?_
            refine g_getr ok dX7_store_53 fl_X7_25 (Vd.one rfl) rfl rfl ?_
            refine g_iload_n ok dX7_store_56 rfl rfl ?_
            refine g_aald ok dX7_store_57 (Vd.one rfl) (fun _ => rfl) ⟨by omega, by omega⟩ rfl ?_
            refine g_astore ok dX7_store_58 (Nat.le_of_ble_eq_true rfl) ?_
            refine g_aload ok dX7_store_60 rfl ?_
            refine g_iload_n ok dX7_store_62 rfl rfl ?_
            refine g_iload_n ok dX7_store_63 rfl rfl ?_
            refine g_cV0 ok dX7_store_64 mv_X7_147 (c_X0_renew X _ _ _ _ _ (by omega) (by omega) (by omega) (by omega) (by omega) (by omega)) rfl (Vd.four rfl (by omega) (by omega)) rfl rfl (by decide) rfl (Nat.le_of_ble_eq_true rfl) ?_
            refine g_aload ok dX7_store_67 rfl ?_
            refine g_iload ok dX7_store_69 rfl ?_
            refine g_bipush (v := 21) ok dX7_store_71 (by decide +kernel) ?_
            refine g_idiv ok dX7_store_73 ⟨by omega, by omega⟩ ⟨by omega, by omega⟩ (by omega) ?_
            refine g_iload ok dX7_store_74 rfl ?_
            refine g_bipush (v := 21) ok dX7_store_76 (by decide +kernel) ?_
            refine g_irem ok dX7_store_78 ⟨by omega, by omega⟩ ⟨by omega, by omega⟩ (by omega) ?_
            refine g_cV0 ok dX7_store_79 mv_X7_148 (c_X0_setRates X _ _ _ _ _ (by omega) (by omega) (by omega) (by omega) (by omega) (by omega)) rfl (Vd.four rfl (by omega) (by omega)) rfl rfl (by decide) rfl (Nat.le_of_ble_eq_true rfl) ?_
            refine g_aload ok dX7_store_82 rfl ?_
            refine g_iload ok dX7_store_84 rfl ?_
            refine g_bipush (v := 101) ok dX7_store_86 (by decide +kernel) ?_
            refine g_idivP ok dX7_store_88 ⟨by omega, by omega⟩ ⟨by omega, by omega⟩ (by omega) (by omega) ?_
            refine g_iload ok dX7_store_89 rfl ?_
            refine g_bipush (v := 101) ok dX7_store_91 (by decide +kernel) ?_
            refine g_iremP ok dX7_store_93 ⟨by omega, by omega⟩ ⟨by omega, by omega⟩ (by omega) (by omega) ?_
            refine g_cV0 ok dX7_store_94 mv_X7_151 (c_X0_setLosses X _ _ _ _ _ (by omega) (by omega) (by omega) (by omega) (by omega) (by omega)) rfl (Vd.four rfl (by omega) (by omega)) rfl rfl (by decide) rfl (Nat.le_of_ble_eq_true rfl) ?_
            refine g_lconst (v := 0) ok dX7_store_97 (by decide +kernel) ?_
            exact g_lret ok hq dX7_store_98 (ansL (by (simp only [rc_store, okSc, BAD, NO, FULL, NONE, NOTHING, INDEX, SIZE] <;> (repeat (first | rw [if_pos (by omega)] | rw [if_neg (by omega)])) <;> omega)) (by (unfold sc_store; first | (rw [if_pos (by unfold okSc; omega)]) | (rw [if_neg (by unfold okSc; omega)]))))
          · skip
            refine g_ldc2 (v := -9000000000000000001) ok dX7_store_48 wd2_31 (by decide +kernel) ?_
            exact g_lret ok hq dX7_store_51 (ansL (by (simp only [rc_store, okSc, BAD, NO, FULL, NONE, NOTHING, INDEX, SIZE] <;> (repeat (first | rw [if_pos (by omega)] | rw [if_neg (by omega)])) <;> omega)) (by (unfold sc_store; first | (rw [if_pos (by unfold okSc; omega)]) | (rw [if_neg (by unfold okSc; omega)]))))
      · skip
        refine g_ldc2 (v := -9000000000000000001) ok dX7_store_24 wd2_31 (by decide +kernel) ?_
        exact g_lret ok hq dX7_store_27 (ansL (by (simp only [rc_store, okSc, BAD, NO, FULL, NONE, NOTHING, INDEX, SIZE] <;> (repeat (first | rw [if_pos (by omega)] | rw [if_neg (by omega)])) <;> omega)) (by (unfold sc_store; first | (rw [if_pos (by unfold okSc; omega)]) | (rw [if_neg (by unfold okSc; omega)]))))

set_option maxRecDepth 100000 in
set_option maxHeartbeats 4000000 in
theorem c_X7_charge (X : XW) (l : Launch) (σ : Mm) (z1 z2 : Int) (rz1 : R32 z1) (rz2 : R32 z2) (hS : CS σ) : Ct X l yX7_charge cX7_charge 7 (Option.some FieldType.long) 3 64 σ [.inr (.inr (0, 0)), .inl z1, .inl z2] (Ans (some (.inr (.inl (rc_charge σ z1 z2)))) (sc_charge σ z1 z2)) := by
  refine Ct.intro (own := RX7) (by decide) rfl (Nat.le_of_ble_eq_true rfl) (fun M hM ok hq => ?_)
  subst hM
  have rz1l := rz1.1
  have rz1r := rz1.2
  have rz2l := rz2.1
  have rz2r := rz2.2
  show G X M cX7_charge 7 σ 0 [(0, .inr (.inr (0, 0))), (1, .inl z1), (2, .inl z2)] []
  have aS := hS z1
  refine g_aload_n ok dX7_charge_0 rfl rfl ?_
  refine g_iload_n ok dX7_charge_1 rfl rfl ?_
  refine g_iconst (v := 1) ok dX7_charge_2 (by decide +kernel) ?_
  refine g_cV3 ok dX7_charge_3 mv_X7_154 (c_X7_refusal X _ _ _ _ ⟨by omega, by omega⟩ (by first | omega | exact bI_in.1) (by first | omega | exact bI_in.2)) rfl (Vd.one rfl) rfl rfl (by decide) rfl (Nat.le_of_ble_eq_true rfl) (fun q1 => ?_) (fun q1 => ?_) (fun q1 => ?_)
  · skip
    refine g_lstore_n ok dX7_charge_6 rfl (Nat.le_of_ble_eq_true rfl) ?_
    refine g_lload_n ok dX7_charge_7 rfl rfl ?_
    refine g_lconst (v := 0) ok dX7_charge_8 (by decide +kernel) ?_
    refine g_lcmp_eq (tgt := 15) ok dX7_charge_9 dX7_charge_10 (by decide) ⟨by omega, by omega⟩ ⟨by omega, by omega⟩ (fun c2 => ?_) (fun c2 => ?_)
    · skip
      exfalso
      omega
    · skip
      refine g_lload_n ok dX7_charge_13 rfl rfl ?_
      exact g_lret ok hq dX7_charge_14 (ansL (by (simp only [rc_charge, BAD, NO, FULL, NONE, NOTHING, INDEX, SIZE] <;> (repeat (first | rw [if_pos (by omega)] | rw [if_neg (by omega)])) <;> omega)) (by (simp only [sc_charge] <;> (repeat (first | rw [if_pos (by omega)] | rw [if_neg (by omega)])) <;> first | rfl | (congr 1; omega))))
  · skip
    refine g_lstore_n ok dX7_charge_6 rfl (Nat.le_of_ble_eq_true rfl) ?_
    refine g_lload_n ok dX7_charge_7 rfl rfl ?_
    refine g_lconst (v := 0) ok dX7_charge_8 (by decide +kernel) ?_
    refine g_lcmp_eq (tgt := 15) ok dX7_charge_9 dX7_charge_10 (by decide) ⟨by omega, by omega⟩ ⟨by omega, by omega⟩ (fun c3 => ?_) (fun c3 => ?_)
    · skip
      exfalso
      omega
    · skip
      refine g_lload_n ok dX7_charge_13 rfl rfl ?_
      exact g_lret ok hq dX7_charge_14 (ansL (by (simp only [rc_charge, BAD, NO, FULL, NONE, NOTHING, INDEX, SIZE] <;> (repeat (first | rw [if_pos (by omega)] | rw [if_neg (by omega)])) <;> omega)) (by (simp only [sc_charge] <;> (repeat (first | rw [if_pos (by omega)] | rw [if_neg (by omega)])) <;> first | rfl | (congr 1; omega))))
  · skip
    refine g_lstore_n ok dX7_charge_6 rfl (Nat.le_of_ble_eq_true rfl) ?_
    refine g_lload_n ok dX7_charge_7 rfl rfl ?_
    refine g_lconst (v := 0) ok dX7_charge_8 (by decide +kernel) ?_
    refine g_lcmp_eq (tgt := 15) ok dX7_charge_9 dX7_charge_10 (by decide) ⟨by omega, by omega⟩ ⟨by omega, by omega⟩ (fun c4 => ?_) (fun c4 => ?_)
    · skip
      refine g_aload_n ok dX7_charge_15 rfl rfl ?_
      refine g_getr ok dX7_charge_16 fl_X7_25 (Vd.one rfl) rfl rfl ?_
      refine g_iload_n ok dX7_charge_19 rfl rfl ?_
      refine g_aald ok dX7_charge_20 (Vd.one rfl) (fun _ => rfl) ⟨by omega, by omega⟩ rfl ?_
      refine g_astore ok dX7_charge_21 (Nat.le_of_ble_eq_true rfl) ?_
      refine g_iload_n ok dX7_charge_23 rfl rfl ?_
      refine g_aload ok dX7_charge_24 rfl ?_
      refine g_geti (z := 4) ok dX7_charge_26 fl_X7_158 (Vd.four rfl (by omega) (by omega)) rfl rfl rfl (fun h5 h6 => ?_)
      refine g_aload ok dX7_charge_29 rfl ?_
      refine g_geti (z := 5) ok dX7_charge_31 fl_X7_161 (Vd.four rfl (by omega) (by omega)) rfl rfl rfl (fun h7 h8 => ?_)
      refine g_cS ok dX7_charge_34 ms_X7_58 (c_X7_within X _ _ _ _ _ ⟨by omega, by omega⟩ ⟨by omega, by omega⟩ ⟨by omega, by omega⟩) rfl (by decide) rfl (Nat.le_of_ble_eq_true rfl) ?_
      refine g_ifb_ne (tgt := 44) ok dX7_charge_37 (by decide) (fun c9 => ?_) (fun c9 => ?_)
      · skip
        refine g_aload ok dX7_charge_44 rfl ?_
        refine g_geti (z := 3) ok dX7_charge_46 fl_X7_164 (Vd.four rfl (by omega) (by omega)) rfl rfl rfl (fun h10 h11 => ?_)
        refine g_istore ok dX7_charge_49 (Nat.le_of_ble_eq_true rfl) ?_
        refine g_aload ok dX7_charge_51 rfl ?_
        refine g_iload_n ok dX7_charge_53 rfl rfl ?_
        refine g_puti (z := 3) ok dX7_charge_54 fw_X7_164 (Vd.four rfl (by omega) (by omega)) rfl rfl (Nat.le_of_ble_eq_true rfl) rfl ⟨by omega, by omega⟩ ?_
        refine g_iload ok dX7_charge_57 rfl ?_
        refine g_i2l ok dX7_charge_59 ⟨by omega, by omega⟩ ?_
        exact g_lret ok hq dX7_charge_60 (ansL (by (simp only [rc_charge, BAD, NO, FULL, NONE, NOTHING, INDEX, SIZE] <;> (repeat (first | rw [if_pos (by omega)] | rw [if_neg (by omega)])) <;> omega)) (by (simp only [sc_charge] <;> (repeat (first | rw [if_pos (by omega)] | rw [if_neg (by omega)])) <;> first | rfl | (congr 1; omega))))
      · skip
        refine g_ldc2 (v := -9000000000000000001) ok dX7_charge_40 wd2_31 (by decide +kernel) ?_
        exact g_lret ok hq dX7_charge_43 (ansL (by (simp only [rc_charge, BAD, NO, FULL, NONE, NOTHING, INDEX, SIZE] <;> (repeat (first | rw [if_pos (by omega)] | rw [if_neg (by omega)])) <;> omega)) (by (simp only [sc_charge] <;> (repeat (first | rw [if_pos (by omega)] | rw [if_neg (by omega)])) <;> first | rfl | (congr 1; omega))))
    · skip
      exfalso
      omega

set_option maxRecDepth 100000 in
set_option maxHeartbeats 4000000 in
theorem c_X7_end (X : XW) (l : Launch) (σ : Mm) (z1 z2 : Int) (rz1 : R32 z1) (rz2 : R32 z2) : Ct X l yX7_end cX7_end 6 (Option.some FieldType.long) 3 64 σ [.inr (.inr (0, 0)), .inl z1, .inl z2] (Ans (some (.inr (.inl (rc_end σ z1 z2)))) (sc_end σ z1 z2)) := by
  refine Ct.intro (own := RX7) (by decide) rfl (Nat.le_of_ble_eq_true rfl) (fun M hM ok hq => ?_)
  subst hM
  have rz1l := rz1.1
  have rz1r := rz1.2
  have rz2l := rz2.1
  have rz2r := rz2.2
  show G X M cX7_end 6 σ 0 [(0, .inr (.inr (0, 0))), (1, .inl z1), (2, .inl z2)] []
  have hb := bI_1 (c := 0 ≤ z2 ∧ z2 ≤ 60)
  have hb2 := bI_in (c := 0 ≤ z2 ∧ z2 ≤ 60)
  refine g_aload_n ok dX7_end_0 rfl rfl ?_
  refine g_iload_n ok dX7_end_1 rfl rfl ?_
  refine g_iload_n ok dX7_end_2 rfl rfl ?_
  refine g_iconst (v := 0) ok dX7_end_3 (by decide +kernel) ?_
  refine g_bipush (v := 60) ok dX7_end_4 (by decide +kernel) ?_
  refine g_cS ok dX7_end_6 ms_X7_58 (c_X7_within X _ _ _ _ _ ⟨by omega, by omega⟩ ⟨by omega, by omega⟩ ⟨by omega, by omega⟩) rfl (by decide) rfl (Nat.le_of_ble_eq_true rfl) ?_
  refine g_cV3 ok dX7_end_9 mv_X7_154 (c_X7_refusal X _ _ _ _ ⟨by omega, by omega⟩ (by first | omega | exact bI_in.1) (by first | omega | exact bI_in.2)) rfl (Vd.one rfl) rfl rfl (by decide) rfl (Nat.le_of_ble_eq_true rfl) (fun q1 => ?_) (fun q1 => ?_) (fun q1 => ?_)
  · skip
    refine g_lstore_n ok dX7_end_12 rfl (Nat.le_of_ble_eq_true rfl) ?_
    refine g_lload_n ok dX7_end_13 rfl rfl ?_
    refine g_lconst (v := 0) ok dX7_end_14 (by decide +kernel) ?_
    refine g_lcmp_eq (tgt := 21) ok dX7_end_15 dX7_end_16 (by decide) ⟨by omega, by omega⟩ ⟨by omega, by omega⟩ (fun c2 => ?_) (fun c2 => ?_)
    · skip
      exfalso
      omega
    · skip
      refine g_lload_n ok dX7_end_19 rfl rfl ?_
      exact g_lret ok hq dX7_end_20 (ansL (by (simp only [rc_end, BAD, NO, FULL, NONE, NOTHING, INDEX, SIZE] <;> (repeat (first | rw [if_pos (by omega)] | rw [if_neg (by omega)])) <;> omega)) (by (simp only [sc_end] <;> (repeat (first | rw [if_pos (by omega)] | rw [if_neg (by omega)])) <;> first | rfl | (congr 1; omega))))
  · skip
    refine g_lstore_n ok dX7_end_12 rfl (Nat.le_of_ble_eq_true rfl) ?_
    refine g_lload_n ok dX7_end_13 rfl rfl ?_
    refine g_lconst (v := 0) ok dX7_end_14 (by decide +kernel) ?_
    refine g_lcmp_eq (tgt := 21) ok dX7_end_15 dX7_end_16 (by decide) ⟨by omega, by omega⟩ ⟨by omega, by omega⟩ (fun c3 => ?_) (fun c3 => ?_)
    · skip
      exfalso
      omega
    · skip
      refine g_lload_n ok dX7_end_19 rfl rfl ?_
      exact g_lret ok hq dX7_end_20 (ansL (by (simp only [rc_end, BAD, NO, FULL, NONE, NOTHING, INDEX, SIZE] <;> (repeat (first | rw [if_pos (by omega)] | rw [if_neg (by omega)])) <;> omega)) (by (simp only [sc_end] <;> (repeat (first | rw [if_pos (by omega)] | rw [if_neg (by omega)])) <;> first | rfl | (congr 1; omega))))
  · skip
    refine g_lstore_n ok dX7_end_12 rfl (Nat.le_of_ble_eq_true rfl) ?_
    refine g_lload_n ok dX7_end_13 rfl rfl ?_
    refine g_lconst (v := 0) ok dX7_end_14 (by decide +kernel) ?_
    refine g_lcmp_eq (tgt := 21) ok dX7_end_15 dX7_end_16 (by decide) ⟨by omega, by omega⟩ ⟨by omega, by omega⟩ (fun c4 => ?_) (fun c4 => ?_)
    · skip
      refine g_aload_n ok dX7_end_21 rfl rfl ?_
      refine g_getr ok dX7_end_22 fl_X7_25 (Vd.one rfl) rfl rfl ?_
      refine g_iload_n ok dX7_end_25 rfl rfl ?_
      refine g_aald ok dX7_end_26 (Vd.one rfl) (fun _ => rfl) ⟨by omega, by omega⟩ rfl ?_
      refine g_geti (z := 10) ok dX7_end_27 fl_X7_167 (Vd.four rfl (by omega) (by omega)) rfl rfl rfl (fun h5 h6 => ?_)
      refine g_istore ok dX7_end_30 (Nat.le_of_ble_eq_true rfl) ?_
      refine g_aload_n ok dX7_end_32 rfl rfl ?_
      refine g_getr ok dX7_end_33 fl_X7_25 (Vd.one rfl) rfl rfl ?_
      refine g_iload_n ok dX7_end_36 rfl rfl ?_
      refine g_aald ok dX7_end_37 (Vd.one rfl) (fun _ => rfl) ⟨by omega, by omega⟩ rfl ?_
      refine g_iload_n ok dX7_end_38 rfl rfl ?_
      refine g_puti (z := 10) ok dX7_end_39 fw_X7_167 (Vd.four rfl (by omega) (by omega)) rfl rfl (Nat.le_of_ble_eq_true rfl) rfl ⟨by omega, by omega⟩ ?_
      refine g_iload ok dX7_end_42 rfl ?_
      refine g_i2l ok dX7_end_44 ⟨by omega, by omega⟩ ?_
      exact g_lret ok hq dX7_end_45 (ansL (by (simp only [rc_end, BAD, NO, FULL, NONE, NOTHING, INDEX, SIZE] <;> (repeat (first | rw [if_pos (by omega)] | rw [if_neg (by omega)])) <;> omega)) (by (simp only [sc_end] <;> (repeat (first | rw [if_pos (by omega)] | rw [if_neg (by omega)])) <;> first | rfl | (congr 1; omega))))
    · skip
      exfalso
      omega

set_option maxRecDepth 100000 in
set_option maxHeartbeats 4000000 in
theorem c_X7_about (X : XW) (l : Launch) (σ : Mm) (z1 z2 : Int) (rz1 : R32 z1) (rz2 : R32 z2) (hS : CS σ) : Ct X l yX7_about cX7_about 5 (Option.some FieldType.long) 3 64 σ [.inr (.inr (0, 0)), .inl z1, .inl z2] (Ans (some (.inr (.inl (rc_about σ z1 z2)))) (σ)) := by
  refine Ct.intro (own := RX7) (by decide) rfl (Nat.le_of_ble_eq_true rfl) (fun M hM ok hq => ?_)
  subst hM
  have rz1l := rz1.1
  have rz1r := rz1.2
  have rz2l := rz2.1
  have rz2r := rz2.2
  show G X M cX7_about 5 σ 0 [(0, .inr (.inr (0, 0))), (1, .inl z1), (2, .inl z2)] []
  have hb := bI_1 (c := 0 ≤ z2 ∧ z2 ≤ 10)
  have hb2 := bI_in (c := 0 ≤ z2 ∧ z2 ≤ 10)
  have aS := hS z1
  have aA : (0 ≤ z2 ∧ z2 ≤ 10) → -2147483648 ≤ abC σ z1 z2 ∧ abC σ z1 z2 ≤ 2147483647 := fun _ => by unfold abC; (repeat' split) <;> omega
  refine g_aload_n ok dX7_about_0 rfl rfl ?_
  refine g_iload_n ok dX7_about_1 rfl rfl ?_
  refine g_iload_n ok dX7_about_2 rfl rfl ?_
  refine g_iconst (v := 0) ok dX7_about_3 (by decide +kernel) ?_
  refine g_bipush (v := 10) ok dX7_about_4 (by decide +kernel) ?_
  refine g_cS ok dX7_about_6 ms_X7_58 (c_X7_within X _ _ _ _ _ ⟨by omega, by omega⟩ ⟨by omega, by omega⟩ ⟨by omega, by omega⟩) rfl (by decide) rfl (Nat.le_of_ble_eq_true rfl) ?_
  refine g_cV3 ok dX7_about_9 mv_X7_154 (c_X7_refusal X _ _ _ _ ⟨by omega, by omega⟩ (by first | omega | exact bI_in.1) (by first | omega | exact bI_in.2)) rfl (Vd.one rfl) rfl rfl (by decide) rfl (Nat.le_of_ble_eq_true rfl) (fun q1 => ?_) (fun q1 => ?_) (fun q1 => ?_)
  · skip
    refine g_lstore_n ok dX7_about_12 rfl (Nat.le_of_ble_eq_true rfl) ?_
    refine g_lload_n ok dX7_about_13 rfl rfl ?_
    refine g_lconst (v := 0) ok dX7_about_14 (by decide +kernel) ?_
    refine g_lcmp_eq (tgt := 21) ok dX7_about_15 dX7_about_16 (by decide) ⟨by omega, by omega⟩ ⟨by omega, by omega⟩ (fun c2 => ?_) (fun c2 => ?_)
    · skip
      exfalso
      omega
    · skip
      refine g_lload_n ok dX7_about_19 rfl rfl ?_
      exact g_lret ok hq dX7_about_20 (ansL (by (simp only [rc_about, BAD, NO, FULL, NONE, NOTHING, INDEX, SIZE] <;> (repeat (first | rw [if_pos (by omega)] | rw [if_neg (by omega)])) <;> omega)) (by rfl))
  · skip
    refine g_lstore_n ok dX7_about_12 rfl (Nat.le_of_ble_eq_true rfl) ?_
    refine g_lload_n ok dX7_about_13 rfl rfl ?_
    refine g_lconst (v := 0) ok dX7_about_14 (by decide +kernel) ?_
    refine g_lcmp_eq (tgt := 21) ok dX7_about_15 dX7_about_16 (by decide) ⟨by omega, by omega⟩ ⟨by omega, by omega⟩ (fun c3 => ?_) (fun c3 => ?_)
    · skip
      exfalso
      omega
    · skip
      refine g_lload_n ok dX7_about_19 rfl rfl ?_
      exact g_lret ok hq dX7_about_20 (ansL (by (simp only [rc_about, BAD, NO, FULL, NONE, NOTHING, INDEX, SIZE] <;> (repeat (first | rw [if_pos (by omega)] | rw [if_neg (by omega)])) <;> omega)) (by rfl))
  · skip
    refine g_lstore_n ok dX7_about_12 rfl (Nat.le_of_ble_eq_true rfl) ?_
    refine g_lload_n ok dX7_about_13 rfl rfl ?_
    refine g_lconst (v := 0) ok dX7_about_14 (by decide +kernel) ?_
    refine g_lcmp_eq (tgt := 21) ok dX7_about_15 dX7_about_16 (by decide) ⟨by omega, by omega⟩ ⟨by omega, by omega⟩ (fun c4 => ?_) (fun c4 => ?_)
    · skip
      refine g_aload_n ok dX7_about_21 rfl rfl ?_
      refine g_getr ok dX7_about_22 fl_X7_25 (Vd.one rfl) rfl rfl ?_
      refine g_iload_n ok dX7_about_25 rfl rfl ?_
      refine g_aald ok dX7_about_26 (Vd.one rfl) (fun _ => rfl) ⟨by omega, by omega⟩ rfl ?_
      refine g_iload_n ok dX7_about_27 rfl rfl ?_
      refine g_cV ok dX7_about_28 mv_X7_170 (c_X0_fact X _ _ _ _ (by omega) (by omega) (by omega) (by omega)) rfl (Vd.four rfl (by omega) (by omega)) rfl rfl (by decide) rfl (Nat.le_of_ble_eq_true rfl) ?_
      refine g_i2l ok dX7_about_31 ⟨by omega, by omega⟩ ?_
      exact g_lret ok hq dX7_about_32 (ansL (by (simp only [rc_about, BAD, NO, FULL, NONE, NOTHING, INDEX, SIZE] <;> (repeat (first | rw [if_pos (by omega)] | rw [if_neg (by omega)])) <;> omega)) (by rfl))
    · skip
      exfalso
      omega

set_option maxRecDepth 100000 in
set_option maxHeartbeats 4000000 in
theorem c_X7_isOf (X : XW) (l : Launch) (σ : Mm) (z1 z2 : Int) (rz1 : R32 z1) (rz2 : R32 z2) : Ct X l yX7_isOf cX7_isOf 5 (Option.some FieldType.long) 3 64 σ [.inr (.inr (0, 0)), .inl z1, .inl z2] (Ans (some (.inr (.inl (rc_isOf σ z1 z2)))) (σ)) := by
  refine Ct.intro (own := RX7) (by decide) rfl (Nat.le_of_ble_eq_true rfl) (fun M hM ok hq => ?_)
  subst hM
  have rz1l := rz1.1
  have rz1r := rz1.2
  have rz2l := rz2.1
  have rz2r := rz2.2
  show G X M cX7_isOf 5 σ 0 [(0, .inr (.inr (0, 0))), (1, .inl z1), (2, .inl z2)] []
  have hb := bI_1 (c := 0 ≤ z2 ∧ z2 ≤ 4)
  have hb2 := bI_in (c := 0 ≤ z2 ∧ z2 ≤ 4)
  refine g_aload_n ok dX7_isOf_0 rfl rfl ?_
  refine g_iload_n ok dX7_isOf_1 rfl rfl ?_
  refine g_iload_n ok dX7_isOf_2 rfl rfl ?_
  refine g_cS ok dX7_isOf_3 ms_X7_141 (c_X7_isKind X _ _ _ ⟨by omega, by omega⟩) rfl (by decide) rfl (Nat.le_of_ble_eq_true rfl) ?_
  refine g_cV3 ok dX7_isOf_6 mv_X7_154 (c_X7_refusal X _ _ _ _ ⟨by omega, by omega⟩ (by first | omega | exact bI_in.1) (by first | omega | exact bI_in.2)) rfl (Vd.one rfl) rfl rfl (by decide) rfl (Nat.le_of_ble_eq_true rfl) (fun q1 => ?_) (fun q1 => ?_) (fun q1 => ?_)
  · skip
    refine g_lstore_n ok dX7_isOf_9 rfl (Nat.le_of_ble_eq_true rfl) ?_
    refine g_lload_n ok dX7_isOf_10 rfl rfl ?_
    refine g_lconst (v := 0) ok dX7_isOf_11 (by decide +kernel) ?_
    refine g_lcmp_eq (tgt := 18) ok dX7_isOf_12 dX7_isOf_13 (by decide) ⟨by omega, by omega⟩ ⟨by omega, by omega⟩ (fun c2 => ?_) (fun c2 => ?_)
    · skip
      exfalso
      omega
    · skip
      refine g_lload_n ok dX7_isOf_16 rfl rfl ?_
      exact g_lret ok hq dX7_isOf_17 (ansL (by (simp only [rc_isOf, isQ, BAD, NO] <;> (repeat (first | rw [if_pos (by omega)] | rw [if_neg (by omega)])) <;> omega)) (by rfl))
  · skip
    refine g_lstore_n ok dX7_isOf_9 rfl (Nat.le_of_ble_eq_true rfl) ?_
    refine g_lload_n ok dX7_isOf_10 rfl rfl ?_
    refine g_lconst (v := 0) ok dX7_isOf_11 (by decide +kernel) ?_
    refine g_lcmp_eq (tgt := 18) ok dX7_isOf_12 dX7_isOf_13 (by decide) ⟨by omega, by omega⟩ ⟨by omega, by omega⟩ (fun c3 => ?_) (fun c3 => ?_)
    · skip
      exfalso
      omega
    · skip
      refine g_lload_n ok dX7_isOf_16 rfl rfl ?_
      exact g_lret ok hq dX7_isOf_17 (ansL (by (simp only [rc_isOf, isQ, BAD, NO] <;> (repeat (first | rw [if_pos (by omega)] | rw [if_neg (by omega)])) <;> omega)) (by rfl))
  · skip
    refine g_lstore_n ok dX7_isOf_9 rfl (Nat.le_of_ble_eq_true rfl) ?_
    refine g_lload_n ok dX7_isOf_10 rfl rfl ?_
    refine g_lconst (v := 0) ok dX7_isOf_11 (by decide +kernel) ?_
    refine g_lcmp_eq (tgt := 18) ok dX7_isOf_12 dX7_isOf_13 (by decide) ⟨by omega, by omega⟩ ⟨by omega, by omega⟩ (fun c4 => ?_) (fun c4 => ?_)
    · skip
      refine g_aload_n ok dX7_isOf_18 rfl rfl ?_
      refine g_getr ok dX7_isOf_19 fl_X7_25 (Vd.one rfl) rfl rfl ?_
      refine g_iload_n ok dX7_isOf_22 rfl rfl ?_
      refine g_aald ok dX7_isOf_23 (Vd.one rfl) (fun _ => rfl) ⟨by omega, by omega⟩ rfl ?_
      refine g_iload_n ok dX7_isOf_24 rfl rfl ?_
      refine g_cV ok dX7_isOf_25 mv_X7_173 (c_X0_isA X _ _ _ _ (by omega) (by omega) ⟨by omega, by omega⟩) rfl (Vd.four rfl (by omega) (by omega)) rfl rfl (by decide) rfl (Nat.le_of_ble_eq_true rfl) ?_
      refine g_cS ok dX7_isOf_28 ms_X7_82 (c_X7_oneIf X _ _ _ (by first | omega | exact bI_in.1) (by first | omega | exact bI_in.2)) rfl (by decide) rfl (Nat.le_of_ble_eq_true rfl) ?_
      exact g_lret ok hq dX7_isOf_31 (ansL (by (simp only [rc_isOf, isQ, BAD, NO] <;> (repeat (first | rw [if_pos (by omega)] | rw [if_neg (by omega)])) <;> omega)) (by rfl))
    · skip
      exfalso
      omega

set_option maxRecDepth 100000 in
set_option maxHeartbeats 4000000 in
theorem c_X7_put (X : XW) (l : Launch) (σ : Mm) (z1 z2 z3 : Int) (rz1 : R32 z1) (rz2 : R32 z2) (rz3 : R32 z3) (hT : CT σ) : Ct X l yX7_put cX7_put 7 (Option.some FieldType.long) 3 64 σ [.inr (.inr (0, 0)), .inl z1, .inl z2, .inl z3] (Ans (some (.inr (.inl (rc_put σ z1 z2 z3)))) (sc_put σ z1 z2 z3)) := by
  refine Ct.intro (own := RX7) (by decide) rfl (Nat.le_of_ble_eq_true rfl) (fun M hM ok hq => ?_)
  subst hM
  have rz1l := rz1.1
  have rz1r := rz1.2
  have rz2l := rz2.1
  have rz2r := rz2.2
  have rz3l := rz3.1
  have rz3r := rz3.2
  show G X M cX7_put 7 σ 0 [(0, .inr (.inr (0, 0))), (1, .inl z1), (2, .inl z2), (3, .inl z3)] []
  have aT := hT.1
  have aT2 := hT.2
  refine g_aload_n ok dX7_put_0 rfl rfl ?_
  refine g_iload_n ok dX7_put_1 rfl rfl ?_
  refine g_iconst (v := 1) ok dX7_put_2 (by decide +kernel) ?_
  refine g_cV3 ok dX7_put_3 mv_X7_154 (c_X7_refusal X _ _ _ _ ⟨by omega, by omega⟩ (by first | omega | exact bI_in.1) (by first | omega | exact bI_in.2)) rfl (Vd.one rfl) rfl rfl (by decide) rfl (Nat.le_of_ble_eq_true rfl) (fun q1 => ?_) (fun q1 => ?_) (fun q1 => ?_)
  · skip
    refine g_lstore ok dX7_put_6 (Nat.le_of_ble_eq_true rfl) ?_
    refine g_lload ok dX7_put_8 rfl ?_
    refine g_lconst (v := 0) ok dX7_put_10 (by decide +kernel) ?_
    refine g_lcmp_eq (tgt := 18) ok dX7_put_11 dX7_put_12 (by decide) ⟨by omega, by omega⟩ ⟨by omega, by omega⟩ (fun c2 => ?_) (fun c2 => ?_)
    · skip
      exfalso
      omega
    · skip
      refine g_lload ok dX7_put_15 rfl ?_
      exact g_lret ok hq dX7_put_17 (ansL (by (simp only [rc_put, BAD, NO, FULL, NONE, NOTHING, INDEX, SIZE] <;> (repeat (first | rw [if_pos (by omega)] | rw [if_neg (by omega)])) <;> omega)) (by (simp only [sc_put] <;> (repeat (first | rw [if_pos (by omega)] | rw [if_neg (by omega)])) <;> first | rfl | (congr 1; omega))))
  · skip
    refine g_lstore ok dX7_put_6 (Nat.le_of_ble_eq_true rfl) ?_
    refine g_lload ok dX7_put_8 rfl ?_
    refine g_lconst (v := 0) ok dX7_put_10 (by decide +kernel) ?_
    refine g_lcmp_eq (tgt := 18) ok dX7_put_11 dX7_put_12 (by decide) ⟨by omega, by omega⟩ ⟨by omega, by omega⟩ (fun c3 => ?_) (fun c3 => ?_)
    · skip
      exfalso
      omega
    · skip
      refine g_lload ok dX7_put_15 rfl ?_
      exact g_lret ok hq dX7_put_17 (ansL (by (simp only [rc_put, BAD, NO, FULL, NONE, NOTHING, INDEX, SIZE] <;> (repeat (first | rw [if_pos (by omega)] | rw [if_neg (by omega)])) <;> omega)) (by (simp only [sc_put] <;> (repeat (first | rw [if_pos (by omega)] | rw [if_neg (by omega)])) <;> first | rfl | (congr 1; omega))))
  · skip
    refine g_lstore ok dX7_put_6 (Nat.le_of_ble_eq_true rfl) ?_
    refine g_lload ok dX7_put_8 rfl ?_
    refine g_lconst (v := 0) ok dX7_put_10 (by decide +kernel) ?_
    refine g_lcmp_eq (tgt := 18) ok dX7_put_11 dX7_put_12 (by decide) ⟨by omega, by omega⟩ ⟨by omega, by omega⟩ (fun c4 => ?_) (fun c4 => ?_)
    · skip
      refine g_aload_n ok dX7_put_18 rfl rfl ?_
      refine g_iload_n ok dX7_put_19 rfl rfl ?_
      refine g_cV ok dX7_put_20 mv_X7_176 (c_X7_isStepNow X _ _ _ ⟨by omega, by omega⟩ hT) rfl (Vd.one rfl) rfl rfl (by decide) rfl (Nat.le_of_ble_eq_true rfl) ?_
      refine g_ifb_ne (tgt := 30) ok dX7_put_23 (by decide) (fun c5 => ?_) (fun c5 => ?_)
      · skip
        refine g_iload_n ok dX7_put_30 rfl rfl ?_
        refine g_bipush (v := -100) ok dX7_put_31 (by decide +kernel) ?_
        refine g_bipush (v := 100) ok dX7_put_33 (by decide +kernel) ?_
        refine g_cS ok dX7_put_35 ms_X7_58 (c_X7_within X _ _ _ _ _ ⟨by omega, by omega⟩ ⟨by omega, by omega⟩ ⟨by omega, by omega⟩) rfl (by decide) rfl (Nat.le_of_ble_eq_true rfl) ?_
        refine g_ifb_ne (tgt := 45) ok dX7_put_38 (by decide) (fun c6 => ?_) (fun c6 => ?_)
        · skip
          refine g_aload_n ok dX7_put_45 rfl rfl ?_
          refine g_getr ok dX7_put_46 fl_X7_25 (Vd.one rfl) rfl rfl ?_
          refine g_iload_n ok dX7_put_49 rfl rfl ?_
          refine g_aald ok dX7_put_50 (Vd.one rfl) (fun _ => rfl) ⟨by omega, by omega⟩ rfl ?_
          refine g_getr ok dX7_put_51 fl_X7_179 (Vd.four rfl (by omega) (by omega)) rfl rfl ?_
          refine g_iload_n ok dX7_put_54 rfl rfl ?_
          refine g_iald ok dX7_put_55 (Vd.four rfl (by omega) (by omega)) (fun _ => rfl) ⟨by omega, by omega⟩ (by decide) rfl (fun h7 h8 => ?_)
          refine g_istore ok dX7_put_56 (Nat.le_of_ble_eq_true rfl) ?_
          refine g_aload_n ok dX7_put_58 rfl rfl ?_
          refine g_getr ok dX7_put_59 fl_X7_25 (Vd.one rfl) rfl rfl ?_
          refine g_iload_n ok dX7_put_62 rfl rfl ?_
          refine g_aald ok dX7_put_63 (Vd.one rfl) (fun _ => rfl) ⟨by omega, by omega⟩ rfl ?_
          refine g_getr ok dX7_put_64 fl_X7_179 (Vd.four rfl (by omega) (by omega)) rfl rfl ?_
          refine g_iload_n ok dX7_put_67 rfl rfl ?_
          refine g_iload_n ok dX7_put_68 rfl rfl ?_
          refine g_iast ok dX7_put_69 (Vd.four rfl (by omega) (by omega)) (fun _ => rfl) ⟨by omega, by omega⟩ (by decide) rfl ⟨by omega, by omega⟩ ?_
          refine g_iload ok dX7_put_70 rfl ?_
          refine g_i2l ok dX7_put_72 ⟨by omega, by omega⟩ ?_
          exact g_lret ok hq dX7_put_73 (ansL (by (simp only [rc_put, BAD, NO, FULL, NONE, NOTHING, INDEX, SIZE] <;> (repeat (first | rw [if_pos (by omega)] | rw [if_neg (by omega)])) <;> omega)) (by (simp only [sc_put] <;> (repeat (first | rw [if_pos (by omega)] | rw [if_neg (by omega)])) <;> first | rfl | (congr 1; omega))))
        · skip
          refine g_ldc2 (v := -9000000000000000001) ok dX7_put_41 wd2_31 (by decide +kernel) ?_
          exact g_lret ok hq dX7_put_44 (ansL (by (simp only [rc_put, BAD, NO, FULL, NONE, NOTHING, INDEX, SIZE] <;> (repeat (first | rw [if_pos (by omega)] | rw [if_neg (by omega)])) <;> omega)) (by (simp only [sc_put] <;> (repeat (first | rw [if_pos (by omega)] | rw [if_neg (by omega)])) <;> first | rfl | (congr 1; omega))))
      · skip
        refine g_ldc2 (v := -9000000000000000013) ok dX7_put_26 wd2_75 (by decide +kernel) ?_
        exact g_lret ok hq dX7_put_29 (ansL (by (simp only [rc_put, BAD, NO, FULL, NONE, NOTHING, INDEX, SIZE] <;> (repeat (first | rw [if_pos (by omega)] | rw [if_neg (by omega)])) <;> omega)) (by (simp only [sc_put] <;> (repeat (first | rw [if_pos (by omega)] | rw [if_neg (by omega)])) <;> first | rfl | (congr 1; omega))))
    · skip
      exfalso
      omega

set_option maxRecDepth 100000 in
set_option maxHeartbeats 4000000 in
theorem c_X7_planned (X : XW) (l : Launch) (σ : Mm) (z1 z2 : Int) (rz1 : R32 z1) (rz2 : R32 z2) (hT : CT σ) : Ct X l yX7_planned cX7_planned 5 (Option.some FieldType.long) 3 64 σ [.inr (.inr (0, 0)), .inl z1, .inl z2] (Ans (some (.inr (.inl (rc_planned σ z1 z2)))) (σ)) := by
  refine Ct.intro (own := RX7) (by decide) rfl (Nat.le_of_ble_eq_true rfl) (fun M hM ok hq => ?_)
  subst hM
  have rz1l := rz1.1
  have rz1r := rz1.2
  have rz2l := rz2.1
  have rz2r := rz2.2
  show G X M cX7_planned 5 σ 0 [(0, .inr (.inr (0, 0))), (1, .inl z1), (2, .inl z2)] []
  have aT := hT.1
  have aT2 := hT.2
  refine g_aload_n ok dX7_planned_0 rfl rfl ?_
  refine g_iload_n ok dX7_planned_1 rfl rfl ?_
  refine g_iconst (v := 1) ok dX7_planned_2 (by decide +kernel) ?_
  refine g_cV3 ok dX7_planned_3 mv_X7_154 (c_X7_refusal X _ _ _ _ ⟨by omega, by omega⟩ (by first | omega | exact bI_in.1) (by first | omega | exact bI_in.2)) rfl (Vd.one rfl) rfl rfl (by decide) rfl (Nat.le_of_ble_eq_true rfl) (fun q1 => ?_) (fun q1 => ?_) (fun q1 => ?_)
  · skip
    refine g_lstore_n ok dX7_planned_6 rfl (Nat.le_of_ble_eq_true rfl) ?_
    refine g_lload_n ok dX7_planned_7 rfl rfl ?_
    refine g_lconst (v := 0) ok dX7_planned_8 (by decide +kernel) ?_
    refine g_lcmp_eq (tgt := 15) ok dX7_planned_9 dX7_planned_10 (by decide) ⟨by omega, by omega⟩ ⟨by omega, by omega⟩ (fun c2 => ?_) (fun c2 => ?_)
    · skip
      exfalso
      omega
    · skip
      refine g_lload_n ok dX7_planned_13 rfl rfl ?_
      exact g_lret ok hq dX7_planned_14 (ansL (by (simp only [rc_planned, BAD, NO, FULL, NONE, NOTHING, INDEX, SIZE] <;> (repeat (first | rw [if_pos (by omega)] | rw [if_neg (by omega)])) <;> omega)) (by rfl))
  · skip
    refine g_lstore_n ok dX7_planned_6 rfl (Nat.le_of_ble_eq_true rfl) ?_
    refine g_lload_n ok dX7_planned_7 rfl rfl ?_
    refine g_lconst (v := 0) ok dX7_planned_8 (by decide +kernel) ?_
    refine g_lcmp_eq (tgt := 15) ok dX7_planned_9 dX7_planned_10 (by decide) ⟨by omega, by omega⟩ ⟨by omega, by omega⟩ (fun c3 => ?_) (fun c3 => ?_)
    · skip
      exfalso
      omega
    · skip
      refine g_lload_n ok dX7_planned_13 rfl rfl ?_
      exact g_lret ok hq dX7_planned_14 (ansL (by (simp only [rc_planned, BAD, NO, FULL, NONE, NOTHING, INDEX, SIZE] <;> (repeat (first | rw [if_pos (by omega)] | rw [if_neg (by omega)])) <;> omega)) (by rfl))
  · skip
    refine g_lstore_n ok dX7_planned_6 rfl (Nat.le_of_ble_eq_true rfl) ?_
    refine g_lload_n ok dX7_planned_7 rfl rfl ?_
    refine g_lconst (v := 0) ok dX7_planned_8 (by decide +kernel) ?_
    refine g_lcmp_eq (tgt := 15) ok dX7_planned_9 dX7_planned_10 (by decide) ⟨by omega, by omega⟩ ⟨by omega, by omega⟩ (fun c4 => ?_) (fun c4 => ?_)
    · skip
      refine g_aload_n ok dX7_planned_15 rfl rfl ?_
      refine g_iload_n ok dX7_planned_16 rfl rfl ?_
      refine g_cV ok dX7_planned_17 mv_X7_176 (c_X7_isStepNow X _ _ _ ⟨by omega, by omega⟩ hT) rfl (Vd.one rfl) rfl rfl (by decide) rfl (Nat.le_of_ble_eq_true rfl) ?_
      refine g_ifb_ne (tgt := 27) ok dX7_planned_20 (by decide) (fun c5 => ?_) (fun c5 => ?_)
      · skip
        refine g_aload_n ok dX7_planned_27 rfl rfl ?_
        refine g_getr ok dX7_planned_28 fl_X7_25 (Vd.one rfl) rfl rfl ?_
        refine g_iload_n ok dX7_planned_31 rfl rfl ?_
        refine g_aald ok dX7_planned_32 (Vd.one rfl) (fun _ => rfl) ⟨by omega, by omega⟩ rfl ?_
        refine g_getr ok dX7_planned_33 fl_X7_179 (Vd.four rfl (by omega) (by omega)) rfl rfl ?_
        refine g_iload_n ok dX7_planned_36 rfl rfl ?_
        refine g_iald ok dX7_planned_37 (Vd.four rfl (by omega) (by omega)) (fun _ => rfl) ⟨by omega, by omega⟩ (by decide) rfl (fun h6 h7 => ?_)
        refine g_i2l ok dX7_planned_38 ⟨by omega, by omega⟩ ?_
        exact g_lret ok hq dX7_planned_39 (ansL (by (simp only [rc_planned, BAD, NO, FULL, NONE, NOTHING, INDEX, SIZE] <;> (repeat (first | rw [if_pos (by omega)] | rw [if_neg (by omega)])) <;> omega)) (by rfl))
      · skip
        refine g_ldc2 (v := -9000000000000000013) ok dX7_planned_23 wd2_75 (by decide +kernel) ?_
        exact g_lret ok hq dX7_planned_26 (ansL (by (simp only [rc_planned, BAD, NO, FULL, NONE, NOTHING, INDEX, SIZE] <;> (repeat (first | rw [if_pos (by omega)] | rw [if_neg (by omega)])) <;> omega)) (by rfl))
    · skip
      exfalso
      omega

set_option maxRecDepth 100000 in
set_option maxHeartbeats 4000000 in
theorem c_X7_behind (X : XW) (l : Launch) (σ : Mm) (z1 z2 : Int) (rz1 : R32 z1) (rz2 : R32 z2) (hS : CS σ) (hT : CT σ) (hL : CL σ) : Ct X l yX7_behind cX7_behind 5 (Option.some FieldType.long) 3 64 σ [.inr (.inr (0, 0)), .inl z1, .inl z2] (Ans (some (.inr (.inl (rc_behind σ z1 z2)))) (σ)) := by
  refine Ct.intro (own := RX7) (by decide) rfl (Nat.le_of_ble_eq_true rfl) (fun M hM ok hq => ?_)
  subst hM
  have rz1l := rz1.1
  have rz1r := rz1.2
  have rz2l := rz2.1
  have rz2r := rz2.2
  show G X M cX7_behind 5 σ 0 [(0, .inr (.inr (0, 0))), (1, .inl z1), (2, .inl z2)] []
  have aT := hT.1
  have aT2 := hT.2
  refine g_aload_n ok dX7_behind_0 rfl rfl ?_
  refine g_iload_n ok dX7_behind_1 rfl rfl ?_
  refine g_iconst (v := 1) ok dX7_behind_2 (by decide +kernel) ?_
  refine g_cV3 ok dX7_behind_3 mv_X7_154 (c_X7_refusal X _ _ _ _ ⟨by omega, by omega⟩ (by first | omega | exact bI_in.1) (by first | omega | exact bI_in.2)) rfl (Vd.one rfl) rfl rfl (by decide) rfl (Nat.le_of_ble_eq_true rfl) (fun q1 => ?_) (fun q1 => ?_) (fun q1 => ?_)
  · skip
    refine g_lstore_n ok dX7_behind_6 rfl (Nat.le_of_ble_eq_true rfl) ?_
    refine g_lload_n ok dX7_behind_7 rfl rfl ?_
    refine g_lconst (v := 0) ok dX7_behind_8 (by decide +kernel) ?_
    refine g_lcmp_eq (tgt := 15) ok dX7_behind_9 dX7_behind_10 (by decide) ⟨by omega, by omega⟩ ⟨by omega, by omega⟩ (fun c2 => ?_) (fun c2 => ?_)
    · skip
      exfalso
      omega
    · skip
      refine g_lload_n ok dX7_behind_13 rfl rfl ?_
      exact g_lret ok hq dX7_behind_14 (ansL (by (simp only [rc_behind, BAD, NO, FULL, NONE, NOTHING, INDEX, SIZE] <;> (repeat (first | rw [if_pos (by omega)] | rw [if_neg (by omega)])) <;> omega)) (by rfl))
  · skip
    refine g_lstore_n ok dX7_behind_6 rfl (Nat.le_of_ble_eq_true rfl) ?_
    refine g_lload_n ok dX7_behind_7 rfl rfl ?_
    refine g_lconst (v := 0) ok dX7_behind_8 (by decide +kernel) ?_
    refine g_lcmp_eq (tgt := 15) ok dX7_behind_9 dX7_behind_10 (by decide) ⟨by omega, by omega⟩ ⟨by omega, by omega⟩ (fun c3 => ?_) (fun c3 => ?_)
    · skip
      exfalso
      omega
    · skip
      refine g_lload_n ok dX7_behind_13 rfl rfl ?_
      exact g_lret ok hq dX7_behind_14 (ansL (by (simp only [rc_behind, BAD, NO, FULL, NONE, NOTHING, INDEX, SIZE] <;> (repeat (first | rw [if_pos (by omega)] | rw [if_neg (by omega)])) <;> omega)) (by rfl))
  · skip
    refine g_lstore_n ok dX7_behind_6 rfl (Nat.le_of_ble_eq_true rfl) ?_
    refine g_lload_n ok dX7_behind_7 rfl rfl ?_
    refine g_lconst (v := 0) ok dX7_behind_8 (by decide +kernel) ?_
    refine g_lcmp_eq (tgt := 15) ok dX7_behind_9 dX7_behind_10 (by decide) ⟨by omega, by omega⟩ ⟨by omega, by omega⟩ (fun c4 => ?_) (fun c4 => ?_)
    · skip
      refine g_iload_n ok dX7_behind_15 rfl rfl ?_
      refine g_iconst (v := -1) ok dX7_behind_16 (by decide +kernel) ?_
      refine g_icmp_eq (tgt := 32) ok dX7_behind_17 (by decide) ⟨by omega, by omega⟩ ⟨by omega, by omega⟩ (fun c5 => ?_) (fun c5 => ?_)
      · skip
        refine g_aload_n ok dX7_behind_32 rfl rfl ?_
        refine g_getr ok dX7_behind_33 fl_X7_25 (Vd.one rfl) rfl rfl ?_
        refine g_iload_n ok dX7_behind_36 rfl rfl ?_
        refine g_aald ok dX7_behind_37 (Vd.one rfl) (fun _ => rfl) ⟨by omega, by omega⟩ rfl ?_
        refine g_iload_n ok dX7_behind_38 rfl rfl ?_
        refine g_cV ok dX7_behind_39 mv_X7_182 (c_X0_chargeBehind X _ _ _ _ (by omega) (by omega) (by omega) (by omega)) rfl (Vd.four rfl (by omega) (by omega)) rfl rfl (by decide) rfl (Nat.le_of_ble_eq_true rfl) ?_
        have aB := bhC_b hS hL z1 (t := z2) (by omega) (by omega)
        refine g_i2l ok dX7_behind_42 ⟨by omega, by omega⟩ ?_
        exact g_lret ok hq dX7_behind_43 (ansL (by (simp only [rc_behind, BAD, NO, FULL, NONE, NOTHING, INDEX, SIZE] <;> (repeat (first | rw [if_pos (by omega)] | rw [if_neg (by omega)])) <;> omega)) (by rfl))
      · skip
        refine g_aload_n ok dX7_behind_20 rfl rfl ?_
        refine g_iload_n ok dX7_behind_21 rfl rfl ?_
        refine g_cV ok dX7_behind_22 mv_X7_176 (c_X7_isStepNow X _ _ _ ⟨by omega, by omega⟩ hT) rfl (Vd.one rfl) rfl rfl (by decide) rfl (Nat.le_of_ble_eq_true rfl) ?_
        refine g_ifb_ne (tgt := 32) ok dX7_behind_25 (by decide) (fun c6 => ?_) (fun c6 => ?_)
        · skip
          refine g_aload_n ok dX7_behind_32 rfl rfl ?_
          refine g_getr ok dX7_behind_33 fl_X7_25 (Vd.one rfl) rfl rfl ?_
          refine g_iload_n ok dX7_behind_36 rfl rfl ?_
          refine g_aald ok dX7_behind_37 (Vd.one rfl) (fun _ => rfl) ⟨by omega, by omega⟩ rfl ?_
          refine g_iload_n ok dX7_behind_38 rfl rfl ?_
          refine g_cV ok dX7_behind_39 mv_X7_182 (c_X0_chargeBehind X _ _ _ _ (by omega) (by omega) (by omega) (by omega)) rfl (Vd.four rfl (by omega) (by omega)) rfl rfl (by decide) rfl (Nat.le_of_ble_eq_true rfl) ?_
          have aB := bhC_b hS hL z1 (t := z2) (by omega) (by omega)
          refine g_i2l ok dX7_behind_42 ⟨by omega, by omega⟩ ?_
          exact g_lret ok hq dX7_behind_43 (ansL (by (simp only [rc_behind, BAD, NO, FULL, NONE, NOTHING, INDEX, SIZE] <;> (repeat (first | rw [if_pos (by omega)] | rw [if_neg (by omega)])) <;> omega)) (by rfl))
        · skip
          refine g_ldc2 (v := -9000000000000000013) ok dX7_behind_28 wd2_75 (by decide +kernel) ?_
          exact g_lret ok hq dX7_behind_31 (ansL (by (simp only [rc_behind, BAD, NO, FULL, NONE, NOTHING, INDEX, SIZE] <;> (repeat (first | rw [if_pos (by omega)] | rw [if_neg (by omega)])) <;> omega)) (by rfl))
    · skip
      exfalso
      omega

set_option maxRecDepth 100000 in
set_option maxHeartbeats 4000000 in
theorem c_X7_why (X : XW) (l : Launch) (σ : Mm) (z1 : Int) (rz1 : R32 z1) (hS : CS σ) (hT : CT σ) (hK : CK σ) (hL : CL σ) : Ct X l yX7_why cX7_why 4 (Option.some FieldType.long) 4 92 σ [.inr (.inr (0, 0)), .inl z1] (Ans (some (.inr (.inl (rc_why σ z1)))) (σ)) := by
  refine Ct.intro (own := RX7) (by decide) rfl (Nat.le_of_ble_eq_true rfl) (fun M hM ok hq => ?_)
  subst hM
  have rz1l := rz1.1
  have rz1r := rz1.2
  show G X M cX7_why 4 σ 0 [(0, .inr (.inr (0, 0))), (1, .inl z1)] []
  have aT := hT.1
  have aT2 := hT.2
  refine g_aload_n ok dX7_why_0 rfl rfl ?_
  refine g_iload_n ok dX7_why_1 rfl rfl ?_
  refine g_iconst (v := 1) ok dX7_why_2 (by decide +kernel) ?_
  refine g_cV3 ok dX7_why_3 mv_X7_154 (c_X7_refusal X _ _ _ _ ⟨by omega, by omega⟩ (by first | omega | exact bI_in.1) (by first | omega | exact bI_in.2)) rfl (Vd.one rfl) rfl rfl (by decide) rfl (Nat.le_of_ble_eq_true rfl) (fun q1 => ?_) (fun q1 => ?_) (fun q1 => ?_)
  · skip
    refine g_lstore_n ok dX7_why_6 rfl (Nat.le_of_ble_eq_true rfl) ?_
    refine g_lload_n ok dX7_why_7 rfl rfl ?_
    refine g_lconst (v := 0) ok dX7_why_8 (by decide +kernel) ?_
    refine g_lcmp_eq (tgt := 15) ok dX7_why_9 dX7_why_10 (by decide) ⟨by omega, by omega⟩ ⟨by omega, by omega⟩ (fun c2 => ?_) (fun c2 => ?_)
    · skip
      exfalso
      omega
    · skip
      refine g_lload_n ok dX7_why_13 rfl rfl ?_
      exact g_lret ok hq dX7_why_14 (ansL (by (simp only [rc_why, BAD, NO, FULL, NONE, NOTHING, INDEX, SIZE] <;> (repeat (first | rw [if_pos (by omega)] | rw [if_neg (by omega)])) <;> omega)) (by rfl))
  · skip
    refine g_lstore_n ok dX7_why_6 rfl (Nat.le_of_ble_eq_true rfl) ?_
    refine g_lload_n ok dX7_why_7 rfl rfl ?_
    refine g_lconst (v := 0) ok dX7_why_8 (by decide +kernel) ?_
    refine g_lcmp_eq (tgt := 15) ok dX7_why_9 dX7_why_10 (by decide) ⟨by omega, by omega⟩ ⟨by omega, by omega⟩ (fun c3 => ?_) (fun c3 => ?_)
    · skip
      exfalso
      omega
    · skip
      refine g_lload_n ok dX7_why_13 rfl rfl ?_
      exact g_lret ok hq dX7_why_14 (ansL (by (simp only [rc_why, BAD, NO, FULL, NONE, NOTHING, INDEX, SIZE] <;> (repeat (first | rw [if_pos (by omega)] | rw [if_neg (by omega)])) <;> omega)) (by rfl))
  · skip
    refine g_lstore_n ok dX7_why_6 rfl (Nat.le_of_ble_eq_true rfl) ?_
    refine g_lload_n ok dX7_why_7 rfl rfl ?_
    refine g_lconst (v := 0) ok dX7_why_8 (by decide +kernel) ?_
    refine g_lcmp_eq (tgt := 15) ok dX7_why_9 dX7_why_10 (by decide) ⟨by omega, by omega⟩ ⟨by omega, by omega⟩ (fun c4 => ?_) (fun c4 => ?_)
    · skip
      refine g_aload_n ok dX7_why_15 rfl rfl ?_
      refine g_getr ok dX7_why_16 fl_X7_12 (Vd.one rfl) rfl rfl ?_
      refine g_aload_n ok dX7_why_19 rfl rfl ?_
      refine g_getr ok dX7_why_20 fl_X7_25 (Vd.one rfl) rfl rfl ?_
      refine g_iload_n ok dX7_why_23 rfl rfl ?_
      refine g_aald ok dX7_why_24 (Vd.one rfl) (fun _ => rfl) ⟨by omega, by omega⟩ rfl ?_
      refine g_cV ok dX7_why_25 mv_X7_185 (c_X3_firstFault X _ _ _ (by omega) (by omega) hS hK hL hT) rfl (Vd.one rfl) rfl rfl (by decide) rfl (Nat.le_of_ble_eq_true rfl) ?_
      exact g_lret ok hq dX7_why_28 (ansL (by (simp only [rc_why, BAD, NO, FULL, NONE, NOTHING, INDEX, SIZE] <;> (repeat (first | rw [if_pos (by omega)] | rw [if_neg (by omega)])) <;> omega)) (by rfl))
    · skip
      exfalso
      omega

set_option maxRecDepth 100000 in
set_option maxHeartbeats 4000000 in
theorem c_X7_money (X : XW) (l : Launch) (σ : Mm) (z1 z2 : Int) (rz1 : R32 z1) (rz2 : R32 z2) (hS : CS σ) (hT : CT σ) (hL : CL σ) (hP : CP σ) : Ct X l yX7_money cX7_money 5 (Option.some FieldType.long) 3 72 σ [.inr (.inr (0, 0)), .inl z1, .inl z2] (Ans (some (.inr (.inl (rc_money σ z1 z2)))) (σ)) := by
  refine Ct.intro (own := RX7) (by decide) rfl (Nat.le_of_ble_eq_true rfl) (fun M hM ok hq => ?_)
  subst hM
  have rz1l := rz1.1
  have rz1r := rz1.2
  have rz2l := rz2.1
  have rz2r := rz2.2
  show G X M cX7_money 5 σ 0 [(0, .inr (.inr (0, 0))), (1, .inl z1), (2, .inl z2)] []
  have aT := hT.1
  have aT2 := hT.2
  have hb := bI_1 (c := 0 ≤ z2 ∧ z2 ≤ 3)
  have hb2 := bI_in (c := 0 ≤ z2 ∧ z2 ≤ 3)
  refine g_aload_n ok dX7_money_0 rfl rfl ?_
  refine g_iload_n ok dX7_money_1 rfl rfl ?_
  refine g_iload_n ok dX7_money_2 rfl rfl ?_
  refine g_cS ok dX7_money_3 ms_X7_90 (c_X7_isWorld X _ _ _ ⟨by omega, by omega⟩) rfl (by decide) rfl (Nat.le_of_ble_eq_true rfl) ?_
  refine g_cV3 ok dX7_money_6 mv_X7_154 (c_X7_refusal X _ _ _ _ ⟨by omega, by omega⟩ (by first | omega | exact bI_in.1) (by first | omega | exact bI_in.2)) rfl (Vd.one rfl) rfl rfl (by decide) rfl (Nat.le_of_ble_eq_true rfl) (fun q1 => ?_) (fun q1 => ?_) (fun q1 => ?_)
  · skip
    refine g_lstore_n ok dX7_money_9 rfl (Nat.le_of_ble_eq_true rfl) ?_
    refine g_lload_n ok dX7_money_10 rfl rfl ?_
    refine g_lconst (v := 0) ok dX7_money_11 (by decide +kernel) ?_
    refine g_lcmp_eq (tgt := 18) ok dX7_money_12 dX7_money_13 (by decide) ⟨by omega, by omega⟩ ⟨by omega, by omega⟩ (fun c2 => ?_) (fun c2 => ?_)
    · skip
      exfalso
      omega
    · skip
      refine g_lload_n ok dX7_money_16 rfl rfl ?_
      exact g_lret ok hq dX7_money_17 (ansL (by (simp only [rc_money, BAD, NO, FULL, NONE, NOTHING, INDEX, SIZE] <;> (repeat (first | rw [if_pos (by omega)] | rw [if_neg (by omega)])) <;> omega)) (by rfl))
  · skip
    refine g_lstore_n ok dX7_money_9 rfl (Nat.le_of_ble_eq_true rfl) ?_
    refine g_lload_n ok dX7_money_10 rfl rfl ?_
    refine g_lconst (v := 0) ok dX7_money_11 (by decide +kernel) ?_
    refine g_lcmp_eq (tgt := 18) ok dX7_money_12 dX7_money_13 (by decide) ⟨by omega, by omega⟩ ⟨by omega, by omega⟩ (fun c3 => ?_) (fun c3 => ?_)
    · skip
      exfalso
      omega
    · skip
      refine g_lload_n ok dX7_money_16 rfl rfl ?_
      exact g_lret ok hq dX7_money_17 (ansL (by (simp only [rc_money, BAD, NO, FULL, NONE, NOTHING, INDEX, SIZE] <;> (repeat (first | rw [if_pos (by omega)] | rw [if_neg (by omega)])) <;> omega)) (by rfl))
  · skip
    refine g_lstore_n ok dX7_money_9 rfl (Nat.le_of_ble_eq_true rfl) ?_
    refine g_lload_n ok dX7_money_10 rfl rfl ?_
    refine g_lconst (v := 0) ok dX7_money_11 (by decide +kernel) ?_
    refine g_lcmp_eq (tgt := 18) ok dX7_money_12 dX7_money_13 (by decide) ⟨by omega, by omega⟩ ⟨by omega, by omega⟩ (fun c4 => ?_) (fun c4 => ?_)
    · skip
      refine g_aload_n ok dX7_money_18 rfl rfl ?_
      refine g_getr ok dX7_money_19 fl_X7_25 (Vd.one rfl) rfl rfl ?_
      refine g_iload_n ok dX7_money_22 rfl rfl ?_
      refine g_aald ok dX7_money_23 (Vd.one rfl) (fun _ => rfl) ⟨by omega, by omega⟩ rfl ?_
      refine g_aload_n ok dX7_money_24 rfl rfl ?_
      refine g_getr ok dX7_money_25 fl_X7_18 (Vd.one rfl) rfl rfl ?_
      refine g_iload_n ok dX7_money_28 rfl rfl ?_
      refine g_aald ok dX7_money_29 (Vd.one rfl) (fun _ => rfl) ⟨by omega, by omega⟩ rfl ?_
      refine g_aload_n ok dX7_money_30 rfl rfl ?_
      refine g_getr ok dX7_money_31 fl_X7_12 (Vd.one rfl) rfl rfl ?_
      refine g_geti (z := 0) ok dX7_money_34 fl_X7_68 (Vd.one rfl) rfl rfl rfl (fun h5 h6 => ?_)
      refine g_cV ok dX7_money_37 mv_X7_189 (c_X0_planMoney X _ _ _ _ _ (by omega) (by omega) (by omega) (by omega) (by omega) (by omega) hS hP hL) rfl (Vd.four rfl (by omega) (by omega)) rfl rfl (by decide) rfl (Nat.le_of_ble_eq_true rfl) ?_
      exact g_lret ok hq dX7_money_40 (ansL (by (simp only [rc_money, BAD, NO, FULL, NONE, NOTHING, INDEX, SIZE] <;> (repeat (first | rw [if_pos (by omega)] | rw [if_neg (by omega)])) <;> omega)) (by rfl))
    · skip
      exfalso
      omega

set_option maxRecDepth 100000 in
set_option maxHeartbeats 4000000 in
theorem c_X7_worst (X : XW) (l : Launch) (σ : Mm) (z1 z2 : Int) (rz1 : R32 z1) (rz2 : R32 z2) (hS : CS σ) (hT : CT σ) (hL : CL σ) (hP : CP σ) : Ct X l yX7_worst cX7_worst 10 (Option.some FieldType.long) 3 72 σ [.inr (.inr (0, 0)), .inl z1, .inl z2] (Ans (some (.inr (.inl (rc_worst σ z1 z2)))) (σ)) := by
  refine Ct.intro (own := RX7) (by decide) rfl (Nat.le_of_ble_eq_true rfl) (fun M hM ok hq => ?_)
  subst hM
  have rz1l := rz1.1
  have rz1r := rz1.2
  have rz2l := rz2.1
  have rz2r := rz2.2
  show G X M cX7_worst 10 σ 0 [(0, .inr (.inr (0, 0))), (1, .inl z1), (2, .inl z2)] []
  have aT := hT.1
  have aT2 := hT.2
  have hb := bI_1 (c := 1 ≤ z2 ∧ z2 ≤ 15)
  have hb2 := bI_in (c := 1 ≤ z2 ∧ z2 ≤ 15)
  have hN : NONE = -9000000000000000005 := rfl
  refine g_aload_n ok dX7_worst_0 rfl rfl ?_
  refine g_iload_n ok dX7_worst_1 rfl rfl ?_
  refine g_iload_n ok dX7_worst_2 rfl rfl ?_
  refine g_cS ok dX7_worst_3 ms_X7_193 (c_X7_areWorlds X _ _ _ ⟨by omega, by omega⟩) rfl (by decide) rfl (Nat.le_of_ble_eq_true rfl) ?_
  refine g_cV3 ok dX7_worst_6 mv_X7_154 (c_X7_refusal X _ _ _ _ ⟨by omega, by omega⟩ (by first | omega | exact bI_in.1) (by first | omega | exact bI_in.2)) rfl (Vd.one rfl) rfl rfl (by decide) rfl (Nat.le_of_ble_eq_true rfl) (fun q1 => ?_) (fun q1 => ?_) (fun q1 => ?_)
  · skip
    refine g_lstore_n ok dX7_worst_9 rfl (Nat.le_of_ble_eq_true rfl) ?_
    refine g_lload_n ok dX7_worst_10 rfl rfl ?_
    refine g_lconst (v := 0) ok dX7_worst_11 (by decide +kernel) ?_
    refine g_lcmp_eq (tgt := 18) ok dX7_worst_12 dX7_worst_13 (by decide) ⟨by omega, by omega⟩ ⟨by omega, by omega⟩ (fun c2 => ?_) (fun c2 => ?_)
    · skip
      exfalso
      omega
    · skip
      refine g_lload_n ok dX7_worst_16 rfl rfl ?_
      exact g_lret ok hq dX7_worst_17 (ansL (by (simp only [rc_worst, BAD, NO, FULL, NONE, NOTHING, INDEX, SIZE] <;> (repeat (first | rw [if_pos (by omega)] | rw [if_neg (by omega)])) <;> omega)) (by rfl))
  · skip
    refine g_lstore_n ok dX7_worst_9 rfl (Nat.le_of_ble_eq_true rfl) ?_
    refine g_lload_n ok dX7_worst_10 rfl rfl ?_
    refine g_lconst (v := 0) ok dX7_worst_11 (by decide +kernel) ?_
    refine g_lcmp_eq (tgt := 18) ok dX7_worst_12 dX7_worst_13 (by decide) ⟨by omega, by omega⟩ ⟨by omega, by omega⟩ (fun c3 => ?_) (fun c3 => ?_)
    · skip
      exfalso
      omega
    · skip
      refine g_lload_n ok dX7_worst_16 rfl rfl ?_
      exact g_lret ok hq dX7_worst_17 (ansL (by (simp only [rc_worst, BAD, NO, FULL, NONE, NOTHING, INDEX, SIZE] <;> (repeat (first | rw [if_pos (by omega)] | rw [if_neg (by omega)])) <;> omega)) (by rfl))
  · skip
    refine g_lstore_n ok dX7_worst_9 rfl (Nat.le_of_ble_eq_true rfl) ?_
    refine g_lload_n ok dX7_worst_10 rfl rfl ?_
    refine g_lconst (v := 0) ok dX7_worst_11 (by decide +kernel) ?_
    refine g_lcmp_eq (tgt := 18) ok dX7_worst_12 dX7_worst_13 (by decide) ⟨by omega, by omega⟩ ⟨by omega, by omega⟩ (fun c4 => ?_) (fun c4 => ?_)
    · skip
      refine g_ldc2 (v := -9000000000000000005) ok dX7_worst_18 wd2_227 (by decide +kernel) ?_
      refine g_lstore ok dX7_worst_21 (Nat.le_of_ble_eq_true rfl) ?_
      refine g_iconst (v := 0) ok dX7_worst_23 (by decide +kernel) ?_
      refine g_istore ok dX7_worst_24 (Nat.le_of_ble_eq_true rfl) ?_
      have L26 : ∀ (n : Nat) (k : Int) (c : Int), (0 ≤ k) → (k ≤ 4) → (c = cLe z2 (fun w => mnC σ z1 w (σ 1 0 0)) k.toNat) → (c = -9000000000000000005 ∨ (-288000000 ≤ c ∧ c ≤ 288000000)) → (4 - k < n) → G X M cX7_worst 10 σ 26 [(0, .inr (.inr (0, 0))), (1, .inl z1), (2, .inl z2), (5, .inr (.inl c)), (7, .inl k)] [] := by
        intro n
        induction n with
        | zero => intro k c hk0 hk1 hc hb3 hm; exact absurd hm (by omega)
        | succ n L26ih =>
          intro k c hk0 hk1 hc hb3 hm
          refine g_iload ok dX7_worst_26 rfl ?_
          refine g_iconst (v := 4) ok dX7_worst_28 (by decide +kernel) ?_
          refine g_icmp_ge (tgt := 95) ok dX7_worst_29 (by decide) ⟨by omega, by omega⟩ ⟨by omega, by omega⟩ (fun c5 => ?_) (fun c5 => ?_)
          · skip
            refine g_lload ok dX7_worst_95 rfl ?_
            exact g_lret ok hq dX7_worst_97 (ansL (by (unfold rc_worst; rw [if_pos (by omega), if_neg (by omega), hc, show k = 4 by omega]; rfl)) (by rfl))
          · skip
            refine g_iload_n ok dX7_worst_32 rfl rfl ?_
            refine g_iload ok dX7_worst_33 rfl ?_
            refine g_cS ok dX7_worst_35 ms_X7_198 (c_X7_hasWorld X _ _ _ _ ⟨by omega, by omega⟩ ⟨by omega, by omega⟩) rfl (by decide) rfl (Nat.le_of_ble_eq_true rfl) ?_
            refine g_ifb_eq (tgt := 89) ok dX7_worst_38 (by decide) (fun c6 => ?_) (fun c6 => ?_)
            · skip
              refine g_iinc ok dX7_worst_89 rfl rfl (Nat.le_of_ble_eq_true rfl) ?_
              refine g_goto (tgt := 26) ok dX7_worst_92 (by decide) ?_
              refine G.norm [(0, .inr (.inr (0, 0))), (1, .inl z1), (2, .inl z2), (5, .inr (.inl _)), (7, .inl _)] ⟨rfl, rfl, rfl, rfl, rfl, trivial⟩ (L26ih _ _ ?_ ?_ ?_ ?_ ?_)
              · omega
              · omega
              · (rw [show (k + 1).toNat = k.toNat + 1 by omega]; unfold cLe; rw [Int.toNat_of_nonneg hk0]; first | (rw [if_neg (by assumption)]; exact hc) | (rw [if_pos (by assumption), ← hc, if_pos (by omega)]) | (rw [if_pos (by assumption), ← hc, if_neg (by omega)]))
              · omega
              · omega
            · skip
              refine g_aload_n ok dX7_worst_41 rfl rfl ?_
              refine g_getr ok dX7_worst_42 fl_X7_25 (Vd.one rfl) rfl rfl ?_
              refine g_iload_n ok dX7_worst_45 rfl rfl ?_
              refine g_aald ok dX7_worst_46 (Vd.one rfl) (fun _ => rfl) ⟨by omega, by omega⟩ rfl ?_
              refine g_aload_n ok dX7_worst_47 rfl rfl ?_
              refine g_getr ok dX7_worst_48 fl_X7_18 (Vd.one rfl) rfl rfl ?_
              refine g_iload ok dX7_worst_51 rfl ?_
              refine g_aald ok dX7_worst_53 (Vd.one rfl) (fun _ => rfl) ⟨by omega, by omega⟩ rfl ?_
              refine g_aload_n ok dX7_worst_54 rfl rfl ?_
              refine g_getr ok dX7_worst_55 fl_X7_12 (Vd.one rfl) rfl rfl ?_
              refine g_geti (z := 0) ok dX7_worst_58 fl_X7_68 (Vd.one rfl) rfl rfl rfl (fun h7 h8 => ?_)
              refine g_cV ok dX7_worst_61 mv_X7_189 (c_X0_planMoney X _ _ _ _ _ (by omega) (by omega) (by omega) (by omega) (by omega) (by omega) hS hP hL) rfl (Vd.four rfl (by omega) (by omega)) rfl rfl (by decide) rfl (Nat.le_of_ble_eq_true rfl) ?_
              have aM := mnC_b hS hL hP z1 k (T := σ 1 0 0) (by omega) (by omega)
              refine g_lstore ok dX7_worst_64 (Nat.le_of_ble_eq_true rfl) ?_
              refine g_lload ok dX7_worst_66 rfl ?_
              refine g_ldc2 (v := -9000000000000000005) ok dX7_worst_68 wd2_227 (by decide +kernel) ?_
              refine g_lcmp_ne (tgt := 80) ok dX7_worst_71 dX7_worst_72 (by decide) ⟨by omega, by omega⟩ ⟨by omega, by omega⟩ (fun c9 => ?_) (fun c9 => ?_)
              · skip
                refine g_lload ok dX7_worst_80 rfl ?_
                refine g_lload ok dX7_worst_82 rfl ?_
                refine g_minL ok dX7_worst_84 wd2_231 wd2_232 wd1_12 wd2_233 ⟨Nat.le_of_ble_eq_true rfl, Nat.le_of_ble_eq_true rfl⟩ ⟨by omega, by omega⟩ ⟨by omega, by omega⟩ ?_
                refine g_lstore ok dX7_worst_87 (Nat.le_of_ble_eq_true rfl) ?_
                refine g_iinc ok dX7_worst_89 rfl rfl (Nat.le_of_ble_eq_true rfl) ?_
                refine g_goto (tgt := 26) ok dX7_worst_92 (by decide) ?_
                refine G.norm [(0, .inr (.inr (0, 0))), (1, .inl z1), (2, .inl z2), (5, .inr (.inl _)), (7, .inl _)] ⟨rfl, rfl, rfl, rfl, rfl, trivial⟩ (L26ih _ _ ?_ ?_ ?_ ?_ ?_)
                · omega
                · omega
                · (rw [show (k + 1).toNat = k.toNat + 1 by omega]; unfold cLe; rw [Int.toNat_of_nonneg hk0]; first | (rw [if_neg (by assumption)]; exact hc) | (rw [if_pos (by assumption), ← hc, if_pos (by omega)]) | (rw [if_pos (by assumption), ← hc, if_neg (by omega)]))
                · omega
                · omega
              · skip
                refine g_lload ok dX7_worst_75 rfl ?_
                refine g_goto (tgt := 87) ok dX7_worst_77 (by decide) ?_
                refine g_lstore ok dX7_worst_87 (Nat.le_of_ble_eq_true rfl) ?_
                refine g_iinc ok dX7_worst_89 rfl rfl (Nat.le_of_ble_eq_true rfl) ?_
                refine g_goto (tgt := 26) ok dX7_worst_92 (by decide) ?_
                refine G.norm [(0, .inr (.inr (0, 0))), (1, .inl z1), (2, .inl z2), (5, .inr (.inl _)), (7, .inl _)] ⟨rfl, rfl, rfl, rfl, rfl, trivial⟩ (L26ih _ _ ?_ ?_ ?_ ?_ ?_)
                · omega
                · omega
                · (rw [show (k + 1).toNat = k.toNat + 1 by omega]; unfold cLe; rw [Int.toNat_of_nonneg hk0]; first | (rw [if_neg (by assumption)]; exact hc) | (rw [if_pos (by assumption), ← hc, if_pos (by omega)]) | (rw [if_pos (by assumption), ← hc, if_neg (by omega)]))
                · omega
                · omega
      refine G.norm [(0, .inr (.inr (0, 0))), (1, .inl z1), (2, .inl z2), (5, .inr (.inl _)), (7, .inl _)] ⟨rfl, rfl, rfl, rfl, rfl, trivial⟩ (L26 (5 : Nat) _ _ ?_ ?_ ?_ ?_ ?_)
      · omega
      · omega
      · rfl
      · omega
      · omega
    · skip
      exfalso
      omega

set_option maxRecDepth 100000 in
set_option maxHeartbeats 4000000 in
theorem c_X7_bid (X : XW) (l : Launch) (σ : Mm) (z1 z2 z3 z4 : Int) (rz1 : R32 z1) (rz2 : R32 z2) (rz3 : R32 z3) (rz4 : R32 z4) (hT : CT σ) (hD : CD σ) : Ct X l yX7_bid cX7_bid 5 (Option.some FieldType.long) 2 43 σ [.inr (.inr (0, 0)), .inl z1, .inl z2, .inl z3, .inl z4] (Ans (some (.inr (.inl (rc_bid σ z1 z2 z3 z4)))) (sc_bid σ z1 z2 z3 z4)) := by
  refine Ct.intro (own := RX7) (by decide) rfl (Nat.le_of_ble_eq_true rfl) (fun M hM ok hq => ?_)
  subst hM
  have rz1l := rz1.1
  have rz1r := rz1.2
  have rz2l := rz2.1
  have rz2r := rz2.2
  have rz3l := rz3.1
  have rz3r := rz3.2
  have rz4l := rz4.1
  have rz4r := rz4.2
  show G X M cX7_bid 5 σ 0 [(0, .inr (.inr (0, 0))), (1, .inl z1), (2, .inl z2), (3, .inl z3), (4, .inl z4)] []
  have aT := hT.1
  have aT2 := hT.2
  have aD := hD.1
  refine g_aload_n ok dX7_bid_0 rfl rfl ?_
  refine g_iload_n ok dX7_bid_1 rfl rfl ?_
  refine g_cV ok dX7_bid_2 mv_X7_176 (c_X7_isStepNow X _ _ _ ⟨by omega, by omega⟩ hT) rfl (Vd.one rfl) rfl rfl (by decide) rfl (Nat.le_of_ble_eq_true rfl) ?_
  refine g_ifb_eq (tgt := 21) ok dX7_bid_5 (by decide) (fun c1 => ?_) (fun c1 => ?_)
  · skip
    refine g_ldc2 (v := -9000000000000000001) ok dX7_bid_21 wd2_31 (by decide +kernel) ?_
    exact g_lret ok hq dX7_bid_24 (ansL (by (simp only [rc_bid, BAD, NO, FULL, NONE, NOTHING, INDEX, SIZE] <;> (repeat (first | rw [if_pos (by omega)] | rw [if_neg (by omega)])) <;> omega)) (by (simp only [sc_bid] <;> (repeat (first | rw [if_pos (by omega)] | rw [if_neg (by omega)])) <;> first | rfl | (congr 1; omega))))
  · skip
    refine g_aload_n ok dX7_bid_8 rfl rfl ?_
    refine g_iload_n ok dX7_bid_9 rfl rfl ?_
    refine g_cV ok dX7_bid_10 mv_X7_176 (c_X7_isStepNow X _ _ _ ⟨by omega, by omega⟩ hT) rfl (Vd.one rfl) rfl rfl (by decide) rfl (Nat.le_of_ble_eq_true rfl) ?_
    refine g_ifb_eq (tgt := 21) ok dX7_bid_13 (by decide) (fun c2 => ?_) (fun c2 => ?_)
    · skip
      refine g_ldc2 (v := -9000000000000000001) ok dX7_bid_21 wd2_31 (by decide +kernel) ?_
      exact g_lret ok hq dX7_bid_24 (ansL (by (simp only [rc_bid, BAD, NO, FULL, NONE, NOTHING, INDEX, SIZE] <;> (repeat (first | rw [if_pos (by omega)] | rw [if_neg (by omega)])) <;> omega)) (by (simp only [sc_bid] <;> (repeat (first | rw [if_pos (by omega)] | rw [if_neg (by omega)])) <;> first | rfl | (congr 1; omega))))
    · skip
      refine g_iload_n ok dX7_bid_16 rfl rfl ?_
      refine g_iload_n ok dX7_bid_17 rfl rfl ?_
      refine g_icmp_le (tgt := 25) ok dX7_bid_18 (by decide) ⟨by omega, by omega⟩ ⟨by omega, by omega⟩ (fun c3 => ?_) (fun c3 => ?_)
      · skip
        refine g_iload_n ok dX7_bid_25 rfl rfl ?_
        refine g_if_eq (tgt := 54) ok dX7_bid_26 (by decide) ⟨by omega, by omega⟩ (fun c4 => ?_) (fun c4 => ?_)
        · skip
          refine g_ldc2 (v := -9000000000000000001) ok dX7_bid_54 wd2_31 (by decide +kernel) ?_
          exact g_lret ok hq dX7_bid_57 (ansL (by (simp only [rc_bid, BAD, NO, FULL, NONE, NOTHING, INDEX, SIZE] <;> (repeat (first | rw [if_pos (by omega)] | rw [if_neg (by omega)])) <;> omega)) (by (simp only [sc_bid] <;> (repeat (first | rw [if_pos (by omega)] | rw [if_neg (by omega)])) <;> first | rfl | (congr 1; omega))))
        · skip
          refine g_iload_n ok dX7_bid_29 rfl rfl ?_
          refine g_bipush (v := -20) ok dX7_bid_30 (by decide +kernel) ?_
          refine g_bipush (v := 20) ok dX7_bid_32 (by decide +kernel) ?_
          refine g_cS ok dX7_bid_34 ms_X7_58 (c_X7_within X _ _ _ _ _ ⟨by omega, by omega⟩ ⟨by omega, by omega⟩ ⟨by omega, by omega⟩) rfl (by decide) rfl (Nat.le_of_ble_eq_true rfl) ?_
          refine g_ifb_eq (tgt := 54) ok dX7_bid_37 (by decide) (fun c5 => ?_) (fun c5 => ?_)
          · skip
            refine g_ldc2 (v := -9000000000000000001) ok dX7_bid_54 wd2_31 (by decide +kernel) ?_
            exact g_lret ok hq dX7_bid_57 (ansL (by (simp only [rc_bid, BAD, NO, FULL, NONE, NOTHING, INDEX, SIZE] <;> (repeat (first | rw [if_pos (by omega)] | rw [if_neg (by omega)])) <;> omega)) (by (simp only [sc_bid] <;> (repeat (first | rw [if_pos (by omega)] | rw [if_neg (by omega)])) <;> first | rfl | (congr 1; omega))))
          · skip
            refine g_iload ok dX7_bid_40 rfl ?_
            refine g_sipush (v := -10000) ok dX7_bid_42 (by decide +kernel) ?_
            refine g_sipush (v := 10000) ok dX7_bid_45 (by decide +kernel) ?_
            refine g_cS ok dX7_bid_48 ms_X7_58 (c_X7_within X _ _ _ _ _ ⟨by omega, by omega⟩ ⟨by omega, by omega⟩ ⟨by omega, by omega⟩) rfl (by decide) rfl (Nat.le_of_ble_eq_true rfl) ?_
            refine g_ifb_ne (tgt := 58) ok dX7_bid_51 (by decide) (fun c6 => ?_) (fun c6 => ?_)
            · skip
              refine g_aload_n ok dX7_bid_58 rfl rfl ?_
              refine g_getr ok dX7_bid_59 fl_X7_40 (Vd.one rfl) rfl rfl ?_
              refine g_geti (z := 0) ok dX7_bid_62 fl_X7_64 (Vd.one rfl) rfl rfl rfl (fun h7 h8 => ?_)
              refine g_bipush (v := 12) ok dX7_bid_65 (by decide +kernel) ?_
              refine g_icmp_lt (tgt := 74) ok dX7_bid_67 (by decide) ⟨by omega, by omega⟩ ⟨by omega, by omega⟩ (fun c9 => ?_) (fun c9 => ?_)
              · skip
                refine g_aload_n ok dX7_bid_74 rfl rfl ?_
                refine g_getr ok dX7_bid_75 fl_X7_40 (Vd.one rfl) rfl rfl ?_
                refine g_iload_n ok dX7_bid_78 rfl rfl ?_
                refine g_iload_n ok dX7_bid_79 rfl rfl ?_
                refine g_iload_n ok dX7_bid_80 rfl rfl ?_
                refine g_iload ok dX7_bid_81 rfl ?_
                refine g_cV ok dX7_bid_83 mv_X7_230 (c_X1_add X _ _ _ _ _ _ ⟨by omega, by omega⟩ ⟨by omega, by omega⟩ ⟨by omega, by omega⟩ ⟨by omega, by omega⟩ (by omega)) rfl (Vd.one rfl) rfl rfl (by decide) rfl (Nat.le_of_ble_eq_true rfl) ?_
                refine g_i2l ok dX7_bid_86 ⟨by omega, by omega⟩ ?_
                exact g_lret ok hq dX7_bid_87 (ansL (by (simp only [rc_bid, BAD, NO, FULL, NONE, NOTHING, INDEX, SIZE] <;> (repeat (first | rw [if_pos (by omega)] | rw [if_neg (by omega)])) <;> omega)) (by (simp only [sc_bid] <;> (repeat (first | rw [if_pos (by omega)] | rw [if_neg (by omega)])) <;> first | rfl | (congr 1; omega))))
              · skip
                refine g_ldc2 (v := -9000000000000000003) ok dX7_bid_70 wd3_83 (by decide +kernel) ?_
                exact g_lret ok hq dX7_bid_73 (ansL (by (simp only [rc_bid, BAD, NO, FULL, NONE, NOTHING, INDEX, SIZE] <;> (repeat (first | rw [if_pos (by omega)] | rw [if_neg (by omega)])) <;> omega)) (by (simp only [sc_bid] <;> (repeat (first | rw [if_pos (by omega)] | rw [if_neg (by omega)])) <;> first | rfl | (congr 1; omega))))
            · skip
              refine g_ldc2 (v := -9000000000000000001) ok dX7_bid_54 wd2_31 (by decide +kernel) ?_
              exact g_lret ok hq dX7_bid_57 (ansL (by (simp only [rc_bid, BAD, NO, FULL, NONE, NOTHING, INDEX, SIZE] <;> (repeat (first | rw [if_pos (by omega)] | rw [if_neg (by omega)])) <;> omega)) (by (simp only [sc_bid] <;> (repeat (first | rw [if_pos (by omega)] | rw [if_neg (by omega)])) <;> first | rfl | (congr 1; omega))))
      · skip
        refine g_ldc2 (v := -9000000000000000001) ok dX7_bid_21 wd2_31 (by decide +kernel) ?_
        exact g_lret ok hq dX7_bid_24 (ansL (by (simp only [rc_bid, BAD, NO, FULL, NONE, NOTHING, INDEX, SIZE] <;> (repeat (first | rw [if_pos (by omega)] | rw [if_neg (by omega)])) <;> omega)) (by (simp only [sc_bid] <;> (repeat (first | rw [if_pos (by omega)] | rw [if_neg (by omega)])) <;> first | rfl | (congr 1; omega))))

set_option maxRecDepth 100000 in
set_option maxHeartbeats 4000000 in
theorem c_X7_unbid (X : XW) (l : Launch) (σ : Mm)  (hD : CD σ) : Ct X l yX7_unbid cX7_unbid 1 (Option.some FieldType.long) 0 0 σ [.inr (.inr (0, 0))] (Ans (some (.inr (.inl (rc_unbid σ)))) (sc_unbid σ)) := by
  refine Ct.intro (own := RX7) (by decide) rfl (Nat.le_of_ble_eq_true rfl) (fun M hM ok hq => ?_)
  subst hM
  show G X M cX7_unbid 1 σ 0 [(0, .inr (.inr (0, 0)))] []
  have aD := hD.1
  refine g_aload_n ok dX7_unbid_0 rfl rfl ?_
  refine g_getr ok dX7_unbid_1 fl_X7_40 (Vd.one rfl) rfl rfl ?_
  refine g_geti (z := 0) ok dX7_unbid_4 fl_X7_64 (Vd.one rfl) rfl rfl rfl (fun h1 h2 => ?_)
  refine g_if_gt (tgt := 14) ok dX7_unbid_7 (by decide) ⟨by omega, by omega⟩ (fun c3 => ?_) (fun c3 => ?_)
  · skip
    refine g_aload_n ok dX7_unbid_14 rfl rfl ?_
    refine g_getr ok dX7_unbid_15 fl_X7_40 (Vd.one rfl) rfl rfl ?_
    refine g_dup ok dX7_unbid_18 rfl ?_
    refine g_geti (z := 0) ok dX7_unbid_19 fl_X7_64 (Vd.one rfl) rfl rfl rfl (fun h4 h5 => ?_)
    refine g_iconst (v := 1) ok dX7_unbid_22 (by decide +kernel) ?_
    refine g_isub ok dX7_unbid_23 ?_
    refine g_puti (z := 0) ok dX7_unbid_24 fw_X7_64 (Vd.one rfl) rfl rfl (Nat.le_of_ble_eq_true rfl) rfl ⟨by omega, by omega⟩ ?_
    refine g_aload_n ok dX7_unbid_27 rfl rfl ?_
    refine g_getr ok dX7_unbid_28 fl_X7_40 (Vd.one rfl) rfl rfl ?_
    refine g_geti3 (σ 15 0 0 - 1) (z := 0) ok dX7_unbid_31 fl_X7_64 (Vd.one rfl) rfl rfl rfl (by rfl) (fun h6 h7 => ?_)
    refine g_i2l ok dX7_unbid_34 ⟨by omega, by omega⟩ ?_
    exact g_lret ok hq dX7_unbid_35 (ansL (by (simp only [rc_unbid, BAD, NO, FULL, NONE, NOTHING, INDEX, SIZE] <;> (repeat (first | rw [if_pos (by omega)] | rw [if_neg (by omega)])) <;> omega)) (by (simp only [sc_unbid] <;> (repeat (first | rw [if_pos (by omega)] | rw [if_neg (by omega)])) <;> first | rfl | (congr 1; omega))))
  · skip
    refine g_ldc2 (v := -9000000000000000002) ok dX7_unbid_10 wd2_86 (by decide +kernel) ?_
    exact g_lret ok hq dX7_unbid_13 (ansL (by (simp only [rc_unbid, BAD, NO, FULL, NONE, NOTHING, INDEX, SIZE] <;> (repeat (first | rw [if_pos (by omega)] | rw [if_neg (by omega)])) <;> omega)) (by (simp only [sc_unbid] <;> (repeat (first | rw [if_pos (by omega)] | rw [if_neg (by omega)])) <;> first | rfl | (congr 1; omega))))

set_option maxRecDepth 100000 in
set_option maxHeartbeats 4000000 in
theorem c_X7_taken (X : XW) (l : Launch) (σ : Mm) (z1 z2 : Int) (rz1 : R32 z1) (rz2 : R32 z2) (hP : CP σ) (hD : CD σ) : Ct X l yX7_taken cX7_taken 3 (Option.some FieldType.long) 3 67 σ [.inr (.inr (0, 0)), .inl z1, .inl z2] (Ans (some (.inr (.inl (rc_taken σ z1 z2)))) (σ)) := by
  refine Ct.intro (own := RX7) (by decide) rfl (Nat.le_of_ble_eq_true rfl) (fun M hM ok hq => ?_)
  subst hM
  have rz1l := rz1.1
  have rz1r := rz1.2
  have rz2l := rz2.1
  have rz2r := rz2.2
  show G X M cX7_taken 3 σ 0 [(0, .inr (.inr (0, 0))), (1, .inl z1), (2, .inl z2)] []
  have aD := hD.1
  refine g_iload_n ok dX7_taken_0 rfl rfl ?_
  refine g_iconst (v := 0) ok dX7_taken_1 (by decide +kernel) ?_
  refine g_aload_n ok dX7_taken_2 rfl rfl ?_
  refine g_getr ok dX7_taken_3 fl_X7_40 (Vd.one rfl) rfl rfl ?_
  refine g_geti (z := 0) ok dX7_taken_6 fl_X7_64 (Vd.one rfl) rfl rfl rfl (fun h1 h2 => ?_)
  refine g_iconst (v := 1) ok dX7_taken_9 (by decide +kernel) ?_
  refine g_isub ok dX7_taken_10 ?_
  refine g_cS ok dX7_taken_11 ms_X7_58 (c_X7_within X _ _ _ _ _ ⟨by omega, by omega⟩ ⟨by omega, by omega⟩ ⟨by omega, by omega⟩) rfl (by decide) rfl (Nat.le_of_ble_eq_true rfl) ?_
  refine g_ifb_eq (tgt := 24) ok dX7_taken_14 (by decide) (fun c3 => ?_) (fun c3 => ?_)
  · skip
    refine g_ldc2 (v := -9000000000000000001) ok dX7_taken_24 wd2_31 (by decide +kernel) ?_
    exact g_lret ok hq dX7_taken_27 (ansL (by (simp only [rc_taken, BAD] <;> first | (rw [if_pos (by omega)]) | (rw [if_neg (by omega)]))) (by rfl))
  · skip
    refine g_iload_n ok dX7_taken_17 rfl rfl ?_
    refine g_cS ok dX7_taken_18 ms_X7_90 (c_X7_isWorld X _ _ _ ⟨by omega, by omega⟩) rfl (by decide) rfl (Nat.le_of_ble_eq_true rfl) ?_
    refine g_ifb_ne (tgt := 28) ok dX7_taken_21 (by decide) (fun c4 => ?_) (fun c4 => ?_)
    · skip
      refine g_aload_n ok dX7_taken_28 rfl rfl ?_
      refine g_getr ok dX7_taken_29 fl_X7_40 (Vd.one rfl) rfl rfl ?_
      refine g_iload_n ok dX7_taken_32 rfl rfl ?_
      refine g_aload_n ok dX7_taken_33 rfl rfl ?_
      refine g_getr ok dX7_taken_34 fl_X7_18 (Vd.one rfl) rfl rfl ?_
      refine g_iload_n ok dX7_taken_37 rfl rfl ?_
      refine g_aald ok dX7_taken_38 (Vd.one rfl) (fun _ => rfl) ⟨by omega, by omega⟩ rfl ?_
      refine g_cV ok dX7_taken_39 mv_X7_234 (c_X1_isTaken X _ _ _ _ (by omega) (by omega) (by omega) (by omega) hP hD) rfl (Vd.one rfl) rfl rfl (by decide) rfl (Nat.le_of_ble_eq_true rfl) ?_
      refine g_cS ok dX7_taken_42 ms_X7_82 (c_X7_oneIf X _ _ _ (by first | omega | exact bI_in.1) (by first | omega | exact bI_in.2)) rfl (by decide) rfl (Nat.le_of_ble_eq_true rfl) ?_
      exact g_lret ok hq dX7_taken_45 (ansL (by (simp only [rc_taken, BAD] <;> first | (rw [if_pos (by omega)]) | (rw [if_neg (by omega)]))) (by rfl))
    · skip
      refine g_ldc2 (v := -9000000000000000001) ok dX7_taken_24 wd2_31 (by decide +kernel) ?_
      exact g_lret ok hq dX7_taken_27 (ansL (by (simp only [rc_taken, BAD] <;> first | (rw [if_pos (by omega)]) | (rw [if_neg (by omega)]))) (by rfl))

set_option maxRecDepth 100000 in
set_option maxHeartbeats 4000000 in
theorem c_X7_wanted (X : XW) (l : Launch) (σ : Mm) (z1 z2 : Int) (rz1 : R32 z1) (rz2 : R32 z2) (hT : CT σ) (hP : CP σ) (hD : CD σ) : Ct X l yX7_wanted cX7_wanted 3 (Option.some FieldType.long) 4 91 σ [.inr (.inr (0, 0)), .inl z1, .inl z2] (Ans (some (.inr (.inl (rc_wanted σ z1 z2)))) (σ)) := by
  refine Ct.intro (own := RX7) (by decide) rfl (Nat.le_of_ble_eq_true rfl) (fun M hM ok hq => ?_)
  subst hM
  have rz1l := rz1.1
  have rz1r := rz1.2
  have rz2l := rz2.1
  have rz2r := rz2.2
  show G X M cX7_wanted 3 σ 0 [(0, .inr (.inr (0, 0))), (1, .inl z1), (2, .inl z2)] []
  have aT := hT.1
  have aT2 := hT.2
  have aW := waC_b hD z1 z2
  refine g_iload_n ok dX7_wanted_0 rfl rfl ?_
  refine g_cS ok dX7_wanted_1 ms_X7_90 (c_X7_isWorld X _ _ _ ⟨by omega, by omega⟩) rfl (by decide) rfl (Nat.le_of_ble_eq_true rfl) ?_
  refine g_ifb_ne (tgt := 11) ok dX7_wanted_4 (by decide) (fun c1 => ?_) (fun c1 => ?_)
  · skip
    refine g_aload_n ok dX7_wanted_11 rfl rfl ?_
    refine g_iload_n ok dX7_wanted_12 rfl rfl ?_
    refine g_cV ok dX7_wanted_13 mv_X7_176 (c_X7_isStepNow X _ _ _ ⟨by omega, by omega⟩ hT) rfl (Vd.one rfl) rfl rfl (by decide) rfl (Nat.le_of_ble_eq_true rfl) ?_
    refine g_ifb_ne (tgt := 23) ok dX7_wanted_16 (by decide) (fun c2 => ?_) (fun c2 => ?_)
    · skip
      refine g_aload_n ok dX7_wanted_23 rfl rfl ?_
      refine g_getr ok dX7_wanted_24 fl_X7_40 (Vd.one rfl) rfl rfl ?_
      refine g_aload_n ok dX7_wanted_27 rfl rfl ?_
      refine g_getr ok dX7_wanted_28 fl_X7_18 (Vd.one rfl) rfl rfl ?_
      refine g_iload_n ok dX7_wanted_31 rfl rfl ?_
      refine g_aald ok dX7_wanted_32 (Vd.one rfl) (fun _ => rfl) ⟨by omega, by omega⟩ rfl ?_
      refine g_iload_n ok dX7_wanted_33 rfl rfl ?_
      refine g_cV ok dX7_wanted_34 mv_X7_238 (c_X1_sumWanted X _ _ _ _ (by omega) (by omega) (by omega) (by omega) hP hD) rfl (Vd.one rfl) rfl rfl (by decide) rfl (Nat.le_of_ble_eq_true rfl) ?_
      refine g_i2l ok dX7_wanted_37 ⟨by omega, by omega⟩ ?_
      exact g_lret ok hq dX7_wanted_38 (ansL (by (simp only [rc_wanted, BAD, NO, FULL, NONE, NOTHING, INDEX, SIZE] <;> (repeat (first | rw [if_pos (by omega)] | rw [if_neg (by omega)])) <;> omega)) (by rfl))
    · skip
      refine g_ldc2 (v := -9000000000000000013) ok dX7_wanted_19 wd2_75 (by decide +kernel) ?_
      exact g_lret ok hq dX7_wanted_22 (ansL (by (simp only [rc_wanted, BAD, NO, FULL, NONE, NOTHING, INDEX, SIZE] <;> (repeat (first | rw [if_pos (by omega)] | rw [if_neg (by omega)])) <;> omega)) (by rfl))
  · skip
    refine g_ldc2 (v := -9000000000000000001) ok dX7_wanted_7 wd2_31 (by decide +kernel) ?_
    exact g_lret ok hq dX7_wanted_10 (ansL (by (simp only [rc_wanted, BAD, NO, FULL, NONE, NOTHING, INDEX, SIZE] <;> (repeat (first | rw [if_pos (by omega)] | rw [if_neg (by omega)])) <;> omega)) (by rfl))

theorem psC_b {σ : Mm} (hS : CS σ) (s v : Int) {c : Int} (h0 : σ 8 s 4 ≤ c) (h1 : c ≤ σ 8 s 5) : σ 8 s 4 ≤ c + psC σ s v c ∧ c + psC σ s v c ≤ σ 8 s 5 ∧ -60 ≤ psC σ s v c ∧ psC σ s v c ≤ 60 := by
  have q := hS s
  unfold psC
  omega
theorem dnC_b {σ : Mm} (hS : CS σ) (s w t : Int) {c : Int} (h0 : σ 8 s 4 ≤ c) (h1 : c ≤ σ 8 s 5) : σ 8 s 4 ≤ c + dnC σ s w t c ∧ c + dnC σ s w t c ≤ σ 8 s 5 ∧ -60 ≤ dnC σ s w t c ∧ dnC σ s w t c ≤ 60 := by
  unfold dnC
  split
  · exact psC_b hS s _ h0 h1
  · omega
theorem fcC_b {σ : Mm} (hS : CS σ) (s w : Int) (h0 : σ 8 s 4 ≤ σ 8 s 3) (h1 : σ 8 s 3 ≤ σ 8 s 5) : ∀ n : Nat, σ 8 s 4 ≤ chg (dnC σ s w) (σ 8 s 3) n ∧ chg (dnC σ s w) (σ 8 s 3) n ≤ σ 8 s 5
  | 0 => ⟨h0, h1⟩
  | n + 1 => by
    have i := fcC_b hS s w h0 h1 n
    have q := dnC_b hS s w n i.1 i.2
    exact ⟨q.1, q.2.1⟩

set_option maxRecDepth 100000 in
set_option maxHeartbeats 4000000 in
theorem c_X7_fill (X : XW) (l : Launch) (σ : Mm) (z1 z2 : Int) (rz1 : R32 z1) (rz2 : R32 z2) (hC : σ 8 z1 4 ≤ σ 8 z1 3 ∧ σ 8 z1 3 ≤ σ 8 z1 5) (hS : CS σ) (hT : CT σ) (hP : CP σ) (hD : CD σ) : Ct X l yX7_fill cX7_fill 12 (Option.some FieldType.long) 4 91 σ [.inr (.inr (0, 0)), .inl z1, .inl z2] (Ans (some (.inr (.inl (rc_fill σ z1 z2)))) (sc_fill σ z1 z2)) := by
  refine Ct.intro (own := RX7) (by decide) rfl (Nat.le_of_ble_eq_true rfl) (fun M hM ok hq => ?_)
  subst hM
  have rz1l := rz1.1
  have rz1r := rz1.2
  have rz2l := rz2.1
  have rz2r := rz2.2
  show G X M cX7_fill 12 σ 0 [(0, .inr (.inr (0, 0))), (1, .inl z1), (2, .inl z2)] []
  have aT := hT.1
  have aT2 := hT.2
  have hb := bI_1 (c := 0 ≤ z2 ∧ z2 ≤ 3)
  have hb2 := bI_in (c := 0 ≤ z2 ∧ z2 ≤ 3)
  have aS := hS z1
  refine g_aload_n ok dX7_fill_0 rfl rfl ?_
  refine g_iload_n ok dX7_fill_1 rfl rfl ?_
  refine g_iload_n ok dX7_fill_2 rfl rfl ?_
  refine g_cS ok dX7_fill_3 ms_X7_90 (c_X7_isWorld X _ _ _ ⟨by omega, by omega⟩) rfl (by decide) rfl (Nat.le_of_ble_eq_true rfl) ?_
  refine g_cV3 ok dX7_fill_6 mv_X7_154 (c_X7_refusal X _ _ _ _ ⟨by omega, by omega⟩ (by first | omega | exact bI_in.1) (by first | omega | exact bI_in.2)) rfl (Vd.one rfl) rfl rfl (by decide) rfl (Nat.le_of_ble_eq_true rfl) (fun q1 => ?_) (fun q1 => ?_) (fun q1 => ?_)
  · skip
    refine g_lstore_n ok dX7_fill_9 rfl (Nat.le_of_ble_eq_true rfl) ?_
    refine g_lload_n ok dX7_fill_10 rfl rfl ?_
    refine g_lconst (v := 0) ok dX7_fill_11 (by decide +kernel) ?_
    refine g_lcmp_eq (tgt := 18) ok dX7_fill_12 dX7_fill_13 (by decide) ⟨by omega, by omega⟩ ⟨by omega, by omega⟩ (fun c2 => ?_) (fun c2 => ?_)
    · skip
      exfalso
      omega
    · skip
      refine g_lload_n ok dX7_fill_16 rfl rfl ?_
      exact g_lret ok hq dX7_fill_17 (ansL (by (simp only [rc_fill, BAD, NO, FULL, NONE, NOTHING, INDEX, SIZE] <;> (repeat (first | rw [if_pos (by omega)] | rw [if_neg (by omega)])) <;> omega)) (by (simp only [sc_fill] <;> (repeat (first | rw [if_pos (by omega)] | rw [if_neg (by omega)])) <;> first | rfl | (congr 1; omega))))
  · skip
    refine g_lstore_n ok dX7_fill_9 rfl (Nat.le_of_ble_eq_true rfl) ?_
    refine g_lload_n ok dX7_fill_10 rfl rfl ?_
    refine g_lconst (v := 0) ok dX7_fill_11 (by decide +kernel) ?_
    refine g_lcmp_eq (tgt := 18) ok dX7_fill_12 dX7_fill_13 (by decide) ⟨by omega, by omega⟩ ⟨by omega, by omega⟩ (fun c3 => ?_) (fun c3 => ?_)
    · skip
      exfalso
      omega
    · skip
      refine g_lload_n ok dX7_fill_16 rfl rfl ?_
      exact g_lret ok hq dX7_fill_17 (ansL (by (simp only [rc_fill, BAD, NO, FULL, NONE, NOTHING, INDEX, SIZE] <;> (repeat (first | rw [if_pos (by omega)] | rw [if_neg (by omega)])) <;> omega)) (by (simp only [sc_fill] <;> (repeat (first | rw [if_pos (by omega)] | rw [if_neg (by omega)])) <;> first | rfl | (congr 1; omega))))
  · skip
    refine g_lstore_n ok dX7_fill_9 rfl (Nat.le_of_ble_eq_true rfl) ?_
    refine g_lload_n ok dX7_fill_10 rfl rfl ?_
    refine g_lconst (v := 0) ok dX7_fill_11 (by decide +kernel) ?_
    refine g_lcmp_eq (tgt := 18) ok dX7_fill_12 dX7_fill_13 (by decide) ⟨by omega, by omega⟩ ⟨by omega, by omega⟩ (fun c4 => ?_) (fun c4 => ?_)
    · skip
      refine g_aload_n ok dX7_fill_18 rfl rfl ?_
      refine g_getr ok dX7_fill_19 fl_X7_25 (Vd.one rfl) rfl rfl ?_
      refine g_iload_n ok dX7_fill_22 rfl rfl ?_
      refine g_aald ok dX7_fill_23 (Vd.one rfl) (fun _ => rfl) ⟨by omega, by omega⟩ rfl ?_
      refine g_astore ok dX7_fill_24 (Nat.le_of_ble_eq_true rfl) ?_
      refine g_aload ok dX7_fill_26 rfl ?_
      refine g_geti (z := 3) ok dX7_fill_28 fl_X7_164 (Vd.four rfl (by omega) (by omega)) rfl rfl rfl (fun h5 h6 => ?_)
      refine g_istore ok dX7_fill_31 (Nat.le_of_ble_eq_true rfl) ?_
      refine g_lconst (v := 0) ok dX7_fill_33 (by decide +kernel) ?_
      refine g_lstore ok dX7_fill_34 (Nat.le_of_ble_eq_true rfl) ?_
      refine g_iconst (v := 0) ok dX7_fill_36 (by decide +kernel) ?_
      refine g_istore ok dX7_fill_37 (Nat.le_of_ble_eq_true rfl) ?_
      have L39 : ∀ (n : Nat) (t : Int) (c : Int) (f : Int) (s : Mm), (0 ≤ t) → (t ≤ σ 1 0 0) → (c = fcC σ z1 z2 t) → (f = fmC σ z1 z2 t) → (s = plW σ 9 z1 0 (fdC σ z1 z2) t) → (σ 1 0 0 - t < n) → G X M cX7_fill 12 s 39 [(0, .inr (.inr (0, 0))), (1, .inl z1), (2, .inl z2), (5, .inr (.inr (8, z1))), (6, .inl c), (7, .inr (.inl f)), (9, .inl t)] [] := by
        intro n
        induction n with
        | zero => intro t c f s hk0 hk1 hc hf hs hm; exact absurd hm (by omega)
        | succ n L39ih =>
          intro t c f s hk0 hk1 hc hf hs hm
          subst hs
          have aC := fcC_b hS z1 z2 hC.1 hC.2 t.toNat
          have aC2 : σ 8 z1 4 ≤ c ∧ c ≤ σ 8 z1 5 := by rw [hc]; exact aC
          have aW := waC_b hD z2 t
          refine g_iload ok dX7_fill_39 rfl ?_
          refine g_aload_n ok dX7_fill_41 rfl rfl ?_
          refine g_getr ok dX7_fill_42 fl_X7_12 (Vd.one rfl) rfl rfl ?_
          refine g_geti2 σ (z := 0) ok dX7_fill_45 fl_X7_68 (Vd.one rfl) rfl rfl rfl rfl (fun h7 h8 => ?_)
          refine g_icmp_ge (tgt := 133) ok dX7_fill_48 (by decide) ⟨by omega, by omega⟩ ⟨by omega, by omega⟩ (fun c9 => ?_) (fun c9 => ?_)
          · skip
            refine g_lload ok dX7_fill_133 rfl ?_
            exact g_lret ok hq dX7_fill_135 (ansL (by (unfold rc_fill; rw [if_pos (by omega), if_neg (by omega), hf, show t = σ 1 0 0 by omega])) (by (unfold sc_fill; rw [if_pos (by omega), show t = σ 1 0 0 by omega])))
          · skip
            refine g_aload_n ok dX7_fill_51 rfl rfl ?_
            refine g_getr ok dX7_fill_52 fl_X7_40 (Vd.one rfl) rfl rfl ?_
            refine g_aload_n ok dX7_fill_55 rfl rfl ?_
            refine g_getr ok dX7_fill_56 fl_X7_18 (Vd.one rfl) rfl rfl ?_
            refine g_iload_n ok dX7_fill_59 rfl rfl ?_
            refine g_aald ok dX7_fill_60 (Vd.one rfl) (fun _ => rfl) ⟨by omega, by omega⟩ rfl ?_
            refine g_iload ok dX7_fill_61 rfl ?_
            refine g_cV ok dX7_fill_63 mv_X7_238 (c_X1_sumWanted X _ _ _ _ (by omega) (by omega) (by omega) (by omega) hP hD) rfl (Vd.one rfl) rfl rfl (by decide) rfl (Nat.le_of_ble_eq_true rfl) ?_
            change G X M cX7_fill 12 _ _ _ (.inl (waC σ z2 t) :: _)
            refine g_istore ok dX7_fill_66 (Nat.le_of_ble_eq_true rfl) ?_
            refine g_aload_n ok dX7_fill_68 rfl rfl ?_
            refine g_getr ok dX7_fill_69 fl_X7_12 (Vd.one rfl) rfl rfl ?_
            refine g_getr ok dX7_fill_72 fl_X7_78 (Vd.one rfl) rfl rfl ?_
            refine g_iload ok dX7_fill_75 rfl ?_
            refine g_zald2 σ ok dX7_fill_77 (Vd.one rfl) (fun _ => rfl) ⟨by omega, by omega⟩ (by decide) rfl rfl (fun h10 h11 => ?_)
            refine g_if_eq (tgt := 85) ok dX7_fill_78 (by decide) ⟨by omega, by omega⟩ (fun c12 => ?_) (fun c12 => ?_)
            · skip
              refine g_aload ok dX7_fill_85 rfl ?_
              refine g_iload ok dX7_fill_87 rfl ?_
              refine g_iload ok dX7_fill_89 rfl ?_
              refine g_cV ok dX7_fill_91 mv_X7_242 (c_X0_possible X _ _ _ _ _ (by omega) (by omega) ⟨by omega, by omega⟩ (by omega) (by omega) hS) rfl (Vd.four rfl (by omega) (by omega)) rfl rfl (by decide) rfl (Nat.le_of_ble_eq_true rfl) ?_
              change G X M cX7_fill 12 _ _ _ (.inl (psC σ z1 (waC σ z2 t) c) :: _)
              have d1 := dnC_b hS z1 z2 t aC2.1 aC2.2
              have e0 : ∃ v, v = dnC σ z1 z2 t c := ⟨_, rfl⟩
              obtain ⟨v, e1⟩ := e0
              refine G.topI (v := v) (by rw [e1]; unfold dnC; (first | rw [if_pos (by assumption)] | rw [if_neg (by assumption)])) ?_
              have d2 : -60 ≤ v ∧ v ≤ 60 := by omega
              have e2 : absC (waC σ z2 t - fdC σ z1 z2 t) = (if 0 ≤ waC σ z2 t - v then waC σ z2 t - v else 0 - (waC σ z2 t - v)) := by unfold absC fdC; rw [← hc, ← e1]
              have d3 : 0 ≤ (if 0 ≤ waC σ z2 t - v then waC σ z2 t - v else 0 - (waC σ z2 t - v)) ∧ (if 0 ≤ waC σ z2 t - v then waC σ z2 t - v else 0 - (waC σ z2 t - v)) ≤ 300 := by split <;> omega
              refine g_istore ok dX7_fill_94 (Nat.le_of_ble_eq_true rfl) ?_
              refine g_aload ok dX7_fill_96 rfl ?_
              refine g_getr ok dX7_fill_98 fl_X7_179 (Vd.four rfl (by omega) (by omega)) rfl rfl ?_
              refine g_iload ok dX7_fill_101 rfl ?_
              refine g_iload ok dX7_fill_103 rfl ?_
              refine g_iast ok dX7_fill_105 (Vd.four rfl (by omega) (by omega)) (fun _ => rfl) ⟨by omega, by omega⟩ (by decide) rfl ⟨by omega, by omega⟩ ?_
              refine g_iload ok dX7_fill_106 rfl ?_
              refine g_iload ok dX7_fill_108 rfl ?_
              refine g_iadd ok dX7_fill_110 ?_
              refine g_istore ok dX7_fill_111 (Nat.le_of_ble_eq_true rfl) ?_
              refine g_lload ok dX7_fill_113 rfl ?_
              refine g_iload ok dX7_fill_115 rfl ?_
              refine g_iload ok dX7_fill_117 rfl ?_
              refine g_isub ok dX7_fill_119 ?_
              refine g_abs ok dX7_fill_120 wd3_121 wd3_122 wd1_12 wd3_123 ⟨Nat.le_of_ble_eq_true rfl, Nat.le_of_ble_eq_true rfl⟩ ⟨by omega, by omega⟩ ?_
              refine g_i2l ok dX7_fill_123 ⟨by omega, by omega⟩ ?_
              refine g_ladd ok dX7_fill_124 ?_
              refine g_lstore ok dX7_fill_125 (Nat.le_of_ble_eq_true rfl) ?_
              refine g_iinc ok dX7_fill_127 rfl rfl (Nat.le_of_ble_eq_true rfl) ?_
              refine g_goto (tgt := 39) ok dX7_fill_130 (by decide) ?_
              refine G.norm [(0, .inr (.inr (0, 0))), (1, .inl z1), (2, .inl z2), (5, .inr (.inr (8, z1))), (6, .inl _), (7, .inr (.inl _)), (9, .inl _)] ⟨rfl, rfl, rfl, rfl, rfl, rfl, rfl, trivial⟩ (L39ih _ _ _ _ ?_ ?_ ?_ ?_ ?_ ?_)
              · omega
              · omega
              · (unfold fcC; rw [chI_s hk0, e1, hc]; rfl)
              · (unfold fmC; rw [sm_s hk0]; (try dsimp only); rw [e2, hf]; rfl)
              · (rw [← plW_up hk0 (e1.trans (by unfold fdC; rw [hc])), Int.zero_add])
              · omega
            · skip
              refine g_iconst (v := 0) ok dX7_fill_81 (by decide +kernel) ?_
              refine g_goto (tgt := 94) ok dX7_fill_82 (by decide) ?_
              have d1 := dnC_b hS z1 z2 t aC2.1 aC2.2
              have e0 : ∃ v, v = dnC σ z1 z2 t c := ⟨_, rfl⟩
              obtain ⟨v, e1⟩ := e0
              refine G.topI (v := v) (by rw [e1]; unfold dnC; (first | rw [if_pos (by assumption)] | rw [if_neg (by assumption)])) ?_
              have d2 : -60 ≤ v ∧ v ≤ 60 := by omega
              have e2 : absC (waC σ z2 t - fdC σ z1 z2 t) = (if 0 ≤ waC σ z2 t - v then waC σ z2 t - v else 0 - (waC σ z2 t - v)) := by unfold absC fdC; rw [← hc, ← e1]
              have d3 : 0 ≤ (if 0 ≤ waC σ z2 t - v then waC σ z2 t - v else 0 - (waC σ z2 t - v)) ∧ (if 0 ≤ waC σ z2 t - v then waC σ z2 t - v else 0 - (waC σ z2 t - v)) ≤ 300 := by split <;> omega
              refine g_istore ok dX7_fill_94 (Nat.le_of_ble_eq_true rfl) ?_
              refine g_aload ok dX7_fill_96 rfl ?_
              refine g_getr ok dX7_fill_98 fl_X7_179 (Vd.four rfl (by omega) (by omega)) rfl rfl ?_
              refine g_iload ok dX7_fill_101 rfl ?_
              refine g_iload ok dX7_fill_103 rfl ?_
              refine g_iast ok dX7_fill_105 (Vd.four rfl (by omega) (by omega)) (fun _ => rfl) ⟨by omega, by omega⟩ (by decide) rfl ⟨by omega, by omega⟩ ?_
              refine g_iload ok dX7_fill_106 rfl ?_
              refine g_iload ok dX7_fill_108 rfl ?_
              refine g_iadd ok dX7_fill_110 ?_
              refine g_istore ok dX7_fill_111 (Nat.le_of_ble_eq_true rfl) ?_
              refine g_lload ok dX7_fill_113 rfl ?_
              refine g_iload ok dX7_fill_115 rfl ?_
              refine g_iload ok dX7_fill_117 rfl ?_
              refine g_isub ok dX7_fill_119 ?_
              refine g_abs ok dX7_fill_120 wd3_121 wd3_122 wd1_12 wd3_123 ⟨Nat.le_of_ble_eq_true rfl, Nat.le_of_ble_eq_true rfl⟩ ⟨by omega, by omega⟩ ?_
              refine g_i2l ok dX7_fill_123 ⟨by omega, by omega⟩ ?_
              refine g_ladd ok dX7_fill_124 ?_
              refine g_lstore ok dX7_fill_125 (Nat.le_of_ble_eq_true rfl) ?_
              refine g_iinc ok dX7_fill_127 rfl rfl (Nat.le_of_ble_eq_true rfl) ?_
              refine g_goto (tgt := 39) ok dX7_fill_130 (by decide) ?_
              refine G.norm [(0, .inr (.inr (0, 0))), (1, .inl z1), (2, .inl z2), (5, .inr (.inr (8, z1))), (6, .inl _), (7, .inr (.inl _)), (9, .inl _)] ⟨rfl, rfl, rfl, rfl, rfl, rfl, rfl, trivial⟩ (L39ih _ _ _ _ ?_ ?_ ?_ ?_ ?_ ?_)
              · omega
              · omega
              · (unfold fcC; rw [chI_s hk0, e1, hc]; rfl)
              · (unfold fmC; rw [sm_s hk0]; (try dsimp only); rw [e2, hf]; rfl)
              · (rw [← plW_up hk0 (e1.trans (by unfold fdC; rw [hc])), Int.zero_add])
              · omega
      refine G.norm [(0, .inr (.inr (0, 0))), (1, .inl z1), (2, .inl z2), (5, .inr (.inr (8, z1))), (6, .inl _), (7, .inr (.inl _)), (9, .inl _)] ⟨rfl, rfl, rfl, rfl, rfl, rfl, rfl, trivial⟩ (L39 (37 : Nat) _ _ _ _ ?_ ?_ ?_ ?_ ?_ ?_)
      · omega
      · omega
      · rfl
      · rfl
      · (rw [plW_0])
      · omega
    · skip
      exfalso
      omega

set_option maxRecDepth 100000 in
set_option maxHeartbeats 4000000 in
theorem c_X7_meter (X : XW) (l : Launch) (σ : Mm) (z1 z2 : Int) (rz1 : R32 z1) (rz2 : R32 z2) : Ct X l yX7_meter cX7_meter 4 (Option.some FieldType.long) 2 42 σ [.inr (.inr (0, 0)), .inl z1, .inl z2] (Ans (some (.inr (.inl (rc_meter σ z1 z2)))) (sc_meter σ z1 z2)) := by
  refine Ct.intro (own := RX7) (by decide) rfl (Nat.le_of_ble_eq_true rfl) (fun M hM ok hq => ?_)
  subst hM
  have rz1l := rz1.1
  have rz1r := rz1.2
  have rz2l := rz2.1
  have rz2r := rz2.2
  show G X M cX7_meter 4 σ 0 [(0, .inr (.inr (0, 0))), (1, .inl z1), (2, .inl z2)] []
  refine g_iload_n ok dX7_meter_0 rfl rfl ?_
  refine g_cS ok dX7_meter_1 ms_X7_74 (c_X7_isAnyStep X _ _ _ ⟨by omega, by omega⟩) rfl (by decide) rfl (Nat.le_of_ble_eq_true rfl) ?_
  refine g_ifb_eq (tgt := 20) ok dX7_meter_4 (by decide) (fun c1 => ?_) (fun c1 => ?_)
  · skip
    refine g_ldc2 (v := -9000000000000000001) ok dX7_meter_20 wd2_31 (by decide +kernel) ?_
    exact g_lret ok hq dX7_meter_23 (ansL (by (simp only [rc_meter, BAD, NO, FULL, NONE, NOTHING, INDEX, SIZE] <;> (repeat (first | rw [if_pos (by omega)] | rw [if_neg (by omega)])) <;> omega)) (by (simp only [sc_meter] <;> (repeat (first | rw [if_pos (by omega)] | rw [if_neg (by omega)])) <;> first | rfl | (congr 1; omega))))
  · skip
    refine g_iload_n ok dX7_meter_7 rfl rfl ?_
    refine g_sipush (v := -1001) ok dX7_meter_8 (by decide +kernel) ?_
    refine g_sipush (v := 1000) ok dX7_meter_11 (by decide +kernel) ?_
    refine g_cS ok dX7_meter_14 ms_X7_58 (c_X7_within X _ _ _ _ _ ⟨by omega, by omega⟩ ⟨by omega, by omega⟩ ⟨by omega, by omega⟩) rfl (by decide) rfl (Nat.le_of_ble_eq_true rfl) ?_
    refine g_ifb_ne (tgt := 24) ok dX7_meter_17 (by decide) (fun c2 => ?_) (fun c2 => ?_)
    · skip
      refine g_aload_n ok dX7_meter_24 rfl rfl ?_
      refine g_getr ok dX7_meter_25 fl_X7_47 (Vd.one rfl) rfl rfl ?_
      refine g_getr ok dX7_meter_28 fl_X7_249 (Vd.one rfl) rfl rfl ?_
      refine g_iload_n ok dX7_meter_31 rfl rfl ?_
      refine g_iald ok dX7_meter_32 (Vd.one rfl) (fun _ => rfl) ⟨by omega, by omega⟩ (by decide) rfl (fun h3 h4 => ?_)
      refine g_istore_n ok dX7_meter_33 rfl (Nat.le_of_ble_eq_true rfl) ?_
      refine g_aload_n ok dX7_meter_34 rfl rfl ?_
      refine g_getr ok dX7_meter_35 fl_X7_47 (Vd.one rfl) rfl rfl ?_
      refine g_getr ok dX7_meter_38 fl_X7_249 (Vd.one rfl) rfl rfl ?_
      refine g_iload_n ok dX7_meter_41 rfl rfl ?_
      refine g_iload_n ok dX7_meter_42 rfl rfl ?_
      refine g_iast ok dX7_meter_43 (Vd.one rfl) (fun _ => rfl) ⟨by omega, by omega⟩ (by decide) rfl ⟨by omega, by omega⟩ ?_
      refine g_iload_n ok dX7_meter_44 rfl rfl ?_
      refine g_i2l ok dX7_meter_45 ⟨by omega, by omega⟩ ?_
      exact g_lret ok hq dX7_meter_46 (ansL (by (simp only [rc_meter, BAD, NO, FULL, NONE, NOTHING, INDEX, SIZE] <;> (repeat (first | rw [if_pos (by omega)] | rw [if_neg (by omega)])) <;> omega)) (by (simp only [sc_meter] <;> (repeat (first | rw [if_pos (by omega)] | rw [if_neg (by omega)])) <;> first | rfl | (congr 1; omega))))
    · skip
      refine g_ldc2 (v := -9000000000000000001) ok dX7_meter_20 wd2_31 (by decide +kernel) ?_
      exact g_lret ok hq dX7_meter_23 (ansL (by (simp only [rc_meter, BAD, NO, FULL, NONE, NOTHING, INDEX, SIZE] <;> (repeat (first | rw [if_pos (by omega)] | rw [if_neg (by omega)])) <;> omega)) (by (simp only [sc_meter] <;> (repeat (first | rw [if_pos (by omega)] | rw [if_neg (by omega)])) <;> first | rfl | (congr 1; omega))))

set_option maxRecDepth 100000 in
set_option maxHeartbeats 4000000 in
theorem c_X7_counts (X : XW) (l : Launch) (σ : Mm) (z1 : Int) (rz1 : R32 z1) (hE : CE σ) : Ct X l yX7_counts cX7_counts 2 (Option.some FieldType.long) 2 45 σ [.inr (.inr (0, 0)), .inl z1] (Ans (some (.inr (.inl (rc_counts σ z1)))) (σ)) := by
  refine Ct.intro (own := RX7) (by decide) rfl (Nat.le_of_ble_eq_true rfl) (fun M hM ok hq => ?_)
  subst hM
  have rz1l := rz1.1
  have rz1r := rz1.2
  show G X M cX7_counts 2 σ 0 [(0, .inr (.inr (0, 0))), (1, .inl z1)] []
  have a1 := nr_b (f := fun k => σ 21 0 k) (way := -1) (fun t => hE t) 37 (z1 - 1)
  have a2 := nr_b (f := fun k => σ 21 0 k) (way := 1) (fun t => hE t) 37 (z1 + 1)
  have a3 := hE z1
  have a4 : -1001 ≤ cnC σ z1 ∧ cnC σ z1 ≤ 1000 := by unfold cnC cnF; (repeat' split) <;> omega
  refine g_iload_n ok dX7_counts_0 rfl rfl ?_
  refine g_cS ok dX7_counts_1 ms_X7_74 (c_X7_isAnyStep X _ _ _ ⟨by omega, by omega⟩) rfl (by decide) rfl (Nat.le_of_ble_eq_true rfl) ?_
  refine g_ifb_ne (tgt := 11) ok dX7_counts_4 (by decide) (fun c1 => ?_) (fun c1 => ?_)
  · skip
    refine g_aload_n ok dX7_counts_11 rfl rfl ?_
    refine g_getr ok dX7_counts_12 fl_X7_47 (Vd.one rfl) rfl rfl ?_
    refine g_iload_n ok dX7_counts_15 rfl rfl ?_
    refine g_cV ok dX7_counts_16 mv_X7_252 (c_X4_counting X _ _ _ (by omega) (by omega) hE) rfl (Vd.one rfl) rfl rfl (by decide) rfl (Nat.le_of_ble_eq_true rfl) ?_
    refine g_i2l ok dX7_counts_19 ⟨by omega, by omega⟩ ?_
    exact g_lret ok hq dX7_counts_20 (ansL (by (simp only [rc_counts, BAD, NO, FULL, NONE, NOTHING, INDEX, SIZE] <;> (repeat (first | rw [if_pos (by omega)] | rw [if_neg (by omega)])) <;> omega)) (by rfl))
  · skip
    refine g_ldc2 (v := -9000000000000000001) ok dX7_counts_7 wd2_31 (by decide +kernel) ?_
    exact g_lret ok hq dX7_counts_10 (ansL (by (simp only [rc_counts, BAD, NO, FULL, NONE, NOTHING, INDEX, SIZE] <;> (repeat (first | rw [if_pos (by omega)] | rw [if_neg (by omega)])) <;> omega)) (by rfl))

set_option maxRecDepth 100000 in
set_option maxHeartbeats 4000000 in
theorem c_X7_row (X : XW) (l : Launch) (σ : Mm) (z1 z2 : Int) (rz1 : R32 z1) (rz2 : R32 z2) (hR : CR σ) : Ct X l yX7_row cX7_row 3 (Option.some FieldType.long) 1 22 σ [.inr (.inr (0, 0)), .inl z1, .inl z2] (Ans (some (.inr (.inl (rc_row σ z1 z2)))) (σ)) := by
  refine Ct.intro (own := RX7) (by decide) rfl (Nat.le_of_ble_eq_true rfl) (fun M hM ok hq => ?_)
  subst hM
  have rz1l := rz1.1
  have rz1r := rz1.2
  have rz2l := rz2.1
  have rz2r := rz2.2
  show G X M cX7_row 3 σ 0 [(0, .inr (.inr (0, 0))), (1, .inl z1), (2, .inl z2)] []
  have aR := hR.1
  refine g_iload_n ok dX7_row_0 rfl rfl ?_
  refine g_iconst (v := 0) ok dX7_row_1 (by decide +kernel) ?_
  refine g_aload_n ok dX7_row_2 rfl rfl ?_
  refine g_getr ok dX7_row_3 fl_X7_54 (Vd.one rfl) rfl rfl ?_
  refine g_geti (z := 0) ok dX7_row_6 fl_X7_255 (Vd.one rfl) rfl rfl rfl (fun h1 h2 => ?_)
  refine g_iconst (v := 1) ok dX7_row_9 (by decide +kernel) ?_
  refine g_isub ok dX7_row_10 ?_
  refine g_cS ok dX7_row_11 ms_X7_58 (c_X7_within X _ _ _ _ _ ⟨by omega, by omega⟩ ⟨by omega, by omega⟩ ⟨by omega, by omega⟩) rfl (by decide) rfl (Nat.le_of_ble_eq_true rfl) ?_
  refine g_ifb_eq (tgt := 26) ok dX7_row_14 (by decide) (fun c3 => ?_) (fun c3 => ?_)
  · skip
    refine g_ldc2 (v := -9000000000000000001) ok dX7_row_26 wd2_31 (by decide +kernel) ?_
    exact g_lret ok hq dX7_row_29 (ansL (by (simp only [rc_row, BAD, NO, FULL, NONE, NOTHING, INDEX, SIZE] <;> (repeat (first | rw [if_pos (by omega)] | rw [if_neg (by omega)])) <;> omega)) (by rfl))
  · skip
    refine g_iload_n ok dX7_row_17 rfl rfl ?_
    refine g_iconst (v := 0) ok dX7_row_18 (by decide +kernel) ?_
    refine g_iconst (v := 4) ok dX7_row_19 (by decide +kernel) ?_
    refine g_cS ok dX7_row_20 ms_X7_58 (c_X7_within X _ _ _ _ _ ⟨by omega, by omega⟩ ⟨by omega, by omega⟩ ⟨by omega, by omega⟩) rfl (by decide) rfl (Nat.le_of_ble_eq_true rfl) ?_
    refine g_ifb_ne (tgt := 30) ok dX7_row_23 (by decide) (fun c4 => ?_) (fun c4 => ?_)
    · skip
      refine g_aload_n ok dX7_row_30 rfl rfl ?_
      refine g_getr ok dX7_row_31 fl_X7_54 (Vd.one rfl) rfl rfl ?_
      refine g_iload_n ok dX7_row_34 rfl rfl ?_
      refine g_iload_n ok dX7_row_35 rfl rfl ?_
      refine g_cV ok dX7_row_36 mv_X7_265 (c_X2_fact X _ _ _ _ (by omega) (by omega) ⟨by omega, by omega⟩) rfl (Vd.one rfl) rfl rfl (by decide) rfl (Nat.le_of_ble_eq_true rfl) ?_
      exact g_lret ok hq dX7_row_39 (ansL (by (simp only [rc_row, BAD, NO, FULL, NONE, NOTHING, INDEX, SIZE] <;> (repeat (first | rw [if_pos (by omega)] | rw [if_neg (by omega)])) <;> omega)) (by rfl))
    · skip
      refine g_ldc2 (v := -9000000000000000001) ok dX7_row_26 wd2_31 (by decide +kernel) ?_
      exact g_lret ok hq dX7_row_29 (ansL (by (simp only [rc_row, BAD, NO, FULL, NONE, NOTHING, INDEX, SIZE] <;> (repeat (first | rw [if_pos (by omega)] | rw [if_neg (by omega)])) <;> omega)) (by rfl))

set_option maxRecDepth 100000 in
set_option maxHeartbeats 4000000 in
theorem c_X7_forge (X : XW) (l : Launch) (σ : Mm) (z1 z2 z3 : Int) (rz1 : R32 z1) (rz2 : R32 z2) (rz3 : R32 z3) (hR : CR σ) : Ct X l yX7_forge cX7_forge 6 (Option.some FieldType.long) 1 22 σ [.inr (.inr (0, 0)), .inl z1, .inl z2, .inl z3] (Ans (some (.inr (.inl (rc_forge σ z1 z2 z3)))) (sc_forge σ z1 z2 z3)) := by
  refine Ct.intro (own := RX7) (by decide) rfl (Nat.le_of_ble_eq_true rfl) (fun M hM ok hq => ?_)
  subst hM
  have rz1l := rz1.1
  have rz1r := rz1.2
  have rz2l := rz2.1
  have rz2r := rz2.2
  have rz3l := rz3.1
  have rz3r := rz3.2
  show G X M cX7_forge 6 σ 0 [(0, .inr (.inr (0, 0))), (1, .inl z1), (2, .inl z2), (3, .inl z3)] []
  have aR := hR.1
  refine g_iload_n ok dX7_forge_0 rfl rfl ?_
  refine g_iconst (v := 0) ok dX7_forge_1 (by decide +kernel) ?_
  refine g_aload_n ok dX7_forge_2 rfl rfl ?_
  refine g_getr ok dX7_forge_3 fl_X7_54 (Vd.one rfl) rfl rfl ?_
  refine g_geti (z := 0) ok dX7_forge_6 fl_X7_255 (Vd.one rfl) rfl rfl rfl (fun h1 h2 => ?_)
  refine g_iconst (v := 1) ok dX7_forge_9 (by decide +kernel) ?_
  refine g_isub ok dX7_forge_10 ?_
  refine g_cS ok dX7_forge_11 ms_X7_58 (c_X7_within X _ _ _ _ _ ⟨by omega, by omega⟩ ⟨by omega, by omega⟩ ⟨by omega, by omega⟩) rfl (by decide) rfl (Nat.le_of_ble_eq_true rfl) ?_
  refine g_ifb_eq (tgt := 26) ok dX7_forge_14 (by decide) (fun c3 => ?_) (fun c3 => ?_)
  · skip
    refine g_ldc2 (v := -9000000000000000001) ok dX7_forge_26 wd2_31 (by decide +kernel) ?_
    exact g_lret ok hq dX7_forge_29 (ansL (by (simp only [rc_forge, BAD, NO, FULL, NONE, NOTHING, INDEX, SIZE] <;> (repeat (first | rw [if_pos (by omega)] | rw [if_neg (by omega)])) <;> omega)) (by (simp only [sc_forge] <;> (repeat (first | rw [if_pos (by omega)] | rw [if_neg (by omega)])) <;> (try (first | rfl | (exfalso; omega))))))
  · skip
    refine g_iload_n ok dX7_forge_17 rfl rfl ?_
    refine g_iconst (v := 3) ok dX7_forge_18 (by decide +kernel) ?_
    refine g_iconst (v := 4) ok dX7_forge_19 (by decide +kernel) ?_
    refine g_cS ok dX7_forge_20 ms_X7_58 (c_X7_within X _ _ _ _ _ ⟨by omega, by omega⟩ ⟨by omega, by omega⟩ ⟨by omega, by omega⟩) rfl (by decide) rfl (Nat.le_of_ble_eq_true rfl) ?_
    refine g_ifb_ne (tgt := 30) ok dX7_forge_23 (by decide) (fun c4 => ?_) (fun c4 => ?_)
    · skip
      refine g_iload_n ok dX7_forge_30 rfl rfl ?_
      refine g_iconst (v := 3) ok dX7_forge_31 (by decide +kernel) ?_
      refine g_icmp_ne (tgt := 50) ok dX7_forge_32 (by decide) ⟨by omega, by omega⟩ ⟨by omega, by omega⟩ (fun c5 => ?_) (fun c5 => ?_)
      · skip
        refine g_aload_n ok dX7_forge_50 rfl rfl ?_
        refine g_getr ok dX7_forge_51 fl_X7_54 (Vd.one rfl) rfl rfl ?_
        refine g_iload_n ok dX7_forge_54 rfl rfl ?_
        refine g_iload_n ok dX7_forge_55 rfl rfl ?_
        refine g_cV ok dX7_forge_56 mv_X7_265 (c_X2_fact X _ _ _ _ (by omega) (by omega) ⟨by omega, by omega⟩) rfl (Vd.one rfl) rfl rfl (by decide) rfl (Nat.le_of_ble_eq_true rfl) ?_
        refine g_lstore ok dX7_forge_59 (Nat.le_of_ble_eq_true rfl) ?_
        refine g_iload_n ok dX7_forge_61 rfl rfl ?_
        refine g_iconst (v := 3) ok dX7_forge_62 (by decide +kernel) ?_
        refine g_icmp_ne (tgt := 79) ok dX7_forge_63 (by decide) ⟨by omega, by omega⟩ ⟨by omega, by omega⟩ (fun c6 => ?_) (fun c6 => ?_)
        · skip
          refine g_aload_n ok dX7_forge_79 rfl rfl ?_
          refine g_getr ok dX7_forge_80 fl_X7_54 (Vd.one rfl) rfl rfl ?_
          refine g_getr ok dX7_forge_83 fl_X7_270 (Vd.one rfl) rfl rfl ?_
          refine g_iload_n ok dX7_forge_86 rfl rfl ?_
          refine g_iload_n ok dX7_forge_87 rfl rfl ?_
          refine g_i2l ok dX7_forge_88 ⟨by omega, by omega⟩ ?_
          refine g_last ok dX7_forge_89 (Vd.one rfl) (fun _ => rfl) ⟨by omega, by omega⟩ (by decide) rfl ⟨by omega, by omega⟩ ?_
          refine g_lload ok dX7_forge_90 rfl ?_
          exact g_lret ok hq dX7_forge_92 (ansL (by (simp only [rc_forge, BAD, NO, FULL, NONE, NOTHING, INDEX, SIZE] <;> (repeat (first | rw [if_pos (by omega)] | rw [if_neg (by omega)])) <;> omega)) (by (simp only [sc_forge] <;> (repeat (first | rw [if_pos (by omega)] | rw [if_neg (by omega)])) <;> (try (first | rfl | (exfalso; omega))))))
        · skip
          refine g_aload_n ok dX7_forge_66 rfl rfl ?_
          refine g_getr ok dX7_forge_67 fl_X7_54 (Vd.one rfl) rfl rfl ?_
          refine g_getr ok dX7_forge_70 fl_X7_267 (Vd.one rfl) rfl rfl ?_
          refine g_iload_n ok dX7_forge_73 rfl rfl ?_
          refine g_iload_n ok dX7_forge_74 rfl rfl ?_
          refine g_iast ok dX7_forge_75 (Vd.one rfl) (fun _ => rfl) ⟨by omega, by omega⟩ (by decide) rfl ⟨by omega, by omega⟩ ?_
          refine g_goto (tgt := 90) ok dX7_forge_76 (by decide) ?_
          refine g_lload ok dX7_forge_90 rfl ?_
          exact g_lret ok hq dX7_forge_92 (ansL (by (simp only [rc_forge, BAD, NO, FULL, NONE, NOTHING, INDEX, SIZE] <;> (repeat (first | rw [if_pos (by omega)] | rw [if_neg (by omega)])) <;> omega)) (by (simp only [sc_forge] <;> (repeat (first | rw [if_pos (by omega)] | rw [if_neg (by omega)])) <;> (try (first | rfl | (exfalso; omega))))))
      · skip
        refine g_iload_n ok dX7_forge_35 rfl rfl ?_
        refine g_bipush (v := -100) ok dX7_forge_36 (by decide +kernel) ?_
        refine g_bipush (v := 100) ok dX7_forge_38 (by decide +kernel) ?_
        refine g_cS ok dX7_forge_40 ms_X7_58 (c_X7_within X _ _ _ _ _ ⟨by omega, by omega⟩ ⟨by omega, by omega⟩ ⟨by omega, by omega⟩) rfl (by decide) rfl (Nat.le_of_ble_eq_true rfl) ?_
        refine g_ifb_ne (tgt := 50) ok dX7_forge_43 (by decide) (fun c7 => ?_) (fun c7 => ?_)
        · skip
          refine g_aload_n ok dX7_forge_50 rfl rfl ?_
          refine g_getr ok dX7_forge_51 fl_X7_54 (Vd.one rfl) rfl rfl ?_
          refine g_iload_n ok dX7_forge_54 rfl rfl ?_
          refine g_iload_n ok dX7_forge_55 rfl rfl ?_
          refine g_cV ok dX7_forge_56 mv_X7_265 (c_X2_fact X _ _ _ _ (by omega) (by omega) ⟨by omega, by omega⟩) rfl (Vd.one rfl) rfl rfl (by decide) rfl (Nat.le_of_ble_eq_true rfl) ?_
          refine g_lstore ok dX7_forge_59 (Nat.le_of_ble_eq_true rfl) ?_
          refine g_iload_n ok dX7_forge_61 rfl rfl ?_
          refine g_iconst (v := 3) ok dX7_forge_62 (by decide +kernel) ?_
          refine g_icmp_ne (tgt := 79) ok dX7_forge_63 (by decide) ⟨by omega, by omega⟩ ⟨by omega, by omega⟩ (fun c8 => ?_) (fun c8 => ?_)
          · skip
            refine g_aload_n ok dX7_forge_79 rfl rfl ?_
            refine g_getr ok dX7_forge_80 fl_X7_54 (Vd.one rfl) rfl rfl ?_
            refine g_getr ok dX7_forge_83 fl_X7_270 (Vd.one rfl) rfl rfl ?_
            refine g_iload_n ok dX7_forge_86 rfl rfl ?_
            refine g_iload_n ok dX7_forge_87 rfl rfl ?_
            refine g_i2l ok dX7_forge_88 ⟨by omega, by omega⟩ ?_
            refine g_last ok dX7_forge_89 (Vd.one rfl) (fun _ => rfl) ⟨by omega, by omega⟩ (by decide) rfl ⟨by omega, by omega⟩ ?_
            refine g_lload ok dX7_forge_90 rfl ?_
            exact g_lret ok hq dX7_forge_92 (ansL (by (simp only [rc_forge, BAD, NO, FULL, NONE, NOTHING, INDEX, SIZE] <;> (repeat (first | rw [if_pos (by omega)] | rw [if_neg (by omega)])) <;> omega)) (by (simp only [sc_forge] <;> (repeat (first | rw [if_pos (by omega)] | rw [if_neg (by omega)])) <;> (try (first | rfl | (exfalso; omega))))))
          · skip
            refine g_aload_n ok dX7_forge_66 rfl rfl ?_
            refine g_getr ok dX7_forge_67 fl_X7_54 (Vd.one rfl) rfl rfl ?_
            refine g_getr ok dX7_forge_70 fl_X7_267 (Vd.one rfl) rfl rfl ?_
            refine g_iload_n ok dX7_forge_73 rfl rfl ?_
            refine g_iload_n ok dX7_forge_74 rfl rfl ?_
            refine g_iast ok dX7_forge_75 (Vd.one rfl) (fun _ => rfl) ⟨by omega, by omega⟩ (by decide) rfl ⟨by omega, by omega⟩ ?_
            refine g_goto (tgt := 90) ok dX7_forge_76 (by decide) ?_
            refine g_lload ok dX7_forge_90 rfl ?_
            exact g_lret ok hq dX7_forge_92 (ansL (by (simp only [rc_forge, BAD, NO, FULL, NONE, NOTHING, INDEX, SIZE] <;> (repeat (first | rw [if_pos (by omega)] | rw [if_neg (by omega)])) <;> omega)) (by (simp only [sc_forge] <;> (repeat (first | rw [if_pos (by omega)] | rw [if_neg (by omega)])) <;> (try (first | rfl | (exfalso; omega))))))
        · skip
          refine g_ldc2 (v := -9000000000000000001) ok dX7_forge_46 wd2_31 (by decide +kernel) ?_
          exact g_lret ok hq dX7_forge_49 (ansL (by (simp only [rc_forge, BAD, NO, FULL, NONE, NOTHING, INDEX, SIZE] <;> (repeat (first | rw [if_pos (by omega)] | rw [if_neg (by omega)])) <;> omega)) (by (simp only [sc_forge] <;> (repeat (first | rw [if_pos (by omega)] | rw [if_neg (by omega)])) <;> (try (first | rfl | (exfalso; omega))))))
    · skip
      refine g_ldc2 (v := -9000000000000000001) ok dX7_forge_26 wd2_31 (by decide +kernel) ?_
      exact g_lret ok hq dX7_forge_29 (ansL (by (simp only [rc_forge, BAD, NO, FULL, NONE, NOTHING, INDEX, SIZE] <;> (repeat (first | rw [if_pos (by omega)] | rw [if_neg (by omega)])) <;> omega)) (by (simp only [sc_forge] <;> (repeat (first | rw [if_pos (by omega)] | rw [if_neg (by omega)])) <;> (try (first | rfl | (exfalso; omega))))))

set_option maxRecDepth 100000 in
set_option maxHeartbeats 4000000 in
theorem c_X7_shut (X : XW) (l : Launch) (σ : Mm)   : Ct X l yX7_shut cX7_shut 2 (Option.some FieldType.long) 0 0 σ [.inr (.inr (0, 0))] (Ans (some (.inr (.inl (rc_shut σ)))) (sc_shut σ)) := by
  refine Ct.intro (own := RX7) (by decide) rfl (Nat.le_of_ble_eq_true rfl) (fun M hM ok hq => ?_)
  subst hM
  show G X M cX7_shut 2 σ 0 [(0, .inr (.inr (0, 0)))] []
  refine g_aload_n ok dX7_shut_0 rfl rfl ?_
  refine g_getr ok dX7_shut_1 fl_X7_54 (Vd.one rfl) rfl rfl ?_
  refine g_geti (z := 0) ok dX7_shut_4 fl_X7_255 (Vd.one rfl) rfl rfl rfl (fun h1 h2 => ?_)
  refine g_istore_n ok dX7_shut_7 rfl (Nat.le_of_ble_eq_true rfl) ?_
  refine g_aload_n ok dX7_shut_8 rfl rfl ?_
  refine g_getr ok dX7_shut_9 fl_X7_54 (Vd.one rfl) rfl rfl ?_
  refine g_iconst (v := 0) ok dX7_shut_12 (by decide +kernel) ?_
  refine g_puti (z := 0) ok dX7_shut_13 fw_X7_255 (Vd.one rfl) rfl rfl (Nat.le_of_ble_eq_true rfl) rfl ⟨by omega, by omega⟩ ?_
  refine g_iload_n ok dX7_shut_16 rfl rfl ?_
  refine g_i2l ok dX7_shut_17 ⟨by omega, by omega⟩ ?_
  exact g_lret ok hq dX7_shut_18 (ansL (by (simp only [rc_shut, BAD, NO, FULL, NONE, NOTHING, INDEX, SIZE] <;> (repeat (first | rw [if_pos (by omega)] | rw [if_neg (by omega)])) <;> omega)) (by (simp only [sc_shut] <;> (repeat (first | rw [if_pos (by omega)] | rw [if_neg (by omega)])) <;> first | rfl | (congr 1; omega))))

set_option maxRecDepth 100000 in
set_option maxHeartbeats 4000000 in
theorem c_X7_warrant (X : XW) (l : Launch) (σ : Mm) (z1 z2 : Int) (rz1 : R32 z1) (rz2 : R32 z2) : Ct X l yX7_warrant cX7_warrant 6 (Option.some FieldType.long) 3 64 σ [.inr (.inr (0, 0)), .inl z1, .inl z2] (Ans (some (.inr (.inl (rc_warrant σ z1 z2)))) (sc_warrant σ z1 z2)) := by
  refine Ct.intro (own := RX7) (by decide) rfl (Nat.le_of_ble_eq_true rfl) (fun M hM ok hq => ?_)
  subst hM
  have rz1l := rz1.1
  have rz1r := rz1.2
  have rz2l := rz2.1
  have rz2r := rz2.2
  show G X M cX7_warrant 6 σ 0 [(0, .inr (.inr (0, 0))), (1, .inl z1), (2, .inl z2)] []
  have hb := bI_1 (c := 0 ≤ z2 ∧ z2 ≤ 100000)
  have hb2 := bI_in (c := 0 ≤ z2 ∧ z2 ≤ 100000)
  refine g_aload_n ok dX7_warrant_0 rfl rfl ?_
  refine g_iload_n ok dX7_warrant_1 rfl rfl ?_
  refine g_iload_n ok dX7_warrant_2 rfl rfl ?_
  refine g_iconst (v := 0) ok dX7_warrant_3 (by decide +kernel) ?_
  refine g_ldcw (v := 100000) ok dX7_warrant_4 wd3_188 (by decide +kernel) ?_
  refine g_cS ok dX7_warrant_7 ms_X7_58 (c_X7_within X _ _ _ _ _ ⟨by omega, by omega⟩ ⟨by omega, by omega⟩ ⟨by omega, by omega⟩) rfl (by decide) rfl (Nat.le_of_ble_eq_true rfl) ?_
  refine g_cV3 ok dX7_warrant_10 mv_X7_154 (c_X7_refusal X _ _ _ _ ⟨by omega, by omega⟩ (by first | omega | exact bI_in.1) (by first | omega | exact bI_in.2)) rfl (Vd.one rfl) rfl rfl (by decide) rfl (Nat.le_of_ble_eq_true rfl) (fun q1 => ?_) (fun q1 => ?_) (fun q1 => ?_)
  · skip
    refine g_lstore_n ok dX7_warrant_13 rfl (Nat.le_of_ble_eq_true rfl) ?_
    refine g_lload_n ok dX7_warrant_14 rfl rfl ?_
    refine g_lconst (v := 0) ok dX7_warrant_15 (by decide +kernel) ?_
    refine g_lcmp_eq (tgt := 22) ok dX7_warrant_16 dX7_warrant_17 (by decide) ⟨by omega, by omega⟩ ⟨by omega, by omega⟩ (fun c2 => ?_) (fun c2 => ?_)
    · skip
      exfalso
      omega
    · skip
      refine g_lload_n ok dX7_warrant_20 rfl rfl ?_
      exact g_lret ok hq dX7_warrant_21 (ansL (by (simp only [rc_warrant, BAD, NO, FULL, NONE, NOTHING, INDEX, SIZE] <;> (repeat (first | rw [if_pos (by omega)] | rw [if_neg (by omega)])) <;> omega)) (by (simp only [sc_warrant] <;> (repeat (first | rw [if_pos (by omega)] | rw [if_neg (by omega)])) <;> first | rfl | (congr 1; omega))))
  · skip
    refine g_lstore_n ok dX7_warrant_13 rfl (Nat.le_of_ble_eq_true rfl) ?_
    refine g_lload_n ok dX7_warrant_14 rfl rfl ?_
    refine g_lconst (v := 0) ok dX7_warrant_15 (by decide +kernel) ?_
    refine g_lcmp_eq (tgt := 22) ok dX7_warrant_16 dX7_warrant_17 (by decide) ⟨by omega, by omega⟩ ⟨by omega, by omega⟩ (fun c3 => ?_) (fun c3 => ?_)
    · skip
      exfalso
      omega
    · skip
      refine g_lload_n ok dX7_warrant_20 rfl rfl ?_
      exact g_lret ok hq dX7_warrant_21 (ansL (by (simp only [rc_warrant, BAD, NO, FULL, NONE, NOTHING, INDEX, SIZE] <;> (repeat (first | rw [if_pos (by omega)] | rw [if_neg (by omega)])) <;> omega)) (by (simp only [sc_warrant] <;> (repeat (first | rw [if_pos (by omega)] | rw [if_neg (by omega)])) <;> first | rfl | (congr 1; omega))))
  · skip
    refine g_lstore_n ok dX7_warrant_13 rfl (Nat.le_of_ble_eq_true rfl) ?_
    refine g_lload_n ok dX7_warrant_14 rfl rfl ?_
    refine g_lconst (v := 0) ok dX7_warrant_15 (by decide +kernel) ?_
    refine g_lcmp_eq (tgt := 22) ok dX7_warrant_16 dX7_warrant_17 (by decide) ⟨by omega, by omega⟩ ⟨by omega, by omega⟩ (fun c4 => ?_) (fun c4 => ?_)
    · skip
      refine g_aload_n ok dX7_warrant_22 rfl rfl ?_
      refine g_getr ok dX7_warrant_23 fl_X7_25 (Vd.one rfl) rfl rfl ?_
      refine g_iload_n ok dX7_warrant_26 rfl rfl ?_
      refine g_aald ok dX7_warrant_27 (Vd.one rfl) (fun _ => rfl) ⟨by omega, by omega⟩ rfl ?_
      refine g_geti (z := 11) ok dX7_warrant_28 fl_X7_280 (Vd.four rfl (by omega) (by omega)) rfl rfl rfl (fun h5 h6 => ?_)
      refine g_istore ok dX7_warrant_31 (Nat.le_of_ble_eq_true rfl) ?_
      refine g_aload_n ok dX7_warrant_33 rfl rfl ?_
      refine g_getr ok dX7_warrant_34 fl_X7_25 (Vd.one rfl) rfl rfl ?_
      refine g_iload_n ok dX7_warrant_37 rfl rfl ?_
      refine g_aald ok dX7_warrant_38 (Vd.one rfl) (fun _ => rfl) ⟨by omega, by omega⟩ rfl ?_
      refine g_iload_n ok dX7_warrant_39 rfl rfl ?_
      refine g_puti (z := 11) ok dX7_warrant_40 fw_X7_280 (Vd.four rfl (by omega) (by omega)) rfl rfl (Nat.le_of_ble_eq_true rfl) rfl ⟨by omega, by omega⟩ ?_
      refine g_iload ok dX7_warrant_43 rfl ?_
      refine g_i2l ok dX7_warrant_45 ⟨by omega, by omega⟩ ?_
      exact g_lret ok hq dX7_warrant_46 (ansL (by (simp only [rc_warrant, BAD, NO, FULL, NONE, NOTHING, INDEX, SIZE] <;> (repeat (first | rw [if_pos (by omega)] | rw [if_neg (by omega)])) <;> omega)) (by (simp only [sc_warrant] <;> (repeat (first | rw [if_pos (by omega)] | rw [if_neg (by omega)])) <;> first | rfl | (congr 1; omega))))
    · skip
      exfalso
      omega

set_option maxRecDepth 100000 in
set_option maxHeartbeats 4000000 in
theorem c_X7_voided (X : XW) (l : Launch) (σ : Mm) (z1 : Int) (rz1 : R32 z1) (hR : CR σ) (hS : CS σ) : Ct X l yX7_voided cX7_voided 4 (Option.some FieldType.long) 3 64 σ [.inr (.inr (0, 0)), .inl z1] (Ans (some (.inr (.inl (rc_voided σ z1)))) (σ)) := by
  refine Ct.intro (own := RX7) (by decide) rfl (Nat.le_of_ble_eq_true rfl) (fun M hM ok hq => ?_)
  subst hM
  have rz1l := rz1.1
  have rz1r := rz1.2
  show G X M cX7_voided 4 σ 0 [(0, .inr (.inr (0, 0))), (1, .inl z1)] []
  have aS := hS z1
  have aR := hR.1
  refine g_aload_n ok dX7_voided_0 rfl rfl ?_
  refine g_iload_n ok dX7_voided_1 rfl rfl ?_
  refine g_iconst (v := 1) ok dX7_voided_2 (by decide +kernel) ?_
  refine g_cV3 ok dX7_voided_3 mv_X7_154 (c_X7_refusal X _ _ _ _ ⟨by omega, by omega⟩ (by first | omega | exact bI_in.1) (by first | omega | exact bI_in.2)) rfl (Vd.one rfl) rfl rfl (by decide) rfl (Nat.le_of_ble_eq_true rfl) (fun q1 => ?_) (fun q1 => ?_) (fun q1 => ?_)
  · skip
    refine g_lstore_n ok dX7_voided_6 rfl (Nat.le_of_ble_eq_true rfl) ?_
    refine g_lload_n ok dX7_voided_7 rfl rfl ?_
    refine g_lconst (v := 0) ok dX7_voided_8 (by decide +kernel) ?_
    refine g_lcmp_eq (tgt := 15) ok dX7_voided_9 dX7_voided_10 (by decide) ⟨by omega, by omega⟩ ⟨by omega, by omega⟩ (fun c2 => ?_) (fun c2 => ?_)
    · skip
      exfalso
      omega
    · skip
      refine g_lload_n ok dX7_voided_13 rfl rfl ?_
      exact g_lret ok hq dX7_voided_14 (ansL (by (simp only [rc_voided, BAD, NO, FULL, NONE, NOTHING, INDEX, SIZE] <;> (repeat (first | rw [if_pos (by omega)] | rw [if_neg (by omega)])) <;> omega)) (by rfl))
  · skip
    refine g_lstore_n ok dX7_voided_6 rfl (Nat.le_of_ble_eq_true rfl) ?_
    refine g_lload_n ok dX7_voided_7 rfl rfl ?_
    refine g_lconst (v := 0) ok dX7_voided_8 (by decide +kernel) ?_
    refine g_lcmp_eq (tgt := 15) ok dX7_voided_9 dX7_voided_10 (by decide) ⟨by omega, by omega⟩ ⟨by omega, by omega⟩ (fun c3 => ?_) (fun c3 => ?_)
    · skip
      exfalso
      omega
    · skip
      refine g_lload_n ok dX7_voided_13 rfl rfl ?_
      exact g_lret ok hq dX7_voided_14 (ansL (by (simp only [rc_voided, BAD, NO, FULL, NONE, NOTHING, INDEX, SIZE] <;> (repeat (first | rw [if_pos (by omega)] | rw [if_neg (by omega)])) <;> omega)) (by rfl))
  · skip
    refine g_lstore_n ok dX7_voided_6 rfl (Nat.le_of_ble_eq_true rfl) ?_
    refine g_lload_n ok dX7_voided_7 rfl rfl ?_
    refine g_lconst (v := 0) ok dX7_voided_8 (by decide +kernel) ?_
    refine g_lcmp_eq (tgt := 15) ok dX7_voided_9 dX7_voided_10 (by decide) ⟨by omega, by omega⟩ ⟨by omega, by omega⟩ (fun c4 => ?_) (fun c4 => ?_)
    · skip
      refine g_aload_n ok dX7_voided_15 rfl rfl ?_
      refine g_getr ok dX7_voided_16 fl_X7_54 (Vd.one rfl) rfl rfl ?_
      refine g_iload_n ok dX7_voided_19 rfl rfl ?_
      refine g_aload_n ok dX7_voided_20 rfl rfl ?_
      refine g_getr ok dX7_voided_21 fl_X7_25 (Vd.one rfl) rfl rfl ?_
      refine g_iload_n ok dX7_voided_24 rfl rfl ?_
      refine g_aald ok dX7_voided_25 (Vd.one rfl) (fun _ => rfl) ⟨by omega, by omega⟩ rfl ?_
      refine g_geti (z := 11) ok dX7_voided_26 fl_X7_280 (Vd.four rfl (by omega) (by omega)) rfl rfl rfl (fun h5 h6 => ?_)
      refine g_cV ok dX7_voided_29 mv_X7_283 (c_X2_firstBeyond X _ _ _ _ (by omega) (by omega) ⟨by omega, by omega⟩ hR (by omega)) rfl (Vd.one rfl) rfl rfl (by decide) rfl (Nat.le_of_ble_eq_true rfl) ?_
      exact g_lret ok hq dX7_voided_32 (ansL (by (simp only [rc_voided, BAD, NO, FULL, NONE, NOTHING, INDEX, SIZE] <;> (repeat (first | rw [if_pos (by omega)] | rw [if_neg (by omega)])) <;> omega)) (by rfl))
    · skip
      exfalso
      omega

theorem sm01 {f : Int → Int} (h : ∀ k, 0 ≤ f k ∧ f k ≤ 1) {n : Int} (h0 : 0 ≤ n) (h1 : n ≤ 36) : 0 ≤ sm f n ∧ sm f n ≤ 36 := by
  have b := sm_b (f := f) (a := 0) (b := 1) (n := n) h0 (fun k _ _ => h k)
  omega
theorem if01 {P : Prop} [Decidable P] : 0 ≤ (if P then (0 : Int) else 1) ∧ (if P then (0 : Int) else 1) ≤ 1 := by split <;> omega

set_option maxRecDepth 100000 in
set_option maxHeartbeats 4000000 in
theorem c_X7_count (X : XW) (l : Launch) (σ : Mm) (z1 : Int) (rz1 : R32 z1) (hR : CR σ) (hT : CT σ) (hD : CD σ) : Ct X l yX7_count cX7_count 2 (Option.some FieldType.long) 1 23 σ [.inr (.inr (0, 0)), .inl z1] (Ans (some (.inr (.inl (rc_count σ z1)))) (σ)) := by
  refine Ct.intro (own := RX7) (by decide) rfl (Nat.le_of_ble_eq_true rfl) (fun M hM ok hq => ?_)
  subst hM
  have rz1l := rz1.1
  have rz1r := rz1.2
  show G X M cX7_count 2 σ 0 [(0, .inr (.inr (0, 0))), (1, .inl z1)] []
  have aT := hT.1
  have aT2 := hT.2
  have aR := hR.1
  have aD := hD.1
  have s1 := sm01 (f := fun k => if σ 8 k 0 = 0 then 0 else 1) (fun _ => if01) (n := 4) (by omega) (by omega)
  have s2 := sm01 (f := fun k => if σ 6 k 0 = 0 then 0 else 1) (fun _ => if01) (n := 4) (by omega) (by omega)
  have s3 := sm01 (f := fun k => if σ 21 0 k = -1001 then 0 else 1) (fun _ => if01) (n := 36) (by omega) (by omega)
  have s4 := sm01 (f := fun k => if σ 2 0 k = 0 then 0 else 1) (fun _ => if01) (n := σ 1 0 0) (by omega) (by omega)
  refine g_iload_n ok dX7_count_0 rfl rfl ?_
  refine g_iconst (v := 0) ok dX7_count_1 (by decide +kernel) ?_
  refine g_bipush (v := 7) ok dX7_count_2 (by decide +kernel) ?_
  refine g_cS ok dX7_count_4 ms_X7_58 (c_X7_within X _ _ _ _ _ ⟨by omega, by omega⟩ ⟨by omega, by omega⟩ ⟨by omega, by omega⟩) rfl (by decide) rfl (Nat.le_of_ble_eq_true rfl) ?_
  refine g_ifb_ne (tgt := 14) ok dX7_count_7 (by decide) (fun c1 => ?_) (fun c1 => ?_)
  · skip
    refine g_iload_n ok dX7_count_14 rfl rfl ?_
    rcases (show z1 = 0 ∨ z1 = 1 ∨ z1 = 2 ∨ z1 = 3 ∨ z1 = 4 ∨ z1 = 5 ∨ z1 = 6 ∨ (z1 < 0 ∨ 6 < z1) by omega) with w2 | w2 | w2 | w2 | w2 | w2 | w2 | w2
    · skip
      refine g_tabIn (tgt := 56) ok dX7_count_15 ⟨by omega, by omega⟩ (by omega) (by omega) (off := 41) (by rw [w2]; rfl) (by decide) ?_
      refine g_aload_n ok dX7_count_56 rfl rfl ?_
      refine g_cV ok dX7_count_57 mv_X7_286 (c_X7_storesThere X _ _ ) rfl (Vd.one rfl) rfl rfl (by decide) rfl (Nat.le_of_ble_eq_true rfl) ?_
      refine g_i2l ok dX7_count_60 ⟨by omega, by omega⟩ ?_
      exact g_lret ok hq dX7_count_61 (ansL (by (simp only [rc_count, BAD, NO, FULL, NONE, NOTHING, INDEX, SIZE] <;> (repeat (first | rw [if_pos (by omega)] | rw [if_neg (by omega)])) <;> omega)) (by rfl))
    · skip
      refine g_tabIn (tgt := 62) ok dX7_count_15 ⟨by omega, by omega⟩ (by omega) (by omega) (off := 47) (by rw [w2]; rfl) (by decide) ?_
      refine g_aload_n ok dX7_count_62 rfl rfl ?_
      refine g_getr ok dX7_count_63 fl_X7_12 (Vd.one rfl) rfl rfl ?_
      refine g_geti (z := 0) ok dX7_count_66 fl_X7_68 (Vd.one rfl) rfl rfl rfl (fun h3 h4 => ?_)
      refine g_i2l ok dX7_count_69 ⟨by omega, by omega⟩ ?_
      exact g_lret ok hq dX7_count_70 (ansL (by (simp only [rc_count, BAD, NO, FULL, NONE, NOTHING, INDEX, SIZE] <;> (repeat (first | rw [if_pos (by omega)] | rw [if_neg (by omega)])) <;> omega)) (by rfl))
    · skip
      refine g_tabIn (tgt := 71) ok dX7_count_15 ⟨by omega, by omega⟩ (by omega) (by omega) (off := 56) (by rw [w2]; rfl) (by decide) ?_
      refine g_aload_n ok dX7_count_71 rfl rfl ?_
      refine g_getr ok dX7_count_72 fl_X7_40 (Vd.one rfl) rfl rfl ?_
      refine g_geti (z := 0) ok dX7_count_75 fl_X7_64 (Vd.one rfl) rfl rfl rfl (fun h5 h6 => ?_)
      refine g_i2l ok dX7_count_78 ⟨by omega, by omega⟩ ?_
      exact g_lret ok hq dX7_count_79 (ansL (by (simp only [rc_count, BAD, NO, FULL, NONE, NOTHING, INDEX, SIZE] <;> (repeat (first | rw [if_pos (by omega)] | rw [if_neg (by omega)])) <;> omega)) (by rfl))
    · skip
      refine g_tabIn (tgt := 80) ok dX7_count_15 ⟨by omega, by omega⟩ (by omega) (by omega) (off := 65) (by rw [w2]; rfl) (by decide) ?_
      refine g_aload_n ok dX7_count_80 rfl rfl ?_
      refine g_getr ok dX7_count_81 fl_X7_54 (Vd.one rfl) rfl rfl ?_
      refine g_geti (z := 0) ok dX7_count_84 fl_X7_255 (Vd.one rfl) rfl rfl rfl (fun h7 h8 => ?_)
      refine g_i2l ok dX7_count_87 ⟨by omega, by omega⟩ ?_
      exact g_lret ok hq dX7_count_88 (ansL (by (simp only [rc_count, BAD, NO, FULL, NONE, NOTHING, INDEX, SIZE] <;> (repeat (first | rw [if_pos (by omega)] | rw [if_neg (by omega)])) <;> omega)) (by rfl))
    · skip
      refine g_tabIn (tgt := 89) ok dX7_count_15 ⟨by omega, by omega⟩ (by omega) (by omega) (off := 74) (by rw [w2]; rfl) (by decide) ?_
      refine g_aload_n ok dX7_count_89 rfl rfl ?_
      refine g_cV ok dX7_count_90 mv_X7_290 (c_X7_worldsThere X _ _ ) rfl (Vd.one rfl) rfl rfl (by decide) rfl (Nat.le_of_ble_eq_true rfl) ?_
      refine g_i2l ok dX7_count_93 ⟨by omega, by omega⟩ ?_
      exact g_lret ok hq dX7_count_94 (ansL (by (simp only [rc_count, BAD, NO, FULL, NONE, NOTHING, INDEX, SIZE] <;> (repeat (first | rw [if_pos (by omega)] | rw [if_neg (by omega)])) <;> omega)) (by rfl))
    · skip
      refine g_tabIn (tgt := 95) ok dX7_count_15 ⟨by omega, by omega⟩ (by omega) (by omega) (off := 80) (by rw [w2]; rfl) (by decide) ?_
      refine g_aload_n ok dX7_count_95 rfl rfl ?_
      refine g_getr ok dX7_count_96 fl_X7_47 (Vd.one rfl) rfl rfl ?_
      refine g_cV ok dX7_count_99 mv_X7_293 (c_X4_readingsThere X _ _ ) rfl (Vd.one rfl) rfl rfl (by decide) rfl (Nat.le_of_ble_eq_true rfl) ?_
      refine g_i2l ok dX7_count_102 ⟨by omega, by omega⟩ ?_
      exact g_lret ok hq dX7_count_103 (ansL (by (simp only [rc_count, BAD, NO, FULL, NONE, NOTHING, INDEX, SIZE] <;> (repeat (first | rw [if_pos (by omega)] | rw [if_neg (by omega)])) <;> omega)) (by rfl))
    · skip
      refine g_tabIn (tgt := 104) ok dX7_count_15 ⟨by omega, by omega⟩ (by omega) (by omega) (off := 89) (by rw [w2]; rfl) (by decide) ?_
      refine g_aload_n ok dX7_count_104 rfl rfl ?_
      refine g_getr ok dX7_count_105 fl_X7_12 (Vd.one rfl) rfl rfl ?_
      refine g_cV ok dX7_count_108 mv_X7_296 (c_X3_darkSteps X _ _ hT) rfl (Vd.one rfl) rfl rfl (by decide) rfl (Nat.le_of_ble_eq_true rfl) ?_
      refine g_i2l ok dX7_count_111 ⟨by omega, by omega⟩ ?_
      exact g_lret ok hq dX7_count_112 (ansL (by (simp only [rc_count, BAD, NO, FULL, NONE, NOTHING, INDEX, SIZE] <;> (repeat (first | rw [if_pos (by omega)] | rw [if_neg (by omega)])) <;> omega)) (by rfl))
    · skip
      refine g_tabOut (tgt := 113) ok dX7_count_15 ⟨by omega, by omega⟩ (by omega) (by decide) ?_
      refine g_aload_n ok dX7_count_113 rfl rfl ?_
      refine g_getr ok dX7_count_114 fl_X7_54 (Vd.one rfl) rfl rfl ?_
      refine g_cV ok dX7_count_117 mv_X7_299 (c_X2_allMoney X _ _ hR) rfl (Vd.one rfl) rfl rfl (by decide) rfl (Nat.le_of_ble_eq_true rfl) ?_
      exact g_lret ok hq dX7_count_120 (ansL (by (simp only [rc_count, BAD, NO, FULL, NONE, NOTHING, INDEX, SIZE] <;> (repeat (first | rw [if_pos (by omega)] | rw [if_neg (by omega)])) <;> omega)) (by rfl))
  · skip
    refine g_ldc2 (v := -9000000000000000001) ok dX7_count_10 wd2_31 (by decide +kernel) ?_
    exact g_lret ok hq dX7_count_13 (ansL (by (simp only [rc_count, BAD, NO, FULL, NONE, NOTHING, INDEX, SIZE] <;> (repeat (first | rw [if_pos (by omega)] | rw [if_neg (by omega)])) <;> omega)) (by rfl))

set_option maxRecDepth 100000 in
set_option maxHeartbeats 4000000 in
theorem c_X7_live (X : XW) (l : Launch) (σ : Mm) (z1 z2 : Int) (rz1 : R32 z1) (rz2 : R32 z2) (hS : CS σ) (hT : CT σ) (hP : CP σ) (hR : CR σ) (hK : CK σ) (hL : CL σ) : Ct X l yX7_live cX7_live 8 (Option.some FieldType.long) 4 92 σ [.inr (.inr (0, 0)), .inl z1, .inl z2] (Ans (some (.inr (.inl (rc_live σ z1 z2)))) (sc_live σ z1 z2)) := by
  refine Ct.intro (own := RX7) (by decide) rfl (Nat.le_of_ble_eq_true rfl) (fun M hM ok hq => ?_)
  subst hM
  have rz1l := rz1.1
  have rz1r := rz1.2
  have rz2l := rz2.1
  have rz2r := rz2.2
  show G X M cX7_live 8 σ 0 [(0, .inr (.inr (0, 0))), (1, .inl z1), (2, .inl z2)] []
  have aT := hT.1
  have aT2 := hT.2
  have hb := bI_1 (c := 0 ≤ z2 ∧ z2 ≤ 3)
  have hb2 := bI_in (c := 0 ≤ z2 ∧ z2 ≤ 3)
  have aR := hR.1
  have hN : NONE = -9000000000000000005 := rfl
  refine g_aload_n ok dX7_live_0 rfl rfl ?_
  refine g_iload_n ok dX7_live_1 rfl rfl ?_
  refine g_iload_n ok dX7_live_2 rfl rfl ?_
  refine g_cS ok dX7_live_3 ms_X7_90 (c_X7_isWorld X _ _ _ ⟨by omega, by omega⟩) rfl (by decide) rfl (Nat.le_of_ble_eq_true rfl) ?_
  refine g_cV3 ok dX7_live_6 mv_X7_154 (c_X7_refusal X _ _ _ _ ⟨by omega, by omega⟩ (by first | omega | exact bI_in.1) (by first | omega | exact bI_in.2)) rfl (Vd.one rfl) rfl rfl (by decide) rfl (Nat.le_of_ble_eq_true rfl) (fun q1 => ?_) (fun q1 => ?_) (fun q1 => ?_)
  · skip
    refine g_lstore_n ok dX7_live_9 rfl (Nat.le_of_ble_eq_true rfl) ?_
    refine g_lload_n ok dX7_live_10 rfl rfl ?_
    refine g_lconst (v := 0) ok dX7_live_11 (by decide +kernel) ?_
    refine g_lcmp_eq (tgt := 18) ok dX7_live_12 dX7_live_13 (by decide) ⟨by omega, by omega⟩ ⟨by omega, by omega⟩ (fun c2 => ?_) (fun c2 => ?_)
    · skip
      exfalso
      omega
    · skip
      refine g_lload_n ok dX7_live_16 rfl rfl ?_
      exact g_lret ok hq dX7_live_17 (ansL (by (simp only [rc_live, BAD, NO, FULL, NONE, NOTHING, INDEX, SIZE] <;> (repeat (first | rw [if_pos (by omega)] | rw [if_neg (by omega)])) <;> omega)) (by (simp only [sc_live] <;> (repeat (first | rw [if_pos (by omega)] | rw [if_neg (by omega)])) <;> first | rfl | (congr 1; omega))))
  · skip
    refine g_lstore_n ok dX7_live_9 rfl (Nat.le_of_ble_eq_true rfl) ?_
    refine g_lload_n ok dX7_live_10 rfl rfl ?_
    refine g_lconst (v := 0) ok dX7_live_11 (by decide +kernel) ?_
    refine g_lcmp_eq (tgt := 18) ok dX7_live_12 dX7_live_13 (by decide) ⟨by omega, by omega⟩ ⟨by omega, by omega⟩ (fun c3 => ?_) (fun c3 => ?_)
    · skip
      exfalso
      omega
    · skip
      refine g_lload_n ok dX7_live_16 rfl rfl ?_
      exact g_lret ok hq dX7_live_17 (ansL (by (simp only [rc_live, BAD, NO, FULL, NONE, NOTHING, INDEX, SIZE] <;> (repeat (first | rw [if_pos (by omega)] | rw [if_neg (by omega)])) <;> omega)) (by (simp only [sc_live] <;> (repeat (first | rw [if_pos (by omega)] | rw [if_neg (by omega)])) <;> first | rfl | (congr 1; omega))))
  · skip
    refine g_lstore_n ok dX7_live_9 rfl (Nat.le_of_ble_eq_true rfl) ?_
    refine g_lload_n ok dX7_live_10 rfl rfl ?_
    refine g_lconst (v := 0) ok dX7_live_11 (by decide +kernel) ?_
    refine g_lcmp_eq (tgt := 18) ok dX7_live_12 dX7_live_13 (by decide) ⟨by omega, by omega⟩ ⟨by omega, by omega⟩ (fun c4 => ?_) (fun c4 => ?_)
    · skip
      refine g_aload_n ok dX7_live_18 rfl rfl ?_
      refine g_getr ok dX7_live_19 fl_X7_25 (Vd.one rfl) rfl rfl ?_
      refine g_iload_n ok dX7_live_22 rfl rfl ?_
      refine g_aald ok dX7_live_23 (Vd.one rfl) (fun _ => rfl) ⟨by omega, by omega⟩ rfl ?_
      refine g_astore ok dX7_live_24 (Nat.le_of_ble_eq_true rfl) ?_
      refine g_aload_n ok dX7_live_26 rfl rfl ?_
      refine g_getr ok dX7_live_27 fl_X7_12 (Vd.one rfl) rfl rfl ?_
      refine g_aload ok dX7_live_30 rfl ?_
      refine g_cV ok dX7_live_32 mv_X7_185 (c_X3_firstFault X _ _ _ (by omega) (by omega) hS hK hL hT) rfl (Vd.one rfl) rfl rfl (by decide) rfl (Nat.le_of_ble_eq_true rfl) ?_
      have aW := whC_b hT z1
      refine g_ldc2 (v := -9000000000000000005) ok dX7_live_35 wd2_227 (by decide +kernel) ?_
      refine g_lcmp_eq (tgt := 46) ok dX7_live_38 dX7_live_39 (by decide) ⟨by omega, by omega⟩ ⟨by omega, by omega⟩ (fun c5 => ?_) (fun c5 => ?_)
      · skip
        refine g_aload_n ok dX7_live_46 rfl rfl ?_
        refine g_getr ok dX7_live_47 fl_X7_54 (Vd.one rfl) rfl rfl ?_
        refine g_geti (z := 0) ok dX7_live_50 fl_X7_255 (Vd.one rfl) rfl rfl rfl (fun h6 h7 => ?_)
        refine g_aload_n ok dX7_live_53 rfl rfl ?_
        refine g_getr ok dX7_live_54 fl_X7_12 (Vd.one rfl) rfl rfl ?_
        refine g_geti (z := 0) ok dX7_live_57 fl_X7_68 (Vd.one rfl) rfl rfl rfl (fun h8 h9 => ?_)
        refine g_iadd ok dX7_live_60 ?_
        refine g_sipush (v := 150) ok dX7_live_61 (by decide +kernel) ?_
        refine g_icmp_le (tgt := 71) ok dX7_live_64 (by decide) ⟨by omega, by omega⟩ ⟨by omega, by omega⟩ (fun c10 => ?_) (fun c10 => ?_)
        · skip
          refine g_iconst (v := 0) ok dX7_live_71 (by decide +kernel) ?_
          refine g_istore ok dX7_live_72 (Nat.le_of_ble_eq_true rfl) ?_
          have L74 : ∀ (n : Nat) (t : Int) (s : Mm), (0 ≤ t) → (t ≤ σ 1 0 0) → (s = lvC σ z1 z2 t) → (σ 1 0 0 - t < n) → G X M cX7_live 8 s 74 [(0, .inr (.inr (0, 0))), (1, .inl z1), (2, .inl z2), (5, .inr (.inr (8, z1))), (6, .inl t)] [] := by
            intro n
            induction n with
            | zero => intro t s hk0 hk1 hs hm; exact absurd hm (by omega)
            | succ n L74ih =>
              intro t s hk0 hk1 hs hm
              subst hs
              have aL := hL z1 t
              have aP := pC_b hP z2 t
              have aM := monC_b hS z1 (d := σ 9 z1 t) (p := pC σ z2 t) (by omega) (by omega)
              have aQ : lvC σ z1 z2 t 22 0 0 = σ 22 0 0 + t := rfl
              refine g_iload ok dX7_live_74 rfl ?_
              refine g_aload_n ok dX7_live_76 rfl rfl ?_
              refine g_getr ok dX7_live_77 fl_X7_12 (Vd.one rfl) rfl rfl ?_
              refine g_geti2 σ (z := 0) ok dX7_live_80 fl_X7_68 (Vd.one rfl) rfl rfl rfl rfl (fun h11 h12 => ?_)
              refine g_icmp_ge (tgt := 134) ok dX7_live_83 (by decide) ⟨by omega, by omega⟩ ⟨by omega, by omega⟩ (fun c13 => ?_) (fun c13 => ?_)
              · skip
                refine g_aload ok dX7_live_134 rfl ?_
                refine g_aload ok dX7_live_136 rfl ?_
                refine g_aload_n ok dX7_live_138 rfl rfl ?_
                refine g_getr ok dX7_live_139 fl_X7_12 (Vd.one rfl) rfl rfl ?_
                refine g_geti2 σ (z := 0) ok dX7_live_142 fl_X7_68 (Vd.one rfl) rfl rfl rfl rfl (fun h14 h15 => ?_)
                refine g_iconst (v := 1) ok dX7_live_145 (by decide +kernel) ?_
                refine g_isub ok dX7_live_146 ?_
                refine g_cV ok dX7_live_147 mv_X7_182 (c_X0_chargeBehind X _ _ _ _ (by omega) (by omega) (by omega) (by omega)) rfl (Vd.four rfl (by omega) (by omega)) rfl rfl (by decide) rfl (Nat.le_of_ble_eq_true rfl) ?_
                change G X M cX7_live 8 _ _ _ (.inl (bhC σ z1 (σ 1 0 0 - 1)) :: _)
                have aB := bhC_b hS hL z1 (t := σ 1 0 0 - 1) (by omega) (by omega)
                refine g_puti (z := 3) ok dX7_live_150 fw_X7_164 (Vd.four rfl (by omega) (by omega)) rfl rfl (Nat.le_of_ble_eq_true rfl) rfl ⟨by omega, by omega⟩ ?_
                refine g_aload_n ok dX7_live_153 rfl rfl ?_
                refine g_getr ok dX7_live_154 fl_X7_54 (Vd.one rfl) rfl rfl ?_
                refine g_geti (z := 0) ok dX7_live_157 fl_X7_255 (Vd.one rfl) rfl rfl rfl (fun h16 h17 => ?_)
                have e5 : _ = σ 22 0 0 + σ 1 0 0 := (show (lvC σ z1 z2 t) 22 0 0 = σ 22 0 0 + σ 1 0 0 from (by rw [show t = σ 1 0 0 by omega]; rfl))
                refine g_i2l ok dX7_live_160 ⟨by omega, by omega⟩ ?_
                exact g_lret ok hq dX7_live_161 (ansL (by (unfold rc_live; rw [if_pos (by omega), if_neg (by omega), if_neg (by omega)]; exact e5)) (by (unfold sc_live; rw [if_pos (by omega), show t = σ 1 0 0 by omega]; (try rfl))))
              · skip
                refine g_aload ok dX7_live_86 rfl ?_
                refine g_getr ok dX7_live_88 fl_X7_179 (Vd.four rfl (by omega) (by omega)) rfl rfl ?_
                refine g_iload ok dX7_live_91 rfl ?_
                refine g_iald2 σ ok dX7_live_93 (Vd.four rfl (by omega) (by omega)) (fun _ => rfl) ⟨by omega, by omega⟩ (by decide) rfl rfl (fun h18 h19 => ?_)
                refine g_istore ok dX7_live_94 (Nat.le_of_ble_eq_true rfl) ?_
                refine g_aload_n ok dX7_live_96 rfl rfl ?_
                refine g_getr ok dX7_live_97 fl_X7_54 (Vd.one rfl) rfl rfl ?_
                refine g_iload_n ok dX7_live_100 rfl rfl ?_
                refine g_iload_n ok dX7_live_101 rfl rfl ?_
                refine g_iload ok dX7_live_102 rfl ?_
                refine g_iload ok dX7_live_104 rfl ?_
                refine g_aload ok dX7_live_106 rfl ?_
                refine g_iload ok dX7_live_108 rfl ?_
                refine g_aload_n ok dX7_live_110 rfl rfl ?_
                refine g_getr ok dX7_live_111 fl_X7_18 (Vd.one rfl) rfl rfl ?_
                refine g_iload_n ok dX7_live_114 rfl rfl ?_
                refine g_aald ok dX7_live_115 (Vd.one rfl) (fun _ => rfl) ⟨by omega, by omega⟩ rfl ?_
                refine g_iload ok dX7_live_116 rfl ?_
                refine g_cV ok dX7_live_118 mv_X7_134 (c_X6_priceOf X _ _ _ _ (by omega) (by omega) ⟨by omega, by omega⟩ hP) rfl (Vd.four rfl (by omega) (by omega)) rfl rfl (by decide) rfl (Nat.le_of_ble_eq_true rfl) ?_
                change G X M cX7_live 8 _ _ _ (.inl (pC σ z2 t) :: _)
                refine g_i2l ok dX7_live_121 ⟨by omega, by omega⟩ ?_
                refine g_cV ok dX7_live_122 mv_X7_258 (c_X0_moneyOf X _ _ _ _ _ (by omega) (by omega) (by omega) (by omega) hS) rfl (Vd.four rfl (by omega) (by omega)) rfl rfl (by decide) rfl (Nat.le_of_ble_eq_true rfl) ?_
                change G X M cX7_live 8 _ _ _ (.inr (.inl (monC σ z1 (σ 9 z1 t) (pC σ z2 t))) :: _)
                refine g_cV0 ok dX7_live_125 mv_X7_262 (c_X2_add X _ _ _ _ _ _ _ ⟨by omega, by omega⟩ ⟨by omega, by omega⟩ ⟨by omega, by omega⟩ ⟨by omega, by omega⟩ ⟨by omega, by omega⟩ (by omega)) rfl (Vd.one rfl) rfl rfl (by decide) rfl (Nat.le_of_ble_eq_true rfl) ?_
                refine g_iinc ok dX7_live_128 rfl rfl (Nat.le_of_ble_eq_true rfl) ?_
                refine g_goto (tgt := 74) ok dX7_live_131 (by decide) ?_
                refine G.norm [(0, .inr (.inr (0, 0))), (1, .inl z1), (2, .inl z2), (5, .inr (.inr (8, z1))), (6, .inl _)] ⟨rfl, rfl, rfl, rfl, rfl, trivial⟩ (L74ih _ _ ?_ ?_ ?_ ?_)
                · omega
                · omega
                · exact lvC_up hk0 rfl rfl
                · omega
          refine G.norm [(0, .inr (.inr (0, 0))), (1, .inl z1), (2, .inl z2), (5, .inr (.inr (8, z1))), (6, .inl _)] ⟨rfl, rfl, rfl, rfl, rfl, trivial⟩ (L74 (37 : Nat) _ _ ?_ ?_ ?_ ?_)
          · omega
          · omega
          · (rw [lvC_0])
          · omega
        · skip
          refine g_ldc2 (v := -9000000000000000003) ok dX7_live_67 wd3_83 (by decide +kernel) ?_
          exact g_lret ok hq dX7_live_70 (ansL (by (simp only [rc_live, BAD, NO, FULL, NONE, NOTHING, INDEX, SIZE] <;> (repeat (first | rw [if_pos (by omega)] | rw [if_neg (by omega)])) <;> omega)) (by (simp only [sc_live] <;> (repeat (first | rw [if_pos (by omega)] | rw [if_neg (by omega)])) <;> first | rfl | (congr 1; omega))))
      · skip
        refine g_ldc2 (v := -9000000000000000002) ok dX7_live_42 wd2_86 (by decide +kernel) ?_
        exact g_lret ok hq dX7_live_45 (ansL (by (simp only [rc_live, BAD, NO, FULL, NONE, NOTHING, INDEX, SIZE] <;> (repeat (first | rw [if_pos (by omega)] | rw [if_neg (by omega)])) <;> omega)) (by (simp only [sc_live] <;> (repeat (first | rw [if_pos (by omega)] | rw [if_neg (by omega)])) <;> first | rfl | (congr 1; omega))))
    · skip
      exfalso
      omega

theorem mcC_b (σ : Mm) (hR : CR σ) : ∀ n : Nat, mcC σ n = NONE ∨ (0 ≤ mcC σ n ∧ mcC σ n ≤ 150)
  | 0 => Or.inl rfl
  | n + 1 => by
    have i := mcC_b σ hR n
    have q := hR.1
    have w := fsr_b (f := wrC σ n) (σ 22 0 0).toNat 0 (by omega)
    have x : fxC σ n = NONE ∨ (0 ≤ fxC σ n ∧ fxC σ n ≤ 150) := by
      unfold fxC
      split
      · exact Or.inl rfl
      · unfold fwC; omega
    unfold mcC
    split
    · exact x
    · exact i

set_option maxRecDepth 100000 in
set_option maxHeartbeats 4000000 in
theorem c_X7_check (X : XW) (l : Launch) (σ : Mm)  (hS : CS σ) (hP : CP σ) (hR : CR σ) : Ct X l yX7_check cX7_check 6 (Option.some FieldType.long) 3 76 σ [.inr (.inr (0, 0))] (Ans (some (.inr (.inl (rc_check σ)))) (σ)) := by
  refine Ct.intro (own := RX7) (by decide) rfl (Nat.le_of_ble_eq_true rfl) (fun M hM ok hq => ?_)
  subst hM
  show G X M cX7_check 6 σ 0 [(0, .inr (.inr (0, 0)))] []
  have aR := hR.1
  have hN : NONE = -9000000000000000005 := rfl
  refine g_ldc2 (v := -9000000000000000005) ok dX7_check_0 wd2_227 (by decide +kernel) ?_
  refine g_lstore_n ok dX7_check_3 rfl (Nat.le_of_ble_eq_true rfl) ?_
  refine g_iconst (v := 0) ok dX7_check_4 (by decide +kernel) ?_
  refine g_istore_n ok dX7_check_5 rfl (Nat.le_of_ble_eq_true rfl) ?_
  have L6 : ∀ (n : Nat) (k : Int) (c : Int), (0 ≤ k) → (k ≤ 4) → (c = mcC σ k.toNat) → (4 - k < n) → G X M cX7_check 6 σ 6 [(0, .inr (.inr (0, 0))), (1, .inr (.inl c)), (3, .inl k)] [] := by
    intro n
    induction n with
    | zero => intro k c hk0 hk1 hc hm; exact absurd hm (by omega)
    | succ n L6ih =>
      intro k c hk0 hk1 hc hm
      have aB := mcC_b σ hR k.toNat
      rw [← hc] at aB
      have e0 : mcC σ (k + 1).toNat = (if fxC σ k ≠ NONE ∧ (c = NONE ∨ fxC σ k < c) then fxC σ k else c) := by rw [show (k + 1).toNat = k.toNat + 1 by omega]; unfold mcC; rw [Int.toNat_of_nonneg hk0, ← hc]
      have e1 : σ 8 k 0 = 0 → fxC σ k = NONE := fun h => if_pos h
      have e2 : ¬ σ 8 k 0 = 0 → fxC σ k = fwC σ k := fun h => if_neg h
      have aF : fwC σ k = NONE ∨ (0 ≤ fwC σ k ∧ fwC σ k < 0 + ((σ 22 0 0).toNat : Int)) := fsr_b (f := wrC σ k) (σ 22 0 0).toNat 0 (by omega)
      refine g_iload_n ok dX7_check_6 rfl rfl ?_
      refine g_iconst (v := 4) ok dX7_check_7 (by decide +kernel) ?_
      refine g_icmp_ge (tgt := 82) ok dX7_check_8 (by decide) ⟨by omega, by omega⟩ ⟨by omega, by omega⟩ (fun c1 => ?_) (fun c1 => ?_)
      · skip
        refine g_lload_n ok dX7_check_82 rfl rfl ?_
        exact g_lret ok hq dX7_check_83 (ansL (by (unfold rc_check; rw [hc, show k = 4 by omega]; rfl)) (by rfl))
      · skip
        refine g_aload_n ok dX7_check_11 rfl rfl ?_
        refine g_getr ok dX7_check_12 fl_X7_25 (Vd.one rfl) rfl rfl ?_
        refine g_iload_n ok dX7_check_15 rfl rfl ?_
        refine g_aald ok dX7_check_16 (Vd.one rfl) (fun _ => rfl) ⟨by omega, by omega⟩ rfl ?_
        refine g_getz (z := 0) ok dX7_check_17 fl_X7_274 (Vd.four rfl (by omega) (by omega)) rfl rfl rfl (fun h2 h3 => ?_)
        refine g_if_eq (tgt := 44) ok dX7_check_20 (by decide) ⟨by omega, by omega⟩ (fun c4 => ?_) (fun c4 => ?_)
        · skip
          refine g_ldc2 (v := -9000000000000000005) ok dX7_check_44 wd2_227 (by decide +kernel) ?_
          refine g_lstore ok dX7_check_47 (Nat.le_of_ble_eq_true rfl) ?_
          refine g_lload ok dX7_check_49 rfl ?_
          refine g_ldc2 (v := -9000000000000000005) ok dX7_check_51 wd2_227 (by decide +kernel) ?_
          refine g_lcmp_eq (tgt := 76) ok dX7_check_54 dX7_check_55 (by decide) ⟨by omega, by omega⟩ ⟨by omega, by omega⟩ (fun c5 => ?_) (fun c5 => ?_)
          · skip
            refine g_iinc ok dX7_check_76 rfl rfl (Nat.le_of_ble_eq_true rfl) ?_
            refine g_goto (tgt := 6) ok dX7_check_79 (by decide) ?_
            refine G.norm [(0, .inr (.inr (0, 0))), (1, .inr (.inl _)), (3, .inl _)] ⟨rfl, rfl, rfl, trivial⟩ (L6ih _ _ ?_ ?_ ?_ ?_)
            · omega
            · omega
            · (rw [e0]; first | (rw [e1 (by assumption)]; rw [if_neg (by omega)]) | (rw [e2 (by assumption)]; first | rw [if_pos (by omega)] | rw [if_neg (by omega)]))
            · omega
          · skip
            exfalso
            omega
        · skip
          refine g_aload_n ok dX7_check_23 rfl rfl ?_
          refine g_getr ok dX7_check_24 fl_X7_54 (Vd.one rfl) rfl rfl ?_
          refine g_iload_n ok dX7_check_27 rfl rfl ?_
          refine g_aload_n ok dX7_check_28 rfl rfl ?_
          refine g_getr ok dX7_check_29 fl_X7_25 (Vd.one rfl) rfl rfl ?_
          refine g_iload_n ok dX7_check_32 rfl rfl ?_
          refine g_aald ok dX7_check_33 (Vd.one rfl) (fun _ => rfl) ⟨by omega, by omega⟩ rfl ?_
          refine g_aload_n ok dX7_check_34 rfl rfl ?_
          refine g_getr ok dX7_check_35 fl_X7_18 (Vd.one rfl) rfl rfl ?_
          refine g_cV ok dX7_check_38 mv_X7_275 (c_X2_firstWrong X _ _ _ (by omega) (by omega) hS hP hR) rfl (Vd.one rfl) rfl rfl (by decide) rfl (Nat.le_of_ble_eq_true rfl) ?_
          refine g_goto (tgt := 47) ok dX7_check_41 (by decide) ?_
          refine g_lstore ok dX7_check_47 (Nat.le_of_ble_eq_true rfl) ?_
          refine g_lload ok dX7_check_49 rfl ?_
          refine g_ldc2 (v := -9000000000000000005) ok dX7_check_51 wd2_227 (by decide +kernel) ?_
          refine g_lcmp_eq (tgt := 76) ok dX7_check_54 dX7_check_55 (by decide) ⟨by omega, by omega⟩ ⟨by omega, by omega⟩ (fun c6 => ?_) (fun c6 => ?_)
          · skip
            refine g_iinc ok dX7_check_76 rfl rfl (Nat.le_of_ble_eq_true rfl) ?_
            refine g_goto (tgt := 6) ok dX7_check_79 (by decide) ?_
            refine G.norm [(0, .inr (.inr (0, 0))), (1, .inr (.inl _)), (3, .inl _)] ⟨rfl, rfl, rfl, trivial⟩ (L6ih _ _ ?_ ?_ ?_ ?_)
            · omega
            · omega
            · (rw [e0]; first | (rw [e1 (by assumption)]; rw [if_neg (by omega)]) | (rw [e2 (by assumption)]; first | rw [if_pos (by omega)] | rw [if_neg (by omega)]))
            · omega
          · skip
            refine g_lload_n ok dX7_check_58 rfl rfl ?_
            refine g_ldc2 (v := -9000000000000000005) ok dX7_check_59 wd2_227 (by decide +kernel) ?_
            refine g_lcmp_eq (tgt := 73) ok dX7_check_62 dX7_check_63 (by decide) ⟨by omega, by omega⟩ ⟨by omega, by omega⟩ (fun c7 => ?_) (fun c7 => ?_)
            · skip
              refine g_lload ok dX7_check_73 rfl ?_
              refine g_lstore_n ok dX7_check_75 rfl (Nat.le_of_ble_eq_true rfl) ?_
              refine g_iinc ok dX7_check_76 rfl rfl (Nat.le_of_ble_eq_true rfl) ?_
              refine g_goto (tgt := 6) ok dX7_check_79 (by decide) ?_
              refine G.norm [(0, .inr (.inr (0, 0))), (1, .inr (.inl _)), (3, .inl _)] ⟨rfl, rfl, rfl, trivial⟩ (L6ih _ _ ?_ ?_ ?_ ?_)
              · omega
              · omega
              · (rw [e0]; first | (rw [e1 (by assumption)]; rw [if_neg (by omega)]) | (rw [e2 (by assumption)]; first | rw [if_pos (by omega)] | rw [if_neg (by omega)]))
              · omega
            · skip
              refine g_lload ok dX7_check_66 rfl ?_
              refine g_lload_n ok dX7_check_68 rfl rfl ?_
              refine g_lcmp_ge (tgt := 76) ok dX7_check_69 dX7_check_70 (by decide) ⟨by omega, by omega⟩ ⟨by omega, by omega⟩ (fun c8 => ?_) (fun c8 => ?_)
              · skip
                refine g_iinc ok dX7_check_76 rfl rfl (Nat.le_of_ble_eq_true rfl) ?_
                refine g_goto (tgt := 6) ok dX7_check_79 (by decide) ?_
                refine G.norm [(0, .inr (.inr (0, 0))), (1, .inr (.inl _)), (3, .inl _)] ⟨rfl, rfl, rfl, trivial⟩ (L6ih _ _ ?_ ?_ ?_ ?_)
                · omega
                · omega
                · (rw [e0]; first | (rw [e1 (by assumption)]; rw [if_neg (by omega)]) | (rw [e2 (by assumption)]; first | rw [if_pos (by omega)] | rw [if_neg (by omega)]))
                · omega
              · skip
                refine g_lload ok dX7_check_73 rfl ?_
                refine g_lstore_n ok dX7_check_75 rfl (Nat.le_of_ble_eq_true rfl) ?_
                refine g_iinc ok dX7_check_76 rfl rfl (Nat.le_of_ble_eq_true rfl) ?_
                refine g_goto (tgt := 6) ok dX7_check_79 (by decide) ?_
                refine G.norm [(0, .inr (.inr (0, 0))), (1, .inr (.inl _)), (3, .inl _)] ⟨rfl, rfl, rfl, trivial⟩ (L6ih _ _ ?_ ?_ ?_ ?_)
                · omega
                · omega
                · (rw [e0]; first | (rw [e1 (by assumption)]; rw [if_neg (by omega)]) | (rw [e2 (by assumption)]; first | rw [if_pos (by omega)] | rw [if_neg (by omega)]))
                · omega
  refine G.norm [(0, .inr (.inr (0, 0))), (1, .inr (.inl _)), (3, .inl _)] ⟨rfl, rfl, rfl, trivial⟩ (L6 (5 : Nat) _ _ ?_ ?_ ?_ ?_)
  · omega
  · omega
  · rfl
  · omega
