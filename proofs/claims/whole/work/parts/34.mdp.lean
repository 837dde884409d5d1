theorem plW_ag {s σ : Mm} {a : Nat} {i b : Int} {h : Int → Int} {t : Int} (hA : Ag s σ) : Ag (plW s a i b h t) (plW σ a i b h t) := by
  funext c
  have q := congrFun hA c
  unfold cut at q ⊢
  by_cases hc : (10 ≤ c ∧ c ≤ 14) ∨ 47 ≤ c
  · rw [if_pos hc, if_pos hc]
  · rw [if_neg hc, if_neg hc] at q ⊢
    unfold plW
    rw [q]
def PostV (P : Mm → Prop) : Option AV → Mm → Prop := fun r s => r = none ∧ P s
section CALLR
variable {X : XW} {M : MX} {cc : ByteArray} {nL fr lo : Nat} {own : String} {σ : Mm} {pc : Nat} {ls : List (Nat × AV)} {st : List AV}
theorem g_cVR {idx : Nat} {y : MethodName} {cb : ByteArray} {mL n fr2 lo2 a ci N : Nat} {ret : Option FieldType} {i : Int} {av rest : List AV} {fs : List Value} {T : u_T} {P : Mm → Prop} (ok : MOk X M cc nL fr lo own) (hd : decode cc pc = .ok (.invokevirtual idx, 3)) (hw : MV own idx y cb mL ret n) (ct : Ct X M.2.1 y cb mL ret fr2 lo2 σ (.inr (.inr (a, i)) :: av) (PostV P))
    (hst : st = av.reverse ++ .inr (.inr (a, i)) :: rest) (hv : Vd a i) (he : encF X a i (σ a i) = .inr (ci, fs)) (hc : vwCl[ci]? = some (y.cls, T, N)) (hf : fr2 + 1 ≤ fr ∧ 8 + (mL + 11) + lo2 ≤ lo) (hn : av.length = n) (h8 : catS rest ≤ 8)
    (kk : ∀ s, P s → G X M cc nL s (pc + 3) ls rest) : G X M cc nL σ pc ls st :=
  g_callV ok hd hw ct hv he hc hf hn hst h8 (fun r s h => by obtain ⟨rfl, h⟩ := h; exact kk s h)
end CALLR
def wT (σ : Mm) (z ws t c d : Int) : Int := wtM σ z ws t c d (VM σ z ws (σ 28 0 0 - (t + 1)).toNat (c + d))
def uT (σ : Mm) (z ws t c d : Int) : Int := NM σ z ws (σ 28 0 0 - (t + 1)).toNat (c + d)
theorem VM_s {σ : Mm} {z ws t c : Int} (h0 : 0 ≤ t) (h1 : t < σ 28 0 0) : VM σ z ws (σ 28 0 0 - t).toNat c = bF (wT σ z ws t c) (-outM σ z) (outM σ z + inM σ z + 1).toNat := by
  rw [show (σ 28 0 0 - t).toNat = (σ 28 0 0 - (t + 1)).toNat + 1 by omega]
  show bF (fun d => wtM σ z ws (σ 28 0 0 - (((σ 28 0 0 - (t + 1)).toNat : Int) + 1)) c d (VM σ z ws (σ 28 0 0 - (t + 1)).toNat (c + d))) _ _ = _
  rw [show σ 28 0 0 - (((σ 28 0 0 - (t + 1)).toNat : Int) + 1) = t by omega]
  rfl
theorem NM_s {σ : Mm} {z ws t c : Int} (h0 : 0 ≤ t) (h1 : t < σ 28 0 0) : NM σ z ws (σ 28 0 0 - t).toNat c = nF (wT σ z ws t c) (uT σ z ws t c) (-outM σ z) (outM σ z + inM σ z + 1).toNat := by
  rw [show (σ 28 0 0 - t).toNat = (σ 28 0 0 - (t + 1)).toNat + 1 by omega]
  show nF (fun d => wtM σ z ws (σ 28 0 0 - (((σ 28 0 0 - (t + 1)).toNat : Int) + 1)) c d (VM σ z ws (σ 28 0 0 - (t + 1)).toNat (c + d))) _ _ _ = _
  rw [show σ 28 0 0 - (((σ 28 0 0 - (t + 1)).toNat : Int) + 1) = t by omega]
  rfl
theorem bF_st {w : Int → Int} {lo d : Int} (h : lo ≤ d) : bF w lo (d + 1 - lo).toNat = if w d ≠ LOW ∧ bF w lo (d - lo).toNat ≤ w d then w d else bF w lo (d - lo).toNat := by
  rw [show (d + 1 - lo).toNat = (d - lo).toNat + 1 by omega]
  show (if w (lo + ((d - lo).toNat : Int)) ≠ LOW ∧ _ then _ else _) = _
  rw [show lo + ((d - lo).toNat : Int) = d by omega]
theorem nF_st {w u : Int → Int} {lo d : Int} (h : lo ≤ d) : nF w u lo (d + 1 - lo).toNat = if w d ≠ LOW ∧ bF w lo (d - lo).toNat ≤ w d then cap ((if bF w lo (d - lo).toNat < w d then 0 else nF w u lo (d - lo).toNat) + u d) else nF w u lo (d - lo).toNat := by
  rw [show (d + 1 - lo).toNat = (d - lo).toNat + 1 by omega]
  show (if w (lo + ((d - lo).toNat : Int)) ≠ LOW ∧ _ then _ else _) = _
  rw [show lo + ((d - lo).toNat : Int) = d by omega]
theorem wT_in {σ : Mm} {z ws t c d : Int} (h : ¬ wT σ z ws t c d = LOW) : (0 ≤ c + d ∧ c + d ≤ σ 35 0 z) ∧ ftM σ z t d (c + d) = 0 ∧ ¬ VM σ z ws (σ 28 0 0 - (t + 1)).toNat (c + d) = LOW ∧ wT σ z ws t c d = VM σ z ws (σ 28 0 0 - (t + 1)).toNat (c + d) + mtM σ z ws t d := by
  unfold wT wtM at h ⊢
  by_cases q : (0 ≤ c + d ∧ c + d ≤ σ 35 0 z) ∧ ftM σ z t d (c + d) = 0 ∧ VM σ z ws (σ 28 0 0 - (t + 1)).toNat (c + d) ≠ LOW
  · rw [if_pos q]
    exact ⟨q.1, q.2.1, q.2.2, rfl⟩
  · rw [if_neg q] at h
    exact absurd rfl h
theorem wT_b {σ : Mm} (hS : MSt σ) (hP : MP σ) {z ws t c d : Int} (h0 : 0 ≤ t) (h1 : σ 28 0 0 ≤ 36) (hd : -100 ≤ d ∧ d ≤ 100) : wT σ z ws t c d = LOW ∨ (-2000000000 ≤ wT σ z ws t c d ∧ wT σ z ws t c d ≤ 2000000000) := by
  by_cases q : wT σ z ws t c d = LOW
  · exact Or.inl q
  · obtain ⟨-, -, q2, q3⟩ := wT_in q
    have v := VM_b hS hP z ws (σ 28 0 0 - (t + 1)).toNat (c + d)
    have m := mtM_b hS hP z ws t hd
    rcases v with v | v
    · exact absurd v q2
    · exact Or.inr (by omega)
theorem wt_cv {s σ : Mm} {z ws t c d : Int} (hA : Ag s σ) (hB : TB s σ z ws (t + 1)) (h1 : t < σ 28 0 0) : wtM s z ws t c d (s 48 0 (61 * (t + 1) + (c + d))) = wT σ z ws t c d := by
  have e : ∀ x, wtM s z ws t c d x = wtM σ z ws t c d x := fun x => ag (F := fun s => wtM s z ws t c d x) (fun _ => rfl) hA
  rw [e]
  unfold wT
  by_cases q : 0 ≤ c + d ∧ c + d ≤ σ 35 0 z
  · rw [(hB (t + 1) (c + d) (by omega) (by omega) q.1 q.2).1]
  · unfold wtM
    rw [if_neg (fun x => q x.1), if_neg (fun x => q x.1)]

set_option maxRecDepth 100000 in
set_option maxHeartbeats 4000000 in
theorem c_X8_with (X : XW) (l : Launch) (σ : Mm) (z1 z2 z3 z4 z5 : Int) (b0 : 0 ≤ z1) (b1 : z1 < 4) (b2 : 1 ≤ z2) (b3 : z2 ≤ 15) (b4 : 0 ≤ z3) (b5 : z3 < 36) (b6 : 0 ≤ z4) (b7 : z4 ≤ 60) (b8 : -40 ≤ z5) (b9 : z5 ≤ 40) (hS : MSt σ) (hT : MT σ) (hP : MP σ) (hK : MK σ) : Ct X l yX8_with cX8_with 7 (Option.some FieldType.long) 3 71 σ [.inr (.inr (28, 0)), .inl z1, .inl z2, .inl z3, .inl z4, .inl z5] (Ans (some (.inr (.inl (wtM σ z1 z2 z3 z4 z5 (σ 48 0 (61 * (z3 + 1) + (z4 + z5))))))) (σ)) := by
  refine Ct.intro (own := RX8) (by decide) rfl (Nat.le_of_ble_eq_true rfl) (fun M hM ok hq => ?_)
  subst hM
  show G X M cX8_with 7 σ 0 [(0, .inr (.inr (28, 0))), (1, .inl z1), (2, .inl z2), (3, .inl z3), (4, .inl z4), (5, .inl z5)] []
  have aT := hT.1
  have aT2 := hT.2
  have hLow : LOW = -8000000000000000000 := rfl
  have aS := hS z1
  refine g_iload ok dX8_with_0 rfl ?_
  refine g_iload ok dX8_with_2 rfl ?_
  refine g_iadd ok dX8_with_4 ?_
  refine g_istore ok dX8_with_5 (Nat.le_of_ble_eq_true rfl) ?_
  refine g_iload ok dX8_with_7 rfl ?_
  refine g_i2l ok dX8_with_9 ⟨by omega, by omega⟩ ?_
  refine g_lconst (v := 0) ok dX8_with_10 (by decide +kernel) ?_
  refine g_aload_n ok dX8_with_11 rfl rfl ?_
  refine g_getr ok dX8_with_12 fl_X8_33 (Vd.one rfl) rfl rfl ?_
  refine g_iload_n ok dX8_with_15 rfl rfl ?_
  refine g_iald ok dX8_with_16 (Vd.one rfl) (fun _ => rfl) ⟨by omega, by omega⟩ (by decide) rfl (fun h1 h2 => ?_)
  refine g_i2l ok dX8_with_17 ⟨by omega, by omega⟩ ?_
  refine g_cS ok dX8_with_18 ms_X8_81 (c_X8_isIn X _ _ _ _ _ ⟨by omega, by omega⟩ ⟨by omega, by omega⟩ ⟨by omega, by omega⟩) rfl (by decide) rfl (Nat.le_of_ble_eq_true rfl) ?_
  refine g_ifb_eq (tgt := 58) ok dX8_with_21 (by decide) (fun c3 => ?_) (fun c3 => ?_)
  · skip
    refine g_ldc2 (v := -8000000000000000000) ok dX8_with_58 wd5_3 (by decide +kernel) ?_
    exact g_lret ok hq dX8_with_61 (ansL (by (unfold wtM; rw [if_neg (by omega)]; rfl)) (by rfl))
  · skip
    refine g_aload_n ok dX8_with_24 rfl rfl ?_
    refine g_iload_n ok dX8_with_25 rfl rfl ?_
    refine g_iload_n ok dX8_with_26 rfl rfl ?_
    refine g_iload ok dX8_with_27 rfl ?_
    refine g_iload ok dX8_with_29 rfl ?_
    refine g_cV ok dX8_with_31 mv_X8_171 (c_X8_fault X _ _ _ _ _ _ (by omega) (by omega) (by omega) (by omega) ⟨by omega, by omega⟩ ⟨by omega, by omega⟩ hS hT hK) rfl (Vd.one rfl) rfl rfl (by decide) rfl (Nat.le_of_ble_eq_true rfl) ?_
    have aF := ftM_b σ z1 z3 z5 (z4 + z5)
    refine g_if_ne (tgt := 58) ok dX8_with_34 (by decide) ⟨by omega, by omega⟩ (fun c4 => ?_) (fun c4 => ?_)
    · skip
      refine g_ldc2 (v := -8000000000000000000) ok dX8_with_58 wd5_3 (by decide +kernel) ?_
      exact g_lret ok hq dX8_with_61 (ansL (by (unfold wtM; rw [if_neg (by omega)]; rfl)) (by rfl))
    · skip
      refine g_aload_n ok dX8_with_37 rfl rfl ?_
      refine g_getr ok dX8_with_38 fl_X8_73 (Vd.one rfl) rfl rfl ?_
      refine g_bipush (v := 61) ok dX8_with_41 (by decide +kernel) ?_
      refine g_iload_n ok dX8_with_43 rfl rfl ?_
      refine g_iconst (v := 1) ok dX8_with_44 (by decide +kernel) ?_
      refine g_iadd ok dX8_with_45 ?_
      refine g_imul ok dX8_with_46 ?_
      refine g_iload ok dX8_with_47 rfl ?_
      refine g_iadd ok dX8_with_49 ?_
      refine g_lald ok dX8_with_50 (Vd.one rfl) (fun _ => rfl) ⟨by omega, by omega⟩ (by decide) rfl (fun h5 h6 => ?_)
      refine g_ldc2 (v := -8000000000000000000) ok dX8_with_51 wd5_3 (by decide +kernel) ?_
      refine g_lcmp_ne (tgt := 62) ok dX8_with_54 dX8_with_55 (by decide) ⟨by omega, by omega⟩ ⟨by omega, by omega⟩ (fun c7 => ?_) (fun c7 => ?_)
      · skip
        refine g_aload_n ok dX8_with_62 rfl rfl ?_
        refine g_getr ok dX8_with_63 fl_X8_73 (Vd.one rfl) rfl rfl ?_
        refine g_bipush (v := 61) ok dX8_with_66 (by decide +kernel) ?_
        refine g_iload_n ok dX8_with_68 rfl rfl ?_
        refine g_iconst (v := 1) ok dX8_with_69 (by decide +kernel) ?_
        refine g_iadd ok dX8_with_70 ?_
        refine g_imul ok dX8_with_71 ?_
        refine g_iload ok dX8_with_72 rfl ?_
        refine g_iadd ok dX8_with_74 ?_
        refine g_lald ok dX8_with_75 (Vd.one rfl) (fun _ => rfl) ⟨by omega, by omega⟩ (by decide) rfl (fun h8 h9 => ?_)
        refine g_aload_n ok dX8_with_76 rfl rfl ?_
        refine g_iload_n ok dX8_with_77 rfl rfl ?_
        refine g_iload_n ok dX8_with_78 rfl rfl ?_
        refine g_iload_n ok dX8_with_79 rfl rfl ?_
        refine g_iload ok dX8_with_80 rfl ?_
        refine g_cV ok dX8_with_82 mv_X8_195 (c_X8_moneyTogether X _ _ _ _ _ _ (by omega) (by omega) (by omega) (by omega) (by omega) (by omega) (by omega) (by omega) hS hP) rfl (Vd.one rfl) rfl rfl (by decide) rfl (Nat.le_of_ble_eq_true rfl) ?_
        refine g_ladd ok dX8_with_85 ?_
        exact g_lret ok hq dX8_with_86 (ansL (by (unfold wtM; rw [if_pos (by omega)])) (by rfl))
      · skip
        refine g_ldc2 (v := -8000000000000000000) ok dX8_with_58 wd5_3 (by decide +kernel) ?_
        exact g_lret ok hq dX8_with_61 (ansL (by (unfold wtM; rw [if_neg (by omega)]; rfl)) (by rfl))

set_option maxRecDepth 100000 in
set_option maxHeartbeats 4000000 in
theorem c_X8_solve (X : XW) (l : Launch) (σ : Mm) (z1 z2 : Int) (b0 : 0 ≤ z1) (b1 : z1 < 4) (b2 : 1 ≤ z2) (b3 : z2 ≤ 15) (hS : MSt σ) (hT : MT σ) (hP : MP σ) (hK : MK σ) : Ct X l yX8_solve cX8_solve 12 (Option.none : Option FieldType) 4 97 σ [.inr (.inr (28, 0)), .inl z1, .inl z2] (PostV (fun s => Ag s σ ∧ TB s σ z1 z2 0)) := by
  refine Ct.intro (own := RX8) (by decide) rfl (Nat.le_of_ble_eq_true rfl) (fun M hM ok hq => ?_)
  subst hM
  show G X M cX8_solve 12 σ 0 [(0, .inr (.inr (28, 0))), (1, .inl z1), (2, .inl z2)] []
  have aT := hT.1
  have aT2 := hT.2
  have hLow : LOW = -8000000000000000000 := rfl
  have aS := hS z1
  have aM := bM hS z1
  refine g_iconst (v := 0) ok dX8_solve_0 (by decide +kernel) ?_
  refine g_istore_n ok dX8_solve_1 rfl (Nat.le_of_ble_eq_true rfl) ?_
  have L2 : ∀ (n : Nat) (c : Int) (s : Mm), (0 ≤ c) → (c ≤ 61) → (Ag s σ) → (TR s σ z1 z2 (σ 28 0 0) c) → (61 - c < n) → G X M cX8_solve 12 s 2 [(0, .inr (.inr (28, 0))), (1, .inl z1), (2, .inl z2), (3, .inl c)] [] := by
    intro n
    induction n with
    | zero => intro c s hk0 hk1 hA1 hR1 hm; exact absurd hm (by omega)
    | succ n L2ih =>
      intro c s hk0 hk1 hA1 hR1 hm
      refine g_iload_n ok dX8_solve_2 rfl rfl ?_
      refine g_bipush (v := 61) ok dX8_solve_3 (by decide +kernel) ?_
      refine g_icmp_ge (tgt := 81) ok dX8_solve_5 (by decide) ⟨by omega, by omega⟩ ⟨by omega, by omega⟩ (fun c1 => ?_) (fun c1 => ?_)
      · skip
        refine g_aload_n ok dX8_solve_81 rfl rfl ?_
        refine g_geti2 σ (z := 0) ok dX8_solve_82 fl_X8_7 (Vd.one rfl) rfl rfl rfl (congrFun (congrFun (congrFun hA1 28) _) _) (fun h2 h3 => ?_)
        refine g_iconst (v := 1) ok dX8_solve_85 (by decide +kernel) ?_
        refine g_isub ok dX8_solve_86 ?_
        refine g_istore_n ok dX8_solve_87 rfl (Nat.le_of_ble_eq_true rfl) ?_
        have L88 : ∀ (n : Nat) (t : Int) (s : Mm), (-1 ≤ t) → (t ≤ σ 28 0 0 - 1) → (Ag s σ) → (TB s σ z1 z2 (t + 1)) → (t + 1 < n) → G X M cX8_solve 12 s 88 [(0, .inr (.inr (28, 0))), (1, .inl z1), (2, .inl z2), (3, .inl t)] [] := by
          intro n
          induction n with
          | zero => intro t s ht0 ht1 hA2 hB2 hm2; exact absurd hm2 (by omega)
          | succ n L88ih =>
            intro t s ht0 ht1 hA2 hB2 hm2
            refine g_iload_n ok dX8_solve_88 rfl rfl ?_
            refine g_if_lt (tgt := 269) ok dX8_solve_89 (by decide) ⟨by omega, by omega⟩ (fun c4 => ?_) (fun c4 => ?_)
            · skip
              exact g_vret ok hq dX8_solve_269 (by exact ⟨rfl, hA2, (show (0 : Int) = t + 1 by omega) ▸ hB2⟩)
            · skip
              refine g_iconst (v := 0) ok dX8_solve_92 (by decide +kernel) ?_
              refine g_istore ok dX8_solve_93 (Nat.le_of_ble_eq_true rfl) ?_
              have L95 : ∀ (n : Nat) (c : Int) (s : Mm), (0 ≤ c) → (c ≤ σ 35 0 z1 + 1) → (Ag s σ) → (TB s σ z1 z2 (t + 1)) → (TR s σ z1 z2 t c) → (σ 35 0 z1 + 1 - c < n) → G X M cX8_solve 12 s 95 [(0, .inr (.inr (28, 0))), (1, .inl z1), (2, .inl z2), (3, .inl t), (4, .inl c)] [] := by
                intro n
                induction n with
                | zero => intro c s hc0 hc1 hA3 hB3 hR3 hm3; exact absurd hm3 (by omega)
                | succ n L95ih =>
                  intro c s hc0 hc1 hA3 hB3 hR3 hm3
                  have hS2 : MSt s := agP (F := MSt) (fun _ => rfl) hA3 hS
                  have hT2 : MT s := agP (F := MT) (fun _ => rfl) hA3 hT
                  have hP2 : MP s := agP (F := MP) (fun _ => rfl) hA3 hP
                  have hK2 : MK s := agP (F := MK) (fun _ => rfl) hA3 hK
                  refine g_iload ok dX8_solve_95 rfl ?_
                  refine g_aload_n ok dX8_solve_97 rfl rfl ?_
                  refine g_getr ok dX8_solve_98 fl_X8_33 (Vd.one rfl) rfl rfl ?_
                  refine g_iload_n ok dX8_solve_101 rfl rfl ?_
                  refine g_iald2 σ ok dX8_solve_102 (Vd.one rfl) (fun _ => rfl) ⟨by omega, by omega⟩ (by decide) rfl (congrFun (congrFun (congrFun hA3 35) _) _) (fun h5 h6 => ?_)
                  refine g_icmp_gt (tgt := 263) ok dX8_solve_103 (by decide) ⟨by omega, by omega⟩ ⟨by omega, by omega⟩ (fun c7 => ?_) (fun c7 => ?_)
                  · skip
                    refine g_iinc ok dX8_solve_263 rfl rfl (Nat.le_of_ble_eq_true rfl) ?_
                    refine g_goto (tgt := 88) ok dX8_solve_266 (by decide) ?_
                    refine G.norm [(0, .inr (.inr (28, 0))), (1, .inl z1), (2, .inl z2), (3, .inl _)] ⟨rfl, rfl, rfl, rfl, trivial⟩ (L88ih _ _ ?_ ?_ ?_ ?_ ?_)
                    · omega
                    · omega
                    · exact hA3
                    · (rw [show t + -1 + 1 = t by omega]; exact TB_row hB3 hR3 (by omega))
                    · omega
                  · skip
                    refine g_ldc2 (v := -8000000000000000000) ok dX8_solve_106 wd5_3 (by decide +kernel) ?_
                    refine g_lstore ok dX8_solve_109 (Nat.le_of_ble_eq_true rfl) ?_
                    refine g_lconst (v := 0) ok dX8_solve_111 (by decide +kernel) ?_
                    refine g_lstore ok dX8_solve_112 (Nat.le_of_ble_eq_true rfl) ?_
                    refine g_aload_n ok dX8_solve_114 rfl rfl ?_
                    refine g_iload_n ok dX8_solve_115 rfl rfl ?_
                    refine g_cV ok dX8_solve_116 mv_X8_152 (c_X8_out X _ _ _ (by omega) (by omega)) rfl (Vd.one rfl) rfl rfl (by decide) rfl (Nat.le_of_ble_eq_true rfl) ?_
                    rw [show outM s z1 = outM σ z1 from ag (F := fun s => outM s z1) (fun _ => rfl) hA3]
                    refine g_ineg ok dX8_solve_119 ?_
                    refine g_istore ok dX8_solve_120 (Nat.le_of_ble_eq_true rfl) ?_
                    have L122 : ∀ (n : Nat) (d : Int) (b : Int) (m : Int), (-outM σ z1 ≤ d) → (d ≤ inM σ z1 + 1) → (b = bF (wT σ z1 z2 t c) (-outM σ z1) (d - -outM σ z1).toNat) → (m = nF (wT σ z1 z2 t c) (uT σ z1 z2 t c) (-outM σ z1) (d - -outM σ z1).toNat) → (b = LOW ∨ (-2000000000 ≤ b ∧ b ≤ 2000000000)) → (0 ≤ m ∧ m ≤ 1000000001) → (inM σ z1 + 1 - d < n) → G X M cX8_solve 12 s 122 [(0, .inr (.inr (28, 0))), (1, .inl z1), (2, .inl z2), (3, .inl t), (4, .inl c), (5, .inr (.inl b)), (7, .inr (.inl m)), (9, .inl d)] [] := by
                      intro n
                      induction n with
                      | zero => intro d b m hd0 hd1 hb hn hbb hnb hm4; exact absurd hm4 (by omega)
                      | succ n L122ih =>
                        intro d b m hd0 hd1 hb hn hbb hnb hm4
                        refine g_iload ok dX8_solve_122 rfl ?_
                        refine g_aload_n ok dX8_solve_124 rfl rfl ?_
                        refine g_iload_n ok dX8_solve_125 rfl rfl ?_
                        refine g_cV ok dX8_solve_126 mv_X8_149 (c_X8_in X _ _ _ (by omega) (by omega)) rfl (Vd.one rfl) rfl rfl (by decide) rfl (Nat.le_of_ble_eq_true rfl) ?_
                        rw [show inM s z1 = inM σ z1 from ag (F := fun s => inM s z1) (fun _ => rfl) hA3]
                        refine g_icmp_gt (tgt := 229) ok dX8_solve_129 (by decide) ⟨by omega, by omega⟩ ⟨by omega, by omega⟩ (fun c8 => ?_) (fun c8 => ?_)
                        · skip
                          refine g_aload_n ok dX8_solve_229 rfl rfl ?_
                          refine g_getr ok dX8_solve_230 fl_X8_73 (Vd.one rfl) rfl rfl ?_
                          refine g_bipush (v := 61) ok dX8_solve_233 (by decide +kernel) ?_
                          refine g_iload_n ok dX8_solve_235 rfl rfl ?_
                          refine g_imul ok dX8_solve_236 ?_
                          refine g_iload ok dX8_solve_237 rfl ?_
                          refine g_iadd ok dX8_solve_239 ?_
                          refine g_lload ok dX8_solve_240 rfl ?_
                          refine g_last ok dX8_solve_242 (Vd.one rfl) (fun _ => rfl) ⟨by omega, by omega⟩ (by decide) rfl ⟨by omega, by omega⟩ ?_
                          refine g_aload_n ok dX8_solve_243 rfl rfl ?_
                          refine g_getr ok dX8_solve_244 fl_X8_76 (Vd.one rfl) rfl rfl ?_
                          refine g_bipush (v := 61) ok dX8_solve_247 (by decide +kernel) ?_
                          refine g_iload_n ok dX8_solve_249 rfl rfl ?_
                          refine g_imul ok dX8_solve_250 ?_
                          refine g_iload ok dX8_solve_251 rfl ?_
                          refine g_iadd ok dX8_solve_253 ?_
                          refine g_lload ok dX8_solve_254 rfl ?_
                          refine g_last ok dX8_solve_256 (Vd.one rfl) (fun _ => rfl) ⟨by omega, by omega⟩ (by decide) rfl ⟨by omega, by omega⟩ ?_
                          refine g_iinc ok dX8_solve_257 rfl rfl (Nat.le_of_ble_eq_true rfl) ?_
                          refine g_goto (tgt := 95) ok dX8_solve_260 (by decide) ?_
                          refine G.norm [(0, .inr (.inr (28, 0))), (1, .inl z1), (2, .inl z2), (3, .inl t), (4, .inl _)] ⟨rfl, rfl, rfl, rfl, rfl, trivial⟩ (L95ih _ _ ?_ ?_ ?_ ?_ ?_ ?_)
                          · omega
                          · omega
                          · exact Ag_up (Or.inr (by decide)) (Ag_up (Or.inr (by decide)) hA3)
                          · exact TB_up (by omega) hB3 (by omega)
                          · exact TR_up hR3 (by rw [VM_s (by omega) (by omega), hb, show d - -outM σ z1 = outM σ z1 + inM σ z1 + 1 by omega]) (by rw [NM_s (by omega) (by omega), hn, show d - -outM σ z1 = outM σ z1 + inM σ z1 + 1 by omega])
                          · omega
                        · skip
                          refine g_aload_n ok dX8_solve_132 rfl rfl ?_
                          refine g_iload_n ok dX8_solve_133 rfl rfl ?_
                          refine g_iload_n ok dX8_solve_134 rfl rfl ?_
                          refine g_iload_n ok dX8_solve_135 rfl rfl ?_
                          refine g_iload ok dX8_solve_136 rfl ?_
                          refine g_iload ok dX8_solve_138 rfl ?_
                          refine g_cV ok dX8_solve_140 mv_X8_199 (c_X8_with X _ _ _ _ _ _ _ (by omega) (by omega) (by omega) (by omega) (by omega) (by omega) (by omega) (by omega) (by omega) (by omega) hS2 hT2 hP2 hK2) rfl (Vd.one rfl) rfl rfl (by decide) rfl (Nat.le_of_ble_eq_true rfl) ?_
                          rw [wt_cv hA3 hB3 (by omega)]
                          have aV := wT_b hS hP (z := z1) (ws := z2) (t := t) (c := c) (d := d) (by omega) (by omega) (by omega)
                          refine g_lstore ok dX8_solve_143 (Nat.le_of_ble_eq_true rfl) ?_
                          refine g_lload ok dX8_solve_145 rfl ?_
                          refine g_ldc2 (v := -8000000000000000000) ok dX8_solve_147 wd5_3 (by decide +kernel) ?_
                          refine g_lcmp_eq (tgt := 223) ok dX8_solve_150 dX8_solve_151 (by decide) ⟨by omega, by omega⟩ ⟨by omega, by omega⟩ (fun c9 => ?_) (fun c9 => ?_)
                          · skip
                            refine g_iinc ok dX8_solve_223 rfl rfl (Nat.le_of_ble_eq_true rfl) ?_
                            refine g_goto (tgt := 122) ok dX8_solve_226 (by decide) ?_
                            refine G.norm [(0, .inr (.inr (28, 0))), (1, .inl z1), (2, .inl z2), (3, .inl t), (4, .inl c), (5, .inr (.inl _)), (7, .inr (.inl _)), (9, .inl _)] ⟨rfl, rfl, rfl, rfl, rfl, rfl, rfl, rfl, trivial⟩ (L122ih _ _ _ ?_ ?_ ?_ ?_ ?_ ?_ ?_)
                            · omega
                            · omega
                            · (rw [bF_st hd0, ← hb]; first | rw [if_pos (by omega)] | rw [if_neg (by omega)])
                            · (rw [nF_st hd0, ← hb, ← hn]; first | (rw [if_neg (by omega)]; done) | (rw [if_pos (by omega)]; (first | rw [if_pos (show b < wT σ z1 z2 t c d by omega)] | rw [if_neg (show ¬ b < wT σ z1 z2 t c d by omega)]); unfold cap; first | rw [if_pos (by omega)] | rw [if_neg (by omega)]))
                            · omega
                            · omega
                            · omega
                          · skip
                            refine g_lload ok dX8_solve_154 rfl ?_
                            refine g_lload ok dX8_solve_156 rfl ?_
                            refine g_lcmp_lt (tgt := 223) ok dX8_solve_158 dX8_solve_159 (by decide) ⟨by omega, by omega⟩ ⟨by omega, by omega⟩ (fun c10 => ?_) (fun c10 => ?_)
                            · skip
                              refine g_iinc ok dX8_solve_223 rfl rfl (Nat.le_of_ble_eq_true rfl) ?_
                              refine g_goto (tgt := 122) ok dX8_solve_226 (by decide) ?_
                              refine G.norm [(0, .inr (.inr (28, 0))), (1, .inl z1), (2, .inl z2), (3, .inl t), (4, .inl c), (5, .inr (.inl _)), (7, .inr (.inl _)), (9, .inl _)] ⟨rfl, rfl, rfl, rfl, rfl, rfl, rfl, rfl, trivial⟩ (L122ih _ _ _ ?_ ?_ ?_ ?_ ?_ ?_ ?_)
                              · omega
                              · omega
                              · (rw [bF_st hd0, ← hb]; first | rw [if_pos (by omega)] | rw [if_neg (by omega)])
                              · (rw [nF_st hd0, ← hb, ← hn]; first | (rw [if_neg (by omega)]; done) | (rw [if_pos (by omega)]; (first | rw [if_pos (show b < wT σ z1 z2 t c d by omega)] | rw [if_neg (show ¬ b < wT σ z1 z2 t c d by omega)]); unfold cap; first | rw [if_pos (by omega)] | rw [if_neg (by omega)]))
                              · omega
                              · omega
                              · omega
                            · skip
                              refine g_lload ok dX8_solve_162 rfl ?_
                              refine g_lload ok dX8_solve_164 rfl ?_
                              refine g_lcmp_le (tgt := 174) ok dX8_solve_166 dX8_solve_167 (by decide) ⟨by omega, by omega⟩ ⟨by omega, by omega⟩ (fun c11 => ?_) (fun c11 => ?_)
                              · skip
                                refine g_lload ok dX8_solve_174 rfl ?_
                                refine g_lstore ok dX8_solve_176 (Nat.le_of_ble_eq_true rfl) ?_
                                refine g_lload ok dX8_solve_178 rfl ?_
                                refine g_lstore ok dX8_solve_180 (Nat.le_of_ble_eq_true rfl) ?_
                                have aI := (wT_in (σ := σ) (z := z1) (ws := z2) (t := t) (c := c) (d := d) (by omega)).1
                                have aU := NM_b (σ := σ) z1 z2 (σ 28 0 0 - (t + 1)).toNat (c + d)
                                have eU : s 49 0 (61 * (t + 1) + c + d) = uT σ z1 z2 t c d := by rw [show 61 * (t + 1) + c + d = 61 * (t + 1) + (c + d) by omega]; exact (hB3 (t + 1) (c + d) (by omega) (by omega) aI.1 aI.2).2
                                have aU2 : 0 ≤ uT σ z1 z2 t c d ∧ uT σ z1 z2 t c d ≤ 1000000001 := aU
                                refine g_lload ok dX8_solve_182 rfl ?_
                                refine g_aload_n ok dX8_solve_184 rfl rfl ?_
                                refine g_getr ok dX8_solve_185 fl_X8_76 (Vd.one rfl) rfl rfl ?_
                                refine g_bipush (v := 61) ok dX8_solve_188 (by decide +kernel) ?_
                                refine g_iload_n ok dX8_solve_190 rfl rfl ?_
                                refine g_iconst (v := 1) ok dX8_solve_191 (by decide +kernel) ?_
                                refine g_iadd ok dX8_solve_192 ?_
                                refine g_imul ok dX8_solve_193 ?_
                                refine g_iload ok dX8_solve_194 rfl ?_
                                refine g_iadd ok dX8_solve_196 ?_
                                refine g_iload ok dX8_solve_197 rfl ?_
                                refine g_iadd ok dX8_solve_199 ?_
                                refine g_lald ok dX8_solve_200 (Vd.one rfl) (fun _ => rfl) ⟨by omega, by omega⟩ (by decide) rfl (fun h12 h13 => ?_)
                                rw [eU]
                                refine g_ladd ok dX8_solve_201 ?_
                                refine g_lstore ok dX8_solve_202 (Nat.le_of_ble_eq_true rfl) ?_
                                refine g_lload ok dX8_solve_204 rfl ?_
                                refine g_ldc2 (v := 1000000000) ok dX8_solve_206 wd5_12 (by decide +kernel) ?_
                                refine g_lcmp_le (tgt := 219) ok dX8_solve_209 dX8_solve_210 (by decide) ⟨by omega, by omega⟩ ⟨by omega, by omega⟩ (fun c14 => ?_) (fun c14 => ?_)
                                · skip
                                  refine g_lload ok dX8_solve_219 rfl ?_
                                  refine g_lstore ok dX8_solve_221 (Nat.le_of_ble_eq_true rfl) ?_
                                  refine g_iinc ok dX8_solve_223 rfl rfl (Nat.le_of_ble_eq_true rfl) ?_
                                  refine g_goto (tgt := 122) ok dX8_solve_226 (by decide) ?_
                                  refine G.norm [(0, .inr (.inr (28, 0))), (1, .inl z1), (2, .inl z2), (3, .inl t), (4, .inl c), (5, .inr (.inl _)), (7, .inr (.inl _)), (9, .inl _)] ⟨rfl, rfl, rfl, rfl, rfl, rfl, rfl, rfl, trivial⟩ (L122ih _ _ _ ?_ ?_ ?_ ?_ ?_ ?_ ?_)
                                  · omega
                                  · omega
                                  · (rw [bF_st hd0, ← hb]; first | rw [if_pos (by omega)] | rw [if_neg (by omega)])
                                  · (rw [nF_st hd0, ← hb, ← hn]; first | (rw [if_neg (by omega)]; done) | (rw [if_pos (by omega)]; (first | rw [if_pos (show b < wT σ z1 z2 t c d by omega)] | rw [if_neg (show ¬ b < wT σ z1 z2 t c d by omega)]); unfold cap; first | rw [if_pos (by omega)] | rw [if_neg (by omega)]))
                                  · omega
                                  · omega
                                  · omega
                                · skip
                                  refine g_ldc2 (v := 1000000001) ok dX8_solve_213 wd5_13 (by decide +kernel) ?_
                                  refine g_goto (tgt := 221) ok dX8_solve_216 (by decide) ?_
                                  refine g_lstore ok dX8_solve_221 (Nat.le_of_ble_eq_true rfl) ?_
                                  refine g_iinc ok dX8_solve_223 rfl rfl (Nat.le_of_ble_eq_true rfl) ?_
                                  refine g_goto (tgt := 122) ok dX8_solve_226 (by decide) ?_
                                  refine G.norm [(0, .inr (.inr (28, 0))), (1, .inl z1), (2, .inl z2), (3, .inl t), (4, .inl c), (5, .inr (.inl _)), (7, .inr (.inl _)), (9, .inl _)] ⟨rfl, rfl, rfl, rfl, rfl, rfl, rfl, rfl, trivial⟩ (L122ih _ _ _ ?_ ?_ ?_ ?_ ?_ ?_ ?_)
                                  · omega
                                  · omega
                                  · (rw [bF_st hd0, ← hb]; first | rw [if_pos (by omega)] | rw [if_neg (by omega)])
                                  · (rw [nF_st hd0, ← hb, ← hn]; first | (rw [if_neg (by omega)]; done) | (rw [if_pos (by omega)]; (first | rw [if_pos (show b < wT σ z1 z2 t c d by omega)] | rw [if_neg (show ¬ b < wT σ z1 z2 t c d by omega)]); unfold cap; first | rw [if_pos (by omega)] | rw [if_neg (by omega)]))
                                  · omega
                                  · omega
                                  · omega
                              · skip
                                refine g_lconst (v := 0) ok dX8_solve_170 (by decide +kernel) ?_
                                refine g_goto (tgt := 176) ok dX8_solve_171 (by decide) ?_
                                refine g_lstore ok dX8_solve_176 (Nat.le_of_ble_eq_true rfl) ?_
                                refine g_lload ok dX8_solve_178 rfl ?_
                                refine g_lstore ok dX8_solve_180 (Nat.le_of_ble_eq_true rfl) ?_
                                have aI := (wT_in (σ := σ) (z := z1) (ws := z2) (t := t) (c := c) (d := d) (by omega)).1
                                have aU := NM_b (σ := σ) z1 z2 (σ 28 0 0 - (t + 1)).toNat (c + d)
                                have eU : s 49 0 (61 * (t + 1) + c + d) = uT σ z1 z2 t c d := by rw [show 61 * (t + 1) + c + d = 61 * (t + 1) + (c + d) by omega]; exact (hB3 (t + 1) (c + d) (by omega) (by omega) aI.1 aI.2).2
                                have aU2 : 0 ≤ uT σ z1 z2 t c d ∧ uT σ z1 z2 t c d ≤ 1000000001 := aU
                                refine g_lload ok dX8_solve_182 rfl ?_
                                refine g_aload_n ok dX8_solve_184 rfl rfl ?_
                                refine g_getr ok dX8_solve_185 fl_X8_76 (Vd.one rfl) rfl rfl ?_
                                refine g_bipush (v := 61) ok dX8_solve_188 (by decide +kernel) ?_
                                refine g_iload_n ok dX8_solve_190 rfl rfl ?_
                                refine g_iconst (v := 1) ok dX8_solve_191 (by decide +kernel) ?_
                                refine g_iadd ok dX8_solve_192 ?_
                                refine g_imul ok dX8_solve_193 ?_
                                refine g_iload ok dX8_solve_194 rfl ?_
                                refine g_iadd ok dX8_solve_196 ?_
                                refine g_iload ok dX8_solve_197 rfl ?_
                                refine g_iadd ok dX8_solve_199 ?_
                                refine g_lald ok dX8_solve_200 (Vd.one rfl) (fun _ => rfl) ⟨by omega, by omega⟩ (by decide) rfl (fun h15 h16 => ?_)
                                rw [eU]
                                refine g_ladd ok dX8_solve_201 ?_
                                refine g_lstore ok dX8_solve_202 (Nat.le_of_ble_eq_true rfl) ?_
                                refine g_lload ok dX8_solve_204 rfl ?_
                                refine g_ldc2 (v := 1000000000) ok dX8_solve_206 wd5_12 (by decide +kernel) ?_
                                refine g_lcmp_le (tgt := 219) ok dX8_solve_209 dX8_solve_210 (by decide) ⟨by omega, by omega⟩ ⟨by omega, by omega⟩ (fun c17 => ?_) (fun c17 => ?_)
                                · skip
                                  refine g_lload ok dX8_solve_219 rfl ?_
                                  refine g_lstore ok dX8_solve_221 (Nat.le_of_ble_eq_true rfl) ?_
                                  refine g_iinc ok dX8_solve_223 rfl rfl (Nat.le_of_ble_eq_true rfl) ?_
                                  refine g_goto (tgt := 122) ok dX8_solve_226 (by decide) ?_
                                  refine G.norm [(0, .inr (.inr (28, 0))), (1, .inl z1), (2, .inl z2), (3, .inl t), (4, .inl c), (5, .inr (.inl _)), (7, .inr (.inl _)), (9, .inl _)] ⟨rfl, rfl, rfl, rfl, rfl, rfl, rfl, rfl, trivial⟩ (L122ih _ _ _ ?_ ?_ ?_ ?_ ?_ ?_ ?_)
                                  · omega
                                  · omega
                                  · (rw [bF_st hd0, ← hb]; first | rw [if_pos (by omega)] | rw [if_neg (by omega)])
                                  · (rw [nF_st hd0, ← hb, ← hn]; first | (rw [if_neg (by omega)]; done) | (rw [if_pos (by omega)]; (first | rw [if_pos (show b < wT σ z1 z2 t c d by omega)] | rw [if_neg (show ¬ b < wT σ z1 z2 t c d by omega)]); unfold cap; first | rw [if_pos (by omega)] | rw [if_neg (by omega)]))
                                  · omega
                                  · omega
                                  · omega
                                · skip
                                  refine g_ldc2 (v := 1000000001) ok dX8_solve_213 wd5_13 (by decide +kernel) ?_
                                  refine g_goto (tgt := 221) ok dX8_solve_216 (by decide) ?_
                                  refine g_lstore ok dX8_solve_221 (Nat.le_of_ble_eq_true rfl) ?_
                                  refine g_iinc ok dX8_solve_223 rfl rfl (Nat.le_of_ble_eq_true rfl) ?_
                                  refine g_goto (tgt := 122) ok dX8_solve_226 (by decide) ?_
                                  refine G.norm [(0, .inr (.inr (28, 0))), (1, .inl z1), (2, .inl z2), (3, .inl t), (4, .inl c), (5, .inr (.inl _)), (7, .inr (.inl _)), (9, .inl _)] ⟨rfl, rfl, rfl, rfl, rfl, rfl, rfl, rfl, trivial⟩ (L122ih _ _ _ ?_ ?_ ?_ ?_ ?_ ?_ ?_)
                                  · omega
                                  · omega
                                  · (rw [bF_st hd0, ← hb]; first | rw [if_pos (by omega)] | rw [if_neg (by omega)])
                                  · (rw [nF_st hd0, ← hb, ← hn]; first | (rw [if_neg (by omega)]; done) | (rw [if_pos (by omega)]; (first | rw [if_pos (show b < wT σ z1 z2 t c d by omega)] | rw [if_neg (show ¬ b < wT σ z1 z2 t c d by omega)]); unfold cap; first | rw [if_pos (by omega)] | rw [if_neg (by omega)]))
                                  · omega
                                  · omega
                                  · omega
                    refine G.norm [(0, .inr (.inr (28, 0))), (1, .inl z1), (2, .inl z2), (3, .inl t), (4, .inl c), (5, .inr (.inl _)), (7, .inr (.inl _)), (9, .inl _)] ⟨rfl, rfl, rfl, rfl, rfl, rfl, rfl, rfl, trivial⟩ (L122 (82 : Nat) _ _ _ ?_ ?_ ?_ ?_ ?_ ?_ ?_)
                    · omega
                    · omega
                    · (rw [Int.sub_self]; rfl)
                    · (rw [Int.sub_self]; rfl)
                    · (exact Or.inl rfl)
                    · omega
                    · omega
              refine G.norm [(0, .inr (.inr (28, 0))), (1, .inl z1), (2, .inl z2), (3, .inl t), (4, .inl _)] ⟨rfl, rfl, rfl, rfl, rfl, trivial⟩ (L95 (62 : Nat) _ _ ?_ ?_ ?_ ?_ ?_ ?_)
              · omega
              · omega
              · exact hA2
              · exact hB2
              · exact fun c h0 h1 => absurd h1 (by omega)
              · omega
        refine G.norm [(0, .inr (.inr (28, 0))), (1, .inl z1), (2, .inl z2), (3, .inl _)] ⟨rfl, rfl, rfl, rfl, trivial⟩ (L88 (38 : Nat) _ _ ?_ ?_ ?_ ?_ ?_)
        · omega
        · omega
        · exact hA1
        · (intro t2 c2 h0 h1 h2 h3; rw [show t2 = σ 28 0 0 by omega]; exact hR1 c2 h2 (by omega))
        · omega
      · skip
        refine g_iload_n ok dX8_solve_8 rfl rfl ?_
        refine g_aload_n ok dX8_solve_9 rfl rfl ?_
        refine g_getr ok dX8_solve_10 fl_X8_51 (Vd.one rfl) rfl rfl ?_
        refine g_iload_n ok dX8_solve_13 rfl rfl ?_
        refine g_iald2 σ ok dX8_solve_14 (Vd.one rfl) (fun _ => rfl) ⟨by omega, by omega⟩ (by decide) rfl (congrFun (congrFun (congrFun hA1 41) _) _) (fun h18 h19 => ?_)
        refine g_icmp_lt (tgt := 22) ok dX8_solve_15 (by decide) ⟨by omega, by omega⟩ ⟨by omega, by omega⟩ (fun c20 => ?_) (fun c20 => ?_)
        · skip
          refine g_iconst (v := 0) ok dX8_solve_22 (by decide +kernel) ?_
          refine g_istore ok dX8_solve_23 (Nat.le_of_ble_eq_true rfl) ?_
          refine g_aload_n ok dX8_solve_25 rfl rfl ?_
          refine g_getr ok dX8_solve_26 fl_X8_73 (Vd.one rfl) rfl rfl ?_
          refine g_bipush (v := 61) ok dX8_solve_29 (by decide +kernel) ?_
          refine g_aload_n ok dX8_solve_31 rfl rfl ?_
          refine g_geti2 σ (z := 0) ok dX8_solve_32 fl_X8_7 (Vd.one rfl) rfl rfl rfl (congrFun (congrFun (congrFun hA1 28) _) _) (fun h21 h22 => ?_)
          refine g_imul ok dX8_solve_35 ?_
          refine g_iload_n ok dX8_solve_36 rfl rfl ?_
          refine g_iadd ok dX8_solve_37 ?_
          refine g_iload ok dX8_solve_38 rfl ?_
          refine g_if_eq (tgt := 47) ok dX8_solve_40 (by decide) ⟨by omega, by omega⟩ (fun c23 => ?_) (fun c23 => ?_)
          · skip
            refine g_ldc2 (v := -8000000000000000000) ok dX8_solve_47 wd5_3 (by decide +kernel) ?_
            refine g_last ok dX8_solve_50 (Vd.one rfl) (fun _ => rfl) ⟨by omega, by omega⟩ (by decide) rfl ⟨by omega, by omega⟩ ?_
            refine g_aload_n ok dX8_solve_51 rfl rfl ?_
            refine g_getr ok dX8_solve_52 fl_X8_76 (Vd.one rfl) rfl rfl ?_
            refine g_bipush (v := 61) ok dX8_solve_55 (by decide +kernel) ?_
            refine g_aload_n ok dX8_solve_57 rfl rfl ?_
            refine g_geti2 σ (z := 0) ok dX8_solve_58 fl_X8_7 (Vd.one rfl) rfl rfl rfl (congrFun (congrFun (congrFun hA1 28) _) _) (fun h24 h25 => ?_)
            refine g_imul ok dX8_solve_61 ?_
            refine g_iload_n ok dX8_solve_62 rfl rfl ?_
            refine g_iadd ok dX8_solve_63 ?_
            refine g_iload ok dX8_solve_64 rfl ?_
            refine g_if_eq (tgt := 73) ok dX8_solve_66 (by decide) ⟨by omega, by omega⟩ (fun c26 => ?_) (fun c26 => ?_)
            · skip
              refine g_lconst (v := 0) ok dX8_solve_73 (by decide +kernel) ?_
              refine g_last ok dX8_solve_74 (Vd.one rfl) (fun _ => rfl) ⟨by omega, by omega⟩ (by decide) rfl ⟨by omega, by omega⟩ ?_
              refine g_iinc ok dX8_solve_75 rfl rfl (Nat.le_of_ble_eq_true rfl) ?_
              refine g_goto (tgt := 2) ok dX8_solve_78 (by decide) ?_
              refine G.norm [(0, .inr (.inr (28, 0))), (1, .inl z1), (2, .inl z2), (3, .inl _)] ⟨rfl, rfl, rfl, rfl, trivial⟩ (L2ih _ _ ?_ ?_ ?_ ?_ ?_)
              · omega
              · omega
              · exact Ag_up (Or.inr (by decide)) (Ag_up (Or.inr (by decide)) hA1)
              · exact TR_up hR1 (by rw [Int.sub_self]; show _ = (if _ then _ else _); first | (rw [if_pos (by omega)]; (try rfl)) | (rw [if_neg (by omega)])) (by rw [Int.sub_self]; show _ = (if _ then _ else _); first | (rw [if_pos (by omega)]; (try rfl)) | (rw [if_neg (by omega)]))
              · omega
            · skip
              exfalso
              omega
          · skip
            exfalso
            omega
        · skip
          refine g_iconst (v := 1) ok dX8_solve_18 (by decide +kernel) ?_
          refine g_goto (tgt := 23) ok dX8_solve_19 (by decide) ?_
          refine g_istore ok dX8_solve_23 (Nat.le_of_ble_eq_true rfl) ?_
          refine g_aload_n ok dX8_solve_25 rfl rfl ?_
          refine g_getr ok dX8_solve_26 fl_X8_73 (Vd.one rfl) rfl rfl ?_
          refine g_bipush (v := 61) ok dX8_solve_29 (by decide +kernel) ?_
          refine g_aload_n ok dX8_solve_31 rfl rfl ?_
          refine g_geti2 σ (z := 0) ok dX8_solve_32 fl_X8_7 (Vd.one rfl) rfl rfl rfl (congrFun (congrFun (congrFun hA1 28) _) _) (fun h27 h28 => ?_)
          refine g_imul ok dX8_solve_35 ?_
          refine g_iload_n ok dX8_solve_36 rfl rfl ?_
          refine g_iadd ok dX8_solve_37 ?_
          refine g_iload ok dX8_solve_38 rfl ?_
          refine g_if_eq (tgt := 47) ok dX8_solve_40 (by decide) ⟨by omega, by omega⟩ (fun c29 => ?_) (fun c29 => ?_)
          · skip
            exfalso
            omega
          · skip
            refine g_lconst (v := 0) ok dX8_solve_43 (by decide +kernel) ?_
            refine g_goto (tgt := 50) ok dX8_solve_44 (by decide) ?_
            refine g_last ok dX8_solve_50 (Vd.one rfl) (fun _ => rfl) ⟨by omega, by omega⟩ (by decide) rfl ⟨by omega, by omega⟩ ?_
            refine g_aload_n ok dX8_solve_51 rfl rfl ?_
            refine g_getr ok dX8_solve_52 fl_X8_76 (Vd.one rfl) rfl rfl ?_
            refine g_bipush (v := 61) ok dX8_solve_55 (by decide +kernel) ?_
            refine g_aload_n ok dX8_solve_57 rfl rfl ?_
            refine g_geti2 σ (z := 0) ok dX8_solve_58 fl_X8_7 (Vd.one rfl) rfl rfl rfl (congrFun (congrFun (congrFun hA1 28) _) _) (fun h30 h31 => ?_)
            refine g_imul ok dX8_solve_61 ?_
            refine g_iload_n ok dX8_solve_62 rfl rfl ?_
            refine g_iadd ok dX8_solve_63 ?_
            refine g_iload ok dX8_solve_64 rfl ?_
            refine g_if_eq (tgt := 73) ok dX8_solve_66 (by decide) ⟨by omega, by omega⟩ (fun c32 => ?_) (fun c32 => ?_)
            · skip
              exfalso
              omega
            · skip
              refine g_lconst (v := 1) ok dX8_solve_69 (by decide +kernel) ?_
              refine g_goto (tgt := 74) ok dX8_solve_70 (by decide) ?_
              refine g_last ok dX8_solve_74 (Vd.one rfl) (fun _ => rfl) ⟨by omega, by omega⟩ (by decide) rfl ⟨by omega, by omega⟩ ?_
              refine g_iinc ok dX8_solve_75 rfl rfl (Nat.le_of_ble_eq_true rfl) ?_
              refine g_goto (tgt := 2) ok dX8_solve_78 (by decide) ?_
              refine G.norm [(0, .inr (.inr (28, 0))), (1, .inl z1), (2, .inl z2), (3, .inl _)] ⟨rfl, rfl, rfl, rfl, trivial⟩ (L2ih _ _ ?_ ?_ ?_ ?_ ?_)
              · omega
              · omega
              · exact Ag_up (Or.inr (by decide)) (Ag_up (Or.inr (by decide)) hA1)
              · exact TR_up hR1 (by rw [Int.sub_self]; show _ = (if _ then _ else _); first | (rw [if_pos (by omega)]; (try rfl)) | (rw [if_neg (by omega)])) (by rw [Int.sub_self]; show _ = (if _ then _ else _); first | (rw [if_pos (by omega)]; (try rfl)) | (rw [if_neg (by omega)]))
              · omega
  refine G.norm [(0, .inr (.inr (28, 0))), (1, .inl z1), (2, .inl z2), (3, .inl _)] ⟨rfl, rfl, rfl, rfl, trivial⟩ (L2 (62 : Nat) _ _ ?_ ?_ ?_ ?_ ?_)
  · omega
  · omega
  · exact Ag.rf σ
  · exact fun c h0 h1 => absurd h1 (by omega)
  · omega

set_option maxRecDepth 100000 in
set_option maxHeartbeats 4000000 in
theorem c_X8_many (X : XW) (l : Launch) (σ : Mm) (z1 z2 : Int) (rz1 : R32 z1) (rz2 : R32 z2) (hC : 0 ≤ σ 36 0 z1 ∧ σ 36 0 z1 ≤ σ 35 0 z1) (hS : MSt σ) (hT : MT σ) (hP : MP σ) (hK : MK σ) : Ct X l yX8_many cX8_many 5 (Option.some FieldType.long) 5 128 σ [.inr (.inr (28, 0)), .inl z1, .inl z2] (AnsA (some (.inr (.inl (rm_many σ z1 z2)))) (σ)) := by
  refine Ct.intro (own := RX8) (by decide) rfl (Nat.le_of_ble_eq_true rfl) (fun M hM ok hq => ?_)
  subst hM
  have rz1l := rz1.1
  have rz1r := rz1.2
  have rz2l := rz2.1
  have rz2r := rz2.2
  show G X M cX8_many 5 σ 0 [(0, .inr (.inr (28, 0))), (1, .inl z1), (2, .inl z2)] []
  have aT := hT.1
  have aT2 := hT.2
  have hLow : LOW = -8000000000000000000 := rfl
  have aS := hS z1
  refine g_iload_n ok dX8_many_0 rfl rfl ?_
  refine g_cS ok dX8_many_1 ms_X8_124 (c_X8_isStore X _ _ _ ⟨by omega, by omega⟩) rfl (by decide) rfl (Nat.le_of_ble_eq_true rfl) ?_
  refine g_ifb_eq (tgt := 14) ok dX8_many_4 (by decide) (fun c1 => ?_) (fun c1 => ?_)
  · skip
    refine g_ldc2 (v := -9000000000000000001) ok dX8_many_14 wd4_69 (by decide +kernel) ?_
    exact g_lret ok hq dX8_many_17 (ansA (by (simp only [rm_many, BAD, NO, FULL, NONE, NOTHING, INDEX, SIZE] <;> (repeat (first | rw [if_pos (by omega)] | rw [if_neg (by omega)])) <;> omega)) (by exact Ag.rf σ))
  · skip
    refine g_iload_n ok dX8_many_7 rfl rfl ?_
    refine g_cS ok dX8_many_8 ms_X8_190 (c_X8_areWorlds X _ _ _ ⟨by omega, by omega⟩) rfl (by decide) rfl (Nat.le_of_ble_eq_true rfl) ?_
    refine g_ifb_ne (tgt := 18) ok dX8_many_11 (by decide) (fun c2 => ?_) (fun c2 => ?_)
    · skip
      refine g_aload_n ok dX8_many_18 rfl rfl ?_
      refine g_getr ok dX8_many_19 fl_X8_30 (Vd.one rfl) rfl rfl ?_
      refine g_iload_n ok dX8_many_22 rfl rfl ?_
      refine g_iald ok dX8_many_23 (Vd.one rfl) (fun _ => rfl) ⟨by omega, by omega⟩ (by decide) rfl (fun h3 h4 => ?_)
      refine g_if_ge (tgt := 31) ok dX8_many_24 (by decide) ⟨by omega, by omega⟩ (fun c5 => ?_) (fun c5 => ?_)
      · skip
        refine g_aload_n ok dX8_many_31 rfl rfl ?_
        refine g_iload_n ok dX8_many_32 rfl rfl ?_
        refine g_iload_n ok dX8_many_33 rfl rfl ?_
        refine g_cVR ok dX8_many_34 mv_X8_207 (c_X8_solve X _ _ _ _ (by omega) (by omega) (by omega) (by omega) hS hT hP hK) rfl (Vd.one rfl) rfl rfl (by decide) rfl (Nat.le_of_ble_eq_true rfl) (fun s hs => ?_)
        obtain ⟨hA, hB⟩ := hs
        have e0 : s 48 0 (σ 36 0 z1) = VM σ z1 z2 (σ 28 0 0).toNat (σ 36 0 z1) := by have q := (hB 0 (σ 36 0 z1) (by omega) (by omega) (by omega) (by omega)).1; rw [Int.sub_zero, show 61 * 0 + σ 36 0 z1 = σ 36 0 z1 by omega] at q; exact q
        have e1 : s 49 0 (σ 36 0 z1) = NM σ z1 z2 (σ 28 0 0).toNat (σ 36 0 z1) := by have q := (hB 0 (σ 36 0 z1) (by omega) (by omega) (by omega) (by omega)).2; rw [Int.sub_zero, show 61 * 0 + σ 36 0 z1 = σ 36 0 z1 by omega] at q; exact q
        have aN := NM_b (σ := σ) z1 z2 (σ 28 0 0).toNat (σ 36 0 z1)
        refine g_aload_n ok dX8_many_37 rfl rfl ?_
        refine g_getr ok dX8_many_38 fl_X8_76 (Vd.one rfl) rfl rfl ?_
        refine g_aload_n ok dX8_many_41 rfl rfl ?_
        refine g_getr ok dX8_many_42 fl_X8_36 (Vd.one rfl) rfl rfl ?_
        refine g_iload_n ok dX8_many_45 rfl rfl ?_
        refine g_iald2 σ ok dX8_many_46 (Vd.one rfl) (fun _ => rfl) ⟨by omega, by omega⟩ (by decide) rfl (congrFun (congrFun (congrFun hA 36) _) _) (fun h6 h7 => ?_)
        refine g_lald ok dX8_many_47 (Vd.one rfl) (fun _ => rfl) ⟨by omega, by omega⟩ (by decide) rfl (fun h8 h9 => ?_)
        rw [e1]
        refine g_lstore_n ok dX8_many_48 rfl (Nat.le_of_ble_eq_true rfl) ?_
        refine g_lload_n ok dX8_many_49 rfl rfl ?_
        refine g_ldc2 (v := 1000000000) ok dX8_many_50 wd5_12 (by decide +kernel) ?_
        refine g_lcmp_le (tgt := 63) ok dX8_many_53 dX8_many_54 (by decide) ⟨by omega, by omega⟩ ⟨by omega, by omega⟩ (fun c10 => ?_) (fun c10 => ?_)
        · skip
          refine g_lload_n ok dX8_many_63 rfl rfl ?_
          exact g_lret ok hq dX8_many_64 (ansA (by (simp only [rm_many, BAD, NO, FULL, NONE, NOTHING, INDEX, SIZE] <;> (repeat (first | rw [if_pos (by omega)] | rw [if_neg (by omega)])) <;> omega)) (by exact hA))
        · skip
          refine g_ldc2 (v := 1000000000) ok dX8_many_57 wd5_12 (by decide +kernel) ?_
          refine g_goto (tgt := 64) ok dX8_many_60 (by decide) ?_
          exact g_lret ok hq dX8_many_64 (ansA (by (simp only [rm_many, BAD, NO, FULL, NONE, NOTHING, INDEX, SIZE] <;> (repeat (first | rw [if_pos (by omega)] | rw [if_neg (by omega)])) <;> omega)) (by exact hA))
      · skip
        refine g_ldc2 (v := -9000000000000000002) ok dX8_many_27 wd4_104 (by decide +kernel) ?_
        exact g_lret ok hq dX8_many_30 (ansA (by (simp only [rm_many, BAD, NO, FULL, NONE, NOTHING, INDEX, SIZE] <;> (repeat (first | rw [if_pos (by omega)] | rw [if_neg (by omega)])) <;> omega)) (by exact Ag.rf σ))
    · skip
      refine g_ldc2 (v := -9000000000000000001) ok dX8_many_14 wd4_69 (by decide +kernel) ?_
      exact g_lret ok hq dX8_many_17 (ansA (by (simp only [rm_many, BAD, NO, FULL, NONE, NOTHING, INDEX, SIZE] <;> (repeat (first | rw [if_pos (by omega)] | rw [if_neg (by omega)])) <;> omega)) (by exact Ag.rf σ))

set_option maxRecDepth 100000 in
set_option maxHeartbeats 4000000 in
theorem c_X8_value (X : XW) (l : Launch) (σ : Mm) (z1 z2 z3 z4 : Int) (rz1 : R32 z1) (rz2 : R32 z2) (rz3 : R32 z3) (rz4 : R32 z4) (hS : MSt σ) (hT : MT σ) (hP : MP σ) (hK : MK σ) : Ct X l yX8_value cX8_value 7 (Option.some FieldType.long) 5 128 σ [.inr (.inr (28, 0)), .inl z1, .inl z2, .inl z3, .inl z4] (AnsA (some (.inr (.inl (rm_value σ z1 z2 z3 z4)))) (σ)) := by
  refine Ct.intro (own := RX8) (by decide) rfl (Nat.le_of_ble_eq_true rfl) (fun M hM ok hq => ?_)
  subst hM
  have rz1l := rz1.1
  have rz1r := rz1.2
  have rz2l := rz2.1
  have rz2r := rz2.2
  have rz3l := rz3.1
  have rz3r := rz3.2
  have rz4l := rz4.1
  have rz4r := rz4.2
  show G X M cX8_value 7 σ 0 [(0, .inr (.inr (28, 0))), (1, .inl z1), (2, .inl z2), (3, .inl z3), (4, .inl z4)] []
  have aT := hT.1
  have aT2 := hT.2
  have hLow : LOW = -8000000000000000000 := rfl
  have aS := hS z1
  refine g_iload_n ok dX8_value_0 rfl rfl ?_
  refine g_cS ok dX8_value_1 ms_X8_124 (c_X8_isStore X _ _ _ ⟨by omega, by omega⟩) rfl (by decide) rfl (Nat.le_of_ble_eq_true rfl) ?_
  refine g_ifb_eq (tgt := 14) ok dX8_value_4 (by decide) (fun c1 => ?_) (fun c1 => ?_)
  · skip
    refine g_ldc2 (v := -9000000000000000001) ok dX8_value_14 wd4_69 (by decide +kernel) ?_
    exact g_lret ok hq dX8_value_17 (ansA (by (simp only [rm_value, BAD, NO, FULL, NONE, NOTHING, INDEX, SIZE] <;> (repeat (first | rw [if_pos (by omega)] | rw [if_neg (by omega)])) <;> omega)) (by exact Ag.rf σ))
  · skip
    refine g_iload_n ok dX8_value_7 rfl rfl ?_
    refine g_cS ok dX8_value_8 ms_X8_190 (c_X8_areWorlds X _ _ _ ⟨by omega, by omega⟩) rfl (by decide) rfl (Nat.le_of_ble_eq_true rfl) ?_
    refine g_ifb_ne (tgt := 18) ok dX8_value_11 (by decide) (fun c2 => ?_) (fun c2 => ?_)
    · skip
      refine g_aload_n ok dX8_value_18 rfl rfl ?_
      refine g_getr ok dX8_value_19 fl_X8_30 (Vd.one rfl) rfl rfl ?_
      refine g_iload_n ok dX8_value_22 rfl rfl ?_
      refine g_iald ok dX8_value_23 (Vd.one rfl) (fun _ => rfl) ⟨by omega, by omega⟩ (by decide) rfl (fun h3 h4 => ?_)
      refine g_if_ge (tgt := 31) ok dX8_value_24 (by decide) ⟨by omega, by omega⟩ (fun c5 => ?_) (fun c5 => ?_)
      · skip
        refine g_iload_n ok dX8_value_31 rfl rfl ?_
        refine g_i2l ok dX8_value_32 ⟨by omega, by omega⟩ ?_
        refine g_lconst (v := 0) ok dX8_value_33 (by decide +kernel) ?_
        refine g_aload_n ok dX8_value_34 rfl rfl ?_
        refine g_geti (z := 0) ok dX8_value_35 fl_X8_7 (Vd.one rfl) rfl rfl rfl (fun h6 h7 => ?_)
        refine g_i2l ok dX8_value_38 ⟨by omega, by omega⟩ ?_
        refine g_cS ok dX8_value_39 ms_X8_81 (c_X8_isIn X _ _ _ _ _ ⟨by omega, by omega⟩ ⟨by omega, by omega⟩ ⟨by omega, by omega⟩) rfl (by decide) rfl (Nat.le_of_ble_eq_true rfl) ?_
        refine g_ifb_eq (tgt := 62) ok dX8_value_42 (by decide) (fun c8 => ?_) (fun c8 => ?_)
        · skip
          refine g_ldc2 (v := -9000000000000000001) ok dX8_value_62 wd4_69 (by decide +kernel) ?_
          exact g_lret ok hq dX8_value_65 (ansA (by (simp only [rm_value, BAD, NO, FULL, NONE, NOTHING, INDEX, SIZE] <;> (repeat (first | rw [if_pos (by omega)] | rw [if_neg (by omega)])) <;> omega)) (by exact Ag.rf σ))
        · skip
          refine g_iload ok dX8_value_45 rfl ?_
          refine g_i2l ok dX8_value_47 ⟨by omega, by omega⟩ ?_
          refine g_lconst (v := 0) ok dX8_value_48 (by decide +kernel) ?_
          refine g_aload_n ok dX8_value_49 rfl rfl ?_
          refine g_getr ok dX8_value_50 fl_X8_33 (Vd.one rfl) rfl rfl ?_
          refine g_iload_n ok dX8_value_53 rfl rfl ?_
          refine g_iald ok dX8_value_54 (Vd.one rfl) (fun _ => rfl) ⟨by omega, by omega⟩ (by decide) rfl (fun h9 h10 => ?_)
          refine g_i2l ok dX8_value_55 ⟨by omega, by omega⟩ ?_
          refine g_cS ok dX8_value_56 ms_X8_81 (c_X8_isIn X _ _ _ _ _ ⟨by omega, by omega⟩ ⟨by omega, by omega⟩ ⟨by omega, by omega⟩) rfl (by decide) rfl (Nat.le_of_ble_eq_true rfl) ?_
          refine g_ifb_ne (tgt := 66) ok dX8_value_59 (by decide) (fun c11 => ?_) (fun c11 => ?_)
          · skip
            refine g_aload_n ok dX8_value_66 rfl rfl ?_
            refine g_iload_n ok dX8_value_67 rfl rfl ?_
            refine g_iload_n ok dX8_value_68 rfl rfl ?_
            refine g_cVR ok dX8_value_69 mv_X8_207 (c_X8_solve X _ _ _ _ (by omega) (by omega) (by omega) (by omega) hS hT hP hK) rfl (Vd.one rfl) rfl rfl (by decide) rfl (Nat.le_of_ble_eq_true rfl) (fun s hs => ?_)
            obtain ⟨hA, hB⟩ := hs
            have e0 := (hB z3 z4 (by omega) (by omega) (by omega) (by omega)).1
            have aV := VM_b hS hP z1 z2 (σ 28 0 0 - z3).toNat z4
            refine g_aload_n ok dX8_value_72 rfl rfl ?_
            refine g_getr ok dX8_value_73 fl_X8_73 (Vd.one rfl) rfl rfl ?_
            refine g_bipush (v := 61) ok dX8_value_76 (by decide +kernel) ?_
            refine g_iload_n ok dX8_value_78 rfl rfl ?_
            refine g_imul ok dX8_value_79 ?_
            refine g_iload ok dX8_value_80 rfl ?_
            refine g_iadd ok dX8_value_82 ?_
            refine g_lald ok dX8_value_83 (Vd.one rfl) (fun _ => rfl) ⟨by omega, by omega⟩ (by decide) rfl (fun h12 h13 => ?_)
            rw [e0]
            refine g_lstore ok dX8_value_84 (Nat.le_of_ble_eq_true rfl) ?_
            refine g_lload ok dX8_value_86 rfl ?_
            refine g_ldc2 (v := -8000000000000000000) ok dX8_value_88 wd5_3 (by decide +kernel) ?_
            refine g_lcmp_ne (tgt := 101) ok dX8_value_91 dX8_value_92 (by decide) ⟨by omega, by omega⟩ ⟨by omega, by omega⟩ (fun c14 => ?_) (fun c14 => ?_)
            · skip
              refine g_lload ok dX8_value_101 rfl ?_
              exact g_lret ok hq dX8_value_103 (ansA (by (simp only [rm_value, BAD, NO, FULL, NONE, NOTHING, INDEX, SIZE] <;> (repeat (first | rw [if_pos (by omega)] | rw [if_neg (by omega)])) <;> omega)) (by exact hA))
            · skip
              refine g_ldc2 (v := -9000000000000000005) ok dX8_value_95 wd4_214 (by decide +kernel) ?_
              refine g_goto (tgt := 103) ok dX8_value_98 (by decide) ?_
              exact g_lret ok hq dX8_value_103 (ansA (by (simp only [rm_value, BAD, NO, FULL, NONE, NOTHING, INDEX, SIZE] <;> (repeat (first | rw [if_pos (by omega)] | rw [if_neg (by omega)])) <;> omega)) (by exact hA))
          · skip
            refine g_ldc2 (v := -9000000000000000001) ok dX8_value_62 wd4_69 (by decide +kernel) ?_
            exact g_lret ok hq dX8_value_65 (ansA (by (simp only [rm_value, BAD, NO, FULL, NONE, NOTHING, INDEX, SIZE] <;> (repeat (first | rw [if_pos (by omega)] | rw [if_neg (by omega)])) <;> omega)) (by exact Ag.rf σ))
      · skip
        refine g_ldc2 (v := -9000000000000000002) ok dX8_value_27 wd4_104 (by decide +kernel) ?_
        exact g_lret ok hq dX8_value_30 (ansA (by (simp only [rm_value, BAD, NO, FULL, NONE, NOTHING, INDEX, SIZE] <;> (repeat (first | rw [if_pos (by omega)] | rw [if_neg (by omega)])) <;> omega)) (by exact Ag.rf σ))
    · skip
      refine g_ldc2 (v := -9000000000000000001) ok dX8_value_14 wd4_69 (by decide +kernel) ?_
      exact g_lret ok hq dX8_value_17 (ansA (by (simp only [rm_value, BAD, NO, FULL, NONE, NOTHING, INDEX, SIZE] <;> (repeat (first | rw [if_pos (by omega)] | rw [if_neg (by omega)])) <;> omega)) (by exact Ag.rf σ))

theorem bF_at {w : Int → Int} {lo : Int} : ∀ {n : Nat}, ¬ bF w lo n = LOW → ∃ d, lo ≤ d ∧ d < lo + n ∧ w d = bF w lo n
  | 0, h => absurd rfl h
  | n + 1, h => by
    by_cases q : w (lo + n) ≠ LOW ∧ bF w lo n ≤ w (lo + n)
    · have e : bF w lo (n + 1) = w (lo + n) := by show (if _ then _ else _) = _; rw [if_pos q]
      rw [e]
      exact ⟨lo + n, by omega, by omega, rfl⟩
    · have e : bF w lo (n + 1) = bF w lo n := by show (if _ then _ else _) = _; rw [if_neg q]
      rw [e] at h ⊢
      obtain ⟨d, h1, h2, h3⟩ := bF_at h
      exact ⟨d, h1, by omega, h3⟩
theorem best_ex {σ : Mm} {z ws t c : Int} (h0 : 0 ≤ t) (h1 : t < σ 28 0 0) (h2 : 0 ≤ outM σ z + inM σ z + 1) (hv : ¬ VM σ z ws (σ 28 0 0 - t).toNat c = LOW) : ∃ x, -outM σ z ≤ x ∧ x ≤ inM σ z ∧ wT σ z ws t c x = VM σ z ws (σ 28 0 0 - t).toNat c := by
  rw [VM_s h0 h1] at hv ⊢
  obtain ⟨x, q1, q2, q3⟩ := bF_at hv
  exact ⟨x, q1, by omega, q3⟩
theorem lsF_hit {w : Int → Int} {v : Int} {n : Nat} {d : Int} (h : w d = v) : lsF w v n d = d := by
  cases n with
  | zero => rfl
  | succ n => show (if _ then _ else _) = _; rw [if_pos h]
theorem lsF_go {w : Int → Int} {v hi d : Int} (h : d < hi) (hw : ¬ w d = v) : lsF w v (hi - d).toNat d = lsF w v (hi - (d + 1)).toNat (d + 1) := by
  rw [show (hi - d).toNat = (hi - (d + 1)).toNat + 1 by omega]
  show (if _ then _ else _) = _
  rw [if_neg hw]
theorem bdM_e (σ : Mm) (s ws t c : Int) : bdM σ s ws t c = lsF (wT σ s ws t c) (VM σ s ws (σ 28 0 0 - t).toNat c) (inM σ s + 1 - -outM σ s).toNat (-outM σ s) := by
  rw [show inM σ s + 1 - -outM σ s = outM σ s + inM σ s + 1 by omega]
  rfl

set_option maxRecDepth 100000 in
set_option maxHeartbeats 4000000 in
theorem c_X8_best (X : XW) (l : Launch) (σ : Mm) (z1 z2 : Int) (rz1 : R32 z1) (rz2 : R32 z2) (hC : 0 ≤ σ 36 0 z1 ∧ σ 36 0 z1 ≤ σ 35 0 z1) (hS : MSt σ) (hT : MT σ) (hP : MP σ) (hK : MK σ) : Ct X l yX8_best cX8_best 6 (Option.some FieldType.long) 5 128 σ [.inr (.inr (28, 0)), .inl z1, .inl z2] (AnsA (some (.inr (.inl (rm_best σ z1 z2)))) (sm_best σ z1 z2)) := by
  refine Ct.intro (own := RX8) (by decide) rfl (Nat.le_of_ble_eq_true rfl) (fun M hM ok hq => ?_)
  subst hM
  have rz1l := rz1.1
  have rz1r := rz1.2
  have rz2l := rz2.1
  have rz2r := rz2.2
  show G X M cX8_best 6 σ 0 [(0, .inr (.inr (28, 0))), (1, .inl z1), (2, .inl z2)] []
  have aT := hT.1
  have aT2 := hT.2
  have hLow : LOW = -8000000000000000000 := rfl
  have aS := hS z1
  have aM := bM hS z1
  refine g_iload_n ok dX8_best_0 rfl rfl ?_
  refine g_cS ok dX8_best_1 ms_X8_124 (c_X8_isStore X _ _ _ ⟨by omega, by omega⟩) rfl (by decide) rfl (Nat.le_of_ble_eq_true rfl) ?_
  refine g_ifb_eq (tgt := 14) ok dX8_best_4 (by decide) (fun c1 => ?_) (fun c1 => ?_)
  · skip
    refine g_ldc2 (v := -9000000000000000001) ok dX8_best_14 wd4_69 (by decide +kernel) ?_
    exact g_lret ok hq dX8_best_17 (ansA (by (simp only [rm_best, BAD, NO, FULL, NONE, NOTHING, INDEX, SIZE] <;> (repeat (first | rw [if_pos (by omega)] | rw [if_neg (by omega)])) <;> omega)) (by (unfold sm_best; rw [if_neg (by omega)]; exact Ag.rf σ)))
  · skip
    refine g_iload_n ok dX8_best_7 rfl rfl ?_
    refine g_cS ok dX8_best_8 ms_X8_190 (c_X8_areWorlds X _ _ _ ⟨by omega, by omega⟩) rfl (by decide) rfl (Nat.le_of_ble_eq_true rfl) ?_
    refine g_ifb_ne (tgt := 18) ok dX8_best_11 (by decide) (fun c2 => ?_) (fun c2 => ?_)
    · skip
      refine g_aload_n ok dX8_best_18 rfl rfl ?_
      refine g_getr ok dX8_best_19 fl_X8_30 (Vd.one rfl) rfl rfl ?_
      refine g_iload_n ok dX8_best_22 rfl rfl ?_
      refine g_iald ok dX8_best_23 (Vd.one rfl) (fun _ => rfl) ⟨by omega, by omega⟩ (by decide) rfl (fun h3 h4 => ?_)
      refine g_if_ge (tgt := 31) ok dX8_best_24 (by decide) ⟨by omega, by omega⟩ (fun c5 => ?_) (fun c5 => ?_)
      · skip
        refine g_aload_n ok dX8_best_31 rfl rfl ?_
        refine g_iload_n ok dX8_best_32 rfl rfl ?_
        refine g_iload_n ok dX8_best_33 rfl rfl ?_
        refine g_cVR ok dX8_best_34 mv_X8_207 (c_X8_solve X _ _ _ _ (by omega) (by omega) (by omega) (by omega) hS hT hP hK) rfl (Vd.one rfl) rfl rfl (by decide) rfl (Nat.le_of_ble_eq_true rfl) (fun s hs => ?_)
        obtain ⟨hA, hB⟩ := hs
        have e0 : s 48 0 (σ 36 0 z1) = VM σ z1 z2 (σ 28 0 0).toNat (σ 36 0 z1) := by have q := (hB 0 (σ 36 0 z1) (by omega) (by omega) (by omega) (by omega)).1; rw [Int.sub_zero, show 61 * 0 + σ 36 0 z1 = σ 36 0 z1 by omega] at q; exact q
        have e1 : s 49 0 (σ 36 0 z1) = NM σ z1 z2 (σ 28 0 0).toNat (σ 36 0 z1) := by have q := (hB 0 (σ 36 0 z1) (by omega) (by omega) (by omega) (by omega)).2; rw [Int.sub_zero, show 61 * 0 + σ 36 0 z1 = σ 36 0 z1 by omega] at q; exact q
        have aV := VM_b hS hP z1 z2 (σ 28 0 0).toNat (σ 36 0 z1)
        have hS2 : MSt s := agP (F := MSt) (fun _ => rfl) hA hS
        have hT2 : MT s := agP (F := MT) (fun _ => rfl) hA hT
        have hP2 : MP s := agP (F := MP) (fun _ => rfl) hA hP
        have hK2 : MK s := agP (F := MK) (fun _ => rfl) hA hK
        refine g_aload_n ok dX8_best_37 rfl rfl ?_
        refine g_getr ok dX8_best_38 fl_X8_36 (Vd.one rfl) rfl rfl ?_
        refine g_iload_n ok dX8_best_41 rfl rfl ?_
        refine g_iald2 σ ok dX8_best_42 (Vd.one rfl) (fun _ => rfl) ⟨by omega, by omega⟩ (by decide) rfl (congrFun (congrFun (congrFun hA 36) _) _) (fun h6 h7 => ?_)
        refine g_istore_n ok dX8_best_43 rfl (Nat.le_of_ble_eq_true rfl) ?_
        refine g_aload_n ok dX8_best_44 rfl rfl ?_
        refine g_getr ok dX8_best_45 fl_X8_73 (Vd.one rfl) rfl rfl ?_
        refine g_iload_n ok dX8_best_48 rfl rfl ?_
        refine g_lald ok dX8_best_49 (Vd.one rfl) (fun _ => rfl) ⟨by omega, by omega⟩ (by decide) rfl (fun h8 h9 => ?_)
        rw [e0]
        refine g_ldc2 (v := -8000000000000000000) ok dX8_best_50 wd5_3 (by decide +kernel) ?_
        refine g_lcmp_ne (tgt := 61) ok dX8_best_53 dX8_best_54 (by decide) ⟨by omega, by omega⟩ ⟨by omega, by omega⟩ (fun c10 => ?_) (fun c10 => ?_)
        · skip
          refine g_iconst (v := 0) ok dX8_best_61 (by decide +kernel) ?_
          refine g_istore ok dX8_best_62 (Nat.le_of_ble_eq_true rfl) ?_
          have L64 : ∀ (n : Nat) (t : Int) (c : Int) (μ : Mm), (0 ≤ t) → (t ≤ σ 28 0 0) → (c = bcM σ z1 z2 t) → (0 ≤ c ∧ c ≤ σ 35 0 z1) → (¬ VM σ z1 z2 (σ 28 0 0 - t).toNat c = LOW) → (μ = plW s 43 0 (36 * z1) (bpM σ z1 z2) t) → (σ 28 0 0 - t < n) → G X M cX8_best 6 μ 64 [(0, .inr (.inr (28, 0))), (1, .inl z1), (2, .inl z2), (3, .inl c), (4, .inl t)] [] := by
            intro n
            induction n with
            | zero => intro t c μ ht0 ht1 hc hi hv hs hm; exact absurd hm (by omega)
            | succ n L64ih =>
              intro t c μ ht0 ht1 hc hi hv hs hm
              subst hs
              refine g_iload ok dX8_best_64 rfl ?_
              refine g_aload_n ok dX8_best_66 rfl rfl ?_
              refine g_geti2 σ (z := 0) ok dX8_best_67 fl_X8_7 (Vd.one rfl) rfl rfl rfl (congrFun (congrFun (congrFun hA 28) _) _) (fun h11 h12 => ?_)
              refine g_icmp_ge (tgt := 139) ok dX8_best_70 (by decide) ⟨by omega, by omega⟩ ⟨by omega, by omega⟩ (fun c13 => ?_) (fun c13 => ?_)
              · skip
                refine g_aload_n ok dX8_best_139 rfl rfl ?_
                refine g_getr ok dX8_best_140 fl_X8_73 (Vd.one rfl) rfl rfl ?_
                refine g_aload_n ok dX8_best_143 rfl rfl ?_
                refine g_getr ok dX8_best_144 fl_X8_36 (Vd.one rfl) rfl rfl ?_
                refine g_iload_n ok dX8_best_147 rfl rfl ?_
                refine g_iald2 σ ok dX8_best_148 (Vd.one rfl) (fun _ => rfl) ⟨by omega, by omega⟩ (by decide) rfl (congrFun (congrFun (congrFun hA 36) _) _) (fun h14 h15 => ?_)
                refine g_lald ok dX8_best_149 (Vd.one rfl) (fun _ => rfl) ⟨by omega, by omega⟩ (by decide) rfl (fun h16 h17 => ?_)
                rw [show (plW s 43 0 (36 * z1) (bpM σ z1 z2) t) 48 0 (σ 36 0 z1) = VM σ z1 z2 (σ 28 0 0).toNat (σ 36 0 z1) from e0]
                exact g_lret ok hq dX8_best_150 (ansA (by (unfold rm_best; rw [if_pos (by omega), if_neg (by omega), if_neg (by omega)])) (by (unfold sm_best; rw [if_pos (by omega), show t = σ 28 0 0 by omega]; exact plW_ag hA)))
              · skip
                have e2 : s 48 0 (61 * t + c) = VM σ z1 z2 (σ 28 0 0 - t).toNat c := (hB t c (by omega) (by omega) (by omega) (by omega)).1
                have hx0 := best_ex (σ := σ) (z := z1) (ws := z2) ht0 (by omega) (by omega) hv
                have aVb := VM_b hS hP z1 z2 (σ 28 0 0 - t).toNat c
                have hB4 : TB s σ z1 z2 (t + 1) := fun t2 c2 h0 h1 h2 h3 => hB t2 c2 (by omega) h1 h2 h3
                refine g_aload_n ok dX8_best_73 rfl rfl ?_
                refine g_iload_n ok dX8_best_74 rfl rfl ?_
                refine g_cV ok dX8_best_75 mv_X8_152 (c_X8_out X _ _ _ (by omega) (by omega)) rfl (Vd.one rfl) rfl rfl (by decide) rfl (Nat.le_of_ble_eq_true rfl) ?_
                rw [show outM (plW s 43 0 (36 * z1) (bpM σ z1 z2) t) z1 = outM σ z1 from (show outM s z1 = outM σ z1 from ag (F := fun s => outM s z1) (fun _ => rfl) hA)]
                refine g_ineg ok dX8_best_78 ?_
                refine g_istore ok dX8_best_79 (Nat.le_of_ble_eq_true rfl) ?_
                have L81 : ∀ (n : Nat) (d : Int), (-outM σ z1 ≤ d) → (d ≤ inM σ z1) → (∃ x, d ≤ x ∧ x ≤ inM σ z1 ∧ wT σ z1 z2 t c x = VM σ z1 z2 (σ 28 0 0 - t).toNat c) → (bdM σ z1 z2 t c = lsF (wT σ z1 z2 t c) (VM σ z1 z2 (σ 28 0 0 - t).toNat c) (inM σ z1 + 1 - d).toNat d) → (inM σ z1 - d < n) → G X M cX8_best 6 (plW s 43 0 (36 * z1) (bpM σ z1 z2) t) 81 [(0, .inr (.inr (28, 0))), (1, .inl z1), (2, .inl z2), (3, .inl c), (4, .inl t), (5, .inl d)] [] := by
                  intro n
                  induction n with
                  | zero => intro d hd0 hd1 hx hl hm2; exact absurd hm2 (by omega)
                  | succ n L81ih =>
                    intro d hd0 hd1 hx hl hm2
                    refine g_aload_n ok dX8_best_81 rfl rfl ?_
                    refine g_iload_n ok dX8_best_82 rfl rfl ?_
                    refine g_iload_n ok dX8_best_83 rfl rfl ?_
                    refine g_iload ok dX8_best_84 rfl ?_
                    refine g_iload_n ok dX8_best_86 rfl rfl ?_
                    refine g_iload ok dX8_best_87 rfl ?_
                    refine g_cV ok dX8_best_89 mv_X8_199 (c_X8_with X _ _ _ _ _ _ _ (by omega) (by omega) (by omega) (by omega) (by omega) (by omega) (by omega) (by omega) (by omega) (by omega) hS2 hT2 hP2 hK2) rfl (Vd.one rfl) rfl rfl (by decide) rfl (Nat.le_of_ble_eq_true rfl) ?_
                    rw [show wtM (plW s 43 0 (36 * z1) (bpM σ z1 z2) t) z1 z2 t c d ((plW s 43 0 (36 * z1) (bpM σ z1 z2) t) 48 0 (61 * (t + 1) + (c + d))) = wT σ z1 z2 t c d from (show wtM s z1 z2 t c d (s 48 0 (61 * (t + 1) + (c + d))) = wT σ z1 z2 t c d from wt_cv hA hB4 (by omega))]
                    have aV2 := wT_b hS hP (z := z1) (ws := z2) (t := t) (c := c) (d := d) (by omega) (by omega) (by omega)
                    refine g_aload_n ok dX8_best_92 rfl rfl ?_
                    refine g_getr ok dX8_best_93 fl_X8_73 (Vd.one rfl) rfl rfl ?_
                    refine g_bipush (v := 61) ok dX8_best_96 (by decide +kernel) ?_
                    refine g_iload ok dX8_best_98 rfl ?_
                    refine g_imul ok dX8_best_100 ?_
                    refine g_iload_n ok dX8_best_101 rfl rfl ?_
                    refine g_iadd ok dX8_best_102 ?_
                    refine g_lald ok dX8_best_103 (Vd.one rfl) (fun _ => rfl) ⟨by omega, by omega⟩ (by decide) rfl (fun h18 h19 => ?_)
                    rw [show (plW s 43 0 (36 * z1) (bpM σ z1 z2) t) 48 0 (61 * t + c) = VM σ z1 z2 (σ 28 0 0 - t).toNat c from e2]
                    refine g_lcmp_eq (tgt := 114) ok dX8_best_104 dX8_best_105 (by decide) ⟨by omega, by omega⟩ ⟨by omega, by omega⟩ (fun c20 => ?_) (fun c20 => ?_)
                    · skip
                      have e5 : bdM σ z1 z2 t c = d := by rw [hl]; exact lsF_hit (by assumption)
                      have e7 : wT σ z1 z2 t c d = VM σ z1 z2 (σ 28 0 0 - t).toNat c := by assumption
                      have e6 := wT_in (σ := σ) (z := z1) (ws := z2) (t := t) (c := c) (d := d) (by rw [e7]; exact hv)
                      refine g_aload_n ok dX8_best_114 rfl rfl ?_
                      refine g_getr ok dX8_best_115 fl_X8_57 (Vd.one rfl) rfl rfl ?_
                      refine g_bipush (v := 36) ok dX8_best_118 (by decide +kernel) ?_
                      refine g_iload_n ok dX8_best_120 rfl rfl ?_
                      refine g_imul ok dX8_best_121 ?_
                      refine g_iload ok dX8_best_122 rfl ?_
                      refine g_iadd ok dX8_best_124 ?_
                      refine g_iload ok dX8_best_125 rfl ?_
                      refine g_iast ok dX8_best_127 (Vd.one rfl) (fun _ => rfl) ⟨by omega, by omega⟩ (by decide) rfl ⟨by omega, by omega⟩ ?_
                      refine g_iload_n ok dX8_best_128 rfl rfl ?_
                      refine g_iload ok dX8_best_129 rfl ?_
                      refine g_iadd ok dX8_best_131 ?_
                      refine g_istore_n ok dX8_best_132 rfl (Nat.le_of_ble_eq_true rfl) ?_
                      refine g_iinc ok dX8_best_133 rfl rfl (Nat.le_of_ble_eq_true rfl) ?_
                      refine g_goto (tgt := 64) ok dX8_best_136 (by decide) ?_
                      refine G.norm [(0, .inr (.inr (28, 0))), (1, .inl z1), (2, .inl z2), (3, .inl _), (4, .inl _)] ⟨rfl, rfl, rfl, rfl, rfl, trivial⟩ (L64ih _ _ _ ?_ ?_ ?_ ?_ ?_ ?_ ?_)
                      · omega
                      · omega
                      · (unfold bcM; rw [chI_s ht0]; show _ = bcM σ z1 z2 t + bdM σ z1 z2 t (bcM σ z1 z2 t); rw [← hc, e5])
                      · exact ⟨e6.1.1, e6.1.2⟩
                      · exact e6.2.2.1
                      · exact plW_up ht0 (by unfold bpM; rw [← hc, e5])
                      · omega
                    · skip
                      refine g_iinc ok dX8_best_108 rfl rfl (Nat.le_of_ble_eq_true rfl) ?_
                      refine g_goto (tgt := 81) ok dX8_best_111 (by decide) ?_
                      refine G.norm [(0, .inr (.inr (28, 0))), (1, .inl z1), (2, .inl z2), (3, .inl c), (4, .inl t), (5, .inl _)] ⟨rfl, rfl, rfl, rfl, rfl, rfl, trivial⟩ (L81ih _ ?_ ?_ ?_ ?_ ?_)
                      · omega
                      · (obtain ⟨x, h1, h2, h3⟩ := hx; have q : ¬ x = d := (fun q => absurd (q ▸ h3) (by assumption)); omega)
                      · (obtain ⟨x, h1, h2, h3⟩ := hx; have q : ¬ x = d := (fun q => absurd (q ▸ h3) (by assumption)); exact ⟨x, by omega, h2, h3⟩)
                      · (rw [hl]; exact lsF_go (by omega) (by assumption))
                      · omega
                refine G.norm [(0, .inr (.inr (28, 0))), (1, .inl z1), (2, .inl z2), (3, .inl c), (4, .inl t), (5, .inl _)] ⟨rfl, rfl, rfl, rfl, rfl, rfl, trivial⟩ (L81 (82 : Nat) _ ?_ ?_ ?_ ?_ ?_)
                · omega
                · (obtain ⟨x, h1, h2, h3⟩ := hx0; omega)
                · exact hx0
                · exact bdM_e σ z1 z2 t c
                · omega
          refine G.norm [(0, .inr (.inr (28, 0))), (1, .inl z1), (2, .inl z2), (3, .inl _), (4, .inl _)] ⟨rfl, rfl, rfl, rfl, rfl, trivial⟩ (L64 (37 : Nat) _ _ _ ?_ ?_ ?_ ?_ ?_ ?_ ?_)
          · omega
          · omega
          · rfl
          · omega
          · (rw [Int.sub_zero]; omega)
          · (rw [plW_0])
          · omega
        · skip
          refine g_ldc2 (v := -9000000000000000005) ok dX8_best_57 wd4_214 (by decide +kernel) ?_
          exact g_lret ok hq dX8_best_60 (ansA (by (unfold rm_best; rw [if_pos (by omega), if_neg (by omega), if_pos (by omega)]; rfl)) (by (unfold sm_best; rw [if_neg (by omega)]; exact hA)))
      · skip
        refine g_ldc2 (v := -9000000000000000002) ok dX8_best_27 wd4_104 (by decide +kernel) ?_
        exact g_lret ok hq dX8_best_30 (ansA (by (simp only [rm_best, BAD, NO, FULL, NONE, NOTHING, INDEX, SIZE] <;> (repeat (first | rw [if_pos (by omega)] | rw [if_neg (by omega)])) <;> omega)) (by (unfold sm_best; rw [if_neg (by omega)]; exact Ag.rf σ)))
    · skip
      refine g_ldc2 (v := -9000000000000000001) ok dX8_best_14 wd4_69 (by decide +kernel) ?_
      exact g_lret ok hq dX8_best_17 (ansA (by (simp only [rm_best, BAD, NO, FULL, NONE, NOTHING, INDEX, SIZE] <;> (repeat (first | rw [if_pos (by omega)] | rw [if_neg (by omega)])) <;> omega)) (by (unfold sm_best; rw [if_neg (by omega)]; exact Ag.rf σ)))
