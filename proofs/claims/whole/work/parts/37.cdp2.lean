theorem G.topL {X : XW} {M : MX} {cc : ByteArray} {nL : Nat} {σ : Mm} {pc : Nat} {ls : List (Nat × AV)} {st : List AV} {a v : Int} (h : a = v) (k : G X M cc nL σ pc ls (.inr (.inl v) :: st)) : G X M cc nL σ pc ls (.inr (.inl a) :: st) := h ▸ k
theorem gn_up {s : Mm} {g : Int → Int} {lo d v : Int} (h : ∀ x, lo ≤ x → x < d → s 12 0 (x + 40) = g x) (hv : v = g d) : ∀ x, lo ≤ x → x < d + 1 → up s 12 0 (d + 40) v 12 0 (x + 40) = g x := by
  intro x h0 h1
  rw [up_e]
  by_cases q : x = d
  · rw [if_pos (by omega), q, hv]
  · rw [if_neg (by omega)]
    exact h x h0 (by omega)
theorem row_up {s : Mm} {f : Int → Int} {b c v : Int} (h : ∀ x, 0 ≤ x → x < c → s 11 0 (b + x) = f x) (hv : v = f c) : ∀ x, 0 ≤ x → x < c + 1 → up s 11 0 (b + c) v 11 0 (b + x) = f x := by
  intro x h0 h1
  rw [up_e]
  by_cases q : x = c
  · rw [if_pos (by omega), q, hv]
  · rw [if_neg (by omega)]
    exact h x h0 (by omega)
theorem TW_up {s σ : Mm} {i ws t c v : Int} (hz : 0 ≤ σ 8 i 2 ∧ σ 8 i 2 ≤ 60) (h : TW s σ i ws (t + 1)) (hc : 0 ≤ c ∧ c ≤ 60) : TW (up s 11 0 (t * 61 + c) v) σ i ws (t + 1) := by
  intro t' c' h0 h1 h2 h3
  rw [up_e, if_neg (by omega)]
  exact h t' c' h0 h1 h2 h3
theorem TW_row {s σ : Mm} {i ws t m : Int} (h : TW s σ i ws (t + 1)) (h2 : ∀ x, 0 ≤ x → x < m → s 11 0 (t * 61 + x) = WC σ i ws (σ 1 0 0 - t).toNat x) (hm : σ 8 i 2 < m) : TW s σ i ws t := by
  intro t' c h0 h1 h3 h4
  by_cases q : t' = t
  · subst q
    exact h2 c h3 (by omega)
  · exact h t' c (by omega) h1 h3 h4
theorem TW_11 {s s' σ : Mm} {i ws lo : Int} (h : s' 11 = s 11) (hW : TW s σ i ws lo) : TW s' σ i ws lo := by
  intro t c h0 h1 h2 h3
  rw [h]
  exact hW t c h0 h1 h2 h3
theorem TW_lo {s σ : Mm} {i ws lo hi : Int} (hl : lo ≤ hi) (hW : TW s σ i ws lo) : TW s σ i ws hi := fun t c h0 h1 h2 h3 => hW t c (by omega) h1 h2 h3
theorem lbF_c {w v : Int → Int} {x : Int} : ∀ {n : Nat} {lo : Int}, (∀ d, lo ≤ d → d < lo + n → w d = v d) → lbF w x n lo = lbF v x n lo
  | 0, _, _ => rfl
  | n + 1, lo, h => by
    have i := lbF_c (x := x) (n := n) (lo := lo + 1) (fun d h0 h1 => h d (by omega) (by omega))
    show (if w lo = x then lo else lbF w x n (lo + 1)) = (if v lo = x then lo else lbF v x n (lo + 1))
    rw [i, h lo (by omega) (by omega)]
theorem lb_cv {s σ : Mm} (hS : CS σ) (hK : CK σ) {i ws t : Int} (h0 : 0 ≤ t) (h1 : t < σ 1 0 0) (hz : σ 8 i 5 ≤ σ 8 i 2) (hO : OS s σ i ws t) (hW : TW s σ i ws t) {c : Int} (hc : 0 ≤ c ∧ c ≤ σ 8 i 2) : lbS s t c = bdC σ i ws t c := by
  unfold lbS bdC
  rw [(fm_cv hO c).1, (fm_cv hO c).2, hW t c (by omega) (by omega) hc.1 hc.2]
  refine lbF_c (fun d h3 h4 => ?_)
  have q := inr_b hS hK hz h3 (show d ≤ laC σ i t c by omega)
  exact wq_cv hO (TW_lo (by omega) hW) h1 q.1 q.2.1
theorem gF_at {w : Int → Int} {lo : Int} : ∀ {n : Nat}, ¬ gF w lo n = NONE → ∃ d, lo ≤ d ∧ d < lo + n ∧ w d = gF w lo n
  | 0, h => absurd rfl h
  | n + 1, h => by
    by_cases q : gF w lo n < w (lo + n)
    · have e : gF w lo (n + 1) = w (lo + n) := by show (if _ then _ else _) = _; rw [if_pos q]
      rw [e]
      exact ⟨lo + n, by omega, by omega, rfl⟩
    · have e : gF w lo (n + 1) = gF w lo n := by show (if _ then _ else _) = _; rw [if_neg q]
      rw [e] at h ⊢
      obtain ⟨d, h1, h2, h3⟩ := gF_at h
      exact ⟨d, h1, by omega, h3⟩
theorem lbF_sp {w : Int → Int} {v : Int} : ∀ {n : Nat} {d : Int}, (∃ x, d ≤ x ∧ x < d + n ∧ w x = v) → w (lbF w v n d) = v ∧ d ≤ lbF w v n d ∧ lbF w v n d < d + n ∧ ∀ x, d ≤ x → x < lbF w v n d → ¬ w x = v
  | 0, d, ⟨x, h1, h2, _⟩ => absurd h2 (by omega)
  | n + 1, d, ⟨x, h1, h2, h3⟩ => by
    by_cases q : w d = v
    · have e : lbF w v (n + 1) d = d := by show (if _ then _ else _) = _; rw [if_pos q]
      rw [e]
      exact ⟨q, by omega, by omega, fun y h4 h5 => absurd h5 (by omega)⟩
    · have e : lbF w v (n + 1) d = lbF w v n (d + 1) := by show (if _ then _ else _) = _; rw [if_neg q]
      have hx : ¬ x = d := fun z => q (z ▸ h3)
      have i := lbF_sp (w := w) (v := v) (n := n) (d := d + 1) ⟨x, by omega, by omega, h3⟩
      rw [e]
      refine ⟨i.1, by omega, by omega, fun y h4 h5 => ?_⟩
      by_cases z : y = d
      · rw [z]; exact q
      · exact i.2.2.2 y (by omega) h5
/-- the chosen number keeps the charge, and the value -/
theorem bdC_ok {σ : Mm} (hS : CS σ) (hK : CK σ) {i ws t c : Int} (h0 : 0 ≤ t) (h1 : t < σ 1 0 0) (hz : σ 8 i 5 ≤ σ 8 i 2) (hv : ¬ WC σ i ws (σ 1 0 0 - t).toNat c = NONE) : (0 ≤ c + bdC σ i ws t c ∧ c + bdC σ i ws t c ≤ σ 8 i 2) ∧ (-40 ≤ bdC σ i ws t c ∧ bdC σ i ws t c ≤ 40) ∧ wqC σ i ws t c (bdC σ i ws t c) = WC σ i ws (σ 1 0 0 - t).toNat c ∧ ¬ WC σ i ws (σ 1 0 0 - (t + 1)).toNat (c + bdC σ i ws t c) = NONE ∧ (fiC σ i t c ≤ bdC σ i ws t c ∧ bdC σ i ws t c ≤ laC σ i t c) ∧ ∀ x, fiC σ i t c ≤ x → x < bdC σ i ws t c → ¬ wqC σ i ws t c x = WC σ i ws (σ 1 0 0 - t).toNat c := by
  have hv2 := hv
  rw [WC_s h0 h1] at hv2
  obtain ⟨d, q1, q2, q3⟩ := gF_at hv2
  rw [← WC_s h0 h1] at q3
  have k := lbF_sp (w := wqC σ i ws t c) (v := WC σ i ws (σ 1 0 0 - t).toNat c) (n := (laC σ i t c + 1 - fiC σ i t c).toNat) (d := fiC σ i t c) ⟨d, q1, q2, q3⟩
  have e : bdC σ i ws t c = lbF (wqC σ i ws t c) (WC σ i ws (σ 1 0 0 - t).toNat c) (laC σ i t c + 1 - fiC σ i t c).toNat (fiC σ i t c) := rfl
  rw [← e] at k
  have r := inr_b hS hK hz (t := t) (c := c) (d := bdC σ i ws t c) k.2.1 (by omega)
  refine ⟨r.2.1, r.2.2, k.1, fun z => hv ?_, ⟨k.2.1, by omega⟩, k.2.2.2⟩
  rw [← k.1]
  unfold wqC wqF
  rw [if_pos (Or.inr z)]
theorem Ag_up2 {s μ : Mm} {a : Nat} {i z v : Int} (h : Ag s μ) : Ag (up s a i z v) (up μ a i z v) := by
  funext b
  have q := congrFun h b
  unfold cut at q ⊢
  by_cases hb : (10 ≤ b ∧ b ≤ 14) ∨ 47 ≤ b
  · rw [if_pos hb, if_pos hb]
  · rw [if_neg hb, if_neg hb] at q ⊢
    unfold up
    rw [q]
theorem cut_fill {s : Mm} {a : Nat} {i lo hi v : Int} (ha : (10 ≤ a ∧ a ≤ 14) ∨ 47 ≤ a) : Ag (fillR s a i lo hi v) s := by
  funext b
  unfold cut
  by_cases hb : (10 ≤ b ∧ b ≤ 14) ∨ 47 ≤ b
  · rw [if_pos hb, if_pos hb]
  · rw [if_neg hb, if_neg hb]
    exact fillR_s (fun q => hb (q ▸ ha))
theorem cut_cpy {s : Mm} {a b : Nat} {i j sp dp n : Int} (hb : (10 ≤ b ∧ b ≤ 14) ∨ 47 ≤ b) : Ag (cpyA s a i sp b j dp n) s := by
  funext c
  unfold cut
  by_cases hc : (10 ≤ c ∧ c ≤ 14) ∨ 47 ≤ c
  · rw [if_pos hc, if_pos hc]
  · rw [if_neg hc, if_neg hc]
    exact cpyA_s (fun q => hc (q ▸ hb))
theorem cut_spF {s : Mm} {t c : Int} : Ag (spF s t c) s := by
  unfold spF
  split
  · rfl
  · funext b
    unfold cut
    by_cases hb : (10 ≤ b ∧ b ≤ 14) ∨ 47 ≤ b
    · rw [if_pos hb, if_pos hb]
    · rw [if_neg hb, if_neg hb]
      funext j y
      unfold spW
      have h14 : ¬ b = 14 := fun q => hb (by rw [q]; exact Or.inl (by decide))
      rw [if_neg (fun q => h14 q.1)]

set_option maxRecDepth 100000 in
set_option maxHeartbeats 4000000 in
theorem c_X5_openStep (X : XW) (l : Launch) (σ : Mm) (i z2 z3 : Int) (b0 : 0 ≤ i) (b1 : i < 4) (hw : 1 ≤ z2 ∧ z2 ≤ 15) (c0 : 0 ≤ z3) (c1 : z3 < 36) (hS : CS σ) (hP : CP σ) (hK : CK σ) : Ct X l yX5_openStep cX5_openStep 9 (Option.none : Option FieldType) 3 68 σ [.inr (.inr (10, 0)), .inr (.inr (8, i)), .inl z2, .inl z3] (PostV (fun s => Ag s σ ∧ s 11 = σ 11 ∧ s 13 = σ 13 ∧ s 14 = σ 14 ∧ OS s σ i z2 z3)) := by
  refine Ct.intro (own := RX5) (by decide) rfl (Nat.le_of_ble_eq_true rfl) (fun M hM ok hq => ?_)
  subst hM
  show G X M cX5_openStep 9 σ 0 [(0, .inr (.inr (10, 0))), (1, .inr (.inr (8, i))), (2, .inl z2), (3, .inl z3)] []
  have hN : NONE = -9000000000000000005 := rfl
  have aL := lmC_b hS hK i z3
  have aK := kbC_b hK z3
  have aS := hS i
  have aB := (bcF_b z2 hw.1 hw.2).1
  have aP := spC_b hP z2 z3
  refine g_aload_n ok dX5_openStep_0 rfl rfl ?_
  refine g_getr ok dX5_openStep_1 fl_X5_24 (Vd.one rfl) rfl rfl ?_
  refine g_iload_n ok dX5_openStep_4 rfl rfl ?_
  refine g_cV ok dX5_openStep_5 mv_X5_91 (c_X3_keptBack X _ _ _ (by omega) (by omega)) rfl (Vd.one rfl) rfl rfl (by decide) rfl (Nat.le_of_ble_eq_true rfl) ?_
  refine g_istore ok dX5_openStep_8 (Nat.le_of_ble_eq_true rfl) ?_
  refine g_aload_n ok dX5_openStep_10 rfl rfl ?_
  refine g_aload_n ok dX5_openStep_11 rfl rfl ?_
  refine g_getr ok dX5_openStep_12 fl_X5_24 (Vd.one rfl) rfl rfl ?_
  refine g_getr ok dX5_openStep_15 fl_X5_95 (Vd.one rfl) rfl rfl ?_
  refine g_iload_n ok dX5_openStep_18 rfl rfl ?_
  refine g_zald ok dX5_openStep_19 (Vd.one rfl) (fun _ => rfl) ⟨by omega, by omega⟩ (by decide) rfl (fun h1 h2 => ?_)
  refine g_if_eq (tgt := 27) ok dX5_openStep_20 (by decide) ⟨by omega, by omega⟩ (fun c3 => ?_) (fun c3 => ?_)
  · skip
    refine g_iconst (v := 0) ok dX5_openStep_27 (by decide +kernel) ?_
    refine g_iload ok dX5_openStep_28 rfl ?_
    refine g_aload_n ok dX5_openStep_30 rfl rfl ?_
    refine g_geti (z := 7) ok dX5_openStep_31 fl_X5_99 (Vd.four rfl (by omega) (by omega)) rfl rfl rfl (fun h4 h5 => ?_)
    refine g_isub ok dX5_openStep_34 ?_
    refine g_min ok dX5_openStep_35 wd3_8 wd3_9 wd1_12 wd3_10 ⟨Nat.le_of_ble_eq_true rfl, Nat.le_of_ble_eq_true rfl⟩ ⟨by omega, by omega⟩ ⟨by omega, by omega⟩ ?_
    refine G.topI (v := lmC σ i z3) (by unfold lmC; first | (rw [if_pos (by assumption)]; done) | (rw [if_neg (by assumption)]; done)) ?_
    refine g_puti (z := 6) ok dX5_openStep_38 fw_X5_104 (Vd.one rfl) rfl rfl (Nat.le_of_ble_eq_true rfl) rfl ⟨by omega, by omega⟩ ?_
    refine g_aload_n ok dX5_openStep_41 rfl rfl ?_
    refine g_aload_n ok dX5_openStep_42 rfl rfl ?_
    refine g_getr ok dX5_openStep_43 fl_X5_24 (Vd.one rfl) rfl rfl ?_
    refine g_getr ok dX5_openStep_46 fl_X5_95 (Vd.one rfl) rfl rfl ?_
    refine g_iload_n ok dX5_openStep_49 rfl rfl ?_
    refine g_zald2 σ ok dX5_openStep_50 (Vd.one rfl) (fun _ => rfl) ⟨by omega, by omega⟩ (by decide) rfl rfl (fun h6 h7 => ?_)
    refine g_if_eq (tgt := 58) ok dX5_openStep_51 (by decide) ⟨by omega, by omega⟩ (fun c8 => ?_) (fun c8 => ?_)
    · skip
      refine g_iconst (v := 0) ok dX5_openStep_58 (by decide +kernel) ?_
      refine g_aload_n ok dX5_openStep_59 rfl rfl ?_
      refine g_geti2 σ (z := 6) ok dX5_openStep_60 fl_X5_107 (Vd.four rfl (by omega) (by omega)) rfl rfl rfl rfl (fun h9 h10 => ?_)
      refine g_iload ok dX5_openStep_63 rfl ?_
      refine g_isub ok dX5_openStep_65 ?_
      refine g_max ok dX5_openStep_66 wd3_11 wd3_12 wd1_12 wd3_13 ⟨Nat.le_of_ble_eq_true rfl, Nat.le_of_ble_eq_true rfl⟩ ⟨by omega, by omega⟩ ⟨by omega, by omega⟩ ?_
      refine G.topI (v := mmC σ i z3) (by unfold mmC; first | (rw [if_pos (by assumption)]; done) | (rw [if_neg (by assumption)]; done)) ?_
      refine g_puti (z := 7) ok dX5_openStep_69 fw_X5_113 (Vd.one rfl) rfl rfl (Nat.le_of_ble_eq_true rfl) rfl ⟨by omega, by omega⟩ ?_
      refine g_aload_n ok dX5_openStep_72 rfl rfl ?_
      refine g_aload_n ok dX5_openStep_73 rfl rfl ?_
      refine g_geti2 σ (z := 4) ok dX5_openStep_74 fl_X5_116 (Vd.four rfl (by omega) (by omega)) rfl rfl rfl rfl (fun h11 h12 => ?_)
      refine g_iload ok dX5_openStep_77 rfl ?_
      refine g_iadd ok dX5_openStep_79 ?_
      refine g_puti (z := 8) ok dX5_openStep_80 fw_X5_119 (Vd.one rfl) rfl rfl (Nat.le_of_ble_eq_true rfl) rfl ⟨by omega, by omega⟩ ?_
      refine g_aload_n ok dX5_openStep_83 rfl rfl ?_
      refine g_aload_n ok dX5_openStep_84 rfl rfl ?_
      refine g_geti2 σ (z := 5) ok dX5_openStep_85 fl_X5_122 (Vd.four rfl (by omega) (by omega)) rfl rfl rfl rfl (fun h13 h14 => ?_)
      refine g_iload ok dX5_openStep_88 rfl ?_
      refine g_isub ok dX5_openStep_90 ?_
      refine g_puti (z := 9) ok dX5_openStep_91 fw_X5_125 (Vd.one rfl) rfl rfl (Nat.le_of_ble_eq_true rfl) rfl ⟨by omega, by omega⟩ ?_
      refine g_aload_n ok dX5_openStep_94 rfl rfl ?_
      refine g_iload_n ok dX5_openStep_95 rfl rfl ?_
      refine g_iload_n ok dX5_openStep_96 rfl rfl ?_
      refine g_cV ok dX5_openStep_97 mv_X5_128 (c_X5_sumOfPrices X _ _ _ _ ⟨by omega, by omega⟩ (by omega) (by omega) hP) rfl (Vd.one rfl) rfl rfl (by decide) rfl (Nat.le_of_ble_eq_true rfl) ?_
      change G X M cX5_openStep 9 _ _ _ (.inr (.inl (spC σ z2 z3)) :: _)
      refine g_lstore ok dX5_openStep_100 (Nat.le_of_ble_eq_true rfl) ?_
      refine g_iload_n ok dX5_openStep_102 rfl rfl ?_
      refine g_cS ok dX5_openStep_103 ms_X5_131 (c_J6_bitCount_0f7a4 X _ _ _ ⟨by omega, by omega⟩) rfl (by decide) rfl (Nat.le_of_ble_eq_true rfl) ?_
      refine g_istore ok dX5_openStep_106 (Nat.le_of_ble_eq_true rfl) ?_
      refine g_aload_n ok dX5_openStep_108 rfl rfl ?_
      refine g_geti3 (lmC σ i z3) (z := 6) ok dX5_openStep_109 fl_X5_104 (Vd.one rfl) rfl rfl rfl (by rfl) (fun h15 h16 => ?_)
      refine g_istore ok dX5_openStep_112 (Nat.le_of_ble_eq_true rfl) ?_
      have L114 : ∀ (n : Nat) (d : Int) (s : Mm), (lmC σ i z3 ≤ d) → (d ≤ mmC σ i z3 + 1) → (Ag s σ) → (s 11 = σ 11) → (s 13 = σ 13) → (s 14 = σ 14) → (s 10 0 6 = lmC σ i z3) → (s 10 0 7 = mmC σ i z3) → (s 10 0 8 = σ 8 i 4 + kbC σ z3) → (s 10 0 9 = σ 8 i 5 - kbC σ z3) → (∀ x, lmC σ i z3 ≤ x → x < d → s 12 0 (x + 40) = gnC σ i z2 z3 x) → (mmC σ i z3 + 1 - d < n) → G X M cX5_openStep 9 s 114 [(0, .inr (.inr (10, 0))), (1, .inr (.inr (8, i))), (2, .inl z2), (3, .inl z3), (5, .inr (.inl (spC σ z2 z3))), (7, .inl (bcF z2)), (8, .inl d)] [] := by
        intro n
        induction n with
        | zero => intro d s hd0 hd1 hA h11 h13 h14 hO6 hO7 hO8 hO9 hg hm; exact absurd hm (by omega)
        | succ n L114ih =>
          intro d s hd0 hd1 hA h11 h13 h14 hO6 hO7 hO8 hO9 hg hm
          have hS2 : CS s := agP (F := CS) (fun _ => rfl) hA hS
          have hK2 : CK s := agP (F := CK) (fun _ => rfl) hA hK
          have hP2 : CP s := agP (F := CP) (fun _ => rfl) hA hP
          refine g_iload ok dX5_openStep_114 rfl ?_
          refine g_aload_n ok dX5_openStep_116 rfl rfl ?_
          refine g_geti3 (mmC σ i z3) (z := 7) ok dX5_openStep_117 fl_X5_113 (Vd.one rfl) rfl rfl rfl (by exact hO7) (fun h17 h18 => ?_)
          refine g_icmp_gt (tgt := 169) ok dX5_openStep_120 (by decide) ⟨by omega, by omega⟩ ⟨by omega, by omega⟩ (fun c19 => ?_) (fun c19 => ?_)
          · skip
            exact g_vret ok hq dX5_openStep_169 (by exact ⟨rfl, hA, h11, h13, h14, hO6, hO7, hO8, hO9, fun x h0 h1 => hg x h0 (by omega)⟩)
          · skip
            refine g_aload_n ok dX5_openStep_123 rfl rfl ?_
            refine g_getr ok dX5_openStep_124 fl_X5_15 (Vd.one rfl) rfl rfl ?_
            refine g_iload ok dX5_openStep_127 rfl ?_
            refine g_bipush (v := 40) ok dX5_openStep_129 (by decide +kernel) ?_
            refine g_iadd ok dX5_openStep_131 ?_
            refine g_aload_n ok dX5_openStep_132 rfl rfl ?_
            refine g_getr ok dX5_openStep_133 fl_X5_24 (Vd.one rfl) rfl rfl ?_
            refine g_aload_n ok dX5_openStep_136 rfl rfl ?_
            refine g_iload_n ok dX5_openStep_137 rfl rfl ?_
            refine g_iload ok dX5_openStep_138 rfl ?_
            refine g_cV ok dX5_openStep_140 mv_X5_136 (c_X3_allowsMove X _ _ _ _ _ (by omega) (by omega) (by omega) (by omega) ⟨by omega, by omega⟩ hS2 hK2) rfl (Vd.one rfl) rfl rfl (by decide) rfl (Nat.le_of_ble_eq_true rfl) ?_
            rw [bI_iff (iff_of_eq (ag (F := fun s => amC s i z3 d) (fun _ => rfl) hA))]
            refine g_ifb_eq (tgt := 159) ok dX5_openStep_143 (by decide) (fun c20 => ?_) (fun c20 => ?_)
            · skip
              refine g_ldc2 (v := -9000000000000000005) ok dX5_openStep_159 wd3_2 (by decide +kernel) ?_
              refine G.topL (v := gnC σ i z2 z3 d) (by unfold gnC; first | (rw [if_pos (by assumption)]; done) | (rw [if_neg (by assumption)]; rfl)) ?_
              have aG := gnC_b hS hP (i := i) (ws := z2) (t := z3) (d := d) hw (by omega)
              refine g_last ok dX5_openStep_162 (Vd.one rfl) (fun _ => rfl) ⟨by omega, by omega⟩ (by decide) rfl ⟨by omega, by omega⟩ ?_
              refine g_iinc ok dX5_openStep_163 rfl rfl (Nat.le_of_ble_eq_true rfl) ?_
              refine g_goto (tgt := 114) ok dX5_openStep_166 (by decide) ?_
              refine G.norm [(0, .inr (.inr (10, 0))), (1, .inr (.inr (8, i))), (2, .inl z2), (3, .inl z3), (5, .inr (.inl (spC σ z2 z3))), (7, .inl (bcF z2)), (8, .inl _)] ⟨rfl, rfl, rfl, rfl, rfl, rfl, rfl, trivial⟩ (L114ih _ _ ?_ ?_ ?_ ?_ ?_ ?_ ?_ ?_ ?_ ?_ ?_ ?_)
              · omega
              · omega
              · exact Ag_up (Or.inl (by decide)) hA
              · (rw [up_s (by decide)]; exact h11)
              · (rw [up_s (by decide)]; exact h13)
              · (rw [up_s (by decide)]; exact h14)
              · exact hO6
              · exact hO7
              · exact hO8
              · exact hO9
              · exact gn_up hg rfl
              · omega
            · skip
              refine g_aload_n ok dX5_openStep_146 rfl rfl ?_
              refine g_iload ok dX5_openStep_147 rfl ?_
              refine g_lload ok dX5_openStep_149 rfl ?_
              refine g_iload ok dX5_openStep_151 rfl ?_
              refine g_cV ok dX5_openStep_153 mv_X5_140 (c_X0_moneyTogether X _ _ _ _ _ _ (by omega) (by omega) (by omega) (by omega) (by omega) (by omega) hS2) rfl (Vd.four rfl (by omega) (by omega)) rfl rfl (by decide) rfl (Nat.le_of_ble_eq_true rfl) ?_
              rw [show s 8 = σ 8 from congrFun hA 8]
              refine g_goto (tgt := 162) ok dX5_openStep_156 (by decide) ?_
              refine G.topL (v := gnC σ i z2 z3 d) (by unfold gnC; first | (rw [if_pos (by assumption)]; done) | (rw [if_neg (by assumption)]; rfl)) ?_
              have aG := gnC_b hS hP (i := i) (ws := z2) (t := z3) (d := d) hw (by omega)
              refine g_last ok dX5_openStep_162 (Vd.one rfl) (fun _ => rfl) ⟨by omega, by omega⟩ (by decide) rfl ⟨by omega, by omega⟩ ?_
              refine g_iinc ok dX5_openStep_163 rfl rfl (Nat.le_of_ble_eq_true rfl) ?_
              refine g_goto (tgt := 114) ok dX5_openStep_166 (by decide) ?_
              refine G.norm [(0, .inr (.inr (10, 0))), (1, .inr (.inr (8, i))), (2, .inl z2), (3, .inl z3), (5, .inr (.inl (spC σ z2 z3))), (7, .inl (bcF z2)), (8, .inl _)] ⟨rfl, rfl, rfl, rfl, rfl, rfl, rfl, trivial⟩ (L114ih _ _ ?_ ?_ ?_ ?_ ?_ ?_ ?_ ?_ ?_ ?_ ?_ ?_)
              · omega
              · omega
              · exact Ag_up (Or.inl (by decide)) hA
              · (rw [up_s (by decide)]; exact h11)
              · (rw [up_s (by decide)]; exact h13)
              · (rw [up_s (by decide)]; exact h14)
              · exact hO6
              · exact hO7
              · exact hO8
              · exact hO9
              · exact gn_up hg rfl
              · omega
      refine G.norm [(0, .inr (.inr (10, 0))), (1, .inr (.inr (8, i))), (2, .inl z2), (3, .inl z3), (5, .inr (.inl (spC σ z2 z3))), (7, .inl (bcF z2)), (8, .inl _)] ⟨rfl, rfl, rfl, rfl, rfl, rfl, rfl, trivial⟩ (L114 (82 : Nat) _ _ ?_ ?_ ?_ ?_ ?_ ?_ ?_ ?_ ?_ ?_ ?_ ?_)
      · omega
      · omega
      · exact Ag_up (Or.inl (by decide)) (Ag_up (Or.inl (by decide)) (Ag_up (Or.inl (by decide)) (Ag_up (Or.inl (by decide)) (Ag.rf σ))))
      · rfl
      · rfl
      · rfl
      · rfl
      · rfl
      · rfl
      · rfl
      · exact fun x h0 h1 => absurd h1 (by omega)
      · omega
    · skip
      refine g_iconst (v := 0) ok dX5_openStep_54 (by decide +kernel) ?_
      refine g_goto (tgt := 69) ok dX5_openStep_55 (by decide) ?_
      refine G.topI (v := mmC σ i z3) (by unfold mmC; first | (rw [if_pos (by assumption)]; done) | (rw [if_neg (by assumption)]; done)) ?_
      refine g_puti (z := 7) ok dX5_openStep_69 fw_X5_113 (Vd.one rfl) rfl rfl (Nat.le_of_ble_eq_true rfl) rfl ⟨by omega, by omega⟩ ?_
      refine g_aload_n ok dX5_openStep_72 rfl rfl ?_
      refine g_aload_n ok dX5_openStep_73 rfl rfl ?_
      refine g_geti2 σ (z := 4) ok dX5_openStep_74 fl_X5_116 (Vd.four rfl (by omega) (by omega)) rfl rfl rfl rfl (fun h21 h22 => ?_)
      refine g_iload ok dX5_openStep_77 rfl ?_
      refine g_iadd ok dX5_openStep_79 ?_
      refine g_puti (z := 8) ok dX5_openStep_80 fw_X5_119 (Vd.one rfl) rfl rfl (Nat.le_of_ble_eq_true rfl) rfl ⟨by omega, by omega⟩ ?_
      refine g_aload_n ok dX5_openStep_83 rfl rfl ?_
      refine g_aload_n ok dX5_openStep_84 rfl rfl ?_
      refine g_geti2 σ (z := 5) ok dX5_openStep_85 fl_X5_122 (Vd.four rfl (by omega) (by omega)) rfl rfl rfl rfl (fun h23 h24 => ?_)
      refine g_iload ok dX5_openStep_88 rfl ?_
      refine g_isub ok dX5_openStep_90 ?_
      refine g_puti (z := 9) ok dX5_openStep_91 fw_X5_125 (Vd.one rfl) rfl rfl (Nat.le_of_ble_eq_true rfl) rfl ⟨by omega, by omega⟩ ?_
      refine g_aload_n ok dX5_openStep_94 rfl rfl ?_
      refine g_iload_n ok dX5_openStep_95 rfl rfl ?_
      refine g_iload_n ok dX5_openStep_96 rfl rfl ?_
      refine g_cV ok dX5_openStep_97 mv_X5_128 (c_X5_sumOfPrices X _ _ _ _ ⟨by omega, by omega⟩ (by omega) (by omega) hP) rfl (Vd.one rfl) rfl rfl (by decide) rfl (Nat.le_of_ble_eq_true rfl) ?_
      change G X M cX5_openStep 9 _ _ _ (.inr (.inl (spC σ z2 z3)) :: _)
      refine g_lstore ok dX5_openStep_100 (Nat.le_of_ble_eq_true rfl) ?_
      refine g_iload_n ok dX5_openStep_102 rfl rfl ?_
      refine g_cS ok dX5_openStep_103 ms_X5_131 (c_J6_bitCount_0f7a4 X _ _ _ ⟨by omega, by omega⟩) rfl (by decide) rfl (Nat.le_of_ble_eq_true rfl) ?_
      refine g_istore ok dX5_openStep_106 (Nat.le_of_ble_eq_true rfl) ?_
      refine g_aload_n ok dX5_openStep_108 rfl rfl ?_
      refine g_geti3 (lmC σ i z3) (z := 6) ok dX5_openStep_109 fl_X5_104 (Vd.one rfl) rfl rfl rfl (by rfl) (fun h25 h26 => ?_)
      refine g_istore ok dX5_openStep_112 (Nat.le_of_ble_eq_true rfl) ?_
      have L114 : ∀ (n : Nat) (d : Int) (s : Mm), (lmC σ i z3 ≤ d) → (d ≤ mmC σ i z3 + 1) → (Ag s σ) → (s 11 = σ 11) → (s 13 = σ 13) → (s 14 = σ 14) → (s 10 0 6 = lmC σ i z3) → (s 10 0 7 = mmC σ i z3) → (s 10 0 8 = σ 8 i 4 + kbC σ z3) → (s 10 0 9 = σ 8 i 5 - kbC σ z3) → (∀ x, lmC σ i z3 ≤ x → x < d → s 12 0 (x + 40) = gnC σ i z2 z3 x) → (mmC σ i z3 + 1 - d < n) → G X M cX5_openStep 9 s 114 [(0, .inr (.inr (10, 0))), (1, .inr (.inr (8, i))), (2, .inl z2), (3, .inl z3), (5, .inr (.inl (spC σ z2 z3))), (7, .inl (bcF z2)), (8, .inl d)] [] := by
        intro n
        induction n with
        | zero => intro d s hd0 hd1 hA h11 h13 h14 hO6 hO7 hO8 hO9 hg hm; exact absurd hm (by omega)
        | succ n L114ih =>
          intro d s hd0 hd1 hA h11 h13 h14 hO6 hO7 hO8 hO9 hg hm
          have hS2 : CS s := agP (F := CS) (fun _ => rfl) hA hS
          have hK2 : CK s := agP (F := CK) (fun _ => rfl) hA hK
          have hP2 : CP s := agP (F := CP) (fun _ => rfl) hA hP
          refine g_iload ok dX5_openStep_114 rfl ?_
          refine g_aload_n ok dX5_openStep_116 rfl rfl ?_
          refine g_geti3 (mmC σ i z3) (z := 7) ok dX5_openStep_117 fl_X5_113 (Vd.one rfl) rfl rfl rfl (by exact hO7) (fun h27 h28 => ?_)
          refine g_icmp_gt (tgt := 169) ok dX5_openStep_120 (by decide) ⟨by omega, by omega⟩ ⟨by omega, by omega⟩ (fun c29 => ?_) (fun c29 => ?_)
          · skip
            exact g_vret ok hq dX5_openStep_169 (by exact ⟨rfl, hA, h11, h13, h14, hO6, hO7, hO8, hO9, fun x h0 h1 => hg x h0 (by omega)⟩)
          · skip
            refine g_aload_n ok dX5_openStep_123 rfl rfl ?_
            refine g_getr ok dX5_openStep_124 fl_X5_15 (Vd.one rfl) rfl rfl ?_
            refine g_iload ok dX5_openStep_127 rfl ?_
            refine g_bipush (v := 40) ok dX5_openStep_129 (by decide +kernel) ?_
            refine g_iadd ok dX5_openStep_131 ?_
            refine g_aload_n ok dX5_openStep_132 rfl rfl ?_
            refine g_getr ok dX5_openStep_133 fl_X5_24 (Vd.one rfl) rfl rfl ?_
            refine g_aload_n ok dX5_openStep_136 rfl rfl ?_
            refine g_iload_n ok dX5_openStep_137 rfl rfl ?_
            refine g_iload ok dX5_openStep_138 rfl ?_
            refine g_cV ok dX5_openStep_140 mv_X5_136 (c_X3_allowsMove X _ _ _ _ _ (by omega) (by omega) (by omega) (by omega) ⟨by omega, by omega⟩ hS2 hK2) rfl (Vd.one rfl) rfl rfl (by decide) rfl (Nat.le_of_ble_eq_true rfl) ?_
            rw [bI_iff (iff_of_eq (ag (F := fun s => amC s i z3 d) (fun _ => rfl) hA))]
            refine g_ifb_eq (tgt := 159) ok dX5_openStep_143 (by decide) (fun c30 => ?_) (fun c30 => ?_)
            · skip
              refine g_ldc2 (v := -9000000000000000005) ok dX5_openStep_159 wd3_2 (by decide +kernel) ?_
              refine G.topL (v := gnC σ i z2 z3 d) (by unfold gnC; first | (rw [if_pos (by assumption)]; done) | (rw [if_neg (by assumption)]; rfl)) ?_
              have aG := gnC_b hS hP (i := i) (ws := z2) (t := z3) (d := d) hw (by omega)
              refine g_last ok dX5_openStep_162 (Vd.one rfl) (fun _ => rfl) ⟨by omega, by omega⟩ (by decide) rfl ⟨by omega, by omega⟩ ?_
              refine g_iinc ok dX5_openStep_163 rfl rfl (Nat.le_of_ble_eq_true rfl) ?_
              refine g_goto (tgt := 114) ok dX5_openStep_166 (by decide) ?_
              refine G.norm [(0, .inr (.inr (10, 0))), (1, .inr (.inr (8, i))), (2, .inl z2), (3, .inl z3), (5, .inr (.inl (spC σ z2 z3))), (7, .inl (bcF z2)), (8, .inl _)] ⟨rfl, rfl, rfl, rfl, rfl, rfl, rfl, trivial⟩ (L114ih _ _ ?_ ?_ ?_ ?_ ?_ ?_ ?_ ?_ ?_ ?_ ?_ ?_)
              · omega
              · omega
              · exact Ag_up (Or.inl (by decide)) hA
              · (rw [up_s (by decide)]; exact h11)
              · (rw [up_s (by decide)]; exact h13)
              · (rw [up_s (by decide)]; exact h14)
              · exact hO6
              · exact hO7
              · exact hO8
              · exact hO9
              · exact gn_up hg rfl
              · omega
            · skip
              refine g_aload_n ok dX5_openStep_146 rfl rfl ?_
              refine g_iload ok dX5_openStep_147 rfl ?_
              refine g_lload ok dX5_openStep_149 rfl ?_
              refine g_iload ok dX5_openStep_151 rfl ?_
              refine g_cV ok dX5_openStep_153 mv_X5_140 (c_X0_moneyTogether X _ _ _ _ _ _ (by omega) (by omega) (by omega) (by omega) (by omega) (by omega) hS2) rfl (Vd.four rfl (by omega) (by omega)) rfl rfl (by decide) rfl (Nat.le_of_ble_eq_true rfl) ?_
              rw [show s 8 = σ 8 from congrFun hA 8]
              refine g_goto (tgt := 162) ok dX5_openStep_156 (by decide) ?_
              refine G.topL (v := gnC σ i z2 z3 d) (by unfold gnC; first | (rw [if_pos (by assumption)]; done) | (rw [if_neg (by assumption)]; rfl)) ?_
              have aG := gnC_b hS hP (i := i) (ws := z2) (t := z3) (d := d) hw (by omega)
              refine g_last ok dX5_openStep_162 (Vd.one rfl) (fun _ => rfl) ⟨by omega, by omega⟩ (by decide) rfl ⟨by omega, by omega⟩ ?_
              refine g_iinc ok dX5_openStep_163 rfl rfl (Nat.le_of_ble_eq_true rfl) ?_
              refine g_goto (tgt := 114) ok dX5_openStep_166 (by decide) ?_
              refine G.norm [(0, .inr (.inr (10, 0))), (1, .inr (.inr (8, i))), (2, .inl z2), (3, .inl z3), (5, .inr (.inl (spC σ z2 z3))), (7, .inl (bcF z2)), (8, .inl _)] ⟨rfl, rfl, rfl, rfl, rfl, rfl, rfl, trivial⟩ (L114ih _ _ ?_ ?_ ?_ ?_ ?_ ?_ ?_ ?_ ?_ ?_ ?_ ?_)
              · omega
              · omega
              · exact Ag_up (Or.inl (by decide)) hA
              · (rw [up_s (by decide)]; exact h11)
              · (rw [up_s (by decide)]; exact h13)
              · (rw [up_s (by decide)]; exact h14)
              · exact hO6
              · exact hO7
              · exact hO8
              · exact hO9
              · exact gn_up hg rfl
              · omega
      refine G.norm [(0, .inr (.inr (10, 0))), (1, .inr (.inr (8, i))), (2, .inl z2), (3, .inl z3), (5, .inr (.inl (spC σ z2 z3))), (7, .inl (bcF z2)), (8, .inl _)] ⟨rfl, rfl, rfl, rfl, rfl, rfl, rfl, trivial⟩ (L114 (82 : Nat) _ _ ?_ ?_ ?_ ?_ ?_ ?_ ?_ ?_ ?_ ?_ ?_ ?_)
      · omega
      · omega
      · exact Ag_up (Or.inl (by decide)) (Ag_up (Or.inl (by decide)) (Ag_up (Or.inl (by decide)) (Ag_up (Or.inl (by decide)) (Ag.rf σ))))
      · rfl
      · rfl
      · rfl
      · rfl
      · rfl
      · rfl
      · rfl
      · exact fun x h0 h1 => absurd h1 (by omega)
      · omega
  · skip
    refine g_iconst (v := 0) ok dX5_openStep_23 (by decide +kernel) ?_
    refine g_goto (tgt := 38) ok dX5_openStep_24 (by decide) ?_
    refine G.topI (v := lmC σ i z3) (by unfold lmC; first | (rw [if_pos (by assumption)]; done) | (rw [if_neg (by assumption)]; done)) ?_
    refine g_puti (z := 6) ok dX5_openStep_38 fw_X5_104 (Vd.one rfl) rfl rfl (Nat.le_of_ble_eq_true rfl) rfl ⟨by omega, by omega⟩ ?_
    refine g_aload_n ok dX5_openStep_41 rfl rfl ?_
    refine g_aload_n ok dX5_openStep_42 rfl rfl ?_
    refine g_getr ok dX5_openStep_43 fl_X5_24 (Vd.one rfl) rfl rfl ?_
    refine g_getr ok dX5_openStep_46 fl_X5_95 (Vd.one rfl) rfl rfl ?_
    refine g_iload_n ok dX5_openStep_49 rfl rfl ?_
    refine g_zald2 σ ok dX5_openStep_50 (Vd.one rfl) (fun _ => rfl) ⟨by omega, by omega⟩ (by decide) rfl rfl (fun h31 h32 => ?_)
    refine g_if_eq (tgt := 58) ok dX5_openStep_51 (by decide) ⟨by omega, by omega⟩ (fun c33 => ?_) (fun c33 => ?_)
    · skip
      refine g_iconst (v := 0) ok dX5_openStep_58 (by decide +kernel) ?_
      refine g_aload_n ok dX5_openStep_59 rfl rfl ?_
      refine g_geti2 σ (z := 6) ok dX5_openStep_60 fl_X5_107 (Vd.four rfl (by omega) (by omega)) rfl rfl rfl rfl (fun h34 h35 => ?_)
      refine g_iload ok dX5_openStep_63 rfl ?_
      refine g_isub ok dX5_openStep_65 ?_
      refine g_max ok dX5_openStep_66 wd3_11 wd3_12 wd1_12 wd3_13 ⟨Nat.le_of_ble_eq_true rfl, Nat.le_of_ble_eq_true rfl⟩ ⟨by omega, by omega⟩ ⟨by omega, by omega⟩ ?_
      refine G.topI (v := mmC σ i z3) (by unfold mmC; first | (rw [if_pos (by assumption)]; done) | (rw [if_neg (by assumption)]; done)) ?_
      refine g_puti (z := 7) ok dX5_openStep_69 fw_X5_113 (Vd.one rfl) rfl rfl (Nat.le_of_ble_eq_true rfl) rfl ⟨by omega, by omega⟩ ?_
      refine g_aload_n ok dX5_openStep_72 rfl rfl ?_
      refine g_aload_n ok dX5_openStep_73 rfl rfl ?_
      refine g_geti2 σ (z := 4) ok dX5_openStep_74 fl_X5_116 (Vd.four rfl (by omega) (by omega)) rfl rfl rfl rfl (fun h36 h37 => ?_)
      refine g_iload ok dX5_openStep_77 rfl ?_
      refine g_iadd ok dX5_openStep_79 ?_
      refine g_puti (z := 8) ok dX5_openStep_80 fw_X5_119 (Vd.one rfl) rfl rfl (Nat.le_of_ble_eq_true rfl) rfl ⟨by omega, by omega⟩ ?_
      refine g_aload_n ok dX5_openStep_83 rfl rfl ?_
      refine g_aload_n ok dX5_openStep_84 rfl rfl ?_
      refine g_geti2 σ (z := 5) ok dX5_openStep_85 fl_X5_122 (Vd.four rfl (by omega) (by omega)) rfl rfl rfl rfl (fun h38 h39 => ?_)
      refine g_iload ok dX5_openStep_88 rfl ?_
      refine g_isub ok dX5_openStep_90 ?_
      refine g_puti (z := 9) ok dX5_openStep_91 fw_X5_125 (Vd.one rfl) rfl rfl (Nat.le_of_ble_eq_true rfl) rfl ⟨by omega, by omega⟩ ?_
      refine g_aload_n ok dX5_openStep_94 rfl rfl ?_
      refine g_iload_n ok dX5_openStep_95 rfl rfl ?_
      refine g_iload_n ok dX5_openStep_96 rfl rfl ?_
      refine g_cV ok dX5_openStep_97 mv_X5_128 (c_X5_sumOfPrices X _ _ _ _ ⟨by omega, by omega⟩ (by omega) (by omega) hP) rfl (Vd.one rfl) rfl rfl (by decide) rfl (Nat.le_of_ble_eq_true rfl) ?_
      change G X M cX5_openStep 9 _ _ _ (.inr (.inl (spC σ z2 z3)) :: _)
      refine g_lstore ok dX5_openStep_100 (Nat.le_of_ble_eq_true rfl) ?_
      refine g_iload_n ok dX5_openStep_102 rfl rfl ?_
      refine g_cS ok dX5_openStep_103 ms_X5_131 (c_J6_bitCount_0f7a4 X _ _ _ ⟨by omega, by omega⟩) rfl (by decide) rfl (Nat.le_of_ble_eq_true rfl) ?_
      refine g_istore ok dX5_openStep_106 (Nat.le_of_ble_eq_true rfl) ?_
      refine g_aload_n ok dX5_openStep_108 rfl rfl ?_
      refine g_geti3 (lmC σ i z3) (z := 6) ok dX5_openStep_109 fl_X5_104 (Vd.one rfl) rfl rfl rfl (by rfl) (fun h40 h41 => ?_)
      refine g_istore ok dX5_openStep_112 (Nat.le_of_ble_eq_true rfl) ?_
      have L114 : ∀ (n : Nat) (d : Int) (s : Mm), (lmC σ i z3 ≤ d) → (d ≤ mmC σ i z3 + 1) → (Ag s σ) → (s 11 = σ 11) → (s 13 = σ 13) → (s 14 = σ 14) → (s 10 0 6 = lmC σ i z3) → (s 10 0 7 = mmC σ i z3) → (s 10 0 8 = σ 8 i 4 + kbC σ z3) → (s 10 0 9 = σ 8 i 5 - kbC σ z3) → (∀ x, lmC σ i z3 ≤ x → x < d → s 12 0 (x + 40) = gnC σ i z2 z3 x) → (mmC σ i z3 + 1 - d < n) → G X M cX5_openStep 9 s 114 [(0, .inr (.inr (10, 0))), (1, .inr (.inr (8, i))), (2, .inl z2), (3, .inl z3), (5, .inr (.inl (spC σ z2 z3))), (7, .inl (bcF z2)), (8, .inl d)] [] := by
        intro n
        induction n with
        | zero => intro d s hd0 hd1 hA h11 h13 h14 hO6 hO7 hO8 hO9 hg hm; exact absurd hm (by omega)
        | succ n L114ih =>
          intro d s hd0 hd1 hA h11 h13 h14 hO6 hO7 hO8 hO9 hg hm
          have hS2 : CS s := agP (F := CS) (fun _ => rfl) hA hS
          have hK2 : CK s := agP (F := CK) (fun _ => rfl) hA hK
          have hP2 : CP s := agP (F := CP) (fun _ => rfl) hA hP
          refine g_iload ok dX5_openStep_114 rfl ?_
          refine g_aload_n ok dX5_openStep_116 rfl rfl ?_
          refine g_geti3 (mmC σ i z3) (z := 7) ok dX5_openStep_117 fl_X5_113 (Vd.one rfl) rfl rfl rfl (by exact hO7) (fun h42 h43 => ?_)
          refine g_icmp_gt (tgt := 169) ok dX5_openStep_120 (by decide) ⟨by omega, by omega⟩ ⟨by omega, by omega⟩ (fun c44 => ?_) (fun c44 => ?_)
          · skip
            exact g_vret ok hq dX5_openStep_169 (by exact ⟨rfl, hA, h11, h13, h14, hO6, hO7, hO8, hO9, fun x h0 h1 => hg x h0 (by omega)⟩)
          · skip
            refine g_aload_n ok dX5_openStep_123 rfl rfl ?_
            refine g_getr ok dX5_openStep_124 fl_X5_15 (Vd.one rfl) rfl rfl ?_
            refine g_iload ok dX5_openStep_127 rfl ?_
            refine g_bipush (v := 40) ok dX5_openStep_129 (by decide +kernel) ?_
            refine g_iadd ok dX5_openStep_131 ?_
            refine g_aload_n ok dX5_openStep_132 rfl rfl ?_
            refine g_getr ok dX5_openStep_133 fl_X5_24 (Vd.one rfl) rfl rfl ?_
            refine g_aload_n ok dX5_openStep_136 rfl rfl ?_
            refine g_iload_n ok dX5_openStep_137 rfl rfl ?_
            refine g_iload ok dX5_openStep_138 rfl ?_
            refine g_cV ok dX5_openStep_140 mv_X5_136 (c_X3_allowsMove X _ _ _ _ _ (by omega) (by omega) (by omega) (by omega) ⟨by omega, by omega⟩ hS2 hK2) rfl (Vd.one rfl) rfl rfl (by decide) rfl (Nat.le_of_ble_eq_true rfl) ?_
            rw [bI_iff (iff_of_eq (ag (F := fun s => amC s i z3 d) (fun _ => rfl) hA))]
            refine g_ifb_eq (tgt := 159) ok dX5_openStep_143 (by decide) (fun c45 => ?_) (fun c45 => ?_)
            · skip
              refine g_ldc2 (v := -9000000000000000005) ok dX5_openStep_159 wd3_2 (by decide +kernel) ?_
              refine G.topL (v := gnC σ i z2 z3 d) (by unfold gnC; first | (rw [if_pos (by assumption)]; done) | (rw [if_neg (by assumption)]; rfl)) ?_
              have aG := gnC_b hS hP (i := i) (ws := z2) (t := z3) (d := d) hw (by omega)
              refine g_last ok dX5_openStep_162 (Vd.one rfl) (fun _ => rfl) ⟨by omega, by omega⟩ (by decide) rfl ⟨by omega, by omega⟩ ?_
              refine g_iinc ok dX5_openStep_163 rfl rfl (Nat.le_of_ble_eq_true rfl) ?_
              refine g_goto (tgt := 114) ok dX5_openStep_166 (by decide) ?_
              refine G.norm [(0, .inr (.inr (10, 0))), (1, .inr (.inr (8, i))), (2, .inl z2), (3, .inl z3), (5, .inr (.inl (spC σ z2 z3))), (7, .inl (bcF z2)), (8, .inl _)] ⟨rfl, rfl, rfl, rfl, rfl, rfl, rfl, trivial⟩ (L114ih _ _ ?_ ?_ ?_ ?_ ?_ ?_ ?_ ?_ ?_ ?_ ?_ ?_)
              · omega
              · omega
              · exact Ag_up (Or.inl (by decide)) hA
              · (rw [up_s (by decide)]; exact h11)
              · (rw [up_s (by decide)]; exact h13)
              · (rw [up_s (by decide)]; exact h14)
              · exact hO6
              · exact hO7
              · exact hO8
              · exact hO9
              · exact gn_up hg rfl
              · omega
            · skip
              refine g_aload_n ok dX5_openStep_146 rfl rfl ?_
              refine g_iload ok dX5_openStep_147 rfl ?_
              refine g_lload ok dX5_openStep_149 rfl ?_
              refine g_iload ok dX5_openStep_151 rfl ?_
              refine g_cV ok dX5_openStep_153 mv_X5_140 (c_X0_moneyTogether X _ _ _ _ _ _ (by omega) (by omega) (by omega) (by omega) (by omega) (by omega) hS2) rfl (Vd.four rfl (by omega) (by omega)) rfl rfl (by decide) rfl (Nat.le_of_ble_eq_true rfl) ?_
              rw [show s 8 = σ 8 from congrFun hA 8]
              refine g_goto (tgt := 162) ok dX5_openStep_156 (by decide) ?_
              refine G.topL (v := gnC σ i z2 z3 d) (by unfold gnC; first | (rw [if_pos (by assumption)]; done) | (rw [if_neg (by assumption)]; rfl)) ?_
              have aG := gnC_b hS hP (i := i) (ws := z2) (t := z3) (d := d) hw (by omega)
              refine g_last ok dX5_openStep_162 (Vd.one rfl) (fun _ => rfl) ⟨by omega, by omega⟩ (by decide) rfl ⟨by omega, by omega⟩ ?_
              refine g_iinc ok dX5_openStep_163 rfl rfl (Nat.le_of_ble_eq_true rfl) ?_
              refine g_goto (tgt := 114) ok dX5_openStep_166 (by decide) ?_
              refine G.norm [(0, .inr (.inr (10, 0))), (1, .inr (.inr (8, i))), (2, .inl z2), (3, .inl z3), (5, .inr (.inl (spC σ z2 z3))), (7, .inl (bcF z2)), (8, .inl _)] ⟨rfl, rfl, rfl, rfl, rfl, rfl, rfl, trivial⟩ (L114ih _ _ ?_ ?_ ?_ ?_ ?_ ?_ ?_ ?_ ?_ ?_ ?_ ?_)
              · omega
              · omega
              · exact Ag_up (Or.inl (by decide)) hA
              · (rw [up_s (by decide)]; exact h11)
              · (rw [up_s (by decide)]; exact h13)
              · (rw [up_s (by decide)]; exact h14)
              · exact hO6
              · exact hO7
              · exact hO8
              · exact hO9
              · exact gn_up hg rfl
              · omega
      refine G.norm [(0, .inr (.inr (10, 0))), (1, .inr (.inr (8, i))), (2, .inl z2), (3, .inl z3), (5, .inr (.inl (spC σ z2 z3))), (7, .inl (bcF z2)), (8, .inl _)] ⟨rfl, rfl, rfl, rfl, rfl, rfl, rfl, trivial⟩ (L114 (82 : Nat) _ _ ?_ ?_ ?_ ?_ ?_ ?_ ?_ ?_ ?_ ?_ ?_ ?_)
      · omega
      · omega
      · exact Ag_up (Or.inl (by decide)) (Ag_up (Or.inl (by decide)) (Ag_up (Or.inl (by decide)) (Ag_up (Or.inl (by decide)) (Ag.rf σ))))
      · rfl
      · rfl
      · rfl
      · rfl
      · rfl
      · rfl
      · rfl
      · exact fun x h0 h1 => absurd h1 (by omega)
      · omega
    · skip
      refine g_iconst (v := 0) ok dX5_openStep_54 (by decide +kernel) ?_
      refine g_goto (tgt := 69) ok dX5_openStep_55 (by decide) ?_
      refine G.topI (v := mmC σ i z3) (by unfold mmC; first | (rw [if_pos (by assumption)]; done) | (rw [if_neg (by assumption)]; done)) ?_
      refine g_puti (z := 7) ok dX5_openStep_69 fw_X5_113 (Vd.one rfl) rfl rfl (Nat.le_of_ble_eq_true rfl) rfl ⟨by omega, by omega⟩ ?_
      refine g_aload_n ok dX5_openStep_72 rfl rfl ?_
      refine g_aload_n ok dX5_openStep_73 rfl rfl ?_
      refine g_geti2 σ (z := 4) ok dX5_openStep_74 fl_X5_116 (Vd.four rfl (by omega) (by omega)) rfl rfl rfl rfl (fun h46 h47 => ?_)
      refine g_iload ok dX5_openStep_77 rfl ?_
      refine g_iadd ok dX5_openStep_79 ?_
      refine g_puti (z := 8) ok dX5_openStep_80 fw_X5_119 (Vd.one rfl) rfl rfl (Nat.le_of_ble_eq_true rfl) rfl ⟨by omega, by omega⟩ ?_
      refine g_aload_n ok dX5_openStep_83 rfl rfl ?_
      refine g_aload_n ok dX5_openStep_84 rfl rfl ?_
      refine g_geti2 σ (z := 5) ok dX5_openStep_85 fl_X5_122 (Vd.four rfl (by omega) (by omega)) rfl rfl rfl rfl (fun h48 h49 => ?_)
      refine g_iload ok dX5_openStep_88 rfl ?_
      refine g_isub ok dX5_openStep_90 ?_
      refine g_puti (z := 9) ok dX5_openStep_91 fw_X5_125 (Vd.one rfl) rfl rfl (Nat.le_of_ble_eq_true rfl) rfl ⟨by omega, by omega⟩ ?_
      refine g_aload_n ok dX5_openStep_94 rfl rfl ?_
      refine g_iload_n ok dX5_openStep_95 rfl rfl ?_
      refine g_iload_n ok dX5_openStep_96 rfl rfl ?_
      refine g_cV ok dX5_openStep_97 mv_X5_128 (c_X5_sumOfPrices X _ _ _ _ ⟨by omega, by omega⟩ (by omega) (by omega) hP) rfl (Vd.one rfl) rfl rfl (by decide) rfl (Nat.le_of_ble_eq_true rfl) ?_
      change G X M cX5_openStep 9 _ _ _ (.inr (.inl (spC σ z2 z3)) :: _)
      refine g_lstore ok dX5_openStep_100 (Nat.le_of_ble_eq_true rfl) ?_
      refine g_iload_n ok dX5_openStep_102 rfl rfl ?_
      refine g_cS ok dX5_openStep_103 ms_X5_131 (c_J6_bitCount_0f7a4 X _ _ _ ⟨by omega, by omega⟩) rfl (by decide) rfl (Nat.le_of_ble_eq_true rfl) ?_
      refine g_istore ok dX5_openStep_106 (Nat.le_of_ble_eq_true rfl) ?_
      refine g_aload_n ok dX5_openStep_108 rfl rfl ?_
      refine g_geti3 (lmC σ i z3) (z := 6) ok dX5_openStep_109 fl_X5_104 (Vd.one rfl) rfl rfl rfl (by rfl) (fun h50 h51 => ?_)
      refine g_istore ok dX5_openStep_112 (Nat.le_of_ble_eq_true rfl) ?_
      have L114 : ∀ (n : Nat) (d : Int) (s : Mm), (lmC σ i z3 ≤ d) → (d ≤ mmC σ i z3 + 1) → (Ag s σ) → (s 11 = σ 11) → (s 13 = σ 13) → (s 14 = σ 14) → (s 10 0 6 = lmC σ i z3) → (s 10 0 7 = mmC σ i z3) → (s 10 0 8 = σ 8 i 4 + kbC σ z3) → (s 10 0 9 = σ 8 i 5 - kbC σ z3) → (∀ x, lmC σ i z3 ≤ x → x < d → s 12 0 (x + 40) = gnC σ i z2 z3 x) → (mmC σ i z3 + 1 - d < n) → G X M cX5_openStep 9 s 114 [(0, .inr (.inr (10, 0))), (1, .inr (.inr (8, i))), (2, .inl z2), (3, .inl z3), (5, .inr (.inl (spC σ z2 z3))), (7, .inl (bcF z2)), (8, .inl d)] [] := by
        intro n
        induction n with
        | zero => intro d s hd0 hd1 hA h11 h13 h14 hO6 hO7 hO8 hO9 hg hm; exact absurd hm (by omega)
        | succ n L114ih =>
          intro d s hd0 hd1 hA h11 h13 h14 hO6 hO7 hO8 hO9 hg hm
          have hS2 : CS s := agP (F := CS) (fun _ => rfl) hA hS
          have hK2 : CK s := agP (F := CK) (fun _ => rfl) hA hK
          have hP2 : CP s := agP (F := CP) (fun _ => rfl) hA hP
          refine g_iload ok dX5_openStep_114 rfl ?_
          refine g_aload_n ok dX5_openStep_116 rfl rfl ?_
          refine g_geti3 (mmC σ i z3) (z := 7) ok dX5_openStep_117 fl_X5_113 (Vd.one rfl) rfl rfl rfl (by exact hO7) (fun h52 h53 => ?_)
          refine g_icmp_gt (tgt := 169) ok dX5_openStep_120 (by decide) ⟨by omega, by omega⟩ ⟨by omega, by omega⟩ (fun c54 => ?_) (fun c54 => ?_)
          · skip
            exact g_vret ok hq dX5_openStep_169 (by exact ⟨rfl, hA, h11, h13, h14, hO6, hO7, hO8, hO9, fun x h0 h1 => hg x h0 (by omega)⟩)
          · skip
            refine g_aload_n ok dX5_openStep_123 rfl rfl ?_
            refine g_getr ok dX5_openStep_124 fl_X5_15 (Vd.one rfl) rfl rfl ?_
            refine g_iload ok dX5_openStep_127 rfl ?_
            refine g_bipush (v := 40) ok dX5_openStep_129 (by decide +kernel) ?_
            refine g_iadd ok dX5_openStep_131 ?_
            refine g_aload_n ok dX5_openStep_132 rfl rfl ?_
            refine g_getr ok dX5_openStep_133 fl_X5_24 (Vd.one rfl) rfl rfl ?_
            refine g_aload_n ok dX5_openStep_136 rfl rfl ?_
            refine g_iload_n ok dX5_openStep_137 rfl rfl ?_
            refine g_iload ok dX5_openStep_138 rfl ?_
            refine g_cV ok dX5_openStep_140 mv_X5_136 (c_X3_allowsMove X _ _ _ _ _ (by omega) (by omega) (by omega) (by omega) ⟨by omega, by omega⟩ hS2 hK2) rfl (Vd.one rfl) rfl rfl (by decide) rfl (Nat.le_of_ble_eq_true rfl) ?_
            rw [bI_iff (iff_of_eq (ag (F := fun s => amC s i z3 d) (fun _ => rfl) hA))]
            refine g_ifb_eq (tgt := 159) ok dX5_openStep_143 (by decide) (fun c55 => ?_) (fun c55 => ?_)
            · skip
              refine g_ldc2 (v := -9000000000000000005) ok dX5_openStep_159 wd3_2 (by decide +kernel) ?_
              refine G.topL (v := gnC σ i z2 z3 d) (by unfold gnC; first | (rw [if_pos (by assumption)]; done) | (rw [if_neg (by assumption)]; rfl)) ?_
              have aG := gnC_b hS hP (i := i) (ws := z2) (t := z3) (d := d) hw (by omega)
              refine g_last ok dX5_openStep_162 (Vd.one rfl) (fun _ => rfl) ⟨by omega, by omega⟩ (by decide) rfl ⟨by omega, by omega⟩ ?_
              refine g_iinc ok dX5_openStep_163 rfl rfl (Nat.le_of_ble_eq_true rfl) ?_
              refine g_goto (tgt := 114) ok dX5_openStep_166 (by decide) ?_
              refine G.norm [(0, .inr (.inr (10, 0))), (1, .inr (.inr (8, i))), (2, .inl z2), (3, .inl z3), (5, .inr (.inl (spC σ z2 z3))), (7, .inl (bcF z2)), (8, .inl _)] ⟨rfl, rfl, rfl, rfl, rfl, rfl, rfl, trivial⟩ (L114ih _ _ ?_ ?_ ?_ ?_ ?_ ?_ ?_ ?_ ?_ ?_ ?_ ?_)
              · omega
              · omega
              · exact Ag_up (Or.inl (by decide)) hA
              · (rw [up_s (by decide)]; exact h11)
              · (rw [up_s (by decide)]; exact h13)
              · (rw [up_s (by decide)]; exact h14)
              · exact hO6
              · exact hO7
              · exact hO8
              · exact hO9
              · exact gn_up hg rfl
              · omega
            · skip
              refine g_aload_n ok dX5_openStep_146 rfl rfl ?_
              refine g_iload ok dX5_openStep_147 rfl ?_
              refine g_lload ok dX5_openStep_149 rfl ?_
              refine g_iload ok dX5_openStep_151 rfl ?_
              refine g_cV ok dX5_openStep_153 mv_X5_140 (c_X0_moneyTogether X _ _ _ _ _ _ (by omega) (by omega) (by omega) (by omega) (by omega) (by omega) hS2) rfl (Vd.four rfl (by omega) (by omega)) rfl rfl (by decide) rfl (Nat.le_of_ble_eq_true rfl) ?_
              rw [show s 8 = σ 8 from congrFun hA 8]
              refine g_goto (tgt := 162) ok dX5_openStep_156 (by decide) ?_
              refine G.topL (v := gnC σ i z2 z3 d) (by unfold gnC; first | (rw [if_pos (by assumption)]; done) | (rw [if_neg (by assumption)]; rfl)) ?_
              have aG := gnC_b hS hP (i := i) (ws := z2) (t := z3) (d := d) hw (by omega)
              refine g_last ok dX5_openStep_162 (Vd.one rfl) (fun _ => rfl) ⟨by omega, by omega⟩ (by decide) rfl ⟨by omega, by omega⟩ ?_
              refine g_iinc ok dX5_openStep_163 rfl rfl (Nat.le_of_ble_eq_true rfl) ?_
              refine g_goto (tgt := 114) ok dX5_openStep_166 (by decide) ?_
              refine G.norm [(0, .inr (.inr (10, 0))), (1, .inr (.inr (8, i))), (2, .inl z2), (3, .inl z3), (5, .inr (.inl (spC σ z2 z3))), (7, .inl (bcF z2)), (8, .inl _)] ⟨rfl, rfl, rfl, rfl, rfl, rfl, rfl, trivial⟩ (L114ih _ _ ?_ ?_ ?_ ?_ ?_ ?_ ?_ ?_ ?_ ?_ ?_ ?_)
              · omega
              · omega
              · exact Ag_up (Or.inl (by decide)) hA
              · (rw [up_s (by decide)]; exact h11)
              · (rw [up_s (by decide)]; exact h13)
              · (rw [up_s (by decide)]; exact h14)
              · exact hO6
              · exact hO7
              · exact hO8
              · exact hO9
              · exact gn_up hg rfl
              · omega
      refine G.norm [(0, .inr (.inr (10, 0))), (1, .inr (.inr (8, i))), (2, .inl z2), (3, .inl z3), (5, .inr (.inl (spC σ z2 z3))), (7, .inl (bcF z2)), (8, .inl _)] ⟨rfl, rfl, rfl, rfl, rfl, rfl, rfl, trivial⟩ (L114 (82 : Nat) _ _ ?_ ?_ ?_ ?_ ?_ ?_ ?_ ?_ ?_ ?_ ?_ ?_)
      · omega
      · omega
      · exact Ag_up (Or.inl (by decide)) (Ag_up (Or.inl (by decide)) (Ag_up (Or.inl (by decide)) (Ag_up (Or.inl (by decide)) (Ag.rf σ))))
      · rfl
      · rfl
      · rfl
      · rfl
      · rfl
      · rfl
      · rfl
      · exact fun x h0 h1 => absurd h1 (by omega)
      · omega

set_option maxRecDepth 100000 in
set_option maxHeartbeats 4000000 in
theorem c_X5_solve (X : XW) (l : Launch) (σ : Mm) (i z2 z3 : Int) (b0 : 0 ≤ i) (b1 : i < 4) (hw : 1 ≤ z2 ∧ z2 ≤ 15) (c0 : 0 ≤ z3) (c1 : z3 ≤ σ 1 0 0) (hz : σ 8 i 5 ≤ σ 8 i 2) (hS : CS σ) (hT : CT σ) (hP : CP σ) (hK : CK σ) : Ct X l yX5_solve cX5_solve 6 (Option.none : Option FieldType) 4 96 σ [.inr (.inr (10, 0)), .inr (.inr (8, i)), .inl z2, .inl z3] (PostV (fun s => Ag s σ ∧ TW s σ i z2 z3)) := by
  refine Ct.intro (own := RX5) (by decide) rfl (Nat.le_of_ble_eq_true rfl) (fun M hM ok hq => ?_)
  subst hM
  show G X M cX5_solve 6 σ 0 [(0, .inr (.inr (10, 0))), (1, .inr (.inr (8, i))), (2, .inl z2), (3, .inl z3)] []
  have aT := hT.1
  have aT2 := hT.2
  have hN : NONE = -9000000000000000005 := rfl
  have aS := hS i
  refine g_iconst (v := 0) ok dX5_solve_0 (by decide +kernel) ?_
  refine g_istore ok dX5_solve_1 (Nat.le_of_ble_eq_true rfl) ?_
  have L3 : ∀ (n : Nat) (c : Int) (s : Mm), (0 ≤ c) → (c ≤ 61) → (Ag s σ) → (∀ x, 0 ≤ x → x < c → s 11 0 (σ 1 0 0 * 61 + x) = WC σ i z2 0 x) → (61 - c < n) → G X M cX5_solve 6 s 3 [(0, .inr (.inr (10, 0))), (1, .inr (.inr (8, i))), (2, .inl z2), (3, .inl z3), (4, .inl c)] [] := by
    intro n
    induction n with
    | zero => intro c s hk0 hk1 hA1 hr1 hm; exact absurd hm (by omega)
    | succ n L3ih =>
      intro c s hk0 hk1 hA1 hr1 hm
      refine g_iload ok dX5_solve_3 rfl ?_
      refine g_bipush (v := 61) ok dX5_solve_5 (by decide +kernel) ?_
      refine g_icmp_ge (tgt := 50) ok dX5_solve_7 (by decide) ⟨by omega, by omega⟩ ⟨by omega, by omega⟩ (fun c1 => ?_) (fun c1 => ?_)
      · skip
        refine g_aload_n ok dX5_solve_50 rfl rfl ?_
        refine g_getr ok dX5_solve_51 fl_X5_24 (Vd.one rfl) rfl rfl ?_
        refine g_geti2 σ (z := 0) ok dX5_solve_54 fl_X5_32 (Vd.one rfl) rfl rfl rfl (congrFun (congrFun (congrFun hA1 1) _) _) (fun h2 h3 => ?_)
        refine g_iconst (v := 1) ok dX5_solve_57 (by decide +kernel) ?_
        refine g_isub ok dX5_solve_58 ?_
        refine g_istore ok dX5_solve_59 (Nat.le_of_ble_eq_true rfl) ?_
        have L61 : ∀ (n : Nat) (t : Int) (s : Mm), (z3 - 1 ≤ t) → (t ≤ σ 1 0 0 - 1) → (Ag s σ) → (TW s σ i z2 (t + 1)) → (t + 1 < n) → G X M cX5_solve 6 s 61 [(0, .inr (.inr (10, 0))), (1, .inr (.inr (8, i))), (2, .inl z2), (3, .inl z3), (4, .inl t)] [] := by
          intro n
          induction n with
          | zero => intro t s ht0 ht1 hA2 hW2 hm2; exact absurd hm2 (by omega)
          | succ n L61ih =>
            intro t s ht0 ht1 hA2 hW2 hm2
            have hS2 : CS s := agP (F := CS) (fun _ => rfl) hA2 hS
            have hK2 : CK s := agP (F := CK) (fun _ => rfl) hA2 hK
            have hP2 : CP s := agP (F := CP) (fun _ => rfl) hA2 hP
            refine g_iload ok dX5_solve_61 rfl ?_
            refine g_iload_n ok dX5_solve_63 rfl rfl ?_
            refine g_icmp_lt (tgt := 120) ok dX5_solve_64 (by decide) ⟨by omega, by omega⟩ ⟨by omega, by omega⟩ (fun c4 => ?_) (fun c4 => ?_)
            · skip
              exact g_vret ok hq dX5_solve_120 (by exact ⟨rfl, hA2, TW_lo (by omega) hW2⟩)
            · skip
              refine g_aload_n ok dX5_solve_67 rfl rfl ?_
              refine g_aload_n ok dX5_solve_68 rfl rfl ?_
              refine g_iload_n ok dX5_solve_69 rfl rfl ?_
              refine g_iload ok dX5_solve_70 rfl ?_
              refine g_cVR ok dX5_solve_72 mv_X5_45 (c_X5_openStep X _ _ _ _ _ (by omega) (by omega) (by omega) (by omega) (by omega) hS2 hP2 hK2) rfl (Vd.one rfl) rfl rfl (by decide) rfl (Nat.le_of_ble_eq_true rfl) (fun s2 hs2 => ?_)
              obtain ⟨hB1, hB2, hB3, hB4, hB5⟩ := hs2
              have hA5 : Ag s2 σ := hB1.tr hA2
              have hO5 : OS s2 σ i z2 t := (Eq.mp (ag (F := fun σ => OS s2 σ i z2 t) (fun _ => rfl) hA2) hB5 : OS s2 σ i z2 t)
              have hW5 : TW s2 σ i z2 (t + 1) := TW_11 hB2 hW2
              refine g_iconst (v := 0) ok dX5_solve_75 (by decide +kernel) ?_
              refine g_istore ok dX5_solve_76 (Nat.le_of_ble_eq_true rfl) ?_
              have L78 : ∀ (n : Nat) (c : Int) (s : Mm), (0 ≤ c) → (c ≤ σ 8 i 2 + 1) → (Ag s σ) → (OS s σ i z2 t) → (TW s σ i z2 (t + 1)) → (∀ x, 0 ≤ x → x < c → s 11 0 (t * 61 + x) = WC σ i z2 (σ 1 0 0 - t).toNat x) → (σ 8 i 2 + 1 - c < n) → G X M cX5_solve 6 s 78 [(0, .inr (.inr (10, 0))), (1, .inr (.inr (8, i))), (2, .inl z2), (3, .inl z3), (4, .inl t), (5, .inl c)] [] := by
                intro n
                induction n with
                | zero => intro c s hc0 hc1 hA3 hO3 hW3 hr3 hm3; exact absurd hm3 (by omega)
                | succ n L78ih =>
                  intro c s hc0 hc1 hA3 hO3 hW3 hr3 hm3
                  refine g_iload ok dX5_solve_78 rfl ?_
                  refine g_aload_n ok dX5_solve_80 rfl rfl ?_
                  refine g_geti2 σ (z := 2) ok dX5_solve_81 fl_X5_49 (Vd.four rfl (by omega) (by omega)) rfl rfl rfl (congrFun (congrFun (congrFun hA3 8) _) _) (fun h5 h6 => ?_)
                  refine g_icmp_gt (tgt := 114) ok dX5_solve_84 (by decide) ⟨by omega, by omega⟩ ⟨by omega, by omega⟩ (fun c7 => ?_) (fun c7 => ?_)
                  · skip
                    refine g_iinc ok dX5_solve_114 rfl rfl (Nat.le_of_ble_eq_true rfl) ?_
                    refine g_goto (tgt := 61) ok dX5_solve_117 (by decide) ?_
                    refine G.norm [(0, .inr (.inr (10, 0))), (1, .inr (.inr (8, i))), (2, .inl z2), (3, .inl z3), (4, .inl _)] ⟨rfl, rfl, rfl, rfl, rfl, trivial⟩ (L61ih _ _ ?_ ?_ ?_ ?_ ?_)
                    · omega
                    · omega
                    · exact hA3
                    · (rw [show t + -1 + 1 = t by omega]; exact TW_row hW3 hr3 (by omega))
                    · omega
                  · skip
                    refine g_aload_n ok dX5_solve_87 rfl rfl ?_
                    refine g_getr ok dX5_solve_88 fl_X5_9 (Vd.one rfl) rfl rfl ?_
                    refine g_iload ok dX5_solve_91 rfl ?_
                    refine g_bipush (v := 61) ok dX5_solve_93 (by decide +kernel) ?_
                    refine g_imul ok dX5_solve_95 ?_
                    refine g_iload ok dX5_solve_96 rfl ?_
                    refine g_iadd ok dX5_solve_98 ?_
                    refine g_aload_n ok dX5_solve_99 rfl rfl ?_
                    refine g_iload ok dX5_solve_100 rfl ?_
                    refine g_iload ok dX5_solve_102 rfl ?_
                    refine g_cV ok dX5_solve_104 mv_X5_52 (c_X5_greatest X _ _ _ _ (by omega) (by omega) (by omega) (by omega) (OS_PB hS hK hO3) (QB_of hS hP hK hw (by omega) (by omega) (by omega) hz hO3 hW3 _)) rfl (Vd.one rfl) rfl rfl (by decide) rfl (Nat.le_of_ble_eq_true rfl) ?_
                    rw [gr_cv hS hK (by omega) (by omega) hz hO3 hW3 c]
                    have aV := WC_b hS hP hK (i := i) hw (σ 1 0 0 - t).toNat c
                    refine g_last ok dX5_solve_107 (Vd.one rfl) (fun _ => rfl) ⟨by omega, by omega⟩ (by decide) rfl ⟨by omega, by omega⟩ ?_
                    refine g_iinc ok dX5_solve_108 rfl rfl (Nat.le_of_ble_eq_true rfl) ?_
                    refine g_goto (tgt := 78) ok dX5_solve_111 (by decide) ?_
                    refine G.norm [(0, .inr (.inr (10, 0))), (1, .inr (.inr (8, i))), (2, .inl z2), (3, .inl z3), (4, .inl t), (5, .inl _)] ⟨rfl, rfl, rfl, rfl, rfl, rfl, trivial⟩ (L78ih _ _ ?_ ?_ ?_ ?_ ?_ ?_ ?_)
                    · omega
                    · omega
                    · exact Ag_up (Or.inl (by decide)) hA3
                    · exact hO3
                    · exact TW_up (by omega) hW3 (by omega)
                    · exact row_up hr3 rfl
                    · omega
              refine G.norm [(0, .inr (.inr (10, 0))), (1, .inr (.inr (8, i))), (2, .inl z2), (3, .inl z3), (4, .inl t), (5, .inl _)] ⟨rfl, rfl, rfl, rfl, rfl, rfl, trivial⟩ (L78 (62 : Nat) _ _ ?_ ?_ ?_ ?_ ?_ ?_ ?_)
              · omega
              · omega
              · exact hA5
              · exact hO5
              · exact hW5
              · exact fun x h0 h1 => absurd h1 (by omega)
              · omega
        refine G.norm [(0, .inr (.inr (10, 0))), (1, .inr (.inr (8, i))), (2, .inl z2), (3, .inl z3), (4, .inl _)] ⟨rfl, rfl, rfl, rfl, rfl, trivial⟩ (L61 (38 : Nat) _ _ ?_ ?_ ?_ ?_ ?_)
        · omega
        · omega
        · exact hA1
        · (intro t2 c2 h0 h1 h2 h3; rw [show t2 = σ 1 0 0 by omega, Int.sub_self]; exact hr1 c2 h2 (by omega))
        · omega
      · skip
        refine g_aload_n ok dX5_solve_10 rfl rfl ?_
        refine g_getr ok dX5_solve_11 fl_X5_9 (Vd.one rfl) rfl rfl ?_
        refine g_aload_n ok dX5_solve_14 rfl rfl ?_
        refine g_getr ok dX5_solve_15 fl_X5_24 (Vd.one rfl) rfl rfl ?_
        refine g_geti2 σ (z := 0) ok dX5_solve_18 fl_X5_32 (Vd.one rfl) rfl rfl rfl (congrFun (congrFun (congrFun hA1 1) _) _) (fun h8 h9 => ?_)
        refine g_bipush (v := 61) ok dX5_solve_21 (by decide +kernel) ?_
        refine g_imul ok dX5_solve_23 ?_
        refine g_iload ok dX5_solve_24 rfl ?_
        refine g_iadd ok dX5_solve_26 ?_
        refine g_iload ok dX5_solve_27 rfl ?_
        refine g_aload_n ok dX5_solve_29 rfl rfl ?_
        refine g_geti2 σ (z := 10) ok dX5_solve_30 fl_X5_38 (Vd.four rfl (by omega) (by omega)) rfl rfl rfl (congrFun (congrFun (congrFun hA1 8) _) _) (fun h10 h11 => ?_)
        refine g_icmp_ge (tgt := 42) ok dX5_solve_33 (by decide) ⟨by omega, by omega⟩ ⟨by omega, by omega⟩ (fun c12 => ?_) (fun c12 => ?_)
        · skip
          refine g_lconst (v := 0) ok dX5_solve_42 (by decide +kernel) ?_
          refine g_last ok dX5_solve_43 (Vd.one rfl) (fun _ => rfl) ⟨by omega, by omega⟩ (by decide) rfl ⟨by omega, by omega⟩ ?_
          refine g_iinc ok dX5_solve_44 rfl rfl (Nat.le_of_ble_eq_true rfl) ?_
          refine g_goto (tgt := 3) ok dX5_solve_47 (by decide) ?_
          refine G.norm [(0, .inr (.inr (10, 0))), (1, .inr (.inr (8, i))), (2, .inl z2), (3, .inl z3), (4, .inl _)] ⟨rfl, rfl, rfl, rfl, rfl, trivial⟩ (L3ih _ _ ?_ ?_ ?_ ?_ ?_)
          · omega
          · omega
          · exact Ag_up (Or.inl (by decide)) hA1
          · exact row_up hr1 (by show _ = (if _ then _ else _); first | (rw [if_pos (by omega)]; (try rfl)) | (rw [if_neg (by omega)]))
          · omega
        · skip
          refine g_ldc2 (v := -9000000000000000005) ok dX5_solve_36 wd3_2 (by decide +kernel) ?_
          refine g_goto (tgt := 43) ok dX5_solve_39 (by decide) ?_
          refine g_last ok dX5_solve_43 (Vd.one rfl) (fun _ => rfl) ⟨by omega, by omega⟩ (by decide) rfl ⟨by omega, by omega⟩ ?_
          refine g_iinc ok dX5_solve_44 rfl rfl (Nat.le_of_ble_eq_true rfl) ?_
          refine g_goto (tgt := 3) ok dX5_solve_47 (by decide) ?_
          refine G.norm [(0, .inr (.inr (10, 0))), (1, .inr (.inr (8, i))), (2, .inl z2), (3, .inl z3), (4, .inl _)] ⟨rfl, rfl, rfl, rfl, rfl, trivial⟩ (L3ih _ _ ?_ ?_ ?_ ?_ ?_)
          · omega
          · omega
          · exact Ag_up (Or.inl (by decide)) hA1
          · exact row_up hr1 (by show _ = (if _ then _ else _); first | (rw [if_pos (by omega)]; (try rfl)) | (rw [if_neg (by omega)]))
          · omega
  refine G.norm [(0, .inr (.inr (10, 0))), (1, .inr (.inr (8, i))), (2, .inl z2), (3, .inl z3), (4, .inl _)] ⟨rfl, rfl, rfl, rfl, rfl, trivial⟩ (L3 (62 : Nat) _ _ ?_ ?_ ?_ ?_ ?_)
  · omega
  · omega
  · exact Ag.rf σ
  · exact fun x h0 h1 => absurd h1 (by omega)
  · omega

set_option maxRecDepth 100000 in
set_option maxHeartbeats 4000000 in
theorem c_X5_writeFirstBest (X : XW) (l : Launch) (σ : Mm) (i z2 : Int) (b0 : 0 ≤ i) (b1 : i < 4) (hw : 1 ≤ z2 ∧ z2 ≤ 15) (hz : σ 8 i 5 ≤ σ 8 i 2) (hW : TW σ σ i z2 0) (hV : ¬ WC σ i z2 (σ 1 0 0).toNat (σ 8 i 3) = NONE) (hC : 0 ≤ σ 8 i 3 ∧ σ 8 i 3 ≤ σ 8 i 2) (hS : CS σ) (hT : CT σ) (hP : CP σ) (hK : CK σ) : Ct X l yX5_writeFirstBest cX5_writeFirstBest 6 (Option.none : Option FieldType) 4 96 σ [.inr (.inr (10, 0)), .inr (.inr (8, i)), .inl z2] (PostV (fun s => Ag s (plW σ 9 i 0 (bpC σ i z2) (σ 1 0 0)))) := by
  refine Ct.intro (own := RX5) (by decide) rfl (Nat.le_of_ble_eq_true rfl) (fun M hM ok hq => ?_)
  subst hM
  show G X M cX5_writeFirstBest 6 σ 0 [(0, .inr (.inr (10, 0))), (1, .inr (.inr (8, i))), (2, .inl z2)] []
  have aT := hT.1
  have aT2 := hT.2
  have hN : NONE = -9000000000000000005 := rfl
  have aS := hS i
  refine g_aload_n ok dX5_writeFirstBest_0 rfl rfl ?_
  refine g_geti (z := 3) ok dX5_writeFirstBest_1 fl_X5_56 (Vd.four rfl (by omega) (by omega)) rfl rfl rfl (fun h1 h2 => ?_)
  refine g_istore_n ok dX5_writeFirstBest_4 rfl (Nat.le_of_ble_eq_true rfl) ?_
  refine g_iconst (v := 0) ok dX5_writeFirstBest_5 (by decide +kernel) ?_
  refine g_istore ok dX5_writeFirstBest_6 (Nat.le_of_ble_eq_true rfl) ?_
  have L8 : ∀ (n : Nat) (t : Int) (c : Int) (s : Mm), (0 ≤ t) → (t ≤ σ 1 0 0) → (c = bcC σ i z2 t) → (0 ≤ c ∧ c ≤ σ 8 i 2) → (¬ WC σ i z2 (σ 1 0 0 - t).toNat c = NONE) → (Ag s (plW σ 9 i 0 (bpC σ i z2) t)) → (s 11 = σ 11) → (σ 1 0 0 - t < n) → G X M cX5_writeFirstBest 6 s 8 [(0, .inr (.inr (10, 0))), (1, .inr (.inr (8, i))), (2, .inl z2), (3, .inl c), (4, .inl t)] [] := by
    intro n
    induction n with
    | zero => intro t c s ht0 ht1 hc hi hv hA2 h11 hm; exact absurd hm (by omega)
    | succ n L8ih =>
      intro t c s ht0 ht1 hc hi hv hA2 h11 hm
      have hS2 : CS s := agP (F := CS) (fun _ => rfl) hA2 hS
      have hK2 : CK s := agP (F := CK) (fun _ => rfl) hA2 hK
      have hP2 : CP s := agP (F := CP) (fun _ => rfl) hA2 hP
      refine g_iload ok dX5_writeFirstBest_8 rfl ?_
      refine g_aload_n ok dX5_writeFirstBest_10 rfl rfl ?_
      refine g_getr ok dX5_writeFirstBest_11 fl_X5_24 (Vd.one rfl) rfl rfl ?_
      refine g_geti2 σ (z := 0) ok dX5_writeFirstBest_14 fl_X5_32 (Vd.one rfl) rfl rfl rfl (congrFun (congrFun (congrFun hA2 1) _) _) (fun h3 h4 => ?_)
      refine g_icmp_ge (tgt := 57) ok dX5_writeFirstBest_17 (by decide) ⟨by omega, by omega⟩ ⟨by omega, by omega⟩ (fun c5 => ?_) (fun c5 => ?_)
      · skip
        exact g_vret ok hq dX5_writeFirstBest_57 (by exact ⟨rfl, (show t = σ 1 0 0 by omega) ▸ hA2⟩)
      · skip
        refine g_aload_n ok dX5_writeFirstBest_20 rfl rfl ?_
        refine g_aload_n ok dX5_writeFirstBest_21 rfl rfl ?_
        refine g_iload_n ok dX5_writeFirstBest_22 rfl rfl ?_
        refine g_iload ok dX5_writeFirstBest_23 rfl ?_
        refine g_cVR ok dX5_writeFirstBest_25 mv_X5_45 (c_X5_openStep X _ _ _ _ _ (by omega) (by omega) (by omega) (by omega) (by omega) hS2 hP2 hK2) rfl (Vd.one rfl) rfl rfl (by decide) rfl (Nat.le_of_ble_eq_true rfl) (fun s2 hs2 => ?_)
        obtain ⟨hB1, hB2, hB3, hB4, hB5⟩ := hs2
        have hA5 : Ag s2 (plW σ 9 i 0 (bpC σ i z2) t) := hB1.tr hA2
        have hO5 : OS s2 σ i z2 t := (Eq.mp (ag (F := fun σ => OS s2 σ i z2 t) (fun _ => rfl) hA2) hB5 : OS s2 (plW σ 9 i 0 (bpC σ i z2) t) i z2 t)
        have hW5 : TW s2 σ i z2 0 := TW_11 (hB2.trans h11) hW
        have hbd := bdC_ok hS hK (i := i) (ws := z2) (t := t) (c := c) (by omega) (by omega) hz hv
        refine g_aload_n ok dX5_writeFirstBest_28 rfl rfl ?_
        refine g_iload ok dX5_writeFirstBest_29 rfl ?_
        refine g_iload_n ok dX5_writeFirstBest_31 rfl rfl ?_
        refine g_cV ok dX5_writeFirstBest_32 mv_X5_59 (c_X5_leastBest X _ _ _ _ (by omega) (by omega) (by omega) (by omega) (OS_PB hS hK hO5) (QB_of hS hP hK hw (by omega) (by omega) (by omega) hz hO5 (TW_lo (by omega) hW5) _)) rfl (Vd.one rfl) rfl rfl (by decide) rfl (Nat.le_of_ble_eq_true rfl) ?_
        rw [lb_cv hS hK (by omega) (by omega) hz hO5 (TW_lo (by omega) hW5) ⟨by omega, by omega⟩]
        refine g_istore ok dX5_writeFirstBest_35 (Nat.le_of_ble_eq_true rfl) ?_
        refine g_aload_n ok dX5_writeFirstBest_37 rfl rfl ?_
        refine g_getr ok dX5_writeFirstBest_38 fl_X5_63 (Vd.four rfl (by omega) (by omega)) rfl rfl ?_
        refine g_iload ok dX5_writeFirstBest_41 rfl ?_
        refine g_iload ok dX5_writeFirstBest_43 rfl ?_
        refine g_iast ok dX5_writeFirstBest_45 (Vd.four rfl (by omega) (by omega)) (fun _ => rfl) ⟨by omega, by omega⟩ (by decide) rfl ⟨by omega, by omega⟩ ?_
        refine g_iload_n ok dX5_writeFirstBest_46 rfl rfl ?_
        refine g_iload ok dX5_writeFirstBest_47 rfl ?_
        refine g_iadd ok dX5_writeFirstBest_49 ?_
        refine g_istore_n ok dX5_writeFirstBest_50 rfl (Nat.le_of_ble_eq_true rfl) ?_
        refine g_iinc ok dX5_writeFirstBest_51 rfl rfl (Nat.le_of_ble_eq_true rfl) ?_
        refine g_goto (tgt := 8) ok dX5_writeFirstBest_54 (by decide) ?_
        refine G.norm [(0, .inr (.inr (10, 0))), (1, .inr (.inr (8, i))), (2, .inl z2), (3, .inl _), (4, .inl _)] ⟨rfl, rfl, rfl, rfl, rfl, trivial⟩ (L8ih _ _ _ ?_ ?_ ?_ ?_ ?_ ?_ ?_ ?_)
        · omega
        · omega
        · (unfold bcC; rw [chI_s ht0]; show _ = bcC σ i z2 t + bdC σ i z2 t (bcC σ i z2 t); rw [← hc])
        · exact hbd.1
        · exact hbd.2.2.2.1
        · (rw [← plW_up (h := bpC σ i z2) (v := bdC σ i z2 t c) ht0 (by unfold bpC; rw [← hc]), Int.zero_add]; exact Ag_up2 hA5)
        · (rw [up_s (by decide)]; exact hB2.trans h11)
        · omega
  refine G.norm [(0, .inr (.inr (10, 0))), (1, .inr (.inr (8, i))), (2, .inl z2), (3, .inl _), (4, .inl _)] ⟨rfl, rfl, rfl, rfl, rfl, trivial⟩ (L8 (37 : Nat) _ _ _ ?_ ?_ ?_ ?_ ?_ ?_ ?_ ?_)
  · omega
  · omega
  · rfl
  · omega
  · (rw [Int.sub_zero]; exact hV)
  · (rw [plW_0]; exact Ag.rf σ)
  · rfl
  · omega
