theorem G.topL {X : XW} {M : MX} {cc : ByteArray} {nL : Nat} {σ : Mm} {pc : Nat} {ls : List (Nat × AV)} {st : List AV} {a v : Int} (h : a = v) (k : G X M cc nL σ pc ls (.inr (.inl v) :: st)) : G X M cc nL σ pc ls (.inr (.inl a) :: st) := h ▸ k
theorem gn_up {s : Mm} {g : Int → Int} {lo d v : Int} (h : ∀ x, lo ≤ x → x < d → s 12 0 (x + 40) = g x) (hv : v = g d) : ∀ x, lo ≤ x → x < d + 1 → up s 12 0 (d + 40) v 12 0 (x + 40) = g x := by
  intro x h0 h1
  rw [up_e]
  by_cases q : x = d
  · rw [if_pos (by omega), q, hv]
  · rw [if_neg (by omega)]
    exact h x h0 (by omega)
theorem row_up {s : Mm} {f : Int → Int} {b c v : Int} (h : ∀ x, 0 ≤ x → x < c → s 11 0 (b + x) = f x) (hv : v = f c) : ∀ x, 0 ≤ x → x < c + 1 → up s 11 0 (b + c) v 11 0 (b + x) = f x := by
  intro x h0 h1
  rw [up_e]
  by_cases q : x = c
  · rw [if_pos (by omega), q, hv]
  · rw [if_neg (by omega)]
    exact h x h0 (by omega)
theorem TW_up {s σ : Mm} {i ws t c v : Int} (hz : 0 ≤ σ 8 i 2 ∧ σ 8 i 2 ≤ 60) (h : TW s σ i ws (t + 1)) (hc : 0 ≤ c ∧ c ≤ 60) : TW (up s 11 0 (t * 61 + c) v) σ i ws (t + 1) := by
  intro t' c' h0 h1 h2 h3
  rw [up_e, if_neg (by omega)]
  exact h t' c' h0 h1 h2 h3
theorem TW_row {s σ : Mm} {i ws t m : Int} (h : TW s σ i ws (t + 1)) (h2 : ∀ x, 0 ≤ x → x < m → s 11 0 (t * 61 + x) = WC σ i ws (σ 1 0 0 - t).toNat x) (hm : σ 8 i 2 < m) : TW s σ i ws t := by
  intro t' c h0 h1 h3 h4
  by_cases q : t' = t
  · subst q
    exact h2 c h3 (by omega)
  · exact h t' c (by omega) h1 h3 h4
theorem TW_11 {s s' σ : Mm} {i ws lo : Int} (h : s' 11 = s 11) (hW : TW s σ i ws lo) : TW s' σ i ws lo := by
  intro t c h0 h1 h2 h3
  rw [h]
  exact hW t c h0 h1 h2 h3
theorem TW_lo {s σ : Mm} {i ws lo hi : Int} (hl : lo ≤ hi) (hW : TW s σ i ws lo) : TW s σ i ws hi := fun t c h0 h1 h2 h3 => hW t c (by omega) h1 h2 h3
theorem lbF_c {w v : Int → Int} {x : Int} : ∀ {n : Nat} {lo : Int}, (∀ d, lo ≤ d → d < lo + n → w d = v d) → lbF w x n lo = lbF v x n lo
  | 0, _, _ => rfl
  | n + 1, lo, h => by
    have i := lbF_c (x := x) (n := n) (lo := lo + 1) (fun d h0 h1 => h d (by omega) (by omega))
    show (if w lo = x then lo else lbF w x n (lo + 1)) = (if v lo = x then lo else lbF v x n (lo + 1))
    rw [i, h lo (by omega) (by omega)]
theorem lb_cv {s σ : Mm} (hS : CS σ) (hK : CK σ) {i ws t : Int} (h0 : 0 ≤ t) (h1 : t < σ 1 0 0) (hz : σ 8 i 5 ≤ σ 8 i 2) (hO : OS s σ i ws t) (hW : TW s σ i ws t) {c : Int} (hc : 0 ≤ c ∧ c ≤ σ 8 i 2) : lbS s t c = bdC σ i ws t c := by
  unfold lbS bdC
  rw [(fm_cv hO c).1, (fm_cv hO c).2, hW t c (by omega) (by omega) hc.1 hc.2]
  refine lbF_c (fun d h3 h4 => ?_)
  have q := inr_b hS hK hz h3 (show d ≤ laC σ i t c by omega)
  exact wq_cv hO (TW_lo (by omega) hW) h1 q.1 q.2.1
theorem gF_at {w : Int → Int} {lo : Int} : ∀ {n : Nat}, ¬ gF w lo n = NONE → ∃ d, lo ≤ d ∧ d < lo + n ∧ w d = gF w lo n
  | 0, h => absurd rfl h
  | n + 1, h => by
    by_cases q : gF w lo n < w (lo + n)
    · have e : gF w lo (n + 1) = w (lo + n) := by show (if _ then _ else _) = _; rw [if_pos q]
      rw [e]
      exact ⟨lo + n, by omega, by omega, rfl⟩
    · have e : gF w lo (n + 1) = gF w lo n := by show (if _ then _ else _) = _; rw [if_neg q]
      rw [e] at h ⊢
      obtain ⟨d, h1, h2, h3⟩ := gF_at h
      exact ⟨d, h1, by omega, h3⟩
theorem lbF_sp {w : Int → Int} {v : Int} : ∀ {n : Nat} {d : Int}, (∃ x, d ≤ x ∧ x < d + n ∧ w x = v) → w (lbF w v n d) = v ∧ d ≤ lbF w v n d ∧ lbF w v n d < d + n ∧ ∀ x, d ≤ x → x < lbF w v n d → ¬ w x = v
  | 0, d, ⟨x, h1, h2, _⟩ => absurd h2 (by omega)
  | n + 1, d, ⟨x, h1, h2, h3⟩ => by
    by_cases q : w d = v
    · have e : lbF w v (n + 1) d = d := by show (if _ then _ else _) = _; rw [if_pos q]
      rw [e]
      exact ⟨q, by omega, by omega, fun y h4 h5 => absurd h5 (by omega)⟩
    · have e : lbF w v (n + 1) d = lbF w v n (d + 1) := by show (if _ then _ else _) = _; rw [if_neg q]
      have hx : ¬ x = d := fun z => q (z ▸ h3)
      have i := lbF_sp (w := w) (v := v) (n := n) (d := d + 1) ⟨x, by omega, by omega, h3⟩
      rw [e]
      refine ⟨i.1, by omega, by omega, fun y h4 h5 => ?_⟩
      by_cases z : y = d
      · rw [z]; exact q
      · exact i.2.2.2 y (by omega) h5
/-- the chosen number keeps the charge, and the value -/
theorem bdC_ok {σ : Mm} (hS : CS σ) (hK : CK σ) {i ws t c : Int} (h0 : 0 ≤ t) (h1 : t < σ 1 0 0) (hz : σ 8 i 5 ≤ σ 8 i 2) (hv : ¬ WC σ i ws (σ 1 0 0 - t).toNat c = NONE) : (0 ≤ c + bdC σ i ws t c ∧ c + bdC σ i ws t c ≤ σ 8 i 2) ∧ (-40 ≤ bdC σ i ws t c ∧ bdC σ i ws t c ≤ 40) ∧ wqC σ i ws t c (bdC σ i ws t c) = WC σ i ws (σ 1 0 0 - t).toNat c ∧ ¬ WC σ i ws (σ 1 0 0 - (t + 1)).toNat (c + bdC σ i ws t c) = NONE ∧ (fiC σ i t c ≤ bdC σ i ws t c ∧ bdC σ i ws t c ≤ laC σ i t c) ∧ ∀ x, fiC σ i t c ≤ x → x < bdC σ i ws t c → ¬ wqC σ i ws t c x = WC σ i ws (σ 1 0 0 - t).toNat c := by
  have hv2 := hv
  rw [WC_s h0 h1] at hv2
  obtain ⟨d, q1, q2, q3⟩ := gF_at hv2
  rw [← WC_s h0 h1] at q3
  have k := lbF_sp (w := wqC σ i ws t c) (v := WC σ i ws (σ 1 0 0 - t).toNat c) (n := (laC σ i t c + 1 - fiC σ i t c).toNat) (d := fiC σ i t c) ⟨d, q1, q2, q3⟩
  have e : bdC σ i ws t c = lbF (wqC σ i ws t c) (WC σ i ws (σ 1 0 0 - t).toNat c) (laC σ i t c + 1 - fiC σ i t c).toNat (fiC σ i t c) := rfl
  rw [← e] at k
  have r := inr_b hS hK hz (t := t) (c := c) (d := bdC σ i ws t c) k.2.1 (by omega)
  refine ⟨r.2.1, r.2.2, k.1, fun z => hv ?_, ⟨k.2.1, by omega⟩, k.2.2.2⟩
  rw [← k.1]
  unfold wqC wqF
  rw [if_pos (Or.inr z)]
theorem Ag_up2 {s μ : Mm} {a : Nat} {i z v : Int} (h : Ag s μ) : Ag (up s a i z v) (up μ a i z v) := by
  funext b
  have q := congrFun h b
  unfold cut at q ⊢
  by_cases hb : (10 ≤ b ∧ b ≤ 14) ∨ 47 ≤ b
  · rw [if_pos hb, if_pos hb]
  · rw [if_neg hb, if_neg hb] at q ⊢
    unfold up
    rw [q]
theorem cut_fill {s : Mm} {a : Nat} {i lo hi v : Int} (ha : (10 ≤ a ∧ a ≤ 14) ∨ 47 ≤ a) : Ag (fillR s a i lo hi v) s := by
  funext b
  unfold cut
  by_cases hb : (10 ≤ b ∧ b ≤ 14) ∨ 47 ≤ b
  · rw [if_pos hb, if_pos hb]
  · rw [if_neg hb, if_neg hb]
    exact fillR_s (fun q => hb (q ▸ ha))
theorem cut_cpy {s : Mm} {a b : Nat} {i j sp dp n : Int} (hb : (10 ≤ b ∧ b ≤ 14) ∨ 47 ≤ b) : Ag (cpyA s a i sp b j dp n) s := by
  funext c
  unfold cut
  by_cases hc : (10 ≤ c ∧ c ≤ 14) ∨ 47 ≤ c
  · rw [if_pos hc, if_pos hc]
  · rw [if_neg hc, if_neg hc]
    exact cpyA_s (fun q => hc (q ▸ hb))
theorem cut_spF {s : Mm} {t c : Int} : Ag (spF s t c) s := by
  unfold spF
  split
  · rfl
  · funext b
    unfold cut
    by_cases hb : (10 ≤ b ∧ b ≤ 14) ∨ 47 ≤ b
    · rw [if_pos hb, if_pos hb]
    · rw [if_neg hb, if_neg hb]
      funext j y
      unfold spW
      have h14 : ¬ b = 14 := fun q => hb (by rw [q]; exact Or.inl (by decide))
      rw [if_neg (fun q => h14 q.1)]

theorem sps_b {σ : Mm} (hP : CP σ) (ws t : Int) {k : Int} (h0 : 0 ≤ k) (h1 : k ≤ 4) : -40000 ≤ sm (fun w => if sel ws w = 1 then pC σ w t else 0) k ∧ sm (fun w => if sel ws w = 1 then pC σ w t else 0) k ≤ 40000 := by
  have b := sm_b (f := fun w => if sel ws w = 1 then pC σ w t else 0) (a := -10000) (b := 10000) (n := k) h0 (fun k _ _ => by have q := pC_b hP k t; (try dsimp only); split <;> omega)
  omega
theorem sps_t {σ : Mm} {ws x k : Int} (h0 : 0 ≤ k) (h : sel ws k = 1) : sm (fun w => if sel ws w = 1 then pC σ w x else 0) (k + 1) = sm (fun w => if sel ws w = 1 then pC σ w x else 0) k + pC σ k x := by
  rw [sm_s h0]
  (try dsimp only)
  rw [if_pos h]
theorem sps_f {σ : Mm} {ws x k : Int} (h0 : 0 ≤ k) (h : ¬ sel ws k = 1) : sm (fun w => if sel ws w = 1 then pC σ w x else 0) (k + 1) = sm (fun w => if sel ws w = 1 then pC σ w x else 0) k := by
  rw [sm_s h0]
  (try dsimp only)
  rw [if_neg h, Int.add_zero]
theorem sps_up {s σ : Mm} {ws k t : Int} (h0 : 0 ≤ k) (h : sel ws k = 1) (ht : 0 ≤ t) (ht1 : t < 36) (hf : ∀ x, 0 ≤ x → x < 36 → s 50 0 x = if x < t then sm (fun w => if sel ws w = 1 then pC σ w x else 0) (k + 1) else sm (fun w => if sel ws w = 1 then pC σ w x else 0) k) : ∀ x, 0 ≤ x → x < 36 → up s 50 0 t (s 50 0 t + pC σ k t) 50 0 x = if x < t + 1 then sm (fun w => if sel ws w = 1 then pC σ w x else 0) (k + 1) else sm (fun w => if sel ws w = 1 then pC σ w x else 0) k := by
  intro x a b
  rw [up_e]
  by_cases q : x = t
  · subst q
    rw [if_pos ⟨rfl, rfl⟩, if_pos (by omega), sps_t h0 h, hf x a b, if_neg (by omega)]
  · rw [if_neg (fun z => q z.2), hf x a b]
    by_cases r : x < t
    · rw [if_pos r, if_pos (by omega)]
    · rw [if_neg r, if_neg (by omega)]

set_option maxRecDepth 100000 in
set_option maxHeartbeats 4000000 in
theorem c_X5_sumPrices (X : XW) (l : Launch) (σ : Mm) (z2 : Int) (hw : 1 ≤ z2 ∧ z2 ≤ 15) (hP : CP σ) : Ct X l yX5_sumPrices cX5_sumPrices 5 (Option.none : Option FieldType) 2 43 σ [.inr (.inr (10, 0)), .inr (.inr (4, 0)), .inl z2] (PostV (fun s => Ag s σ ∧ PS s σ z2)) := by
  refine Ct.intro (own := RX5) (by decide) rfl (Nat.le_of_ble_eq_true rfl) (fun M hM ok hq => ?_)
  subst hM
  show G X M cX5_sumPrices 5 σ 0 [(0, .inr (.inr (10, 0))), (1, .inr (.inr (4, 0))), (2, .inl z2)] []
  have aB := (bcF_b z2 hw.1 hw.2).1
  refine g_aload_n ok dX5_sumPrices_0 rfl rfl ?_
  refine g_iload_n ok dX5_sumPrices_1 rfl rfl ?_
  refine g_cS ok dX5_sumPrices_2 ms_X5_27 (c_J6_bitCount_0f7a4 X _ _ _ ⟨by omega, by omega⟩) rfl (by decide) rfl (Nat.le_of_ble_eq_true rfl) ?_
  refine g_puti (z := 1) ok dX5_sumPrices_5 fw_X5_33 (Vd.one rfl) rfl rfl (Nat.le_of_ble_eq_true rfl) rfl ⟨by omega, by omega⟩ ?_
  refine g_aload_n ok dX5_sumPrices_8 rfl rfl ?_
  refine g_getr ok dX5_sumPrices_9 fl_X5_9 (Vd.one rfl) rfl rfl ?_
  refine g_lconst (v := 0) ok dX5_sumPrices_12 (by decide +kernel) ?_
  refine g_cS0 ok dX5_sumPrices_13 ms_X5_37 (c_J7_fill_d0a16 X _ _ _ _ _ _ (Vd.one rfl) (fun _ => rfl) (fun _ => rfl) (by decide) ⟨by omega, by omega⟩) rfl (by decide) rfl (Nat.le_of_ble_eq_true rfl) ?_
  refine g_iconst (v := 0) ok dX5_sumPrices_16 (by decide +kernel) ?_
  refine g_istore_n ok dX5_sumPrices_17 rfl (Nat.le_of_ble_eq_true rfl) ?_
  have L18 : ∀ (n : Nat) (k : Int) (s : Mm), (0 ≤ k) → (k ≤ 4) → (Ag s σ) → (s 10 0 1 = bcF z2) → (∀ x, 0 ≤ x → x < 36 → s 50 0 x = sm (fun w => if sel z2 w = 1 then pC σ w x else 0) k) → (4 - k < n) → G X M cX5_sumPrices 5 s 18 [(0, .inr (.inr (10, 0))), (1, .inr (.inr (4, 0))), (2, .inl z2), (3, .inl k)] [] := by
    intro n
    induction n with
    | zero => intro k s hk0 hk1 hA1 hO1 hf1 hm; exact absurd hm (by omega)
    | succ n L18ih =>
      intro k s hk0 hk1 hA1 hO1 hf1 hm
      refine g_iload_n ok dX5_sumPrices_18 rfl rfl ?_
      refine g_aload_n ok dX5_sumPrices_19 rfl rfl ?_
      refine g_alenQ ok dX5_sumPrices_20 (Vd.one rfl) (fun _ => rfl) rfl ?_
      refine g_icmp_ge (tgt := 73) ok dX5_sumPrices_21 (by decide) ⟨by omega, by omega⟩ ⟨by omega, by omega⟩ (fun c1 => ?_) (fun c1 => ?_)
      · skip
        exact g_vret ok hq dX5_sumPrices_73 (by exact ⟨rfl, hA1, hO1, fun x h0 h1 => by rw [hf1 x h0 h1, show k = 4 by omega]; rfl⟩)
      · skip
        refine g_iconst (v := 0) ok dX5_sumPrices_24 (by decide +kernel) ?_
        refine g_istore ok dX5_sumPrices_25 (Nat.le_of_ble_eq_true rfl) ?_
        have L27 : ∀ (n : Nat) (t : Int) (s : Mm), (0 ≤ t) → (t ≤ 36) → (Ag s σ) → (s 10 0 1 = bcF z2) → (∀ x, 0 ≤ x → x < 36 → s 50 0 x = if x < t then sm (fun w => if sel z2 w = 1 then pC σ w x else 0) (k + 1) else sm (fun w => if sel z2 w = 1 then pC σ w x else 0) k) → (36 - t < n) → G X M cX5_sumPrices 5 s 27 [(0, .inr (.inr (10, 0))), (1, .inr (.inr (4, 0))), (2, .inl z2), (3, .inl k), (4, .inl t)] [] := by
          intro n
          induction n with
          | zero => intro t s ht0 ht1 hA2 hO2 hf2 hm2; exact absurd hm2 (by omega)
          | succ n L27ih =>
            intro t s ht0 ht1 hA2 hO2 hf2 hm2
            have hP2 : CP s := agP (F := CP) (fun _ => rfl) hA2 hP
            have aP := pC_b hP k t
            have aS2 := sps_b hP z2 t hk0 hk1
            have aF2 : t < 36 → s 50 0 t = sm (fun w => if sel z2 w = 1 then pC σ w t else 0) k := fun q => by rw [hf2 t ht0 q, if_neg (by omega)]
            refine g_iload ok dX5_sumPrices_27 rfl ?_
            refine g_bipush (v := 36) ok dX5_sumPrices_29 (by decide +kernel) ?_
            refine g_icmp_ge (tgt := 67) ok dX5_sumPrices_31 (by decide) ⟨by omega, by omega⟩ ⟨by omega, by omega⟩ (fun c2 => ?_) (fun c2 => ?_)
            · skip
              refine g_iinc ok dX5_sumPrices_67 rfl rfl (Nat.le_of_ble_eq_true rfl) ?_
              refine g_goto (tgt := 18) ok dX5_sumPrices_70 (by decide) ?_
              refine G.norm [(0, .inr (.inr (10, 0))), (1, .inr (.inr (4, 0))), (2, .inl z2), (3, .inl _)] ⟨rfl, rfl, rfl, rfl, trivial⟩ (L18ih _ _ ?_ ?_ ?_ ?_ ?_ ?_)
              · omega
              · omega
              · exact hA2
              · exact hO2
              · (intro x h0 h1; rw [hf2 x h0 h1]; first | (rw [if_pos (by omega)]; done) | (rw [sps_f hk0 (by assumption)]; split <;> rfl))
              · omega
            · skip
              refine g_iload_n ok dX5_sumPrices_34 rfl rfl ?_
              refine g_iload_n ok dX5_sumPrices_35 rfl rfl ?_
              refine g_cN ok dX5_sumPrices_36 mn_X5_43 (c_X7_hasWorld X _ _ _ _ ⟨by omega, by omega⟩ ⟨by omega, by omega⟩) rfl (by decide) rfl (Nat.le_of_ble_eq_true rfl) ?_
              refine g_ifb_eq (tgt := 67) ok dX5_sumPrices_39 (by decide) (fun c3 => ?_) (fun c3 => ?_)
              · skip
                refine g_iinc ok dX5_sumPrices_67 rfl rfl (Nat.le_of_ble_eq_true rfl) ?_
                refine g_goto (tgt := 18) ok dX5_sumPrices_70 (by decide) ?_
                refine G.norm [(0, .inr (.inr (10, 0))), (1, .inr (.inr (4, 0))), (2, .inl z2), (3, .inl _)] ⟨rfl, rfl, rfl, rfl, trivial⟩ (L18ih _ _ ?_ ?_ ?_ ?_ ?_ ?_)
                · omega
                · omega
                · exact hA2
                · exact hO2
                · (intro x h0 h1; rw [hf2 x h0 h1]; first | (rw [if_pos (by omega)]; done) | (rw [sps_f hk0 (by assumption)]; split <;> rfl))
                · omega
              · skip
                refine g_aload_n ok dX5_sumPrices_42 rfl rfl ?_
                refine g_getr ok dX5_sumPrices_43 fl_X5_9 (Vd.one rfl) rfl rfl ?_
                refine g_iload ok dX5_sumPrices_46 rfl ?_
                refine g_dup2 ok dX5_sumPrices_48 rfl rfl ?_
                refine g_lald ok dX5_sumPrices_49 (Vd.one rfl) (fun _ => rfl) ⟨by omega, by omega⟩ (by decide) rfl (fun h4 h5 => ?_)
                refine g_aload_n ok dX5_sumPrices_50 rfl rfl ?_
                refine g_iload_n ok dX5_sumPrices_51 rfl rfl ?_
                refine g_aald ok dX5_sumPrices_52 (Vd.one rfl) (fun _ => rfl) ⟨by omega, by omega⟩ rfl ?_
                refine g_iload ok dX5_sumPrices_53 rfl ?_
                refine g_cV ok dX5_sumPrices_55 mv_X5_47 (c_X6_priceOf X _ _ _ _ (by omega) (by omega) ⟨by omega, by omega⟩ hP2) rfl (Vd.four rfl (by omega) (by omega)) rfl rfl (by decide) rfl (Nat.le_of_ble_eq_true rfl) ?_
                rw [show pC s k t = pC σ k t from ag (F := fun s => pC s k t) (fun _ => rfl) hA2]
                refine g_i2l ok dX5_sumPrices_58 ⟨by omega, by omega⟩ ?_
                refine g_ladd ok dX5_sumPrices_59 ?_
                refine g_last ok dX5_sumPrices_60 (Vd.one rfl) (fun _ => rfl) ⟨by omega, by omega⟩ (by decide) rfl ⟨by omega, by omega⟩ ?_
                refine g_iinc ok dX5_sumPrices_61 rfl rfl (Nat.le_of_ble_eq_true rfl) ?_
                refine g_goto (tgt := 27) ok dX5_sumPrices_64 (by decide) ?_
                refine G.norm [(0, .inr (.inr (10, 0))), (1, .inr (.inr (4, 0))), (2, .inl z2), (3, .inl k), (4, .inl _)] ⟨rfl, rfl, rfl, rfl, rfl, trivial⟩ (L27ih _ _ ?_ ?_ ?_ ?_ ?_ ?_)
                · omega
                · omega
                · exact Ag_up (Or.inr (by decide)) hA2
                · exact hO2
                · exact sps_up hk0 (by assumption) ht0 (by omega) hf2
                · omega
        refine G.norm [(0, .inr (.inr (10, 0))), (1, .inr (.inr (4, 0))), (2, .inl z2), (3, .inl k), (4, .inl _)] ⟨rfl, rfl, rfl, rfl, rfl, trivial⟩ (L27 (37 : Nat) _ _ ?_ ?_ ?_ ?_ ?_ ?_)
        · omega
        · omega
        · exact hA1
        · exact hO1
        · (intro x h0 h1; rw [if_neg (by omega)]; exact hf1 x h0 h1)
        · omega
  refine G.norm [(0, .inr (.inr (10, 0))), (1, .inr (.inr (4, 0))), (2, .inl z2), (3, .inl _)] ⟨rfl, rfl, rfl, rfl, trivial⟩ (L18 (5 : Nat) _ _ ?_ ?_ ?_ ?_ ?_ ?_)
  · omega
  · omega
  · exact (cut_fill (Or.inr (by decide))).tr (Ag_up (Or.inl (by decide)) (Ag.rf σ))
  · rfl
  · (intro x h0 h1; rw [fillR_e, if_pos (by omega)]; rfl)
  · omega

set_option maxRecDepth 100000 in
set_option maxHeartbeats 4000000 in
theorem c_X5_openStep (X : XW) (l : Launch) (σ : Mm) (i z2 z3 : Int) (b0 : 0 ≤ i) (b1 : i < 4) (hw : 1 ≤ z2 ∧ z2 ≤ 15) (c0 : 0 ≤ z3) (c1 : z3 < 36) (hS : CS σ) (hP : CP σ) (hK : CK σ) (hQS : PS σ σ z2) : Ct X l yX5_openStep cX5_openStep 6 (Option.none : Option FieldType) 2 45 σ [.inr (.inr (10, 0)), .inr (.inr (1, 0)), .inr (.inr (8, i)), .inl z3] (PostV (fun s => Ag s σ ∧ s 11 = σ 11 ∧ s 13 = σ 13 ∧ s 14 = σ 14 ∧ OS s σ i z2 z3 ∧ s 50 = σ 50 ∧ s 10 0 1 = σ 10 0 1)) := by
  refine Ct.intro (own := RX5) (by decide) rfl (Nat.le_of_ble_eq_true rfl) (fun M hM ok hq => ?_)
  subst hM
  show G X M cX5_openStep 6 σ 0 [(0, .inr (.inr (10, 0))), (1, .inr (.inr (1, 0))), (2, .inr (.inr (8, i))), (3, .inl z3)] []
  have hN : NONE = -9000000000000000005 := rfl
  have aL := lmC_b hS hK i z3
  have aK := kbC_b hK z3
  have aS := hS i
  have aB := (bcF_b z2 hw.1 hw.2).1
  have aP := spC_b hP z2 z3
  refine g_aload_n ok dX5_openStep_0 rfl rfl ?_
  refine g_iload_n ok dX5_openStep_1 rfl rfl ?_
  refine g_cV ok dX5_openStep_2 mv_X5_104 (c_X3_keptBack X _ _ _ (by omega) (by omega)) rfl (Vd.one rfl) rfl rfl (by decide) rfl (Nat.le_of_ble_eq_true rfl) ?_
  refine g_istore ok dX5_openStep_5 (Nat.le_of_ble_eq_true rfl) ?_
  refine g_aload_n ok dX5_openStep_7 rfl rfl ?_
  refine g_aload_n ok dX5_openStep_8 rfl rfl ?_
  refine g_getr ok dX5_openStep_9 fl_X5_107 (Vd.one rfl) rfl rfl ?_
  refine g_iload_n ok dX5_openStep_12 rfl rfl ?_
  refine g_zald ok dX5_openStep_13 (Vd.one rfl) (fun _ => rfl) ⟨by omega, by omega⟩ (by decide) rfl (fun h1 h2 => ?_)
  refine g_if_eq (tgt := 21) ok dX5_openStep_14 (by decide) ⟨by omega, by omega⟩ (fun c3 => ?_) (fun c3 => ?_)
  · skip
    refine g_iconst (v := 0) ok dX5_openStep_21 (by decide +kernel) ?_
    refine g_iload ok dX5_openStep_22 rfl ?_
    refine g_aload_n ok dX5_openStep_24 rfl rfl ?_
    refine g_geti (z := 7) ok dX5_openStep_25 fl_X5_111 (Vd.four rfl (by omega) (by omega)) rfl rfl rfl (fun h4 h5 => ?_)
    refine g_isub ok dX5_openStep_28 ?_
    refine g_min ok dX5_openStep_29 wd3_23 wd3_24 wd1_12 wd3_25 ⟨Nat.le_of_ble_eq_true rfl, Nat.le_of_ble_eq_true rfl⟩ ⟨by omega, by omega⟩ ⟨by omega, by omega⟩ ?_
    refine G.topI (v := lmC σ i z3) (by unfold lmC; first | (rw [if_pos (by assumption)]; done) | (rw [if_neg (by assumption)]; done)) ?_
    refine g_puti (z := 6) ok dX5_openStep_32 fw_X5_116 (Vd.one rfl) rfl rfl (Nat.le_of_ble_eq_true rfl) rfl ⟨by omega, by omega⟩ ?_
    refine g_aload_n ok dX5_openStep_35 rfl rfl ?_
    refine g_aload_n ok dX5_openStep_36 rfl rfl ?_
    refine g_getr ok dX5_openStep_37 fl_X5_107 (Vd.one rfl) rfl rfl ?_
    refine g_iload_n ok dX5_openStep_40 rfl rfl ?_
    refine g_zald2 σ ok dX5_openStep_41 (Vd.one rfl) (fun _ => rfl) ⟨by omega, by omega⟩ (by decide) rfl rfl (fun h6 h7 => ?_)
    refine g_if_eq (tgt := 49) ok dX5_openStep_42 (by decide) ⟨by omega, by omega⟩ (fun c8 => ?_) (fun c8 => ?_)
    · skip
      refine g_iconst (v := 0) ok dX5_openStep_49 (by decide +kernel) ?_
      refine g_aload_n ok dX5_openStep_50 rfl rfl ?_
      refine g_geti2 σ (z := 6) ok dX5_openStep_51 fl_X5_119 (Vd.four rfl (by omega) (by omega)) rfl rfl rfl rfl (fun h9 h10 => ?_)
      refine g_iload ok dX5_openStep_54 rfl ?_
      refine g_isub ok dX5_openStep_56 ?_
      refine g_max ok dX5_openStep_57 wd3_26 wd3_27 wd1_12 wd3_28 ⟨Nat.le_of_ble_eq_true rfl, Nat.le_of_ble_eq_true rfl⟩ ⟨by omega, by omega⟩ ⟨by omega, by omega⟩ ?_
      refine G.topI (v := mmC σ i z3) (by unfold mmC; first | (rw [if_pos (by assumption)]; done) | (rw [if_neg (by assumption)]; done)) ?_
      refine g_puti (z := 7) ok dX5_openStep_60 fw_X5_125 (Vd.one rfl) rfl rfl (Nat.le_of_ble_eq_true rfl) rfl ⟨by omega, by omega⟩ ?_
      refine g_aload_n ok dX5_openStep_63 rfl rfl ?_
      refine g_aload_n ok dX5_openStep_64 rfl rfl ?_
      refine g_geti2 σ (z := 4) ok dX5_openStep_65 fl_X5_128 (Vd.four rfl (by omega) (by omega)) rfl rfl rfl rfl (fun h11 h12 => ?_)
      refine g_iload ok dX5_openStep_68 rfl ?_
      refine g_iadd ok dX5_openStep_70 ?_
      refine g_puti (z := 8) ok dX5_openStep_71 fw_X5_131 (Vd.one rfl) rfl rfl (Nat.le_of_ble_eq_true rfl) rfl ⟨by omega, by omega⟩ ?_
      refine g_aload_n ok dX5_openStep_74 rfl rfl ?_
      refine g_aload_n ok dX5_openStep_75 rfl rfl ?_
      refine g_geti2 σ (z := 5) ok dX5_openStep_76 fl_X5_134 (Vd.four rfl (by omega) (by omega)) rfl rfl rfl rfl (fun h13 h14 => ?_)
      refine g_iload ok dX5_openStep_79 rfl ?_
      refine g_isub ok dX5_openStep_81 ?_
      refine g_puti (z := 9) ok dX5_openStep_82 fw_X5_137 (Vd.one rfl) rfl rfl (Nat.le_of_ble_eq_true rfl) rfl ⟨by omega, by omega⟩ ?_
      refine g_aload_n ok dX5_openStep_85 rfl rfl ?_
      refine g_geti3 (lmC σ i z3) (z := 6) ok dX5_openStep_86 fl_X5_116 (Vd.one rfl) rfl rfl rfl (by rfl) (fun h15 h16 => ?_)
      refine g_istore ok dX5_openStep_89 (Nat.le_of_ble_eq_true rfl) ?_
      have L91 : ∀ (n : Nat) (d : Int) (s : Mm), (lmC σ i z3 ≤ d) → (d ≤ mmC σ i z3 + 1) → (Ag s σ) → (s 11 = σ 11) → (s 13 = σ 13) → (s 14 = σ 14) → (s 50 = σ 50) → (s 10 0 1 = bcF z2) → (s 10 0 6 = lmC σ i z3) → (s 10 0 7 = mmC σ i z3) → (s 10 0 8 = σ 8 i 4 + kbC σ z3) → (s 10 0 9 = σ 8 i 5 - kbC σ z3) → (∀ x, lmC σ i z3 ≤ x → x < d → s 12 0 (x + 40) = gnC σ i z2 z3 x) → (mmC σ i z3 + 1 - d < n) → G X M cX5_openStep 6 s 91 [(0, .inr (.inr (10, 0))), (1, .inr (.inr (1, 0))), (2, .inr (.inr (8, i))), (3, .inl z3), (5, .inl d)] [] := by
        intro n
        induction n with
        | zero => intro d s hd0 hd1 hA h11 h13 h14 k50 hO1 hO6 hO7 hO8 hO9 hg hm; exact absurd hm (by omega)
        | succ n L91ih =>
          intro d s hd0 hd1 hA h11 h13 h14 k50 hO1 hO6 hO7 hO8 hO9 hg hm
          have hS2 : CS s := agP (F := CS) (fun _ => rfl) hA hS
          have hK2 : CK s := agP (F := CK) (fun _ => rfl) hA hK
          have hP2 : CP s := agP (F := CP) (fun _ => rfl) hA hP
          refine g_iload ok dX5_openStep_91 rfl ?_
          refine g_aload_n ok dX5_openStep_93 rfl rfl ?_
          refine g_geti3 (mmC σ i z3) (z := 7) ok dX5_openStep_94 fl_X5_125 (Vd.one rfl) rfl rfl rfl (by exact hO7) (fun h17 h18 => ?_)
          refine g_icmp_gt (tgt := 149) ok dX5_openStep_97 (by decide) ⟨by omega, by omega⟩ ⟨by omega, by omega⟩ (fun c19 => ?_) (fun c19 => ?_)
          · skip
            exact g_vret ok hq dX5_openStep_149 (by exact ⟨rfl, hA, h11, h13, h14, ⟨hO6, hO7, hO8, hO9, fun x h0 h1 => hg x h0 (by omega)⟩, k50, hO1.trans hQS.1.symm⟩)
          · skip
            refine g_aload_n ok dX5_openStep_100 rfl rfl ?_
            refine g_getr ok dX5_openStep_101 fl_X5_18 (Vd.one rfl) rfl rfl ?_
            refine g_iload ok dX5_openStep_104 rfl ?_
            refine g_bipush (v := 40) ok dX5_openStep_106 (by decide +kernel) ?_
            refine g_iadd ok dX5_openStep_108 ?_
            refine g_aload_n ok dX5_openStep_109 rfl rfl ?_
            refine g_aload_n ok dX5_openStep_110 rfl rfl ?_
            refine g_iload_n ok dX5_openStep_111 rfl rfl ?_
            refine g_iload ok dX5_openStep_112 rfl ?_
            refine g_cV ok dX5_openStep_114 mv_X5_140 (c_X3_allowsMove X _ _ _ _ _ (by omega) (by omega) (by omega) (by omega) ⟨by omega, by omega⟩ hS2 hK2) rfl (Vd.one rfl) rfl rfl (by decide) rfl (Nat.le_of_ble_eq_true rfl) ?_
            rw [bI_iff (iff_of_eq (ag (F := fun s => amC s i z3 d) (fun _ => rfl) hA))]
            refine g_ifb_eq (tgt := 139) ok dX5_openStep_117 (by decide) (fun c20 => ?_) (fun c20 => ?_)
            · skip
              refine g_ldc2 (v := -9000000000000000005) ok dX5_openStep_139 wd3_17 (by decide +kernel) ?_
              refine G.topL (v := gnC σ i z2 z3 d) (by unfold gnC; first | (rw [if_pos (by assumption)]; done) | (rw [if_neg (by assumption)]; rfl)) ?_
              have aG := gnC_b hS hP (i := i) (ws := z2) (t := z3) (d := d) hw (by omega)
              refine g_last ok dX5_openStep_142 (Vd.one rfl) (fun _ => rfl) ⟨by omega, by omega⟩ (by decide) rfl ⟨by omega, by omega⟩ ?_
              refine g_iinc ok dX5_openStep_143 rfl rfl (Nat.le_of_ble_eq_true rfl) ?_
              refine g_goto (tgt := 91) ok dX5_openStep_146 (by decide) ?_
              refine G.norm [(0, .inr (.inr (10, 0))), (1, .inr (.inr (1, 0))), (2, .inr (.inr (8, i))), (3, .inl z3), (5, .inl _)] ⟨rfl, rfl, rfl, rfl, rfl, trivial⟩ (L91ih _ _ ?_ ?_ ?_ ?_ ?_ ?_ ?_ ?_ ?_ ?_ ?_ ?_ ?_ ?_)
              · omega
              · omega
              · exact Ag_up (Or.inl (by decide)) hA
              · (rw [up_s (by decide)]; exact h11)
              · (rw [up_s (by decide)]; exact h13)
              · (rw [up_s (by decide)]; exact h14)
              · (rw [up_s (by decide)]; exact k50)
              · exact hO1
              · exact hO6
              · exact hO7
              · exact hO8
              · exact hO9
              · exact gn_up hg rfl
              · omega
            · skip
              refine g_aload_n ok dX5_openStep_120 rfl rfl ?_
              refine g_iload ok dX5_openStep_121 rfl ?_
              refine g_aload_n ok dX5_openStep_123 rfl rfl ?_
              refine g_getr ok dX5_openStep_124 fl_X5_9 (Vd.one rfl) rfl rfl ?_
              refine g_iload_n ok dX5_openStep_127 rfl rfl ?_
              refine g_lald ok dX5_openStep_128 (Vd.one rfl) (fun _ => rfl) ⟨by omega, by omega⟩ (by decide) rfl (fun h21 h22 => ?_)
              refine G.topL (v := spC σ z2 z3) ((congrFun (congrFun k50 0) z3).trans (hQS.2 z3 (by omega) (by omega))) ?_
              refine g_aload_n ok dX5_openStep_129 rfl rfl ?_
              refine g_geti3 (bcF z2) (z := 1) ok dX5_openStep_130 fl_X5_33 (Vd.one rfl) rfl rfl rfl (by exact hO1) (fun h23 h24 => ?_)
              refine g_cV ok dX5_openStep_133 mv_X5_144 (c_X0_moneyTogether X _ _ _ _ _ _ (by omega) (by omega) (by omega) (by omega) (by omega) (by omega) hS2) rfl (Vd.four rfl (by omega) (by omega)) rfl rfl (by decide) rfl (Nat.le_of_ble_eq_true rfl) ?_
              rw [show s 8 = σ 8 from congrFun hA 8]
              refine g_goto (tgt := 142) ok dX5_openStep_136 (by decide) ?_
              refine G.topL (v := gnC σ i z2 z3 d) (by unfold gnC; first | (rw [if_pos (by assumption)]; done) | (rw [if_neg (by assumption)]; rfl)) ?_
              have aG := gnC_b hS hP (i := i) (ws := z2) (t := z3) (d := d) hw (by omega)
              refine g_last ok dX5_openStep_142 (Vd.one rfl) (fun _ => rfl) ⟨by omega, by omega⟩ (by decide) rfl ⟨by omega, by omega⟩ ?_
              refine g_iinc ok dX5_openStep_143 rfl rfl (Nat.le_of_ble_eq_true rfl) ?_
              refine g_goto (tgt := 91) ok dX5_openStep_146 (by decide) ?_
              refine G.norm [(0, .inr (.inr (10, 0))), (1, .inr (.inr (1, 0))), (2, .inr (.inr (8, i))), (3, .inl z3), (5, .inl _)] ⟨rfl, rfl, rfl, rfl, rfl, trivial⟩ (L91ih _ _ ?_ ?_ ?_ ?_ ?_ ?_ ?_ ?_ ?_ ?_ ?_ ?_ ?_ ?_)
              · omega
              · omega
              · exact Ag_up (Or.inl (by decide)) hA
              · (rw [up_s (by decide)]; exact h11)
              · (rw [up_s (by decide)]; exact h13)
              · (rw [up_s (by decide)]; exact h14)
              · (rw [up_s (by decide)]; exact k50)
              · exact hO1
              · exact hO6
              · exact hO7
              · exact hO8
              · exact hO9
              · exact gn_up hg rfl
              · omega
      refine G.norm [(0, .inr (.inr (10, 0))), (1, .inr (.inr (1, 0))), (2, .inr (.inr (8, i))), (3, .inl z3), (5, .inl _)] ⟨rfl, rfl, rfl, rfl, rfl, trivial⟩ (L91 (82 : Nat) _ _ ?_ ?_ ?_ ?_ ?_ ?_ ?_ ?_ ?_ ?_ ?_ ?_ ?_ ?_)
      · omega
      · omega
      · exact Ag_up (Or.inl (by decide)) (Ag_up (Or.inl (by decide)) (Ag_up (Or.inl (by decide)) (Ag_up (Or.inl (by decide)) (Ag.rf σ))))
      · rfl
      · rfl
      · rfl
      · rfl
      · exact hQS.1
      · rfl
      · rfl
      · rfl
      · rfl
      · exact fun x h0 h1 => absurd h1 (by omega)
      · omega
    · skip
      refine g_iconst (v := 0) ok dX5_openStep_45 (by decide +kernel) ?_
      refine g_goto (tgt := 60) ok dX5_openStep_46 (by decide) ?_
      refine G.topI (v := mmC σ i z3) (by unfold mmC; first | (rw [if_pos (by assumption)]; done) | (rw [if_neg (by assumption)]; done)) ?_
      refine g_puti (z := 7) ok dX5_openStep_60 fw_X5_125 (Vd.one rfl) rfl rfl (Nat.le_of_ble_eq_true rfl) rfl ⟨by omega, by omega⟩ ?_
      refine g_aload_n ok dX5_openStep_63 rfl rfl ?_
      refine g_aload_n ok dX5_openStep_64 rfl rfl ?_
      refine g_geti2 σ (z := 4) ok dX5_openStep_65 fl_X5_128 (Vd.four rfl (by omega) (by omega)) rfl rfl rfl rfl (fun h25 h26 => ?_)
      refine g_iload ok dX5_openStep_68 rfl ?_
      refine g_iadd ok dX5_openStep_70 ?_
      refine g_puti (z := 8) ok dX5_openStep_71 fw_X5_131 (Vd.one rfl) rfl rfl (Nat.le_of_ble_eq_true rfl) rfl ⟨by omega, by omega⟩ ?_
      refine g_aload_n ok dX5_openStep_74 rfl rfl ?_
      refine g_aload_n ok dX5_openStep_75 rfl rfl ?_
      refine g_geti2 σ (z := 5) ok dX5_openStep_76 fl_X5_134 (Vd.four rfl (by omega) (by omega)) rfl rfl rfl rfl (fun h27 h28 => ?_)
      refine g_iload ok dX5_openStep_79 rfl ?_
      refine g_isub ok dX5_openStep_81 ?_
      refine g_puti (z := 9) ok dX5_openStep_82 fw_X5_137 (Vd.one rfl) rfl rfl (Nat.le_of_ble_eq_true rfl) rfl ⟨by omega, by omega⟩ ?_
      refine g_aload_n ok dX5_openStep_85 rfl rfl ?_
      refine g_geti3 (lmC σ i z3) (z := 6) ok dX5_openStep_86 fl_X5_116 (Vd.one rfl) rfl rfl rfl (by rfl) (fun h29 h30 => ?_)
      refine g_istore ok dX5_openStep_89 (Nat.le_of_ble_eq_true rfl) ?_
      have L91 : ∀ (n : Nat) (d : Int) (s : Mm), (lmC σ i z3 ≤ d) → (d ≤ mmC σ i z3 + 1) → (Ag s σ) → (s 11 = σ 11) → (s 13 = σ 13) → (s 14 = σ 14) → (s 50 = σ 50) → (s 10 0 1 = bcF z2) → (s 10 0 6 = lmC σ i z3) → (s 10 0 7 = mmC σ i z3) → (s 10 0 8 = σ 8 i 4 + kbC σ z3) → (s 10 0 9 = σ 8 i 5 - kbC σ z3) → (∀ x, lmC σ i z3 ≤ x → x < d → s 12 0 (x + 40) = gnC σ i z2 z3 x) → (mmC σ i z3 + 1 - d < n) → G X M cX5_openStep 6 s 91 [(0, .inr (.inr (10, 0))), (1, .inr (.inr (1, 0))), (2, .inr (.inr (8, i))), (3, .inl z3), (5, .inl d)] [] := by
        intro n
        induction n with
        | zero => intro d s hd0 hd1 hA h11 h13 h14 k50 hO1 hO6 hO7 hO8 hO9 hg hm; exact absurd hm (by omega)
        | succ n L91ih =>
          intro d s hd0 hd1 hA h11 h13 h14 k50 hO1 hO6 hO7 hO8 hO9 hg hm
          have hS2 : CS s := agP (F := CS) (fun _ => rfl) hA hS
          have hK2 : CK s := agP (F := CK) (fun _ => rfl) hA hK
          have hP2 : CP s := agP (F := CP) (fun _ => rfl) hA hP
          refine g_iload ok dX5_openStep_91 rfl ?_
          refine g_aload_n ok dX5_openStep_93 rfl rfl ?_
          refine g_geti3 (mmC σ i z3) (z := 7) ok dX5_openStep_94 fl_X5_125 (Vd.one rfl) rfl rfl rfl (by exact hO7) (fun h31 h32 => ?_)
          refine g_icmp_gt (tgt := 149) ok dX5_openStep_97 (by decide) ⟨by omega, by omega⟩ ⟨by omega, by omega⟩ (fun c33 => ?_) (fun c33 => ?_)
          · skip
            exact g_vret ok hq dX5_openStep_149 (by exact ⟨rfl, hA, h11, h13, h14, ⟨hO6, hO7, hO8, hO9, fun x h0 h1 => hg x h0 (by omega)⟩, k50, hO1.trans hQS.1.symm⟩)
          · skip
            refine g_aload_n ok dX5_openStep_100 rfl rfl ?_
            refine g_getr ok dX5_openStep_101 fl_X5_18 (Vd.one rfl) rfl rfl ?_
            refine g_iload ok dX5_openStep_104 rfl ?_
            refine g_bipush (v := 40) ok dX5_openStep_106 (by decide +kernel) ?_
            refine g_iadd ok dX5_openStep_108 ?_
            refine g_aload_n ok dX5_openStep_109 rfl rfl ?_
            refine g_aload_n ok dX5_openStep_110 rfl rfl ?_
            refine g_iload_n ok dX5_openStep_111 rfl rfl ?_
            refine g_iload ok dX5_openStep_112 rfl ?_
            refine g_cV ok dX5_openStep_114 mv_X5_140 (c_X3_allowsMove X _ _ _ _ _ (by omega) (by omega) (by omega) (by omega) ⟨by omega, by omega⟩ hS2 hK2) rfl (Vd.one rfl) rfl rfl (by decide) rfl (Nat.le_of_ble_eq_true rfl) ?_
            rw [bI_iff (iff_of_eq (ag (F := fun s => amC s i z3 d) (fun _ => rfl) hA))]
            refine g_ifb_eq (tgt := 139) ok dX5_openStep_117 (by decide) (fun c34 => ?_) (fun c34 => ?_)
            · skip
              refine g_ldc2 (v := -9000000000000000005) ok dX5_openStep_139 wd3_17 (by decide +kernel) ?_
              refine G.topL (v := gnC σ i z2 z3 d) (by unfold gnC; first | (rw [if_pos (by assumption)]; done) | (rw [if_neg (by assumption)]; rfl)) ?_
              have aG := gnC_b hS hP (i := i) (ws := z2) (t := z3) (d := d) hw (by omega)
              refine g_last ok dX5_openStep_142 (Vd.one rfl) (fun _ => rfl) ⟨by omega, by omega⟩ (by decide) rfl ⟨by omega, by omega⟩ ?_
              refine g_iinc ok dX5_openStep_143 rfl rfl (Nat.le_of_ble_eq_true rfl) ?_
              refine g_goto (tgt := 91) ok dX5_openStep_146 (by decide) ?_
              refine G.norm [(0, .inr (.inr (10, 0))), (1, .inr (.inr (1, 0))), (2, .inr (.inr (8, i))), (3, .inl z3), (5, .inl _)] ⟨rfl, rfl, rfl, rfl, rfl, trivial⟩ (L91ih _ _ ?_ ?_ ?_ ?_ ?_ ?_ ?_ ?_ ?_ ?_ ?_ ?_ ?_ ?_)
              · omega
              · omega
              · exact Ag_up (Or.inl (by decide)) hA
              · (rw [up_s (by decide)]; exact h11)
              · (rw [up_s (by decide)]; exact h13)
              · (rw [up_s (by decide)]; exact h14)
              · (rw [up_s (by decide)]; exact k50)
              · exact hO1
              · exact hO6
              · exact hO7
              · exact hO8
              · exact hO9
              · exact gn_up hg rfl
              · omega
            · skip
              refine g_aload_n ok dX5_openStep_120 rfl rfl ?_
              refine g_iload ok dX5_openStep_121 rfl ?_
              refine g_aload_n ok dX5_openStep_123 rfl rfl ?_
              refine g_getr ok dX5_openStep_124 fl_X5_9 (Vd.one rfl) rfl rfl ?_
              refine g_iload_n ok dX5_openStep_127 rfl rfl ?_
              refine g_lald ok dX5_openStep_128 (Vd.one rfl) (fun _ => rfl) ⟨by omega, by omega⟩ (by decide) rfl (fun h35 h36 => ?_)
              refine G.topL (v := spC σ z2 z3) ((congrFun (congrFun k50 0) z3).trans (hQS.2 z3 (by omega) (by omega))) ?_
              refine g_aload_n ok dX5_openStep_129 rfl rfl ?_
              refine g_geti3 (bcF z2) (z := 1) ok dX5_openStep_130 fl_X5_33 (Vd.one rfl) rfl rfl rfl (by exact hO1) (fun h37 h38 => ?_)
              refine g_cV ok dX5_openStep_133 mv_X5_144 (c_X0_moneyTogether X _ _ _ _ _ _ (by omega) (by omega) (by omega) (by omega) (by omega) (by omega) hS2) rfl (Vd.four rfl (by omega) (by omega)) rfl rfl (by decide) rfl (Nat.le_of_ble_eq_true rfl) ?_
              rw [show s 8 = σ 8 from congrFun hA 8]
              refine g_goto (tgt := 142) ok dX5_openStep_136 (by decide) ?_
              refine G.topL (v := gnC σ i z2 z3 d) (by unfold gnC; first | (rw [if_pos (by assumption)]; done) | (rw [if_neg (by assumption)]; rfl)) ?_
              have aG := gnC_b hS hP (i := i) (ws := z2) (t := z3) (d := d) hw (by omega)
              refine g_last ok dX5_openStep_142 (Vd.one rfl) (fun _ => rfl) ⟨by omega, by omega⟩ (by decide) rfl ⟨by omega, by omega⟩ ?_
              refine g_iinc ok dX5_openStep_143 rfl rfl (Nat.le_of_ble_eq_true rfl) ?_
              refine g_goto (tgt := 91) ok dX5_openStep_146 (by decide) ?_
              refine G.norm [(0, .inr (.inr (10, 0))), (1, .inr (.inr (1, 0))), (2, .inr (.inr (8, i))), (3, .inl z3), (5, .inl _)] ⟨rfl, rfl, rfl, rfl, rfl, trivial⟩ (L91ih _ _ ?_ ?_ ?_ ?_ ?_ ?_ ?_ ?_ ?_ ?_ ?_ ?_ ?_ ?_)
              · omega
              · omega
              · exact Ag_up (Or.inl (by decide)) hA
              · (rw [up_s (by decide)]; exact h11)
              · (rw [up_s (by decide)]; exact h13)
              · (rw [up_s (by decide)]; exact h14)
              · (rw [up_s (by decide)]; exact k50)
              · exact hO1
              · exact hO6
              · exact hO7
              · exact hO8
              · exact hO9
              · exact gn_up hg rfl
              · omega
      refine G.norm [(0, .inr (.inr (10, 0))), (1, .inr (.inr (1, 0))), (2, .inr (.inr (8, i))), (3, .inl z3), (5, .inl _)] ⟨rfl, rfl, rfl, rfl, rfl, trivial⟩ (L91 (82 : Nat) _ _ ?_ ?_ ?_ ?_ ?_ ?_ ?_ ?_ ?_ ?_ ?_ ?_ ?_ ?_)
      · omega
      · omega
      · exact Ag_up (Or.inl (by decide)) (Ag_up (Or.inl (by decide)) (Ag_up (Or.inl (by decide)) (Ag_up (Or.inl (by decide)) (Ag.rf σ))))
      · rfl
      · rfl
      · rfl
      · rfl
      · exact hQS.1
      · rfl
      · rfl
      · rfl
      · rfl
      · exact fun x h0 h1 => absurd h1 (by omega)
      · omega
  · skip
    refine g_iconst (v := 0) ok dX5_openStep_17 (by decide +kernel) ?_
    refine g_goto (tgt := 32) ok dX5_openStep_18 (by decide) ?_
    refine G.topI (v := lmC σ i z3) (by unfold lmC; first | (rw [if_pos (by assumption)]; done) | (rw [if_neg (by assumption)]; done)) ?_
    refine g_puti (z := 6) ok dX5_openStep_32 fw_X5_116 (Vd.one rfl) rfl rfl (Nat.le_of_ble_eq_true rfl) rfl ⟨by omega, by omega⟩ ?_
    refine g_aload_n ok dX5_openStep_35 rfl rfl ?_
    refine g_aload_n ok dX5_openStep_36 rfl rfl ?_
    refine g_getr ok dX5_openStep_37 fl_X5_107 (Vd.one rfl) rfl rfl ?_
    refine g_iload_n ok dX5_openStep_40 rfl rfl ?_
    refine g_zald2 σ ok dX5_openStep_41 (Vd.one rfl) (fun _ => rfl) ⟨by omega, by omega⟩ (by decide) rfl rfl (fun h39 h40 => ?_)
    refine g_if_eq (tgt := 49) ok dX5_openStep_42 (by decide) ⟨by omega, by omega⟩ (fun c41 => ?_) (fun c41 => ?_)
    · skip
      refine g_iconst (v := 0) ok dX5_openStep_49 (by decide +kernel) ?_
      refine g_aload_n ok dX5_openStep_50 rfl rfl ?_
      refine g_geti2 σ (z := 6) ok dX5_openStep_51 fl_X5_119 (Vd.four rfl (by omega) (by omega)) rfl rfl rfl rfl (fun h42 h43 => ?_)
      refine g_iload ok dX5_openStep_54 rfl ?_
      refine g_isub ok dX5_openStep_56 ?_
      refine g_max ok dX5_openStep_57 wd3_26 wd3_27 wd1_12 wd3_28 ⟨Nat.le_of_ble_eq_true rfl, Nat.le_of_ble_eq_true rfl⟩ ⟨by omega, by omega⟩ ⟨by omega, by omega⟩ ?_
      refine G.topI (v := mmC σ i z3) (by unfold mmC; first | (rw [if_pos (by assumption)]; done) | (rw [if_neg (by assumption)]; done)) ?_
      refine g_puti (z := 7) ok dX5_openStep_60 fw_X5_125 (Vd.one rfl) rfl rfl (Nat.le_of_ble_eq_true rfl) rfl ⟨by omega, by omega⟩ ?_
      refine g_aload_n ok dX5_openStep_63 rfl rfl ?_
      refine g_aload_n ok dX5_openStep_64 rfl rfl ?_
      refine g_geti2 σ (z := 4) ok dX5_openStep_65 fl_X5_128 (Vd.four rfl (by omega) (by omega)) rfl rfl rfl rfl (fun h44 h45 => ?_)
      refine g_iload ok dX5_openStep_68 rfl ?_
      refine g_iadd ok dX5_openStep_70 ?_
      refine g_puti (z := 8) ok dX5_openStep_71 fw_X5_131 (Vd.one rfl) rfl rfl (Nat.le_of_ble_eq_true rfl) rfl ⟨by omega, by omega⟩ ?_
      refine g_aload_n ok dX5_openStep_74 rfl rfl ?_
      refine g_aload_n ok dX5_openStep_75 rfl rfl ?_
      refine g_geti2 σ (z := 5) ok dX5_openStep_76 fl_X5_134 (Vd.four rfl (by omega) (by omega)) rfl rfl rfl rfl (fun h46 h47 => ?_)
      refine g_iload ok dX5_openStep_79 rfl ?_
      refine g_isub ok dX5_openStep_81 ?_
      refine g_puti (z := 9) ok dX5_openStep_82 fw_X5_137 (Vd.one rfl) rfl rfl (Nat.le_of_ble_eq_true rfl) rfl ⟨by omega, by omega⟩ ?_
      refine g_aload_n ok dX5_openStep_85 rfl rfl ?_
      refine g_geti3 (lmC σ i z3) (z := 6) ok dX5_openStep_86 fl_X5_116 (Vd.one rfl) rfl rfl rfl (by rfl) (fun h48 h49 => ?_)
      refine g_istore ok dX5_openStep_89 (Nat.le_of_ble_eq_true rfl) ?_
      have L91 : ∀ (n : Nat) (d : Int) (s : Mm), (lmC σ i z3 ≤ d) → (d ≤ mmC σ i z3 + 1) → (Ag s σ) → (s 11 = σ 11) → (s 13 = σ 13) → (s 14 = σ 14) → (s 50 = σ 50) → (s 10 0 1 = bcF z2) → (s 10 0 6 = lmC σ i z3) → (s 10 0 7 = mmC σ i z3) → (s 10 0 8 = σ 8 i 4 + kbC σ z3) → (s 10 0 9 = σ 8 i 5 - kbC σ z3) → (∀ x, lmC σ i z3 ≤ x → x < d → s 12 0 (x + 40) = gnC σ i z2 z3 x) → (mmC σ i z3 + 1 - d < n) → G X M cX5_openStep 6 s 91 [(0, .inr (.inr (10, 0))), (1, .inr (.inr (1, 0))), (2, .inr (.inr (8, i))), (3, .inl z3), (5, .inl d)] [] := by
        intro n
        induction n with
        | zero => intro d s hd0 hd1 hA h11 h13 h14 k50 hO1 hO6 hO7 hO8 hO9 hg hm; exact absurd hm (by omega)
        | succ n L91ih =>
          intro d s hd0 hd1 hA h11 h13 h14 k50 hO1 hO6 hO7 hO8 hO9 hg hm
          have hS2 : CS s := agP (F := CS) (fun _ => rfl) hA hS
          have hK2 : CK s := agP (F := CK) (fun _ => rfl) hA hK
          have hP2 : CP s := agP (F := CP) (fun _ => rfl) hA hP
          refine g_iload ok dX5_openStep_91 rfl ?_
          refine g_aload_n ok dX5_openStep_93 rfl rfl ?_
          refine g_geti3 (mmC σ i z3) (z := 7) ok dX5_openStep_94 fl_X5_125 (Vd.one rfl) rfl rfl rfl (by exact hO7) (fun h50 h51 => ?_)
          refine g_icmp_gt (tgt := 149) ok dX5_openStep_97 (by decide) ⟨by omega, by omega⟩ ⟨by omega, by omega⟩ (fun c52 => ?_) (fun c52 => ?_)
          · skip
            exact g_vret ok hq dX5_openStep_149 (by exact ⟨rfl, hA, h11, h13, h14, ⟨hO6, hO7, hO8, hO9, fun x h0 h1 => hg x h0 (by omega)⟩, k50, hO1.trans hQS.1.symm⟩)
          · skip
            refine g_aload_n ok dX5_openStep_100 rfl rfl ?_
            refine g_getr ok dX5_openStep_101 fl_X5_18 (Vd.one rfl) rfl rfl ?_
            refine g_iload ok dX5_openStep_104 rfl ?_
            refine g_bipush (v := 40) ok dX5_openStep_106 (by decide +kernel) ?_
            refine g_iadd ok dX5_openStep_108 ?_
            refine g_aload_n ok dX5_openStep_109 rfl rfl ?_
            refine g_aload_n ok dX5_openStep_110 rfl rfl ?_
            refine g_iload_n ok dX5_openStep_111 rfl rfl ?_
            refine g_iload ok dX5_openStep_112 rfl ?_
            refine g_cV ok dX5_openStep_114 mv_X5_140 (c_X3_allowsMove X _ _ _ _ _ (by omega) (by omega) (by omega) (by omega) ⟨by omega, by omega⟩ hS2 hK2) rfl (Vd.one rfl) rfl rfl (by decide) rfl (Nat.le_of_ble_eq_true rfl) ?_
            rw [bI_iff (iff_of_eq (ag (F := fun s => amC s i z3 d) (fun _ => rfl) hA))]
            refine g_ifb_eq (tgt := 139) ok dX5_openStep_117 (by decide) (fun c53 => ?_) (fun c53 => ?_)
            · skip
              refine g_ldc2 (v := -9000000000000000005) ok dX5_openStep_139 wd3_17 (by decide +kernel) ?_
              refine G.topL (v := gnC σ i z2 z3 d) (by unfold gnC; first | (rw [if_pos (by assumption)]; done) | (rw [if_neg (by assumption)]; rfl)) ?_
              have aG := gnC_b hS hP (i := i) (ws := z2) (t := z3) (d := d) hw (by omega)
              refine g_last ok dX5_openStep_142 (Vd.one rfl) (fun _ => rfl) ⟨by omega, by omega⟩ (by decide) rfl ⟨by omega, by omega⟩ ?_
              refine g_iinc ok dX5_openStep_143 rfl rfl (Nat.le_of_ble_eq_true rfl) ?_
              refine g_goto (tgt := 91) ok dX5_openStep_146 (by decide) ?_
              refine G.norm [(0, .inr (.inr (10, 0))), (1, .inr (.inr (1, 0))), (2, .inr (.inr (8, i))), (3, .inl z3), (5, .inl _)] ⟨rfl, rfl, rfl, rfl, rfl, trivial⟩ (L91ih _ _ ?_ ?_ ?_ ?_ ?_ ?_ ?_ ?_ ?_ ?_ ?_ ?_ ?_ ?_)
              · omega
              · omega
              · exact Ag_up (Or.inl (by decide)) hA
              · (rw [up_s (by decide)]; exact h11)
              · (rw [up_s (by decide)]; exact h13)
              · (rw [up_s (by decide)]; exact h14)
              · (rw [up_s (by decide)]; exact k50)
              · exact hO1
              · exact hO6
              · exact hO7
              · exact hO8
              · exact hO9
              · exact gn_up hg rfl
              · omega
            · skip
              refine g_aload_n ok dX5_openStep_120 rfl rfl ?_
              refine g_iload ok dX5_openStep_121 rfl ?_
              refine g_aload_n ok dX5_openStep_123 rfl rfl ?_
              refine g_getr ok dX5_openStep_124 fl_X5_9 (Vd.one rfl) rfl rfl ?_
              refine g_iload_n ok dX5_openStep_127 rfl rfl ?_
              refine g_lald ok dX5_openStep_128 (Vd.one rfl) (fun _ => rfl) ⟨by omega, by omega⟩ (by decide) rfl (fun h54 h55 => ?_)
              refine G.topL (v := spC σ z2 z3) ((congrFun (congrFun k50 0) z3).trans (hQS.2 z3 (by omega) (by omega))) ?_
              refine g_aload_n ok dX5_openStep_129 rfl rfl ?_
              refine g_geti3 (bcF z2) (z := 1) ok dX5_openStep_130 fl_X5_33 (Vd.one rfl) rfl rfl rfl (by exact hO1) (fun h56 h57 => ?_)
              refine g_cV ok dX5_openStep_133 mv_X5_144 (c_X0_moneyTogether X _ _ _ _ _ _ (by omega) (by omega) (by omega) (by omega) (by omega) (by omega) hS2) rfl (Vd.four rfl (by omega) (by omega)) rfl rfl (by decide) rfl (Nat.le_of_ble_eq_true rfl) ?_
              rw [show s 8 = σ 8 from congrFun hA 8]
              refine g_goto (tgt := 142) ok dX5_openStep_136 (by decide) ?_
              refine G.topL (v := gnC σ i z2 z3 d) (by unfold gnC; first | (rw [if_pos (by assumption)]; done) | (rw [if_neg (by assumption)]; rfl)) ?_
              have aG := gnC_b hS hP (i := i) (ws := z2) (t := z3) (d := d) hw (by omega)
              refine g_last ok dX5_openStep_142 (Vd.one rfl) (fun _ => rfl) ⟨by omega, by omega⟩ (by decide) rfl ⟨by omega, by omega⟩ ?_
              refine g_iinc ok dX5_openStep_143 rfl rfl (Nat.le_of_ble_eq_true rfl) ?_
              refine g_goto (tgt := 91) ok dX5_openStep_146 (by decide) ?_
              refine G.norm [(0, .inr (.inr (10, 0))), (1, .inr (.inr (1, 0))), (2, .inr (.inr (8, i))), (3, .inl z3), (5, .inl _)] ⟨rfl, rfl, rfl, rfl, rfl, trivial⟩ (L91ih _ _ ?_ ?_ ?_ ?_ ?_ ?_ ?_ ?_ ?_ ?_ ?_ ?_ ?_ ?_)
              · omega
              · omega
              · exact Ag_up (Or.inl (by decide)) hA
              · (rw [up_s (by decide)]; exact h11)
              · (rw [up_s (by decide)]; exact h13)
              · (rw [up_s (by decide)]; exact h14)
              · (rw [up_s (by decide)]; exact k50)
              · exact hO1
              · exact hO6
              · exact hO7
              · exact hO8
              · exact hO9
              · exact gn_up hg rfl
              · omega
      refine G.norm [(0, .inr (.inr (10, 0))), (1, .inr (.inr (1, 0))), (2, .inr (.inr (8, i))), (3, .inl z3), (5, .inl _)] ⟨rfl, rfl, rfl, rfl, rfl, trivial⟩ (L91 (82 : Nat) _ _ ?_ ?_ ?_ ?_ ?_ ?_ ?_ ?_ ?_ ?_ ?_ ?_ ?_ ?_)
      · omega
      · omega
      · exact Ag_up (Or.inl (by decide)) (Ag_up (Or.inl (by decide)) (Ag_up (Or.inl (by decide)) (Ag_up (Or.inl (by decide)) (Ag.rf σ))))
      · rfl
      · rfl
      · rfl
      · rfl
      · exact hQS.1
      · rfl
      · rfl
      · rfl
      · rfl
      · exact fun x h0 h1 => absurd h1 (by omega)
      · omega
    · skip
      refine g_iconst (v := 0) ok dX5_openStep_45 (by decide +kernel) ?_
      refine g_goto (tgt := 60) ok dX5_openStep_46 (by decide) ?_
      refine G.topI (v := mmC σ i z3) (by unfold mmC; first | (rw [if_pos (by assumption)]; done) | (rw [if_neg (by assumption)]; done)) ?_
      refine g_puti (z := 7) ok dX5_openStep_60 fw_X5_125 (Vd.one rfl) rfl rfl (Nat.le_of_ble_eq_true rfl) rfl ⟨by omega, by omega⟩ ?_
      refine g_aload_n ok dX5_openStep_63 rfl rfl ?_
      refine g_aload_n ok dX5_openStep_64 rfl rfl ?_
      refine g_geti2 σ (z := 4) ok dX5_openStep_65 fl_X5_128 (Vd.four rfl (by omega) (by omega)) rfl rfl rfl rfl (fun h58 h59 => ?_)
      refine g_iload ok dX5_openStep_68 rfl ?_
      refine g_iadd ok dX5_openStep_70 ?_
      refine g_puti (z := 8) ok dX5_openStep_71 fw_X5_131 (Vd.one rfl) rfl rfl (Nat.le_of_ble_eq_true rfl) rfl ⟨by omega, by omega⟩ ?_
      refine g_aload_n ok dX5_openStep_74 rfl rfl ?_
      refine g_aload_n ok dX5_openStep_75 rfl rfl ?_
      refine g_geti2 σ (z := 5) ok dX5_openStep_76 fl_X5_134 (Vd.four rfl (by omega) (by omega)) rfl rfl rfl rfl (fun h60 h61 => ?_)
      refine g_iload ok dX5_openStep_79 rfl ?_
      refine g_isub ok dX5_openStep_81 ?_
      refine g_puti (z := 9) ok dX5_openStep_82 fw_X5_137 (Vd.one rfl) rfl rfl (Nat.le_of_ble_eq_true rfl) rfl ⟨by omega, by omega⟩ ?_
      refine g_aload_n ok dX5_openStep_85 rfl rfl ?_
      refine g_geti3 (lmC σ i z3) (z := 6) ok dX5_openStep_86 fl_X5_116 (Vd.one rfl) rfl rfl rfl (by rfl) (fun h62 h63 => ?_)
      refine g_istore ok dX5_openStep_89 (Nat.le_of_ble_eq_true rfl) ?_
      have L91 : ∀ (n : Nat) (d : Int) (s : Mm), (lmC σ i z3 ≤ d) → (d ≤ mmC σ i z3 + 1) → (Ag s σ) → (s 11 = σ 11) → (s 13 = σ 13) → (s 14 = σ 14) → (s 50 = σ 50) → (s 10 0 1 = bcF z2) → (s 10 0 6 = lmC σ i z3) → (s 10 0 7 = mmC σ i z3) → (s 10 0 8 = σ 8 i 4 + kbC σ z3) → (s 10 0 9 = σ 8 i 5 - kbC σ z3) → (∀ x, lmC σ i z3 ≤ x → x < d → s 12 0 (x + 40) = gnC σ i z2 z3 x) → (mmC σ i z3 + 1 - d < n) → G X M cX5_openStep 6 s 91 [(0, .inr (.inr (10, 0))), (1, .inr (.inr (1, 0))), (2, .inr (.inr (8, i))), (3, .inl z3), (5, .inl d)] [] := by
        intro n
        induction n with
        | zero => intro d s hd0 hd1 hA h11 h13 h14 k50 hO1 hO6 hO7 hO8 hO9 hg hm; exact absurd hm (by omega)
        | succ n L91ih =>
          intro d s hd0 hd1 hA h11 h13 h14 k50 hO1 hO6 hO7 hO8 hO9 hg hm
          have hS2 : CS s := agP (F := CS) (fun _ => rfl) hA hS
          have hK2 : CK s := agP (F := CK) (fun _ => rfl) hA hK
          have hP2 : CP s := agP (F := CP) (fun _ => rfl) hA hP
          refine g_iload ok dX5_openStep_91 rfl ?_
          refine g_aload_n ok dX5_openStep_93 rfl rfl ?_
          refine g_geti3 (mmC σ i z3) (z := 7) ok dX5_openStep_94 fl_X5_125 (Vd.one rfl) rfl rfl rfl (by exact hO7) (fun h64 h65 => ?_)
          refine g_icmp_gt (tgt := 149) ok dX5_openStep_97 (by decide) ⟨by omega, by omega⟩ ⟨by omega, by omega⟩ (fun c66 => ?_) (fun c66 => ?_)
          · skip
            exact g_vret ok hq dX5_openStep_149 (by exact ⟨rfl, hA, h11, h13, h14, ⟨hO6, hO7, hO8, hO9, fun x h0 h1 => hg x h0 (by omega)⟩, k50, hO1.trans hQS.1.symm⟩)
          · skip
            refine g_aload_n ok dX5_openStep_100 rfl rfl ?_
            refine g_getr ok dX5_openStep_101 fl_X5_18 (Vd.one rfl) rfl rfl ?_
            refine g_iload ok dX5_openStep_104 rfl ?_
            refine g_bipush (v := 40) ok dX5_openStep_106 (by decide +kernel) ?_
            refine g_iadd ok dX5_openStep_108 ?_
            refine g_aload_n ok dX5_openStep_109 rfl rfl ?_
            refine g_aload_n ok dX5_openStep_110 rfl rfl ?_
            refine g_iload_n ok dX5_openStep_111 rfl rfl ?_
            refine g_iload ok dX5_openStep_112 rfl ?_
            refine g_cV ok dX5_openStep_114 mv_X5_140 (c_X3_allowsMove X _ _ _ _ _ (by omega) (by omega) (by omega) (by omega) ⟨by omega, by omega⟩ hS2 hK2) rfl (Vd.one rfl) rfl rfl (by decide) rfl (Nat.le_of_ble_eq_true rfl) ?_
            rw [bI_iff (iff_of_eq (ag (F := fun s => amC s i z3 d) (fun _ => rfl) hA))]
            refine g_ifb_eq (tgt := 139) ok dX5_openStep_117 (by decide) (fun c67 => ?_) (fun c67 => ?_)
            · skip
              refine g_ldc2 (v := -9000000000000000005) ok dX5_openStep_139 wd3_17 (by decide +kernel) ?_
              refine G.topL (v := gnC σ i z2 z3 d) (by unfold gnC; first | (rw [if_pos (by assumption)]; done) | (rw [if_neg (by assumption)]; rfl)) ?_
              have aG := gnC_b hS hP (i := i) (ws := z2) (t := z3) (d := d) hw (by omega)
              refine g_last ok dX5_openStep_142 (Vd.one rfl) (fun _ => rfl) ⟨by omega, by omega⟩ (by decide) rfl ⟨by omega, by omega⟩ ?_
              refine g_iinc ok dX5_openStep_143 rfl rfl (Nat.le_of_ble_eq_true rfl) ?_
              refine g_goto (tgt := 91) ok dX5_openStep_146 (by decide) ?_
              refine G.norm [(0, .inr (.inr (10, 0))), (1, .inr (.inr (1, 0))), (2, .inr (.inr (8, i))), (3, .inl z3), (5, .inl _)] ⟨rfl, rfl, rfl, rfl, rfl, trivial⟩ (L91ih _ _ ?_ ?_ ?_ ?_ ?_ ?_ ?_ ?_ ?_ ?_ ?_ ?_ ?_ ?_)
              · omega
              · omega
              · exact Ag_up (Or.inl (by decide)) hA
              · (rw [up_s (by decide)]; exact h11)
              · (rw [up_s (by decide)]; exact h13)
              · (rw [up_s (by decide)]; exact h14)
              · (rw [up_s (by decide)]; exact k50)
              · exact hO1
              · exact hO6
              · exact hO7
              · exact hO8
              · exact hO9
              · exact gn_up hg rfl
              · omega
            · skip
              refine g_aload_n ok dX5_openStep_120 rfl rfl ?_
              refine g_iload ok dX5_openStep_121 rfl ?_
              refine g_aload_n ok dX5_openStep_123 rfl rfl ?_
              refine g_getr ok dX5_openStep_124 fl_X5_9 (Vd.one rfl) rfl rfl ?_
              refine g_iload_n ok dX5_openStep_127 rfl rfl ?_
              refine g_lald ok dX5_openStep_128 (Vd.one rfl) (fun _ => rfl) ⟨by omega, by omega⟩ (by decide) rfl (fun h68 h69 => ?_)
              refine G.topL (v := spC σ z2 z3) ((congrFun (congrFun k50 0) z3).trans (hQS.2 z3 (by omega) (by omega))) ?_
              refine g_aload_n ok dX5_openStep_129 rfl rfl ?_
              refine g_geti3 (bcF z2) (z := 1) ok dX5_openStep_130 fl_X5_33 (Vd.one rfl) rfl rfl rfl (by exact hO1) (fun h70 h71 => ?_)
              refine g_cV ok dX5_openStep_133 mv_X5_144 (c_X0_moneyTogether X _ _ _ _ _ _ (by omega) (by omega) (by omega) (by omega) (by omega) (by omega) hS2) rfl (Vd.four rfl (by omega) (by omega)) rfl rfl (by decide) rfl (Nat.le_of_ble_eq_true rfl) ?_
              rw [show s 8 = σ 8 from congrFun hA 8]
              refine g_goto (tgt := 142) ok dX5_openStep_136 (by decide) ?_
              refine G.topL (v := gnC σ i z2 z3 d) (by unfold gnC; first | (rw [if_pos (by assumption)]; done) | (rw [if_neg (by assumption)]; rfl)) ?_
              have aG := gnC_b hS hP (i := i) (ws := z2) (t := z3) (d := d) hw (by omega)
              refine g_last ok dX5_openStep_142 (Vd.one rfl) (fun _ => rfl) ⟨by omega, by omega⟩ (by decide) rfl ⟨by omega, by omega⟩ ?_
              refine g_iinc ok dX5_openStep_143 rfl rfl (Nat.le_of_ble_eq_true rfl) ?_
              refine g_goto (tgt := 91) ok dX5_openStep_146 (by decide) ?_
              refine G.norm [(0, .inr (.inr (10, 0))), (1, .inr (.inr (1, 0))), (2, .inr (.inr (8, i))), (3, .inl z3), (5, .inl _)] ⟨rfl, rfl, rfl, rfl, rfl, trivial⟩ (L91ih _ _ ?_ ?_ ?_ ?_ ?_ ?_ ?_ ?_ ?_ ?_ ?_ ?_ ?_ ?_)
              · omega
              · omega
              · exact Ag_up (Or.inl (by decide)) hA
              · (rw [up_s (by decide)]; exact h11)
              · (rw [up_s (by decide)]; exact h13)
              · (rw [up_s (by decide)]; exact h14)
              · (rw [up_s (by decide)]; exact k50)
              · exact hO1
              · exact hO6
              · exact hO7
              · exact hO8
              · exact hO9
              · exact gn_up hg rfl
              · omega
      refine G.norm [(0, .inr (.inr (10, 0))), (1, .inr (.inr (1, 0))), (2, .inr (.inr (8, i))), (3, .inl z3), (5, .inl _)] ⟨rfl, rfl, rfl, rfl, rfl, trivial⟩ (L91 (82 : Nat) _ _ ?_ ?_ ?_ ?_ ?_ ?_ ?_ ?_ ?_ ?_ ?_ ?_ ?_ ?_)
      · omega
      · omega
      · exact Ag_up (Or.inl (by decide)) (Ag_up (Or.inl (by decide)) (Ag_up (Or.inl (by decide)) (Ag_up (Or.inl (by decide)) (Ag.rf σ))))
      · rfl
      · rfl
      · rfl
      · rfl
      · exact hQS.1
      · rfl
      · rfl
      · rfl
      · rfl
      · exact fun x h0 h1 => absurd h1 (by omega)
      · omega

set_option maxRecDepth 100000 in
set_option maxHeartbeats 4000000 in
theorem c_X5_solve (X : XW) (l : Launch) (σ : Mm) (i z2 z3 : Int) (b0 : 0 ≤ i) (b1 : i < 4) (hw : 1 ≤ z2 ∧ z2 ≤ 15) (c0 : 0 ≤ z3) (c1 : z3 ≤ σ 1 0 0) (hz : σ 8 i 5 ≤ σ 8 i 2) (hS : CS σ) (hT : CT σ) (hP : CP σ) (hK : CK σ) (hQS : PS σ σ z2) : Ct X l yX5_solve cX5_solve 6 (Option.none : Option FieldType) 3 70 σ [.inr (.inr (10, 0)), .inr (.inr (1, 0)), .inr (.inr (8, i)), .inl z3] (PostV (fun s => Ag s σ ∧ TW s σ i z2 z3 ∧ s 50 = σ 50 ∧ s 10 0 1 = σ 10 0 1)) := by
  refine Ct.intro (own := RX5) (by decide) rfl (Nat.le_of_ble_eq_true rfl) (fun M hM ok hq => ?_)
  subst hM
  show G X M cX5_solve 6 σ 0 [(0, .inr (.inr (10, 0))), (1, .inr (.inr (1, 0))), (2, .inr (.inr (8, i))), (3, .inl z3)] []
  have aT := hT.1
  have aT2 := hT.2
  have hN : NONE = -9000000000000000005 := rfl
  have aS := hS i
  refine g_iconst (v := 0) ok dX5_solve_0 (by decide +kernel) ?_
  refine g_istore ok dX5_solve_1 (Nat.le_of_ble_eq_true rfl) ?_
  have L3 : ∀ (n : Nat) (c : Int) (s : Mm), (0 ≤ c) → (c ≤ 61) → (Ag s σ) → (s 50 = σ 50) → (s 10 0 1 = σ 10 0 1) → (∀ x, 0 ≤ x → x < c → s 11 0 (σ 1 0 0 * 61 + x) = WC σ i z2 0 x) → (61 - c < n) → G X M cX5_solve 6 s 3 [(0, .inr (.inr (10, 0))), (1, .inr (.inr (1, 0))), (2, .inr (.inr (8, i))), (3, .inl z3), (4, .inl c)] [] := by
    intro n
    induction n with
    | zero => intro c s hk0 hk1 hA1 h50a hO1a hr1 hm; exact absurd hm (by omega)
    | succ n L3ih =>
      intro c s hk0 hk1 hA1 h50a hO1a hr1 hm
      refine g_iload ok dX5_solve_3 rfl ?_
      refine g_bipush (v := 61) ok dX5_solve_5 (by decide +kernel) ?_
      refine g_icmp_ge (tgt := 47) ok dX5_solve_7 (by decide) ⟨by omega, by omega⟩ ⟨by omega, by omega⟩ (fun c1 => ?_) (fun c1 => ?_)
      · skip
        refine g_aload_n ok dX5_solve_47 rfl rfl ?_
        refine g_geti2 σ (z := 0) ok dX5_solve_48 fl_X5_52 (Vd.one rfl) rfl rfl rfl (congrFun (congrFun (congrFun hA1 1) _) _) (fun h2 h3 => ?_)
        refine g_iconst (v := 1) ok dX5_solve_51 (by decide +kernel) ?_
        refine g_isub ok dX5_solve_52 ?_
        refine g_istore ok dX5_solve_53 (Nat.le_of_ble_eq_true rfl) ?_
        have L55 : ∀ (n : Nat) (t : Int) (s : Mm), (z3 - 1 ≤ t) → (t ≤ σ 1 0 0 - 1) → (Ag s σ) → (s 50 = σ 50) → (s 10 0 1 = σ 10 0 1) → (TW s σ i z2 (t + 1)) → (t + 1 < n) → G X M cX5_solve 6 s 55 [(0, .inr (.inr (10, 0))), (1, .inr (.inr (1, 0))), (2, .inr (.inr (8, i))), (3, .inl z3), (4, .inl t)] [] := by
          intro n
          induction n with
          | zero => intro t s ht0 ht1 hA2 h50b hO1b hW2 hm2; exact absurd hm2 (by omega)
          | succ n L55ih =>
            intro t s ht0 ht1 hA2 h50b hO1b hW2 hm2
            have hS2 : CS s := agP (F := CS) (fun _ => rfl) hA2 hS
            have hK2 : CK s := agP (F := CK) (fun _ => rfl) hA2 hK
            have hP2 : CP s := agP (F := CP) (fun _ => rfl) hA2 hP
            refine g_iload ok dX5_solve_55 rfl ?_
            refine g_iload_n ok dX5_solve_57 rfl rfl ?_
            refine g_icmp_lt (tgt := 114) ok dX5_solve_58 (by decide) ⟨by omega, by omega⟩ ⟨by omega, by omega⟩ (fun c4 => ?_) (fun c4 => ?_)
            · skip
              exact g_vret ok hq dX5_solve_114 (by exact ⟨rfl, hA2, TW_lo (by omega) hW2, h50b, hO1b⟩)
            · skip
              refine g_aload_n ok dX5_solve_61 rfl rfl ?_
              refine g_aload_n ok dX5_solve_62 rfl rfl ?_
              refine g_aload_n ok dX5_solve_63 rfl rfl ?_
              refine g_iload ok dX5_solve_64 rfl ?_
              refine g_cVR ok dX5_solve_66 mv_X5_64 (c_X5_openStep X _ _ _ _ _ (by omega) (by omega) (by omega) (by omega) (by omega) hS2 hP2 hK2 (PS_mv hA2 h50b hO1b hQS)) rfl (Vd.one rfl) rfl rfl (by decide) rfl (Nat.le_of_ble_eq_true rfl) (fun s2 hs2 => ?_)
              obtain ⟨hB1, hB2, hB3, hB4, hB5, hB6, hB7⟩ := hs2
              have hA5 : Ag s2 σ := hB1.tr hA2
              have hO5 : OS s2 σ i z2 t := (Eq.mp (ag (F := fun σ => OS s2 σ i z2 t) (fun _ => rfl) hA2) hB5 : OS s2 σ i z2 t)
              have hW5 : TW s2 σ i z2 (t + 1) := TW_11 hB2 hW2
              refine g_iconst (v := 0) ok dX5_solve_69 (by decide +kernel) ?_
              refine g_istore ok dX5_solve_70 (Nat.le_of_ble_eq_true rfl) ?_
              have L72 : ∀ (n : Nat) (c : Int) (s : Mm), (0 ≤ c) → (c ≤ σ 8 i 2 + 1) → (Ag s σ) → (s 50 = σ 50) → (s 10 0 1 = σ 10 0 1) → (OS s σ i z2 t) → (TW s σ i z2 (t + 1)) → (∀ x, 0 ≤ x → x < c → s 11 0 (t * 61 + x) = WC σ i z2 (σ 1 0 0 - t).toNat x) → (σ 8 i 2 + 1 - c < n) → G X M cX5_solve 6 s 72 [(0, .inr (.inr (10, 0))), (1, .inr (.inr (1, 0))), (2, .inr (.inr (8, i))), (3, .inl z3), (4, .inl t), (5, .inl c)] [] := by
                intro n
                induction n with
                | zero => intro c s hc0 hc1 hA3 h50c hO1c hO3 hW3 hr3 hm3; exact absurd hm3 (by omega)
                | succ n L72ih =>
                  intro c s hc0 hc1 hA3 h50c hO1c hO3 hW3 hr3 hm3
                  refine g_iload ok dX5_solve_72 rfl ?_
                  refine g_aload_n ok dX5_solve_74 rfl rfl ?_
                  refine g_geti2 σ (z := 2) ok dX5_solve_75 fl_X5_68 (Vd.four rfl (by omega) (by omega)) rfl rfl rfl (congrFun (congrFun (congrFun hA3 8) _) _) (fun h5 h6 => ?_)
                  refine g_icmp_gt (tgt := 108) ok dX5_solve_78 (by decide) ⟨by omega, by omega⟩ ⟨by omega, by omega⟩ (fun c7 => ?_) (fun c7 => ?_)
                  · skip
                    refine g_iinc ok dX5_solve_108 rfl rfl (Nat.le_of_ble_eq_true rfl) ?_
                    refine g_goto (tgt := 55) ok dX5_solve_111 (by decide) ?_
                    refine G.norm [(0, .inr (.inr (10, 0))), (1, .inr (.inr (1, 0))), (2, .inr (.inr (8, i))), (3, .inl z3), (4, .inl _)] ⟨rfl, rfl, rfl, rfl, rfl, trivial⟩ (L55ih _ _ ?_ ?_ ?_ ?_ ?_ ?_ ?_)
                    · omega
                    · omega
                    · exact hA3
                    · exact h50c
                    · exact hO1c
                    · (rw [show t + -1 + 1 = t by omega]; exact TW_row hW3 hr3 (by omega))
                    · omega
                  · skip
                    refine g_aload_n ok dX5_solve_81 rfl rfl ?_
                    refine g_getr ok dX5_solve_82 fl_X5_15 (Vd.one rfl) rfl rfl ?_
                    refine g_iload ok dX5_solve_85 rfl ?_
                    refine g_bipush (v := 61) ok dX5_solve_87 (by decide +kernel) ?_
                    refine g_imul ok dX5_solve_89 ?_
                    refine g_iload ok dX5_solve_90 rfl ?_
                    refine g_iadd ok dX5_solve_92 ?_
                    refine g_aload_n ok dX5_solve_93 rfl rfl ?_
                    refine g_iload ok dX5_solve_94 rfl ?_
                    refine g_iload ok dX5_solve_96 rfl ?_
                    refine g_cV ok dX5_solve_98 mv_X5_71 (c_X5_greatest X _ _ _ _ (by omega) (by omega) (by omega) (by omega) (OS_PB hS hK hO3) (QB_of hS hP hK hw (by omega) (by omega) (by omega) hz hO3 hW3 _)) rfl (Vd.one rfl) rfl rfl (by decide) rfl (Nat.le_of_ble_eq_true rfl) ?_
                    rw [gr_cv hS hK (by omega) (by omega) hz hO3 hW3 c]
                    have aV := WC_b hS hP hK (i := i) hw (σ 1 0 0 - t).toNat c
                    refine g_last ok dX5_solve_101 (Vd.one rfl) (fun _ => rfl) ⟨by omega, by omega⟩ (by decide) rfl ⟨by omega, by omega⟩ ?_
                    refine g_iinc ok dX5_solve_102 rfl rfl (Nat.le_of_ble_eq_true rfl) ?_
                    refine g_goto (tgt := 72) ok dX5_solve_105 (by decide) ?_
                    refine G.norm [(0, .inr (.inr (10, 0))), (1, .inr (.inr (1, 0))), (2, .inr (.inr (8, i))), (3, .inl z3), (4, .inl t), (5, .inl _)] ⟨rfl, rfl, rfl, rfl, rfl, rfl, trivial⟩ (L72ih _ _ ?_ ?_ ?_ ?_ ?_ ?_ ?_ ?_ ?_)
                    · omega
                    · omega
                    · exact Ag_up (Or.inl (by decide)) hA3
                    · (rw [up_s (by decide)]; exact h50c)
                    · exact hO1c
                    · exact hO3
                    · exact TW_up (by omega) hW3 (by omega)
                    · exact row_up hr3 rfl
                    · omega
              refine G.norm [(0, .inr (.inr (10, 0))), (1, .inr (.inr (1, 0))), (2, .inr (.inr (8, i))), (3, .inl z3), (4, .inl t), (5, .inl _)] ⟨rfl, rfl, rfl, rfl, rfl, rfl, trivial⟩ (L72 (62 : Nat) _ _ ?_ ?_ ?_ ?_ ?_ ?_ ?_ ?_ ?_)
              · omega
              · omega
              · exact hA5
              · exact hB6.trans h50b
              · exact hB7.trans hO1b
              · exact hO5
              · exact hW5
              · exact fun x h0 h1 => absurd h1 (by omega)
              · omega
        refine G.norm [(0, .inr (.inr (10, 0))), (1, .inr (.inr (1, 0))), (2, .inr (.inr (8, i))), (3, .inl z3), (4, .inl _)] ⟨rfl, rfl, rfl, rfl, rfl, trivial⟩ (L55 (38 : Nat) _ _ ?_ ?_ ?_ ?_ ?_ ?_ ?_)
        · omega
        · omega
        · exact hA1
        · exact h50a
        · exact hO1a
        · (intro t2 c2 h0 h1 h2 h3; rw [show t2 = σ 1 0 0 by omega, Int.sub_self]; exact hr1 c2 h2 (by omega))
        · omega
      · skip
        refine g_aload_n ok dX5_solve_10 rfl rfl ?_
        refine g_getr ok dX5_solve_11 fl_X5_15 (Vd.one rfl) rfl rfl ?_
        refine g_aload_n ok dX5_solve_14 rfl rfl ?_
        refine g_geti2 σ (z := 0) ok dX5_solve_15 fl_X5_52 (Vd.one rfl) rfl rfl rfl (congrFun (congrFun (congrFun hA1 1) _) _) (fun h8 h9 => ?_)
        refine g_bipush (v := 61) ok dX5_solve_18 (by decide +kernel) ?_
        refine g_imul ok dX5_solve_20 ?_
        refine g_iload ok dX5_solve_21 rfl ?_
        refine g_iadd ok dX5_solve_23 ?_
        refine g_iload ok dX5_solve_24 rfl ?_
        refine g_aload_n ok dX5_solve_26 rfl rfl ?_
        refine g_geti2 σ (z := 10) ok dX5_solve_27 fl_X5_57 (Vd.four rfl (by omega) (by omega)) rfl rfl rfl (congrFun (congrFun (congrFun hA1 8) _) _) (fun h10 h11 => ?_)
        refine g_icmp_ge (tgt := 39) ok dX5_solve_30 (by decide) ⟨by omega, by omega⟩ ⟨by omega, by omega⟩ (fun c12 => ?_) (fun c12 => ?_)
        · skip
          refine g_lconst (v := 0) ok dX5_solve_39 (by decide +kernel) ?_
          refine g_last ok dX5_solve_40 (Vd.one rfl) (fun _ => rfl) ⟨by omega, by omega⟩ (by decide) rfl ⟨by omega, by omega⟩ ?_
          refine g_iinc ok dX5_solve_41 rfl rfl (Nat.le_of_ble_eq_true rfl) ?_
          refine g_goto (tgt := 3) ok dX5_solve_44 (by decide) ?_
          refine G.norm [(0, .inr (.inr (10, 0))), (1, .inr (.inr (1, 0))), (2, .inr (.inr (8, i))), (3, .inl z3), (4, .inl _)] ⟨rfl, rfl, rfl, rfl, rfl, trivial⟩ (L3ih _ _ ?_ ?_ ?_ ?_ ?_ ?_ ?_)
          · omega
          · omega
          · exact Ag_up (Or.inl (by decide)) hA1
          · (rw [up_s (by decide)]; exact h50a)
          · exact hO1a
          · exact row_up hr1 (by show _ = (if _ then _ else _); first | (rw [if_pos (by omega)]; (try rfl)) | (rw [if_neg (by omega)]))
          · omega
        · skip
          refine g_ldc2 (v := -9000000000000000005) ok dX5_solve_33 wd3_17 (by decide +kernel) ?_
          refine g_goto (tgt := 40) ok dX5_solve_36 (by decide) ?_
          refine g_last ok dX5_solve_40 (Vd.one rfl) (fun _ => rfl) ⟨by omega, by omega⟩ (by decide) rfl ⟨by omega, by omega⟩ ?_
          refine g_iinc ok dX5_solve_41 rfl rfl (Nat.le_of_ble_eq_true rfl) ?_
          refine g_goto (tgt := 3) ok dX5_solve_44 (by decide) ?_
          refine G.norm [(0, .inr (.inr (10, 0))), (1, .inr (.inr (1, 0))), (2, .inr (.inr (8, i))), (3, .inl z3), (4, .inl _)] ⟨rfl, rfl, rfl, rfl, rfl, trivial⟩ (L3ih _ _ ?_ ?_ ?_ ?_ ?_ ?_ ?_)
          · omega
          · omega
          · exact Ag_up (Or.inl (by decide)) hA1
          · (rw [up_s (by decide)]; exact h50a)
          · exact hO1a
          · exact row_up hr1 (by show _ = (if _ then _ else _); first | (rw [if_pos (by omega)]; (try rfl)) | (rw [if_neg (by omega)]))
          · omega
  refine G.norm [(0, .inr (.inr (10, 0))), (1, .inr (.inr (1, 0))), (2, .inr (.inr (8, i))), (3, .inl z3), (4, .inl _)] ⟨rfl, rfl, rfl, rfl, rfl, trivial⟩ (L3 (62 : Nat) _ _ ?_ ?_ ?_ ?_ ?_ ?_ ?_)
  · omega
  · omega
  · exact Ag.rf σ
  · rfl
  · rfl
  · exact fun x h0 h1 => absurd h1 (by omega)
  · omega

set_option maxRecDepth 100000 in
set_option maxHeartbeats 4000000 in
theorem c_X5_writeFirstBest (X : XW) (l : Launch) (σ : Mm) (i z2 : Int) (b0 : 0 ≤ i) (b1 : i < 4) (hw : 1 ≤ z2 ∧ z2 ≤ 15) (hz : σ 8 i 5 ≤ σ 8 i 2) (hW : TW σ σ i z2 0) (hV : ¬ WC σ i z2 (σ 1 0 0).toNat (σ 8 i 3) = NONE) (hC : 0 ≤ σ 8 i 3 ∧ σ 8 i 3 ≤ σ 8 i 2) (hS : CS σ) (hT : CT σ) (hP : CP σ) (hK : CK σ) (hQS : PS σ σ z2) : Ct X l yX5_writeFirstBest cX5_writeFirstBest 6 (Option.none : Option FieldType) 3 70 σ [.inr (.inr (10, 0)), .inr (.inr (1, 0)), .inr (.inr (8, i))] (PostV (fun s => Ag s (plW σ 9 i 0 (bpC σ i z2) (σ 1 0 0)))) := by
  refine Ct.intro (own := RX5) (by decide) rfl (Nat.le_of_ble_eq_true rfl) (fun M hM ok hq => ?_)
  subst hM
  show G X M cX5_writeFirstBest 6 σ 0 [(0, .inr (.inr (10, 0))), (1, .inr (.inr (1, 0))), (2, .inr (.inr (8, i)))] []
  have aT := hT.1
  have aT2 := hT.2
  have hN : NONE = -9000000000000000005 := rfl
  have aS := hS i
  refine g_aload_n ok dX5_writeFirstBest_0 rfl rfl ?_
  refine g_geti (z := 3) ok dX5_writeFirstBest_1 fl_X5_75 (Vd.four rfl (by omega) (by omega)) rfl rfl rfl (fun h1 h2 => ?_)
  refine g_istore_n ok dX5_writeFirstBest_4 rfl (Nat.le_of_ble_eq_true rfl) ?_
  refine g_iconst (v := 0) ok dX5_writeFirstBest_5 (by decide +kernel) ?_
  refine g_istore ok dX5_writeFirstBest_6 (Nat.le_of_ble_eq_true rfl) ?_
  have L8 : ∀ (n : Nat) (t : Int) (c : Int) (s : Mm), (0 ≤ t) → (t ≤ σ 1 0 0) → (c = bcC σ i z2 t) → (0 ≤ c ∧ c ≤ σ 8 i 2) → (¬ WC σ i z2 (σ 1 0 0 - t).toNat c = NONE) → (Ag s (plW σ 9 i 0 (bpC σ i z2) t)) → (s 11 = σ 11) → (s 50 = σ 50) → (s 10 0 1 = σ 10 0 1) → (σ 1 0 0 - t < n) → G X M cX5_writeFirstBest 6 s 8 [(0, .inr (.inr (10, 0))), (1, .inr (.inr (1, 0))), (2, .inr (.inr (8, i))), (3, .inl c), (4, .inl t)] [] := by
    intro n
    induction n with
    | zero => intro t c s ht0 ht1 hc hi hv hA2 h11 h50b hO1b hm; exact absurd hm (by omega)
    | succ n L8ih =>
      intro t c s ht0 ht1 hc hi hv hA2 h11 h50b hO1b hm
      have hS2 : CS s := agP (F := CS) (fun _ => rfl) hA2 hS
      have hK2 : CK s := agP (F := CK) (fun _ => rfl) hA2 hK
      have hP2 : CP s := agP (F := CP) (fun _ => rfl) hA2 hP
      have hQ2 : PS s s z2 := PS_mv (σ := (plW σ 9 i 0 (bpC σ i z2) t)) hA2 h50b hO1b hQS
      refine g_iload ok dX5_writeFirstBest_8 rfl ?_
      refine g_aload_n ok dX5_writeFirstBest_10 rfl rfl ?_
      refine g_geti2 σ (z := 0) ok dX5_writeFirstBest_11 fl_X5_52 (Vd.one rfl) rfl rfl rfl (congrFun (congrFun (congrFun hA2 1) _) _) (fun h3 h4 => ?_)
      refine g_icmp_ge (tgt := 54) ok dX5_writeFirstBest_14 (by decide) ⟨by omega, by omega⟩ ⟨by omega, by omega⟩ (fun c5 => ?_) (fun c5 => ?_)
      · skip
        exact g_vret ok hq dX5_writeFirstBest_54 (by exact ⟨rfl, (show t = σ 1 0 0 by omega) ▸ hA2⟩)
      · skip
        refine g_aload_n ok dX5_writeFirstBest_17 rfl rfl ?_
        refine g_aload_n ok dX5_writeFirstBest_18 rfl rfl ?_
        refine g_aload_n ok dX5_writeFirstBest_19 rfl rfl ?_
        refine g_iload ok dX5_writeFirstBest_20 rfl ?_
        refine g_cVR ok dX5_writeFirstBest_22 mv_X5_64 (c_X5_openStep X _ _ _ _ _ (by omega) (by omega) (by omega) (by omega) (by omega) hS2 hP2 hK2 hQ2) rfl (Vd.one rfl) rfl rfl (by decide) rfl (Nat.le_of_ble_eq_true rfl) (fun s2 hs2 => ?_)
        obtain ⟨hB1, hB2, hB3, hB4, hB5, hB6, hB7⟩ := hs2
        have hA5 : Ag s2 (plW σ 9 i 0 (bpC σ i z2) t) := hB1.tr hA2
        have hO5 : OS s2 σ i z2 t := (Eq.mp (ag (F := fun σ => OS s2 σ i z2 t) (fun _ => rfl) hA2) hB5 : OS s2 (plW σ 9 i 0 (bpC σ i z2) t) i z2 t)
        have hW5 : TW s2 σ i z2 0 := TW_11 (hB2.trans h11) hW
        have hbd := bdC_ok hS hK (i := i) (ws := z2) (t := t) (c := c) (by omega) (by omega) hz hv
        refine g_aload_n ok dX5_writeFirstBest_25 rfl rfl ?_
        refine g_iload ok dX5_writeFirstBest_26 rfl ?_
        refine g_iload_n ok dX5_writeFirstBest_28 rfl rfl ?_
        refine g_cV ok dX5_writeFirstBest_29 mv_X5_78 (c_X5_leastBest X _ _ _ _ (by omega) (by omega) (by omega) (by omega) (OS_PB hS hK hO5) (QB_of hS hP hK hw (by omega) (by omega) (by omega) hz hO5 (TW_lo (by omega) hW5) _)) rfl (Vd.one rfl) rfl rfl (by decide) rfl (Nat.le_of_ble_eq_true rfl) ?_
        rw [lb_cv hS hK (by omega) (by omega) hz hO5 (TW_lo (by omega) hW5) ⟨by omega, by omega⟩]
        refine g_istore ok dX5_writeFirstBest_32 (Nat.le_of_ble_eq_true rfl) ?_
        refine g_aload_n ok dX5_writeFirstBest_34 rfl rfl ?_
        refine g_getr ok dX5_writeFirstBest_35 fl_X5_82 (Vd.four rfl (by omega) (by omega)) rfl rfl ?_
        refine g_iload ok dX5_writeFirstBest_38 rfl ?_
        refine g_iload ok dX5_writeFirstBest_40 rfl ?_
        refine g_iast ok dX5_writeFirstBest_42 (Vd.four rfl (by omega) (by omega)) (fun _ => rfl) ⟨by omega, by omega⟩ (by decide) rfl ⟨by omega, by omega⟩ ?_
        refine g_iload_n ok dX5_writeFirstBest_43 rfl rfl ?_
        refine g_iload ok dX5_writeFirstBest_44 rfl ?_
        refine g_iadd ok dX5_writeFirstBest_46 ?_
        refine g_istore_n ok dX5_writeFirstBest_47 rfl (Nat.le_of_ble_eq_true rfl) ?_
        refine g_iinc ok dX5_writeFirstBest_48 rfl rfl (Nat.le_of_ble_eq_true rfl) ?_
        refine g_goto (tgt := 8) ok dX5_writeFirstBest_51 (by decide) ?_
        refine G.norm [(0, .inr (.inr (10, 0))), (1, .inr (.inr (1, 0))), (2, .inr (.inr (8, i))), (3, .inl _), (4, .inl _)] ⟨rfl, rfl, rfl, rfl, rfl, trivial⟩ (L8ih _ _ _ ?_ ?_ ?_ ?_ ?_ ?_ ?_ ?_ ?_ ?_)
        · omega
        · omega
        · (unfold bcC; rw [chI_s ht0]; show _ = bcC σ i z2 t + bdC σ i z2 t (bcC σ i z2 t); rw [← hc])
        · exact hbd.1
        · exact hbd.2.2.2.1
        · (rw [← plW_up (h := bpC σ i z2) (v := bdC σ i z2 t c) ht0 (by unfold bpC; rw [← hc]), Int.zero_add]; exact Ag_up2 hA5)
        · (rw [up_s (by decide)]; exact hB2.trans h11)
        · (rw [up_s (by decide)]; exact hB6.trans h50b)
        · exact hB7.trans hO1b
        · omega
  refine G.norm [(0, .inr (.inr (10, 0))), (1, .inr (.inr (1, 0))), (2, .inr (.inr (8, i))), (3, .inl _), (4, .inl _)] ⟨rfl, rfl, rfl, rfl, rfl, trivial⟩ (L8 (37 : Nat) _ _ _ ?_ ?_ ?_ ?_ ?_ ?_ ?_ ?_ ?_ ?_)
  · omega
  · omega
  · rfl
  · omega
  · (rw [Int.sub_zero]; exact hV)
  · (rw [plW_0]; exact Ag.rf σ)
  · rfl
  · rfl
  · rfl
  · omega
