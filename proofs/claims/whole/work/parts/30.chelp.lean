theorem Ct.introF {X : XW} {l : Launch} {y : MethodName} {cc : ByteArray} {maxL : Nat} {ret : Option FieldType} {fr lo : Nat} {σ : Mm} {av : List AV} {post : Option AV → Mm → Prop} {own : String} (hy : plainFor y = true) (hown : y.cls = own) (hlen : (lg_sl (av.map (tv X))).length ≤ maxL)
    (body : ∀ M : MX, M.2.1 = l → MOk X M cc maxL fr lo own → RQ X M post ret → G X M cc maxL σ 0 (ent 0 av) []) : Ct X l y cc maxL ret fr lo σ av post := by
  refine va_MetF (cc := cc) (maxL := maxL) (ret := ret) hy rfl ?_
  intro p e s m args below meth c s₁ B hml hv
  obtain ⟨rfl, hM, hR, hK⟩ := hv
  have hts := atoms_spec (ws := .code y cc maxL ret :: Wds) B.pre
  have ho : s.vm.findClass own = some m.cls := hown ▸ findClass_of_methodNamed B.named
  have b := body (p, l, e, (headSpec (.code y cc maxL ret :: Wds) { frames := fr, cells := 0, slots := 0, locals := lo }).room, s, m, (av.map (tv X)).toArray, below, meth, c, MQ below (Qo X post) (av.map (tv X)).toArray s 0 0 (Apl X)) rfl ⟨B.exec, B.bytes, hml, ho, fun w hw => hts w (List.mem_cons_of_mem _ hw), hK, rfl, rfl⟩ ⟨rfl, B.returns, B.notSynchronized⟩
  rw [lg_entry_eq]
  have hl := lv_entry (av.map (tv X)) (n := maxL) hlen
  refine b s.heap [] _ hM hR va_S.rf ⟨hl.1, hl.2.1, fun q hq => hl.2.2 q ?_⟩
  obtain ⟨v, h1, h2⟩ := nf_mem hq
  rw [← ent_args]
  exact List.mem_map.mpr ⟨(q.1, v), h1, by rw [← h2]⟩
theorem tdivb (a b : Int) (hb : 0 < b) : (0 ≤ a → 0 ≤ a.tdiv b ∧ a.tdiv b ≤ a) ∧ (a ≤ 0 → a ≤ a.tdiv b ∧ a.tdiv b ≤ 0) := by
  have key : ∀ c : Int, 0 ≤ c → 0 ≤ c.tdiv b ∧ c.tdiv b ≤ c := by
    intro c hc
    rw [Int.tdiv_eq_ediv_of_nonneg hc]
    exact ⟨Int.ediv_nonneg hc (by omega), Int.ediv_le_self b hc⟩
  refine ⟨fun h => key a h, fun h => ?_⟩
  have q := key (-a) (by omega)
  rw [Int.neg_tdiv] at q
  omega
theorem tmodb (a b : Int) (hb : 0 < b) : -b < a.tmod b ∧ a.tmod b < b := ⟨Int.lt_tmod_of_pos a hb, Int.tmod_lt_of_pos a hb⟩
set_option maxRecDepth 100000 in
set_option maxHeartbeats 4000000 in
theorem c_J7_fill_53178 (X : XW) (l : Launch) (σ : Mm) (a n : Nat) (i z1 : Int) (hvd : Vd a i) (hen : ∀ g, encF X a i g = aI X n g) (hty : ∀ z, tyk a z = 0) (hn : n < 2147483648) (r : R32 z1) : Ct X l yJ7_fill_53178 cJ7_fill_53178 4 none 0 0 σ [.inr (.inr (a, i)), .inl z1] (Ans none (fillR σ a i 0 n z1)) := by
  refine Ct.intro (own := RJ7) (by decide) rfl (Nat.le_of_ble_eq_true rfl) (fun M hM ok hq => ?_)
  subst hM
  have r1 := r.1
  have r2 := r.2
  show G X M cJ7_fill_53178 4 σ 0 [(0, .inr (.inr (a, i))), (1, .inl z1)] []
  refine g_iconst (v := 0) ok dJ7_fill_53178_0 (by decide +kernel) ?_
  refine g_istore_n ok dJ7_fill_53178_1 rfl (Nat.le_of_ble_eq_true rfl) ?_
  refine g_aload_n ok dJ7_fill_53178_2 rfl rfl ?_
  refine g_alenI ok dJ7_fill_53178_3 hvd hen ?_
  refine g_istore_n ok dJ7_fill_53178_4 rfl (Nat.le_of_ble_eq_true rfl) ?_
  have L : ∀ (m : Nat) (k : Int) (s : Mm), 0 ≤ k → k ≤ n → s = fillR σ a i 0 k z1 → n - k < m → G X M cJ7_fill_53178 4 s 5 [(0, .inr (.inr (a, i))), (1, .inl z1), (2, .inl k), (3, .inl n)] [] := by
    intro m
    induction m with
    | zero => intro k s h0 h1 hs hm; exact absurd hm (by omega)
    | succ m ih =>
      intro k s h0 h1 hs hm
      refine g_iload_n ok dJ7_fill_53178_5 rfl rfl ?_
      refine g_iload_n ok dJ7_fill_53178_6 rfl rfl ?_
      refine g_icmp_ge (tgt := 20) ok dJ7_fill_53178_7 (by decide) ⟨by omega, by omega⟩ ⟨by omega, by omega⟩ (fun c1 => ?_) (fun c1 => ?_)
      · exact g_vret ok hq dJ7_fill_53178_20 (ansV (by rw [hs, show k = n by omega]))
      · refine g_aload_n ok dJ7_fill_53178_10 rfl rfl ?_
        refine g_iload_n ok dJ7_fill_53178_11 rfl rfl ?_
        refine g_iload_n ok dJ7_fill_53178_12 rfl rfl ?_
        refine g_iast ok dJ7_fill_53178_13 hvd hen ⟨by omega, by omega⟩ hn (hty _) ⟨by omega, by omega⟩ ?_
        refine g_iinc ok dJ7_fill_53178_14 rfl rfl (Nat.le_of_ble_eq_true rfl) ?_
        refine g_goto (tgt := 5) ok dJ7_fill_53178_17 (by decide) ?_
        refine G.norm [(0, .inr (.inr (a, i))), (1, .inl z1), (2, .inl _), (3, .inl n)] ⟨rfl, rfl, rfl, rfl, trivial⟩ (ih _ _ ?_ ?_ ?_ ?_)
        · omega
        · omega
        · rw [hs]; exact fillR_up h0
        · omega
  refine G.norm [(0, .inr (.inr (a, i))), (1, .inl z1), (2, .inl _), (3, .inl n)] ⟨rfl, rfl, rfl, rfl, trivial⟩ (L (n + 1) _ _ ?_ ?_ ?_ ?_)
  · omega
  · omega
  · rw [fillR_0]
  · omega

set_option maxRecDepth 100000 in
set_option maxHeartbeats 4000000 in
theorem c_J7_fill_d0a16 (X : XW) (l : Launch) (σ : Mm) (a n : Nat) (i z1 : Int) (hvd : Vd a i) (hen : ∀ g, encF X a i g = aJ X n g) (hty : ∀ z, tyk a z = 1) (hn : n < 2147483648) (r : R64 z1) : Ct X l yJ7_fill_d0a16 cJ7_fill_d0a16 5 none 0 0 σ [.inr (.inr (a, i)), .inr (.inl z1)] (Ans none (fillR σ a i 0 n z1)) := by
  refine Ct.intro (own := RJ7) (by decide) rfl (Nat.le_of_ble_eq_true rfl) (fun M hM ok hq => ?_)
  subst hM
  have r1 := r.1
  have r2 := r.2
  show G X M cJ7_fill_d0a16 5 σ 0 [(0, .inr (.inr (a, i))), (1, .inr (.inl z1))] []
  refine g_iconst (v := 0) ok dJ7_fill_d0a16_0 (by decide +kernel) ?_
  refine g_istore_n ok dJ7_fill_d0a16_1 rfl (Nat.le_of_ble_eq_true rfl) ?_
  refine g_aload_n ok dJ7_fill_d0a16_2 rfl rfl ?_
  refine g_alenJ ok dJ7_fill_d0a16_3 hvd hen ?_
  refine g_istore ok dJ7_fill_d0a16_4 (Nat.le_of_ble_eq_true rfl) ?_
  have L : ∀ (m : Nat) (k : Int) (s : Mm), 0 ≤ k → k ≤ n → s = fillR σ a i 0 k z1 → n - k < m → G X M cJ7_fill_d0a16 5 s 6 [(0, .inr (.inr (a, i))), (1, .inr (.inl z1)), (3, .inl k), (4, .inl n)] [] := by
    intro m
    induction m with
    | zero => intro k s h0 h1 hs hm; exact absurd hm (by omega)
    | succ m ih =>
      intro k s h0 h1 hs hm
      refine g_iload_n ok dJ7_fill_d0a16_6 rfl rfl ?_
      refine g_iload ok dJ7_fill_d0a16_7 rfl ?_
      refine g_icmp_ge (tgt := 22) ok dJ7_fill_d0a16_9 (by decide) ⟨by omega, by omega⟩ ⟨by omega, by omega⟩ (fun c1 => ?_) (fun c1 => ?_)
      · exact g_vret ok hq dJ7_fill_d0a16_22 (ansV (by rw [hs, show k = n by omega]))
      · refine g_aload_n ok dJ7_fill_d0a16_12 rfl rfl ?_
        refine g_iload_n ok dJ7_fill_d0a16_13 rfl rfl ?_
        refine g_lload_n ok dJ7_fill_d0a16_14 rfl rfl ?_
        refine g_last ok dJ7_fill_d0a16_15 hvd hen ⟨by omega, by omega⟩ hn (hty _) ⟨by omega, by omega⟩ ?_
        refine g_iinc ok dJ7_fill_d0a16_16 rfl rfl (Nat.le_of_ble_eq_true rfl) ?_
        refine g_goto (tgt := 6) ok dJ7_fill_d0a16_19 (by decide) ?_
        refine G.norm [(0, .inr (.inr (a, i))), (1, .inr (.inl z1)), (3, .inl _), (4, .inl n)] ⟨rfl, rfl, rfl, rfl, trivial⟩ (ih _ _ ?_ ?_ ?_ ?_)
        · omega
        · omega
        · rw [hs]; exact fillR_up h0
        · omega
  refine G.norm [(0, .inr (.inr (a, i))), (1, .inr (.inl z1)), (3, .inl _), (4, .inl n)] ⟨rfl, rfl, rfl, rfl, trivial⟩ (L (n + 1) _ _ ?_ ?_ ?_ ?_)
  · omega
  · omega
  · rw [fillR_0]
  · omega

set_option maxRecDepth 100000 in
set_option maxHeartbeats 4000000 in
theorem c_J9_floorDiv_7cf53 (X : XW) (l : Launch) (σ : Mm) (z1 : Int) (rz1 : R32 z1) : Ct X l yJ9_floorDiv_7cf53 cJ9_floorDiv_7cf53 3 (Option.some FieldType.int) 0 0 σ [.inl z1, .inl 2] (Ans (some (.inl (z1 / 2))) (σ)) := by
  refine Ct.introF (own := RJ9) (by decide +kernel) rfl (Nat.le_of_ble_eq_true rfl) (fun M hM ok hq => ?_)
  subst hM
  have rz1l := rz1.1
  have rz1r := rz1.2
  show G X M cJ9_floorDiv_7cf53 3 σ 0 [(0, .inl z1), (1, .inl 2)] []
  have e1 := tdiv2 z1
  have e3 : (0 ≤ z1 → z1.tdiv 2 = z1 / 2) ∧ (¬ 0 ≤ z1 → z1.tdiv 2 = -((-z1) / 2)) := by rw [e1]; constructor <;> intro h <;> simp [h]
  clear e1
  have e4 := bxor2 rz1
  refine g_iload_n ok dJ9_floorDiv_7cf53_0 rfl rfl ?_
  refine g_iload_n ok dJ9_floorDiv_7cf53_1 rfl rfl ?_
  refine g_idiv ok dJ9_floorDiv_7cf53_2 ⟨by omega, by omega⟩ ⟨by omega, by omega⟩ (by omega) ?_
  refine g_istore_n ok dJ9_floorDiv_7cf53_3 rfl (Nat.le_of_ble_eq_true rfl) ?_
  refine g_iload_n ok dJ9_floorDiv_7cf53_4 rfl rfl ?_
  refine g_iload_n ok dJ9_floorDiv_7cf53_5 rfl rfl ?_
  refine g_ixor ok dJ9_floorDiv_7cf53_6 (fun hb1 => ?_)
  have hb1l := hb1.1
  have hb1r := hb1.2
  refine g_if_ge (tgt := 21) ok dJ9_floorDiv_7cf53_7 (by decide) ⟨by omega, by omega⟩ (fun c2 => ?_) (fun c2 => ?_)
  · skip
    refine g_iload_n ok dJ9_floorDiv_7cf53_21 rfl rfl ?_
    exact g_iret ok hq dJ9_floorDiv_7cf53_22 (ansI (by omega) (by rfl))
  · skip
    refine g_iload_n ok dJ9_floorDiv_7cf53_10 rfl rfl ?_
    refine g_iload_n ok dJ9_floorDiv_7cf53_11 rfl rfl ?_
    refine g_imul ok dJ9_floorDiv_7cf53_12 ?_
    refine g_iload_n ok dJ9_floorDiv_7cf53_13 rfl rfl ?_
    refine g_icmp_eq (tgt := 21) ok dJ9_floorDiv_7cf53_14 (by decide) ⟨by omega, by omega⟩ ⟨by omega, by omega⟩ (fun c3 => ?_) (fun c3 => ?_)
    · skip
      refine g_iload_n ok dJ9_floorDiv_7cf53_21 rfl rfl ?_
      exact g_iret ok hq dJ9_floorDiv_7cf53_22 (ansI (by omega) (by rfl))
    · skip
      refine g_iload_n ok dJ9_floorDiv_7cf53_17 rfl rfl ?_
      refine g_iconst (v := 1) ok dJ9_floorDiv_7cf53_18 (by decide +kernel) ?_
      refine g_isub ok dJ9_floorDiv_7cf53_19 ?_
      exact g_iret ok hq dJ9_floorDiv_7cf53_20 (ansI (by omega) (by rfl))

set_option maxRecDepth 100000 in
set_option maxHeartbeats 4000000 in
theorem c_J6_bitCount_0f7a4 (X : XW) (l : Launch) (σ : Mm) (z1 : Int) (rz1 : R32 z1) : Ct X l yJ6_bitCount_0f7a4 cJ6_bitCount_0f7a4 1 (Option.some FieldType.int) 0 0 σ [.inl z1] (Ans (some (.inl (bcF z1))) (σ)) := by
  refine Ct.introF (own := RJ6) (by decide +kernel) rfl (Nat.le_of_ble_eq_true rfl) (fun M hM ok hq => ?_)
  subst hM
  have rz1l := rz1.1
  have rz1r := rz1.2
  show G X M cJ6_bitCount_0f7a4 1 σ 0 [(0, .inl z1)] []
  refine g_iload_n ok dJ6_bitCount_0f7a4_0 rfl rfl ?_
  refine g_iload_n ok dJ6_bitCount_0f7a4_1 rfl rfl ?_
  refine g_iconst (v := 1) ok dJ6_bitCount_0f7a4_2 (by decide +kernel) ?_
  refine g_iushr ok dJ6_bitCount_0f7a4_3 (fun hb1 => ?_)
  have hb1l := hb1.1
  have hb1r := hb1.2
  refine g_ldcw (v := 1431655765) ok dJ6_bitCount_0f7a4_4 wd3_5 (by decide +kernel) ?_
  refine g_iand ok dJ6_bitCount_0f7a4_7 (fun hb2 => ?_)
  have hb2l := hb2.1
  have hb2r := hb2.2
  refine g_isub ok dJ6_bitCount_0f7a4_8 ?_
  refine g_istore_n ok dJ6_bitCount_0f7a4_9 rfl (Nat.le_of_ble_eq_true rfl) ?_
  refine g_iload_n ok dJ6_bitCount_0f7a4_10 rfl rfl ?_
  refine g_ldcw (v := 858993459) ok dJ6_bitCount_0f7a4_11 wd3_6 (by decide +kernel) ?_
  refine g_iand ok dJ6_bitCount_0f7a4_14 (fun hb3 => ?_)
  have hb3l := hb3.1
  have hb3r := hb3.2
  refine g_iload_n ok dJ6_bitCount_0f7a4_15 rfl rfl ?_
  refine g_iconst (v := 2) ok dJ6_bitCount_0f7a4_16 (by decide +kernel) ?_
  refine g_iushr ok dJ6_bitCount_0f7a4_17 (fun hb4 => ?_)
  have hb4l := hb4.1
  have hb4r := hb4.2
  refine g_ldcw (v := 858993459) ok dJ6_bitCount_0f7a4_18 wd3_6 (by decide +kernel) ?_
  refine g_iand ok dJ6_bitCount_0f7a4_21 (fun hb5 => ?_)
  have hb5l := hb5.1
  have hb5r := hb5.2
  refine g_iadd ok dJ6_bitCount_0f7a4_22 ?_
  refine g_istore_n ok dJ6_bitCount_0f7a4_23 rfl (Nat.le_of_ble_eq_true rfl) ?_
  refine g_iload_n ok dJ6_bitCount_0f7a4_24 rfl rfl ?_
  refine g_iload_n ok dJ6_bitCount_0f7a4_25 rfl rfl ?_
  refine g_iconst (v := 4) ok dJ6_bitCount_0f7a4_26 (by decide +kernel) ?_
  refine g_iushr ok dJ6_bitCount_0f7a4_27 (fun hb6 => ?_)
  have hb6l := hb6.1
  have hb6r := hb6.2
  refine g_iadd ok dJ6_bitCount_0f7a4_28 ?_
  refine g_ldcw (v := 252645135) ok dJ6_bitCount_0f7a4_29 wd3_7 (by decide +kernel) ?_
  refine g_iand ok dJ6_bitCount_0f7a4_32 (fun hb7 => ?_)
  have hb7l := hb7.1
  have hb7r := hb7.2
  refine g_istore_n ok dJ6_bitCount_0f7a4_33 rfl (Nat.le_of_ble_eq_true rfl) ?_
  refine g_iload_n ok dJ6_bitCount_0f7a4_34 rfl rfl ?_
  refine g_iload_n ok dJ6_bitCount_0f7a4_35 rfl rfl ?_
  refine g_bipush (v := 8) ok dJ6_bitCount_0f7a4_36 (by decide +kernel) ?_
  refine g_iushr ok dJ6_bitCount_0f7a4_38 (fun hb8 => ?_)
  have hb8l := hb8.1
  have hb8r := hb8.2
  refine g_iadd ok dJ6_bitCount_0f7a4_39 ?_
  refine g_istore_n ok dJ6_bitCount_0f7a4_40 rfl (Nat.le_of_ble_eq_true rfl) ?_
  refine g_iload_n ok dJ6_bitCount_0f7a4_41 rfl rfl ?_
  refine g_iload_n ok dJ6_bitCount_0f7a4_42 rfl rfl ?_
  refine g_bipush (v := 16) ok dJ6_bitCount_0f7a4_43 (by decide +kernel) ?_
  refine g_iushr ok dJ6_bitCount_0f7a4_45 (fun hb9 => ?_)
  have hb9l := hb9.1
  have hb9r := hb9.2
  refine g_iadd ok dJ6_bitCount_0f7a4_46 ?_
  refine g_istore_n ok dJ6_bitCount_0f7a4_47 rfl (Nat.le_of_ble_eq_true rfl) ?_
  refine g_iload_n ok dJ6_bitCount_0f7a4_48 rfl rfl ?_
  refine g_bipush (v := 63) ok dJ6_bitCount_0f7a4_49 (by decide +kernel) ?_
  refine g_iand ok dJ6_bitCount_0f7a4_51 (fun hb10 => ?_)
  have hb10l := hb10.1
  have hb10r := hb10.2
  exact g_iret ok hq dJ6_bitCount_0f7a4_52 (ansI (by rfl) (by rfl))

set_option maxRecDepth 100000 in
set_option maxHeartbeats 4000000 in
theorem c_X7_within (X : XW) (l : Launch) (σ : Mm) (z1 z2 z3 : Int) (rz1 : R32 z1) (rz2 : R32 z2) (rz3 : R32 z3) : Ct X l yX7_within cX7_within 3 (Option.some FieldType.boolean) 0 0 σ [.inl z1, .inl z2, .inl z3] (Ans (some (.inl (bI (z2 ≤ z1 ∧ z1 ≤ z3)))) (σ)) := by
  refine Ct.intro (own := RX7) (by decide) rfl (Nat.le_of_ble_eq_true rfl) (fun M hM ok hq => ?_)
  subst hM
  have rz1l := rz1.1
  have rz1r := rz1.2
  have rz2l := rz2.1
  have rz2r := rz2.2
  have rz3l := rz3.1
  have rz3r := rz3.2
  show G X M cX7_within 3 σ 0 [(0, .inl z1), (1, .inl z2), (2, .inl z3)] []
  refine g_iload_n ok dX7_within_0 rfl rfl ?_
  refine g_iload_n ok dX7_within_1 rfl rfl ?_
  refine g_icmp_lt (tgt := 14) ok dX7_within_2 (by decide) ⟨by omega, by omega⟩ ⟨by omega, by omega⟩ (fun c1 => ?_) (fun c1 => ?_)
  · skip
    refine g_iconst (v := 0) ok dX7_within_14 (by decide +kernel) ?_
    exact g_zret ok hq dX7_within_15 (by omega) (by omega) (ansI (by first | (rw [bI_t (by omega)]) | (rw [bI_f (by omega)])) (by rfl))
  · skip
    refine g_iload_n ok dX7_within_5 rfl rfl ?_
    refine g_iload_n ok dX7_within_6 rfl rfl ?_
    refine g_icmp_gt (tgt := 14) ok dX7_within_7 (by decide) ⟨by omega, by omega⟩ ⟨by omega, by omega⟩ (fun c2 => ?_) (fun c2 => ?_)
    · skip
      refine g_iconst (v := 0) ok dX7_within_14 (by decide +kernel) ?_
      exact g_zret ok hq dX7_within_15 (by omega) (by omega) (ansI (by first | (rw [bI_t (by omega)]) | (rw [bI_f (by omega)])) (by rfl))
    · skip
      refine g_iconst (v := 1) ok dX7_within_10 (by decide +kernel) ?_
      refine g_goto (tgt := 15) ok dX7_within_11 (by decide) ?_
      exact g_zret ok hq dX7_within_15 (by omega) (by omega) (ansI (by first | (rw [bI_t (by omega)]) | (rw [bI_f (by omega)])) (by rfl))

set_option maxRecDepth 100000 in
set_option maxHeartbeats 4000000 in
theorem c_X7_isAnyStep (X : XW) (l : Launch) (σ : Mm) (z1 : Int) (rz1 : R32 z1) : Ct X l yX7_isAnyStep cX7_isAnyStep 1 (Option.some FieldType.boolean) 1 22 σ [.inl z1] (Ans (some (.inl (bI (0 ≤ z1 ∧ z1 ≤ 35)))) (σ)) := by
  refine Ct.intro (own := RX7) (by decide) rfl (Nat.le_of_ble_eq_true rfl) (fun M hM ok hq => ?_)
  subst hM
  have rz1l := rz1.1
  have rz1r := rz1.2
  show G X M cX7_isAnyStep 1 σ 0 [(0, .inl z1)] []
  refine g_iload_n ok dX7_isAnyStep_0 rfl rfl ?_
  refine g_iconst (v := 0) ok dX7_isAnyStep_1 (by decide +kernel) ?_
  refine g_bipush (v := 35) ok dX7_isAnyStep_2 (by decide +kernel) ?_
  refine g_cS ok dX7_isAnyStep_4 ms_X7_58 (c_X7_within X _ _ _ _ _ ⟨by omega, by omega⟩ ⟨by omega, by omega⟩ ⟨by omega, by omega⟩) rfl (by decide) rfl (Nat.le_of_ble_eq_true rfl) ?_
  exact g_zret ok hq dX7_isAnyStep_7 bI_in.1 bI_in.2 (ansI (by rfl) (by rfl))

set_option maxRecDepth 100000 in
set_option maxHeartbeats 4000000 in
theorem c_X7_isWorld (X : XW) (l : Launch) (σ : Mm) (z1 : Int) (rz1 : R32 z1) : Ct X l yX7_isWorld cX7_isWorld 1 (Option.some FieldType.boolean) 1 22 σ [.inl z1] (Ans (some (.inl (bI (0 ≤ z1 ∧ z1 ≤ 3)))) (σ)) := by
  refine Ct.intro (own := RX7) (by decide) rfl (Nat.le_of_ble_eq_true rfl) (fun M hM ok hq => ?_)
  subst hM
  have rz1l := rz1.1
  have rz1r := rz1.2
  show G X M cX7_isWorld 1 σ 0 [(0, .inl z1)] []
  refine g_iload_n ok dX7_isWorld_0 rfl rfl ?_
  refine g_iconst (v := 0) ok dX7_isWorld_1 (by decide +kernel) ?_
  refine g_iconst (v := 3) ok dX7_isWorld_2 (by decide +kernel) ?_
  refine g_cS ok dX7_isWorld_3 ms_X7_58 (c_X7_within X _ _ _ _ _ ⟨by omega, by omega⟩ ⟨by omega, by omega⟩ ⟨by omega, by omega⟩) rfl (by decide) rfl (Nat.le_of_ble_eq_true rfl) ?_
  exact g_zret ok hq dX7_isWorld_6 bI_in.1 bI_in.2 (ansI (by rfl) (by rfl))

set_option maxRecDepth 100000 in
set_option maxHeartbeats 4000000 in
theorem c_X7_areWorlds (X : XW) (l : Launch) (σ : Mm) (z1 : Int) (rz1 : R32 z1) : Ct X l yX7_areWorlds cX7_areWorlds 1 (Option.some FieldType.boolean) 1 22 σ [.inl z1] (Ans (some (.inl (bI (1 ≤ z1 ∧ z1 ≤ 15)))) (σ)) := by
  refine Ct.intro (own := RX7) (by decide) rfl (Nat.le_of_ble_eq_true rfl) (fun M hM ok hq => ?_)
  subst hM
  have rz1l := rz1.1
  have rz1r := rz1.2
  show G X M cX7_areWorlds 1 σ 0 [(0, .inl z1)] []
  refine g_iload_n ok dX7_areWorlds_0 rfl rfl ?_
  refine g_iconst (v := 1) ok dX7_areWorlds_1 (by decide +kernel) ?_
  refine g_bipush (v := 15) ok dX7_areWorlds_2 (by decide +kernel) ?_
  refine g_cS ok dX7_areWorlds_4 ms_X7_58 (c_X7_within X _ _ _ _ _ ⟨by omega, by omega⟩ ⟨by omega, by omega⟩ ⟨by omega, by omega⟩) rfl (by decide) rfl (Nat.le_of_ble_eq_true rfl) ?_
  exact g_zret ok hq dX7_areWorlds_7 bI_in.1 bI_in.2 (ansI (by rfl) (by rfl))

set_option maxRecDepth 100000 in
set_option maxHeartbeats 4000000 in
theorem c_X7_isBattery (X : XW) (l : Launch) (σ : Mm) (z1 : Int) (rz1 : R32 z1) : Ct X l yX7_isBattery cX7_isBattery 1 (Option.some FieldType.boolean) 1 22 σ [.inl z1] (Ans (some (.inl (bI (0 ≤ z1 ∧ z1 ≤ 3)))) (σ)) := by
  refine Ct.intro (own := RX7) (by decide) rfl (Nat.le_of_ble_eq_true rfl) (fun M hM ok hq => ?_)
  subst hM
  have rz1l := rz1.1
  have rz1r := rz1.2
  show G X M cX7_isBattery 1 σ 0 [(0, .inl z1)] []
  refine g_iload_n ok dX7_isBattery_0 rfl rfl ?_
  refine g_iconst (v := 0) ok dX7_isBattery_1 (by decide +kernel) ?_
  refine g_iconst (v := 3) ok dX7_isBattery_2 (by decide +kernel) ?_
  refine g_cS ok dX7_isBattery_3 ms_X7_58 (c_X7_within X _ _ _ _ _ ⟨by omega, by omega⟩ ⟨by omega, by omega⟩ ⟨by omega, by omega⟩) rfl (by decide) rfl (Nat.le_of_ble_eq_true rfl) ?_
  exact g_zret ok hq dX7_isBattery_6 bI_in.1 bI_in.2 (ansI (by rfl) (by rfl))

set_option maxRecDepth 100000 in
set_option maxHeartbeats 4000000 in
theorem c_X7_isKind (X : XW) (l : Launch) (σ : Mm) (z1 : Int) (rz1 : R32 z1) : Ct X l yX7_isKind cX7_isKind 1 (Option.some FieldType.boolean) 1 22 σ [.inl z1] (Ans (some (.inl (bI (0 ≤ z1 ∧ z1 ≤ 4)))) (σ)) := by
  refine Ct.intro (own := RX7) (by decide) rfl (Nat.le_of_ble_eq_true rfl) (fun M hM ok hq => ?_)
  subst hM
  have rz1l := rz1.1
  have rz1r := rz1.2
  show G X M cX7_isKind 1 σ 0 [(0, .inl z1)] []
  refine g_iload_n ok dX7_isKind_0 rfl rfl ?_
  refine g_iconst (v := 0) ok dX7_isKind_1 (by decide +kernel) ?_
  refine g_iconst (v := 4) ok dX7_isKind_2 (by decide +kernel) ?_
  refine g_cS ok dX7_isKind_3 ms_X7_58 (c_X7_within X _ _ _ _ _ ⟨by omega, by omega⟩ ⟨by omega, by omega⟩ ⟨by omega, by omega⟩) rfl (by decide) rfl (Nat.le_of_ble_eq_true rfl) ?_
  exact g_zret ok hq dX7_isKind_6 bI_in.1 bI_in.2 (ansI (by rfl) (by rfl))

set_option maxRecDepth 100000 in
set_option maxHeartbeats 4000000 in
theorem c_X7_hasWorld (X : XW) (l : Launch) (σ : Mm) (z1 z2 : Int) (rz1 : R32 z1) (rz2 : R32 z2) : Ct X l yX7_hasWorld cX7_hasWorld 2 (Option.some FieldType.boolean) 0 0 σ [.inl z1, .inl z2] (Ans (some (.inl (bI (sel z1 z2 = 1)))) (σ)) := by
  refine Ct.intro (own := RX7) (by decide) rfl (Nat.le_of_ble_eq_true rfl) (fun M hM ok hq => ?_)
  subst hM
  have rz1l := rz1.1
  have rz1r := rz1.2
  have rz2l := rz2.1
  have rz2r := rz2.2
  show G X M cX7_hasWorld 2 σ 0 [(0, .inl z1), (1, .inl z2)] []
  refine g_iload_n ok dX7_hasWorld_0 rfl rfl ?_
  refine g_iload_n ok dX7_hasWorld_1 rfl rfl ?_
  refine g_ishr ok dX7_hasWorld_2 (fun hb1 => ?_)
  have hb1l := hb1.1
  have hb1r := hb1.2
  refine g_iconst (v := 1) ok dX7_hasWorld_3 (by decide +kernel) ?_
  refine g_iand ok dX7_hasWorld_4 (fun hb2 => ?_)
  have hb2l := hb2.1
  have hb2r := hb2.2
  refine g_iconst (v := 1) ok dX7_hasWorld_5 (by decide +kernel) ?_
  refine g_icmp_ne (tgt := 13) ok dX7_hasWorld_6 (by decide) ⟨by omega, by omega⟩ ⟨by omega, by omega⟩ (fun c3 => ?_) (fun c3 => ?_)
  · skip
    refine g_iconst (v := 0) ok dX7_hasWorld_13 (by decide +kernel) ?_
    exact g_zret ok hq dX7_hasWorld_14 (by omega) (by omega) (ansI (by (unfold sel; first | rw [bI_t (by assumption)] | rw [bI_f (by assumption)])) (by rfl))
  · skip
    refine g_iconst (v := 1) ok dX7_hasWorld_9 (by decide +kernel) ?_
    refine g_goto (tgt := 14) ok dX7_hasWorld_10 (by decide) ?_
    exact g_zret ok hq dX7_hasWorld_14 (by omega) (by omega) (ansI (by (unfold sel; first | rw [bI_t (by assumption)] | rw [bI_f (by assumption)])) (by rfl))

set_option maxRecDepth 100000 in
set_option maxHeartbeats 4000000 in
theorem c_X7_areRates (X : XW) (l : Launch) (σ : Mm) (z1 : Int) (rz1 : R32 z1) : Ct X l yX7_areRates cX7_areRates 1 (Option.some FieldType.boolean) 1 22 σ [.inl z1] (Ans (some (.inl (bI ((1 ≤ z1.tdiv 21 ∧ z1.tdiv 21 ≤ 20) ∧ (1 ≤ z1.tmod 21 ∧ z1.tmod 21 ≤ 20))))) (σ)) := by
  refine Ct.intro (own := RX7) (by decide) rfl (Nat.le_of_ble_eq_true rfl) (fun M hM ok hq => ?_)
  subst hM
  have rz1l := rz1.1
  have rz1r := rz1.2
  show G X M cX7_areRates 1 σ 0 [(0, .inl z1)] []
  have e1 : R32 (z1.tdiv 21) := by have := tdivb z1 21 (by omega); omega
  have e2 : R32 (z1.tmod 21) := by have := tmodb z1 21 (by omega); omega
  have e1l := e1.1
  have e1r := e1.2
  have e2l := e2.1
  have e2r := e2.2
  refine g_iload_n ok dX7_areRates_0 rfl rfl ?_
  refine g_bipush (v := 21) ok dX7_areRates_1 (by decide +kernel) ?_
  refine g_idiv ok dX7_areRates_3 ⟨by omega, by omega⟩ ⟨by omega, by omega⟩ (by omega) ?_
  refine g_iconst (v := 1) ok dX7_areRates_4 (by decide +kernel) ?_
  refine g_bipush (v := 20) ok dX7_areRates_5 (by decide +kernel) ?_
  refine g_cS ok dX7_areRates_7 ms_X7_58 (c_X7_within X _ _ _ _ _ ⟨by omega, by omega⟩ ⟨by omega, by omega⟩ ⟨by omega, by omega⟩) rfl (by decide) rfl (Nat.le_of_ble_eq_true rfl) ?_
  refine g_ifb_eq (tgt := 30) ok dX7_areRates_10 (by decide) (fun c1 => ?_) (fun c1 => ?_)
  · skip
    refine g_iconst (v := 0) ok dX7_areRates_30 (by decide +kernel) ?_
    exact g_zret ok hq dX7_areRates_31 (by omega) (by omega) (ansI (by first | (rw [bI_t (by omega)]) | (rw [bI_f (by omega)])) (by rfl))
  · skip
    refine g_iload_n ok dX7_areRates_13 rfl rfl ?_
    refine g_bipush (v := 21) ok dX7_areRates_14 (by decide +kernel) ?_
    refine g_irem ok dX7_areRates_16 ⟨by omega, by omega⟩ ⟨by omega, by omega⟩ (by omega) ?_
    refine g_iconst (v := 1) ok dX7_areRates_17 (by decide +kernel) ?_
    refine g_bipush (v := 20) ok dX7_areRates_18 (by decide +kernel) ?_
    refine g_cS ok dX7_areRates_20 ms_X7_58 (c_X7_within X _ _ _ _ _ ⟨by omega, by omega⟩ ⟨by omega, by omega⟩ ⟨by omega, by omega⟩) rfl (by decide) rfl (Nat.le_of_ble_eq_true rfl) ?_
    refine g_ifb_eq (tgt := 30) ok dX7_areRates_23 (by decide) (fun c2 => ?_) (fun c2 => ?_)
    · skip
      refine g_iconst (v := 0) ok dX7_areRates_30 (by decide +kernel) ?_
      exact g_zret ok hq dX7_areRates_31 (by omega) (by omega) (ansI (by first | (rw [bI_t (by omega)]) | (rw [bI_f (by omega)])) (by rfl))
    · skip
      refine g_iconst (v := 1) ok dX7_areRates_26 (by decide +kernel) ?_
      refine g_goto (tgt := 31) ok dX7_areRates_27 (by decide) ?_
      exact g_zret ok hq dX7_areRates_31 (by omega) (by omega) (ansI (by first | (rw [bI_t (by omega)]) | (rw [bI_f (by omega)])) (by rfl))

set_option maxRecDepth 100000 in
set_option maxHeartbeats 4000000 in
theorem c_X7_oneIf (X : XW) (l : Launch) (σ : Mm) (z1 : Int) (b0 : 0 ≤ z1) (b1 : z1 ≤ 1) : Ct X l yX7_oneIf cX7_oneIf 1 (Option.some FieldType.long) 0 0 σ [.inl z1] (Ans (some (.inr (.inl (z1)))) (σ)) := by
  refine Ct.intro (own := RX7) (by decide) rfl (Nat.le_of_ble_eq_true rfl) (fun M hM ok hq => ?_)
  subst hM
  show G X M cX7_oneIf 1 σ 0 [(0, .inl z1)] []
  refine g_iload_n ok dX7_oneIf_0 rfl rfl ?_
  refine g_if_eq (tgt := 8) ok dX7_oneIf_1 (by decide) ⟨by omega, by omega⟩ (fun c1 => ?_) (fun c1 => ?_)
  · skip
    refine g_lconst (v := 0) ok dX7_oneIf_8 (by decide +kernel) ?_
    exact g_lret ok hq dX7_oneIf_9 (ansL (by omega) (by rfl))
  · skip
    refine g_lconst (v := 1) ok dX7_oneIf_4 (by decide +kernel) ?_
    refine g_goto (tgt := 9) ok dX7_oneIf_5 (by decide) ?_
    exact g_lret ok hq dX7_oneIf_9 (ansL (by omega) (by rfl))

set_option maxRecDepth 100000 in
set_option maxHeartbeats 4000000 in
theorem c_X7_isStepNow (X : XW) (l : Launch) (σ : Mm) (z1 : Int) (rz1 : R32 z1) (hT : CT σ) : Ct X l yX7_isStepNow cX7_isStepNow 2 (Option.some FieldType.boolean) 1 22 σ [.inr (.inr (0, 0)), .inl z1] (Ans (some (.inl (bI (0 ≤ z1 ∧ z1 ≤ σ 1 0 0 - 1)))) (σ)) := by
  refine Ct.intro (own := RX7) (by decide) rfl (Nat.le_of_ble_eq_true rfl) (fun M hM ok hq => ?_)
  subst hM
  have rz1l := rz1.1
  have rz1r := rz1.2
  show G X M cX7_isStepNow 2 σ 0 [(0, .inr (.inr (0, 0))), (1, .inl z1)] []
  have aT := hT.1
  have aT2 := hT.2
  refine g_iload_n ok dX7_isStepNow_0 rfl rfl ?_
  refine g_iconst (v := 0) ok dX7_isStepNow_1 (by decide +kernel) ?_
  refine g_aload_n ok dX7_isStepNow_2 rfl rfl ?_
  refine g_getr ok dX7_isStepNow_3 fl_X7_12 (Vd.one rfl) rfl rfl ?_
  refine g_geti (z := 0) ok dX7_isStepNow_6 fl_X7_68 (Vd.one rfl) rfl rfl rfl (fun h1 h2 => ?_)
  refine g_iconst (v := 1) ok dX7_isStepNow_9 (by decide +kernel) ?_
  refine g_isub ok dX7_isStepNow_10 ?_
  refine g_cS ok dX7_isStepNow_11 ms_X7_58 (c_X7_within X _ _ _ _ _ ⟨by omega, by omega⟩ ⟨by omega, by omega⟩ ⟨by omega, by omega⟩) rfl (by decide) rfl (Nat.le_of_ble_eq_true rfl) ?_
  exact g_zret ok hq dX7_isStepNow_14 bI_in.1 bI_in.2 (ansI (by rfl) (by rfl))

set_option maxRecDepth 100000 in
set_option maxHeartbeats 4000000 in
theorem c_X7_refusal (X : XW) (l : Launch) (σ : Mm) (z1 z2 : Int) (rz1 : R32 z1) (b0 : 0 ≤ z2) (b1 : z2 ≤ 1) : Ct X l yX7_refusal cX7_refusal 3 (Option.some FieldType.long) 2 42 σ [.inr (.inr (0, 0)), .inl z1, .inl z2] (P3 σ (¬ (0 ≤ z1 ∧ z1 ≤ 3) ∨ z2 = 0) (((0 ≤ z1 ∧ z1 ≤ 3) ∧ ¬ z2 = 0) ∧ σ 8 z1 0 = 0) (((0 ≤ z1 ∧ z1 ≤ 3) ∧ ¬ z2 = 0) ∧ ¬ σ 8 z1 0 = 0) (.inr (.inl (-9000000000000000001))) (.inr (.inl (-9000000000000000002))) (.inr (.inl 0))) := by
  refine Ct.intro (own := RX7) (by decide) rfl (Nat.le_of_ble_eq_true rfl) (fun M hM ok hq => ?_)
  subst hM
  have rz1l := rz1.1
  have rz1r := rz1.2
  show G X M cX7_refusal 3 σ 0 [(0, .inr (.inr (0, 0))), (1, .inl z1), (2, .inl z2)] []
  refine g_iload_n ok dX7_refusal_0 rfl rfl ?_
  refine g_cS ok dX7_refusal_1 ms_X7_138 (c_X7_isBattery X _ _ _ ⟨by omega, by omega⟩) rfl (by decide) rfl (Nat.le_of_ble_eq_true rfl) ?_
  refine g_ifb_eq (tgt := 11) ok dX7_refusal_4 (by decide) (fun c1 => ?_) (fun c1 => ?_)
  · skip
    refine g_ldc2 (v := -9000000000000000001) ok dX7_refusal_11 wd2_31 (by decide +kernel) ?_
    exact g_lret ok hq dX7_refusal_14 (by exact ⟨rfl, by first | exact Or.inl ⟨by omega, rfl⟩ | exact Or.inr (Or.inl ⟨by omega, rfl⟩) | exact Or.inr (Or.inr ⟨by omega, rfl⟩)⟩)
  · skip
    refine g_iload_n ok dX7_refusal_7 rfl rfl ?_
    refine g_if_ne (tgt := 15) ok dX7_refusal_8 (by decide) ⟨by omega, by omega⟩ (fun c2 => ?_) (fun c2 => ?_)
    · skip
      refine g_aload_n ok dX7_refusal_15 rfl rfl ?_
      refine g_getr ok dX7_refusal_16 fl_X7_25 (Vd.one rfl) rfl rfl ?_
      refine g_iload_n ok dX7_refusal_19 rfl rfl ?_
      refine g_aald ok dX7_refusal_20 (Vd.one rfl) (fun _ => rfl) ⟨by omega, by omega⟩ rfl ?_
      refine g_getz (z := 0) ok dX7_refusal_21 fl_X7_274 (Vd.four rfl (by omega) (by omega)) rfl rfl rfl (fun h3 h4 => ?_)
      refine g_if_eq (tgt := 31) ok dX7_refusal_24 (by decide) ⟨by omega, by omega⟩ (fun c5 => ?_) (fun c5 => ?_)
      · skip
        refine g_ldc2 (v := -9000000000000000002) ok dX7_refusal_31 wd2_86 (by decide +kernel) ?_
        exact g_lret ok hq dX7_refusal_34 (by exact ⟨rfl, by first | exact Or.inl ⟨by omega, rfl⟩ | exact Or.inr (Or.inl ⟨by omega, rfl⟩) | exact Or.inr (Or.inr ⟨by omega, rfl⟩)⟩)
      · skip
        refine g_lconst (v := 0) ok dX7_refusal_27 (by decide +kernel) ?_
        refine g_goto (tgt := 34) ok dX7_refusal_28 (by decide) ?_
        exact g_lret ok hq dX7_refusal_34 (by exact ⟨rfl, by first | exact Or.inl ⟨by omega, rfl⟩ | exact Or.inr (Or.inl ⟨by omega, rfl⟩) | exact Or.inr (Or.inr ⟨by omega, rfl⟩)⟩)
    · skip
      refine g_ldc2 (v := -9000000000000000001) ok dX7_refusal_11 wd2_31 (by decide +kernel) ?_
      exact g_lret ok hq dX7_refusal_14 (by exact ⟨rfl, by first | exact Or.inl ⟨by omega, rfl⟩ | exact Or.inr (Or.inl ⟨by omega, rfl⟩) | exact Or.inr (Or.inr ⟨by omega, rfl⟩)⟩)

set_option maxRecDepth 100000 in
set_option maxHeartbeats 4000000 in
theorem c_X7_storesThere (X : XW) (l : Launch) (σ : Mm)   : Ct X l yX7_storesThere cX7_storesThere 3 (Option.some FieldType.int) 0 0 σ [.inr (.inr (0, 0))] (Ans (some (.inl (sm (fun k => if σ 8 k 0 = 0 then 0 else 1) 4))) (σ)) := by
  refine Ct.intro (own := RX7) (by decide) rfl (Nat.le_of_ble_eq_true rfl) (fun M hM ok hq => ?_)
  subst hM
  show G X M cX7_storesThere 3 σ 0 [(0, .inr (.inr (0, 0)))] []
  refine g_iconst (v := 0) ok dX7_storesThere_0 (by decide +kernel) ?_
  refine g_istore_n ok dX7_storesThere_1 rfl (Nat.le_of_ble_eq_true rfl) ?_
  refine g_iconst (v := 0) ok dX7_storesThere_2 (by decide +kernel) ?_
  refine g_istore_n ok dX7_storesThere_3 rfl (Nat.le_of_ble_eq_true rfl) ?_
  have L4 : ∀ (n : Nat) (k : Int) (c : Int), (0 ≤ k) → (k ≤ 4) → (c = sm (fun k => if σ 8 k 0 = 0 then 0 else 1) k) → (0 ≤ c ∧ c ≤ k) → (4 - k < n) → G X M cX7_storesThere 3 σ 4 [(0, .inr (.inr (0, 0))), (1, .inl c), (2, .inl k)] [] := by
    intro n
    induction n with
    | zero => intro k c hk0 hk1 hc hb hm; exact absurd hm (by omega)
    | succ n L4ih =>
      intro k c hk0 hk1 hc hb hm
      refine g_iload_n ok dX7_storesThere_4 rfl rfl ?_
      refine g_iconst (v := 4) ok dX7_storesThere_5 (by decide +kernel) ?_
      refine g_icmp_ge (tgt := 35) ok dX7_storesThere_6 (by decide) ⟨by omega, by omega⟩ ⟨by omega, by omega⟩ (fun c1 => ?_) (fun c1 => ?_)
      · skip
        refine g_iload_n ok dX7_storesThere_35 rfl rfl ?_
        exact g_iret ok hq dX7_storesThere_36 (ansI (by (rw [hc, show k = 4 by omega])) (by rfl))
      · skip
        refine g_iload_n ok dX7_storesThere_9 rfl rfl ?_
        refine g_aload_n ok dX7_storesThere_10 rfl rfl ?_
        refine g_getr ok dX7_storesThere_11 fl_X7_25 (Vd.one rfl) rfl rfl ?_
        refine g_iload_n ok dX7_storesThere_14 rfl rfl ?_
        refine g_aald ok dX7_storesThere_15 (Vd.one rfl) (fun _ => rfl) ⟨by omega, by omega⟩ rfl ?_
        refine g_getz (z := 0) ok dX7_storesThere_16 fl_X7_274 (Vd.four rfl (by omega) (by omega)) rfl rfl rfl (fun h2 h3 => ?_)
        refine g_if_eq (tgt := 26) ok dX7_storesThere_19 (by decide) ⟨by omega, by omega⟩ (fun c4 => ?_) (fun c4 => ?_)
        · skip
          refine g_iconst (v := 0) ok dX7_storesThere_26 (by decide +kernel) ?_
          refine g_iadd ok dX7_storesThere_27 ?_
          refine g_istore_n ok dX7_storesThere_28 rfl (Nat.le_of_ble_eq_true rfl) ?_
          refine g_iinc ok dX7_storesThere_29 rfl rfl (Nat.le_of_ble_eq_true rfl) ?_
          refine g_goto (tgt := 4) ok dX7_storesThere_32 (by decide) ?_
          refine G.norm [(0, .inr (.inr (0, 0))), (1, .inl _), (2, .inl _)] ⟨rfl, rfl, rfl, trivial⟩ (L4ih _ _ ?_ ?_ ?_ ?_ ?_)
          · omega
          · omega
          · (rw [sm_s hk0, hc]; (try dsimp only); first | rw [if_pos (by omega)] | rw [if_neg (by omega)])
          · omega
          · omega
        · skip
          refine g_iconst (v := 1) ok dX7_storesThere_22 (by decide +kernel) ?_
          refine g_goto (tgt := 27) ok dX7_storesThere_23 (by decide) ?_
          refine g_iadd ok dX7_storesThere_27 ?_
          refine g_istore_n ok dX7_storesThere_28 rfl (Nat.le_of_ble_eq_true rfl) ?_
          refine g_iinc ok dX7_storesThere_29 rfl rfl (Nat.le_of_ble_eq_true rfl) ?_
          refine g_goto (tgt := 4) ok dX7_storesThere_32 (by decide) ?_
          refine G.norm [(0, .inr (.inr (0, 0))), (1, .inl _), (2, .inl _)] ⟨rfl, rfl, rfl, trivial⟩ (L4ih _ _ ?_ ?_ ?_ ?_ ?_)
          · omega
          · omega
          · (rw [sm_s hk0, hc]; (try dsimp only); first | rw [if_pos (by omega)] | rw [if_neg (by omega)])
          · omega
          · omega
  refine G.norm [(0, .inr (.inr (0, 0))), (1, .inl _), (2, .inl _)] ⟨rfl, rfl, rfl, trivial⟩ (L4 (5 : Nat) _ _ ?_ ?_ ?_ ?_ ?_)
  · omega
  · omega
  · rfl
  · omega
  · omega

set_option maxRecDepth 100000 in
set_option maxHeartbeats 4000000 in
theorem c_X7_worldsThere (X : XW) (l : Launch) (σ : Mm)   : Ct X l yX7_worldsThere cX7_worldsThere 3 (Option.some FieldType.int) 0 0 σ [.inr (.inr (0, 0))] (Ans (some (.inl (sm (fun k => if σ 6 k 0 = 0 then 0 else 1) 4))) (σ)) := by
  refine Ct.intro (own := RX7) (by decide) rfl (Nat.le_of_ble_eq_true rfl) (fun M hM ok hq => ?_)
  subst hM
  show G X M cX7_worldsThere 3 σ 0 [(0, .inr (.inr (0, 0)))] []
  refine g_iconst (v := 0) ok dX7_worldsThere_0 (by decide +kernel) ?_
  refine g_istore_n ok dX7_worldsThere_1 rfl (Nat.le_of_ble_eq_true rfl) ?_
  refine g_iconst (v := 0) ok dX7_worldsThere_2 (by decide +kernel) ?_
  refine g_istore_n ok dX7_worldsThere_3 rfl (Nat.le_of_ble_eq_true rfl) ?_
  have L4 : ∀ (n : Nat) (k : Int) (c : Int), (0 ≤ k) → (k ≤ 4) → (c = sm (fun k => if σ 6 k 0 = 0 then 0 else 1) k) → (0 ≤ c ∧ c ≤ k) → (4 - k < n) → G X M cX7_worldsThere 3 σ 4 [(0, .inr (.inr (0, 0))), (1, .inl c), (2, .inl k)] [] := by
    intro n
    induction n with
    | zero => intro k c hk0 hk1 hc hb hm; exact absurd hm (by omega)
    | succ n L4ih =>
      intro k c hk0 hk1 hc hb hm
      refine g_iload_n ok dX7_worldsThere_4 rfl rfl ?_
      refine g_iconst (v := 4) ok dX7_worldsThere_5 (by decide +kernel) ?_
      refine g_icmp_ge (tgt := 35) ok dX7_worldsThere_6 (by decide) ⟨by omega, by omega⟩ ⟨by omega, by omega⟩ (fun c1 => ?_) (fun c1 => ?_)
      · skip
        refine g_iload_n ok dX7_worldsThere_35 rfl rfl ?_
        exact g_iret ok hq dX7_worldsThere_36 (ansI (by (rw [hc, show k = 4 by omega])) (by rfl))
      · skip
        refine g_iload_n ok dX7_worldsThere_9 rfl rfl ?_
        refine g_aload_n ok dX7_worldsThere_10 rfl rfl ?_
        refine g_getr ok dX7_worldsThere_11 fl_X7_18 (Vd.one rfl) rfl rfl ?_
        refine g_iload_n ok dX7_worldsThere_14 rfl rfl ?_
        refine g_aald ok dX7_worldsThere_15 (Vd.one rfl) (fun _ => rfl) ⟨by omega, by omega⟩ rfl ?_
        refine g_getz (z := 0) ok dX7_worldsThere_16 fl_X7_102 (Vd.four rfl (by omega) (by omega)) rfl rfl rfl (fun h2 h3 => ?_)
        refine g_if_eq (tgt := 26) ok dX7_worldsThere_19 (by decide) ⟨by omega, by omega⟩ (fun c4 => ?_) (fun c4 => ?_)
        · skip
          refine g_iconst (v := 0) ok dX7_worldsThere_26 (by decide +kernel) ?_
          refine g_iadd ok dX7_worldsThere_27 ?_
          refine g_istore_n ok dX7_worldsThere_28 rfl (Nat.le_of_ble_eq_true rfl) ?_
          refine g_iinc ok dX7_worldsThere_29 rfl rfl (Nat.le_of_ble_eq_true rfl) ?_
          refine g_goto (tgt := 4) ok dX7_worldsThere_32 (by decide) ?_
          refine G.norm [(0, .inr (.inr (0, 0))), (1, .inl _), (2, .inl _)] ⟨rfl, rfl, rfl, trivial⟩ (L4ih _ _ ?_ ?_ ?_ ?_ ?_)
          · omega
          · omega
          · (rw [sm_s hk0, hc]; (try dsimp only); first | rw [if_pos (by omega)] | rw [if_neg (by omega)])
          · omega
          · omega
        · skip
          refine g_iconst (v := 1) ok dX7_worldsThere_22 (by decide +kernel) ?_
          refine g_goto (tgt := 27) ok dX7_worldsThere_23 (by decide) ?_
          refine g_iadd ok dX7_worldsThere_27 ?_
          refine g_istore_n ok dX7_worldsThere_28 rfl (Nat.le_of_ble_eq_true rfl) ?_
          refine g_iinc ok dX7_worldsThere_29 rfl rfl (Nat.le_of_ble_eq_true rfl) ?_
          refine g_goto (tgt := 4) ok dX7_worldsThere_32 (by decide) ?_
          refine G.norm [(0, .inr (.inr (0, 0))), (1, .inl _), (2, .inl _)] ⟨rfl, rfl, rfl, trivial⟩ (L4ih _ _ ?_ ?_ ?_ ?_ ?_)
          · omega
          · omega
          · (rw [sm_s hk0, hc]; (try dsimp only); first | rw [if_pos (by omega)] | rw [if_neg (by omega)])
          · omega
          · omega
  refine G.norm [(0, .inr (.inr (0, 0))), (1, .inl _), (2, .inl _)] ⟨rfl, rfl, rfl, trivial⟩ (L4 (5 : Nat) _ _ ?_ ?_ ?_ ?_ ?_)
  · omega
  · omega
  · rfl
  · omega
  · omega

set_option maxRecDepth 100000 in
set_option maxHeartbeats 4000000 in
theorem c_X6_renew (X : XW) (l : Launch) (σ : Mm) (i z1 z2 : Int) (b0 : 0 ≤ i) (b1 : i < 4) (rz1 : R32 z1) (rz2 : R32 z2) : Ct X l yX6_renew cX6_renew 3 (Option.none : Option FieldType) 1 23 σ [.inr (.inr (6, i)), .inl z1, .inl z2] (Ans none (nwP σ i z1 z2)) := by
  refine Ct.intro (own := RX6) (by decide) rfl (Nat.le_of_ble_eq_true rfl) (fun M hM ok hq => ?_)
  subst hM
  have rz1l := rz1.1
  have rz1r := rz1.2
  have rz2l := rz2.1
  have rz2r := rz2.2
  show G X M cX6_renew 3 σ 0 [(0, .inr (.inr (6, i))), (1, .inl z1), (2, .inl z2)] []
  refine g_aload_n ok dX6_renew_0 rfl rfl ?_
  refine g_iconst (v := 1) ok dX6_renew_1 (by decide +kernel) ?_
  refine g_putz (z := 0) ok dX6_renew_2 fw_X6_15 (Vd.four rfl (by omega) (by omega)) rfl rfl (Nat.le_of_ble_eq_true rfl) rfl (by omega) (by omega) ?_
  refine g_aload_n ok dX6_renew_5 rfl rfl ?_
  refine g_iload_n ok dX6_renew_6 rfl rfl ?_
  refine g_puti (z := 1) ok dX6_renew_7 fw_X6_19 (Vd.four rfl (by omega) (by omega)) rfl rfl (Nat.le_of_ble_eq_true rfl) rfl ⟨by omega, by omega⟩ ?_
  refine g_aload_n ok dX6_renew_10 rfl rfl ?_
  refine g_iload_n ok dX6_renew_11 rfl rfl ?_
  refine g_puti (z := 2) ok dX6_renew_12 fw_X6_23 (Vd.four rfl (by omega) (by omega)) rfl rfl (Nat.le_of_ble_eq_true rfl) rfl ⟨by omega, by omega⟩ ?_
  refine g_aload_n ok dX6_renew_15 rfl rfl ?_
  refine g_getr ok dX6_renew_16 fl_X6_9 (Vd.four rfl (by omega) (by omega)) rfl rfl ?_
  refine g_iconst (v := 0) ok dX6_renew_19 (by decide +kernel) ?_
  refine g_cS0 ok dX6_renew_20 ms_X6_26 (c_J7_fill_53178 X _ _ _ _ _ _ (Vd.four rfl (by omega) (by omega)) (fun _ => rfl) (fun _ => rfl) (by decide) ⟨by omega, by omega⟩) rfl (by decide) rfl (Nat.le_of_ble_eq_true rfl) ?_
  exact g_vret ok hq dX6_renew_23 (ansV (by rfl))

set_option maxRecDepth 100000 in
set_option maxHeartbeats 4000000 in
theorem c_X6_priceOf (X : XW) (l : Launch) (σ : Mm) (i z1 : Int) (b0 : 0 ≤ i) (b1 : i < 4) (rz1 : R32 z1) (hP : CP σ) : Ct X l yX6_priceOf cX6_priceOf 2 (Option.some FieldType.int) 1 22 σ [.inr (.inr (6, i)), .inl z1] (Ans (some (.inl (pC σ i z1))) (σ)) := by
  refine Ct.intro (own := RX6) (by decide) rfl (Nat.le_of_ble_eq_true rfl) (fun M hM ok hq => ?_)
  subst hM
  have rz1l := rz1.1
  have rz1r := rz1.2
  show G X M cX6_priceOf 2 σ 0 [(0, .inr (.inr (6, i))), (1, .inl z1)] []
  have aP := hP i
  refine g_aload_n ok dX6_priceOf_0 rfl rfl ?_
  refine g_getz (z := 0) ok dX6_priceOf_1 fl_X6_15 (Vd.four rfl (by omega) (by omega)) rfl rfl rfl (fun h1 h2 => ?_)
  refine g_if_eq (tgt := 30) ok dX6_priceOf_4 (by decide) ⟨by omega, by omega⟩ (fun c3 => ?_) (fun c3 => ?_)
  · skip
    refine g_iconst (v := 0) ok dX6_priceOf_30 (by decide +kernel) ?_
    exact g_iret ok hq dX6_priceOf_31 (ansI (by (simp only [pC, BAD, NO, FULL, NONE, NOTHING, INDEX, SIZE] <;> (repeat (first | rw [if_pos (by omega)] | rw [if_neg (by omega)])) <;> omega)) (by rfl))
  · skip
    refine g_iload_n ok dX6_priceOf_7 rfl rfl ?_
    refine g_iconst (v := 0) ok dX6_priceOf_8 (by decide +kernel) ?_
    refine g_aload_n ok dX6_priceOf_9 rfl rfl ?_
    refine g_geti (z := 2) ok dX6_priceOf_10 fl_X6_23 (Vd.four rfl (by omega) (by omega)) rfl rfl rfl (fun h4 h5 => ?_)
    refine g_iconst (v := 1) ok dX6_priceOf_13 (by decide +kernel) ?_
    refine g_isub ok dX6_priceOf_14 ?_
    refine g_cN ok dX6_priceOf_15 mn_X6_35 (c_X7_within X _ _ _ _ _ ⟨by omega, by omega⟩ ⟨by omega, by omega⟩ ⟨by omega, by omega⟩) rfl (by decide) rfl (Nat.le_of_ble_eq_true rfl) ?_
    refine g_ifb_eq (tgt := 30) ok dX6_priceOf_18 (by decide) (fun c6 => ?_) (fun c6 => ?_)
    · skip
      refine g_iconst (v := 0) ok dX6_priceOf_30 (by decide +kernel) ?_
      exact g_iret ok hq dX6_priceOf_31 (ansI (by (simp only [pC, BAD, NO, FULL, NONE, NOTHING, INDEX, SIZE] <;> (repeat (first | rw [if_pos (by omega)] | rw [if_neg (by omega)])) <;> omega)) (by rfl))
    · skip
      refine g_aload_n ok dX6_priceOf_21 rfl rfl ?_
      refine g_getr ok dX6_priceOf_22 fl_X6_9 (Vd.four rfl (by omega) (by omega)) rfl rfl ?_
      refine g_iload_n ok dX6_priceOf_25 rfl rfl ?_
      refine g_iald ok dX6_priceOf_26 (Vd.four rfl (by omega) (by omega)) (fun _ => rfl) ⟨by omega, by omega⟩ (by decide) rfl (fun h7 h8 => ?_)
      refine g_goto (tgt := 31) ok dX6_priceOf_27 (by decide) ?_
      exact g_iret ok hq dX6_priceOf_31 (ansI (by (simp only [pC, BAD, NO, FULL, NONE, NOTHING, INDEX, SIZE] <;> (repeat (first | rw [if_pos (by omega)] | rw [if_neg (by omega)])) <;> omega)) (by rfl))

set_option maxRecDepth 100000 in
set_option maxHeartbeats 4000000 in
theorem c_X6_fits (X : XW) (l : Launch) (σ : Mm) (i z1 : Int) (b0 : 0 ≤ i) (b1 : i < 4) (rz1 : R32 z1) (hP : CP σ) : Ct X l yX6_fits cX6_fits 2 (Option.some FieldType.boolean) 1 22 σ [.inr (.inr (6, i)), .inl z1] (Ans (some (.inl (bI (-limZ (σ 6 i 1) ≤ z1 ∧ z1 ≤ limZ (σ 6 i 1))))) (σ)) := by
  refine Ct.intro (own := RX6) (by decide) rfl (Nat.le_of_ble_eq_true rfl) (fun M hM ok hq => ?_)
  subst hM
  have rz1l := rz1.1
  have rz1r := rz1.2
  show G X M cX6_fits 2 σ 0 [(0, .inr (.inr (6, i))), (1, .inl z1)] []
  have aP := hP i
  have aL := limZ_b (σ 6 i 1)
  refine g_iload_n ok dX6_fits_0 rfl rfl ?_
  refine g_limN ok dX6_fits_1 ?_
  refine g_aload_n ok dX6_fits_4 rfl rfl ?_
  refine g_geti (z := 1) ok dX6_fits_5 fl_X6_19 (Vd.four rfl (by omega) (by omega)) rfl rfl rfl (fun h1 h2 => ?_)
  refine g_limAt ok dX6_fits_8 ⟨by omega, by omega⟩ ?_
  refine g_ineg ok dX6_fits_9 ?_
  refine g_limN ok dX6_fits_10 ?_
  refine g_aload_n ok dX6_fits_13 rfl rfl ?_
  refine g_geti (z := 1) ok dX6_fits_14 fl_X6_19 (Vd.four rfl (by omega) (by omega)) rfl rfl rfl (fun h3 h4 => ?_)
  refine g_limAt ok dX6_fits_17 ⟨by omega, by omega⟩ ?_
  refine g_cN ok dX6_fits_18 mn_X6_35 (c_X7_within X _ _ _ _ _ ⟨by omega, by omega⟩ ⟨by omega, by omega⟩ ⟨by omega, by omega⟩) rfl (by decide) rfl (Nat.le_of_ble_eq_true rfl) ?_
  exact g_zret ok hq dX6_fits_21 bI_in.1 bI_in.2 (ansI (by rfl) (by rfl))

set_option maxRecDepth 100000 in
set_option maxHeartbeats 4000000 in
theorem c_X6_hasRun (X : XW) (l : Launch) (σ : Mm) (i z1 z2 : Int) (b0 : 0 ≤ i) (b1 : i < 4) (rz1 : R32 z1) (rz2 : R32 z2) (hP : CP σ) : Ct X l yX6_hasRun cX6_hasRun 3 (Option.some FieldType.boolean) 1 22 σ [.inr (.inr (6, i)), .inl z1, .inl z2] (Ans (some (.inl (bI (hrC σ i z1 z2)))) (σ)) := by
  refine Ct.intro (own := RX6) (by decide) rfl (Nat.le_of_ble_eq_true rfl) (fun M hM ok hq => ?_)
  subst hM
  have rz1l := rz1.1
  have rz1r := rz1.2
  have rz2l := rz2.1
  have rz2r := rz2.2
  show G X M cX6_hasRun 3 σ 0 [(0, .inr (.inr (6, i))), (1, .inl z1), (2, .inl z2)] []
  have aP := hP i
  refine g_iload_n ok dX6_hasRun_0 rfl rfl ?_
  refine g_iconst (v := 0) ok dX6_hasRun_1 (by decide +kernel) ?_
  refine g_aload_n ok dX6_hasRun_2 rfl rfl ?_
  refine g_geti (z := 2) ok dX6_hasRun_3 fl_X6_23 (Vd.four rfl (by omega) (by omega)) rfl rfl rfl (fun h1 h2 => ?_)
  refine g_cN ok dX6_hasRun_6 mn_X6_35 (c_X7_within X _ _ _ _ _ ⟨by omega, by omega⟩ ⟨by omega, by omega⟩ ⟨by omega, by omega⟩) rfl (by decide) rfl (Nat.le_of_ble_eq_true rfl) ?_
  refine g_ifb_eq (tgt := 30) ok dX6_hasRun_9 (by decide) (fun c3 => ?_) (fun c3 => ?_)
  · skip
    refine g_iconst (v := 0) ok dX6_hasRun_30 (by decide +kernel) ?_
    exact g_zret ok hq dX6_hasRun_31 (by omega) (by omega) (ansI (by first | (rw [bI_t (by unfold hrC; omega)]) | (rw [bI_f (by unfold hrC; omega)])) (by rfl))
  · skip
    refine g_iload_n ok dX6_hasRun_12 rfl rfl ?_
    refine g_iconst (v := 0) ok dX6_hasRun_13 (by decide +kernel) ?_
    refine g_aload_n ok dX6_hasRun_14 rfl rfl ?_
    refine g_geti (z := 2) ok dX6_hasRun_15 fl_X6_23 (Vd.four rfl (by omega) (by omega)) rfl rfl rfl (fun h4 h5 => ?_)
    refine g_iload_n ok dX6_hasRun_18 rfl rfl ?_
    refine g_isub ok dX6_hasRun_19 ?_
    refine g_cN ok dX6_hasRun_20 mn_X6_35 (c_X7_within X _ _ _ _ _ ⟨by omega, by omega⟩ ⟨by omega, by omega⟩ ⟨by omega, by omega⟩) rfl (by decide) rfl (Nat.le_of_ble_eq_true rfl) ?_
    refine g_ifb_eq (tgt := 30) ok dX6_hasRun_23 (by decide) (fun c6 => ?_) (fun c6 => ?_)
    · skip
      refine g_iconst (v := 0) ok dX6_hasRun_30 (by decide +kernel) ?_
      exact g_zret ok hq dX6_hasRun_31 (by omega) (by omega) (ansI (by first | (rw [bI_t (by unfold hrC; omega)]) | (rw [bI_f (by unfold hrC; omega)])) (by rfl))
    · skip
      refine g_iconst (v := 1) ok dX6_hasRun_26 (by decide +kernel) ?_
      refine g_goto (tgt := 31) ok dX6_hasRun_27 (by decide) ?_
      exact g_zret ok hq dX6_hasRun_31 (by omega) (by omega) (ansI (by first | (rw [bI_t (by unfold hrC; omega)]) | (rw [bI_f (by unfold hrC; omega)])) (by rfl))

set_option maxRecDepth 100000 in
set_option maxHeartbeats 4000000 in
theorem c_X0_isA (X : XW) (l : Launch) (σ : Mm) (i z1 : Int) (b0 : 0 ≤ i) (b1 : i < 4) (rz1 : R32 z1) : Ct X l yX0_isA cX0_isA 2 (Option.some FieldType.boolean) 0 0 σ [.inr (.inr (8, i)), .inl z1] (Ans (some (.inl (bI (z1 = 0 ∨ (z1 = 1 ∧ (σ 8 i 1 = 1 ∨ σ 8 i 1 = 2)) ∨ (z1 = 3 ∧ (σ 8 i 1 = 3 ∨ σ 8 i 1 = 4)) ∨ (z1 ≠ 0 ∧ z1 ≠ 1 ∧ z1 ≠ 3 ∧ σ 8 i 1 = z1))))) (σ)) := by
  refine Ct.intro (own := RX0) (by decide) rfl (Nat.le_of_ble_eq_true rfl) (fun M hM ok hq => ?_)
  subst hM
  have rz1l := rz1.1
  have rz1r := rz1.2
  show G X M cX0_isA 2 σ 0 [(0, .inr (.inr (8, i))), (1, .inl z1)] []
  refine g_iload_n ok dX0_isA_0 rfl rfl ?_
  rcases (show z1 = 0 ∨ z1 = 1 ∨ z1 = 2 ∨ z1 = 3 ∨ (z1 < 0 ∨ 3 < z1) by omega) with w1 | w1 | w1 | w1 | w1
  · skip
    refine g_tabIn (tgt := 32) ok dX0_isA_1 ⟨by omega, by omega⟩ (by omega) (by omega) (off := 31) (by rw [w1]; rfl) (by decide) ?_
    refine g_iconst (v := 1) ok dX0_isA_32 (by decide +kernel) ?_
    exact g_zret ok hq dX0_isA_33 (by omega) (by omega) (ansI (by first | (rw [bI_t (by omega)]) | (rw [bI_f (by omega)])) (by rfl))
  · skip
    refine g_tabIn (tgt := 34) ok dX0_isA_1 ⟨by omega, by omega⟩ (by omega) (by omega) (off := 33) (by rw [w1]; rfl) (by decide) ?_
    refine g_aload_n ok dX0_isA_34 rfl rfl ?_
    refine g_geti (z := 1) ok dX0_isA_35 fl_X0_19 (Vd.four rfl (by omega) (by omega)) rfl rfl rfl (fun h2 h3 => ?_)
    refine g_iconst (v := 1) ok dX0_isA_38 (by decide +kernel) ?_
    refine g_icmp_eq (tgt := 50) ok dX0_isA_39 (by decide) ⟨by omega, by omega⟩ ⟨by omega, by omega⟩ (fun c4 => ?_) (fun c4 => ?_)
    · skip
      refine g_iconst (v := 1) ok dX0_isA_50 (by decide +kernel) ?_
      refine g_goto (tgt := 55) ok dX0_isA_51 (by decide) ?_
      exact g_zret ok hq dX0_isA_55 (by omega) (by omega) (ansI (by first | (rw [bI_t (by omega)]) | (rw [bI_f (by omega)])) (by rfl))
    · skip
      refine g_aload_n ok dX0_isA_42 rfl rfl ?_
      refine g_geti (z := 1) ok dX0_isA_43 fl_X0_19 (Vd.four rfl (by omega) (by omega)) rfl rfl rfl (fun h5 h6 => ?_)
      refine g_iconst (v := 2) ok dX0_isA_46 (by decide +kernel) ?_
      refine g_icmp_ne (tgt := 54) ok dX0_isA_47 (by decide) ⟨by omega, by omega⟩ ⟨by omega, by omega⟩ (fun c7 => ?_) (fun c7 => ?_)
      · skip
        refine g_iconst (v := 0) ok dX0_isA_54 (by decide +kernel) ?_
        exact g_zret ok hq dX0_isA_55 (by omega) (by omega) (ansI (by first | (rw [bI_t (by omega)]) | (rw [bI_f (by omega)])) (by rfl))
      · skip
        refine g_iconst (v := 1) ok dX0_isA_50 (by decide +kernel) ?_
        refine g_goto (tgt := 55) ok dX0_isA_51 (by decide) ?_
        exact g_zret ok hq dX0_isA_55 (by omega) (by omega) (ansI (by first | (rw [bI_t (by omega)]) | (rw [bI_f (by omega)])) (by rfl))
  · skip
    refine g_tabIn (tgt := 78) ok dX0_isA_1 ⟨by omega, by omega⟩ (by omega) (by omega) (off := 77) (by rw [w1]; rfl) (by decide) ?_
    refine g_aload_n ok dX0_isA_78 rfl rfl ?_
    refine g_geti (z := 1) ok dX0_isA_79 fl_X0_19 (Vd.four rfl (by omega) (by omega)) rfl rfl rfl (fun h8 h9 => ?_)
    refine g_iload_n ok dX0_isA_82 rfl rfl ?_
    refine g_icmp_ne (tgt := 90) ok dX0_isA_83 (by decide) ⟨by omega, by omega⟩ ⟨by omega, by omega⟩ (fun c10 => ?_) (fun c10 => ?_)
    · skip
      refine g_iconst (v := 0) ok dX0_isA_90 (by decide +kernel) ?_
      exact g_zret ok hq dX0_isA_91 (by omega) (by omega) (ansI (by first | (rw [bI_t (by omega)]) | (rw [bI_f (by omega)])) (by rfl))
    · skip
      refine g_iconst (v := 1) ok dX0_isA_86 (by decide +kernel) ?_
      refine g_goto (tgt := 91) ok dX0_isA_87 (by decide) ?_
      exact g_zret ok hq dX0_isA_91 (by omega) (by omega) (ansI (by first | (rw [bI_t (by omega)]) | (rw [bI_f (by omega)])) (by rfl))
  · skip
    refine g_tabIn (tgt := 56) ok dX0_isA_1 ⟨by omega, by omega⟩ (by omega) (by omega) (off := 55) (by rw [w1]; rfl) (by decide) ?_
    refine g_aload_n ok dX0_isA_56 rfl rfl ?_
    refine g_geti (z := 1) ok dX0_isA_57 fl_X0_19 (Vd.four rfl (by omega) (by omega)) rfl rfl rfl (fun h11 h12 => ?_)
    refine g_iconst (v := 3) ok dX0_isA_60 (by decide +kernel) ?_
    refine g_icmp_eq (tgt := 72) ok dX0_isA_61 (by decide) ⟨by omega, by omega⟩ ⟨by omega, by omega⟩ (fun c13 => ?_) (fun c13 => ?_)
    · skip
      refine g_iconst (v := 1) ok dX0_isA_72 (by decide +kernel) ?_
      refine g_goto (tgt := 77) ok dX0_isA_73 (by decide) ?_
      exact g_zret ok hq dX0_isA_77 (by omega) (by omega) (ansI (by first | (rw [bI_t (by omega)]) | (rw [bI_f (by omega)])) (by rfl))
    · skip
      refine g_aload_n ok dX0_isA_64 rfl rfl ?_
      refine g_geti (z := 1) ok dX0_isA_65 fl_X0_19 (Vd.four rfl (by omega) (by omega)) rfl rfl rfl (fun h14 h15 => ?_)
      refine g_iconst (v := 4) ok dX0_isA_68 (by decide +kernel) ?_
      refine g_icmp_ne (tgt := 76) ok dX0_isA_69 (by decide) ⟨by omega, by omega⟩ ⟨by omega, by omega⟩ (fun c16 => ?_) (fun c16 => ?_)
      · skip
        refine g_iconst (v := 0) ok dX0_isA_76 (by decide +kernel) ?_
        exact g_zret ok hq dX0_isA_77 (by omega) (by omega) (ansI (by first | (rw [bI_t (by omega)]) | (rw [bI_f (by omega)])) (by rfl))
      · skip
        refine g_iconst (v := 1) ok dX0_isA_72 (by decide +kernel) ?_
        refine g_goto (tgt := 77) ok dX0_isA_73 (by decide) ?_
        exact g_zret ok hq dX0_isA_77 (by omega) (by omega) (ansI (by first | (rw [bI_t (by omega)]) | (rw [bI_f (by omega)])) (by rfl))
  · skip
    refine g_tabOut (tgt := 78) ok dX0_isA_1 ⟨by omega, by omega⟩ (by omega) (by decide) ?_
    refine g_aload_n ok dX0_isA_78 rfl rfl ?_
    refine g_geti (z := 1) ok dX0_isA_79 fl_X0_19 (Vd.four rfl (by omega) (by omega)) rfl rfl rfl (fun h17 h18 => ?_)
    refine g_iload_n ok dX0_isA_82 rfl rfl ?_
    refine g_icmp_ne (tgt := 90) ok dX0_isA_83 (by decide) ⟨by omega, by omega⟩ ⟨by omega, by omega⟩ (fun c19 => ?_) (fun c19 => ?_)
    · skip
      refine g_iconst (v := 0) ok dX0_isA_90 (by decide +kernel) ?_
      exact g_zret ok hq dX0_isA_91 (by omega) (by omega) (ansI (by first | (rw [bI_t (by omega)]) | (rw [bI_f (by omega)])) (by rfl))
    · skip
      refine g_iconst (v := 1) ok dX0_isA_86 (by decide +kernel) ?_
      refine g_goto (tgt := 91) ok dX0_isA_87 (by decide) ?_
      exact g_zret ok hq dX0_isA_91 (by omega) (by omega) (ansI (by first | (rw [bI_t (by omega)]) | (rw [bI_f (by omega)])) (by rfl))

set_option maxRecDepth 100000 in
set_option maxHeartbeats 4000000 in
theorem c_X0_clearPlan (X : XW) (l : Launch) (σ : Mm) (i : Int) (b0 : 0 ≤ i) (b1 : i < 4) : Ct X l yX0_clearPlan cX0_clearPlan 1 (Option.none : Option FieldType) 1 23 σ [.inr (.inr (8, i))] (Ans none (fillR σ 9 i 0 36 0)) := by
  refine Ct.intro (own := RX0) (by decide) rfl (Nat.le_of_ble_eq_true rfl) (fun M hM ok hq => ?_)
  subst hM
  show G X M cX0_clearPlan 1 σ 0 [(0, .inr (.inr (8, i)))] []
  refine g_aload_n ok dX0_clearPlan_0 rfl rfl ?_
  refine g_getr ok dX0_clearPlan_1 fl_X0_9 (Vd.four rfl (by omega) (by omega)) rfl rfl ?_
  refine g_iconst (v := 0) ok dX0_clearPlan_4 (by decide +kernel) ?_
  refine g_cS0 ok dX0_clearPlan_5 ms_X0_61 (c_J7_fill_53178 X _ _ _ _ _ _ (Vd.four rfl (by omega) (by omega)) (fun _ => rfl) (fun _ => rfl) (by decide) ⟨by omega, by omega⟩) rfl (by decide) rfl (Nat.le_of_ble_eq_true rfl) ?_
  exact g_vret ok hq dX0_clearPlan_8 (ansV (by rfl))

set_option maxRecDepth 100000 in
set_option maxHeartbeats 4000000 in
theorem c_X0_fact (X : XW) (l : Launch) (σ : Mm) (i z1 : Int) (b0 : 0 ≤ i) (b1 : i < 4) (c0 : 0 ≤ z1) (c1 : z1 ≤ 10) : Ct X l yX0_fact cX0_fact 2 (Option.some FieldType.int) 0 0 σ [.inr (.inr (8, i)), .inl z1] (Ans (some (.inl (abC σ i z1))) (σ)) := by
  refine Ct.intro (own := RX0) (by decide) rfl (Nat.le_of_ble_eq_true rfl) (fun M hM ok hq => ?_)
  subst hM
  show G X M cX0_fact 2 σ 0 [(0, .inr (.inr (8, i))), (1, .inl z1)] []
  refine g_iload_n ok dX0_fact_0 rfl rfl ?_
  rcases (show z1 = 0 ∨ z1 = 1 ∨ z1 = 2 ∨ z1 = 3 ∨ z1 = 4 ∨ z1 = 5 ∨ z1 = 6 ∨ z1 = 7 ∨ z1 = 8 ∨ z1 = 9 ∨ (z1 < 0 ∨ 9 < z1) by omega) with w1 | w1 | w1 | w1 | w1 | w1 | w1 | w1 | w1 | w1 | w1
  · skip
    refine g_tabIn (tgt := 56) ok dX0_fact_1 ⟨by omega, by omega⟩ (by omega) (by omega) (off := 55) (by rw [w1]; rfl) (by decide) ?_
    refine g_aload_n ok dX0_fact_56 rfl rfl ?_
    refine g_geti (z := 1) ok dX0_fact_57 fl_X0_19 (Vd.four rfl (by omega) (by omega)) rfl rfl rfl (fun h2 h3 => ?_)
    exact g_iret ok hq dX0_fact_60 (ansI (by (simp only [abC, BAD, NO, FULL, NONE, NOTHING, INDEX, SIZE] <;> (repeat (first | rw [if_pos (by omega)] | rw [if_neg (by omega)])) <;> omega)) (by rfl))
  · skip
    refine g_tabIn (tgt := 61) ok dX0_fact_1 ⟨by omega, by omega⟩ (by omega) (by omega) (off := 60) (by rw [w1]; rfl) (by decide) ?_
    refine g_aload_n ok dX0_fact_61 rfl rfl ?_
    refine g_geti (z := 2) ok dX0_fact_62 fl_X0_23 (Vd.four rfl (by omega) (by omega)) rfl rfl rfl (fun h4 h5 => ?_)
    exact g_iret ok hq dX0_fact_65 (ansI (by (simp only [abC, BAD, NO, FULL, NONE, NOTHING, INDEX, SIZE] <;> (repeat (first | rw [if_pos (by omega)] | rw [if_neg (by omega)])) <;> omega)) (by rfl))
  · skip
    refine g_tabIn (tgt := 66) ok dX0_fact_1 ⟨by omega, by omega⟩ (by omega) (by omega) (off := 65) (by rw [w1]; rfl) (by decide) ?_
    refine g_aload_n ok dX0_fact_66 rfl rfl ?_
    refine g_geti (z := 3) ok dX0_fact_67 fl_X0_36 (Vd.four rfl (by omega) (by omega)) rfl rfl rfl (fun h6 h7 => ?_)
    exact g_iret ok hq dX0_fact_70 (ansI (by (simp only [abC, BAD, NO, FULL, NONE, NOTHING, INDEX, SIZE] <;> (repeat (first | rw [if_pos (by omega)] | rw [if_neg (by omega)])) <;> omega)) (by rfl))
  · skip
    refine g_tabIn (tgt := 71) ok dX0_fact_1 ⟨by omega, by omega⟩ (by omega) (by omega) (off := 70) (by rw [w1]; rfl) (by decide) ?_
    refine g_aload_n ok dX0_fact_71 rfl rfl ?_
    refine g_geti (z := 6) ok dX0_fact_72 fl_X0_49 (Vd.four rfl (by omega) (by omega)) rfl rfl rfl (fun h8 h9 => ?_)
    exact g_iret ok hq dX0_fact_75 (ansI (by (simp only [abC, BAD, NO, FULL, NONE, NOTHING, INDEX, SIZE] <;> (repeat (first | rw [if_pos (by omega)] | rw [if_neg (by omega)])) <;> omega)) (by rfl))
  · skip
    refine g_tabIn (tgt := 76) ok dX0_fact_1 ⟨by omega, by omega⟩ (by omega) (by omega) (off := 75) (by rw [w1]; rfl) (by decide) ?_
    refine g_aload_n ok dX0_fact_76 rfl rfl ?_
    refine g_geti (z := 7) ok dX0_fact_77 fl_X0_52 (Vd.four rfl (by omega) (by omega)) rfl rfl rfl (fun h10 h11 => ?_)
    exact g_iret ok hq dX0_fact_80 (ansI (by (simp only [abC, BAD, NO, FULL, NONE, NOTHING, INDEX, SIZE] <;> (repeat (first | rw [if_pos (by omega)] | rw [if_neg (by omega)])) <;> omega)) (by rfl))
  · skip
    refine g_tabIn (tgt := 81) ok dX0_fact_1 ⟨by omega, by omega⟩ (by omega) (by omega) (off := 80) (by rw [w1]; rfl) (by decide) ?_
    refine g_aload_n ok dX0_fact_81 rfl rfl ?_
    refine g_geti (z := 8) ok dX0_fact_82 fl_X0_55 (Vd.four rfl (by omega) (by omega)) rfl rfl rfl (fun h12 h13 => ?_)
    exact g_iret ok hq dX0_fact_85 (ansI (by (simp only [abC, BAD, NO, FULL, NONE, NOTHING, INDEX, SIZE] <;> (repeat (first | rw [if_pos (by omega)] | rw [if_neg (by omega)])) <;> omega)) (by rfl))
  · skip
    refine g_tabIn (tgt := 86) ok dX0_fact_1 ⟨by omega, by omega⟩ (by omega) (by omega) (off := 85) (by rw [w1]; rfl) (by decide) ?_
    refine g_aload_n ok dX0_fact_86 rfl rfl ?_
    refine g_geti (z := 9) ok dX0_fact_87 fl_X0_58 (Vd.four rfl (by omega) (by omega)) rfl rfl rfl (fun h14 h15 => ?_)
    exact g_iret ok hq dX0_fact_90 (ansI (by (simp only [abC, BAD, NO, FULL, NONE, NOTHING, INDEX, SIZE] <;> (repeat (first | rw [if_pos (by omega)] | rw [if_neg (by omega)])) <;> omega)) (by rfl))
  · skip
    refine g_tabIn (tgt := 91) ok dX0_fact_1 ⟨by omega, by omega⟩ (by omega) (by omega) (off := 90) (by rw [w1]; rfl) (by decide) ?_
    refine g_aload_n ok dX0_fact_91 rfl rfl ?_
    refine g_geti (z := 4) ok dX0_fact_92 fl_X0_30 (Vd.four rfl (by omega) (by omega)) rfl rfl rfl (fun h16 h17 => ?_)
    exact g_iret ok hq dX0_fact_95 (ansI (by (simp only [abC, BAD, NO, FULL, NONE, NOTHING, INDEX, SIZE] <;> (repeat (first | rw [if_pos (by omega)] | rw [if_neg (by omega)])) <;> omega)) (by rfl))
  · skip
    refine g_tabIn (tgt := 96) ok dX0_fact_1 ⟨by omega, by omega⟩ (by omega) (by omega) (off := 95) (by rw [w1]; rfl) (by decide) ?_
    refine g_aload_n ok dX0_fact_96 rfl rfl ?_
    refine g_geti (z := 5) ok dX0_fact_97 fl_X0_33 (Vd.four rfl (by omega) (by omega)) rfl rfl rfl (fun h18 h19 => ?_)
    exact g_iret ok hq dX0_fact_100 (ansI (by (simp only [abC, BAD, NO, FULL, NONE, NOTHING, INDEX, SIZE] <;> (repeat (first | rw [if_pos (by omega)] | rw [if_neg (by omega)])) <;> omega)) (by rfl))
  · skip
    refine g_tabIn (tgt := 101) ok dX0_fact_1 ⟨by omega, by omega⟩ (by omega) (by omega) (off := 100) (by rw [w1]; rfl) (by decide) ?_
    refine g_aload_n ok dX0_fact_101 rfl rfl ?_
    refine g_geti (z := 10) ok dX0_fact_102 fl_X0_39 (Vd.four rfl (by omega) (by omega)) rfl rfl rfl (fun h20 h21 => ?_)
    exact g_iret ok hq dX0_fact_105 (ansI (by (simp only [abC, BAD, NO, FULL, NONE, NOTHING, INDEX, SIZE] <;> (repeat (first | rw [if_pos (by omega)] | rw [if_neg (by omega)])) <;> omega)) (by rfl))
  · skip
    refine g_tabOut (tgt := 106) ok dX0_fact_1 ⟨by omega, by omega⟩ (by omega) (by decide) ?_
    refine g_aload_n ok dX0_fact_106 rfl rfl ?_
    refine g_geti (z := 11) ok dX0_fact_107 fl_X0_43 (Vd.four rfl (by omega) (by omega)) rfl rfl rfl (fun h22 h23 => ?_)
    exact g_iret ok hq dX0_fact_110 (ansI (by (simp only [abC, BAD, NO, FULL, NONE, NOTHING, INDEX, SIZE] <;> (repeat (first | rw [if_pos (by omega)] | rw [if_neg (by omega)])) <;> omega)) (by rfl))

set_option maxRecDepth 100000 in
set_option maxHeartbeats 4000000 in
theorem c_X0_isInRates (X : XW) (l : Launch) (σ : Mm) (i z1 z2 : Int) (b0 : 0 ≤ i) (b1 : i < 4) (rz1 : R32 z1) (c0 : 0 ≤ z2) (c1 : z2 ≤ 10) (hS : CS σ) : Ct X l yX0_isInRates cX0_isInRates 3 (Option.some FieldType.boolean) 0 0 σ [.inr (.inr (8, i)), .inl z1, .inl z2] (Ans (some (.inl (bI (z1 ≤ σ 8 i 6 - z2 ∧ z2 - σ 8 i 7 ≤ z1)))) (σ)) := by
  refine Ct.intro (own := RX0) (by decide) rfl (Nat.le_of_ble_eq_true rfl) (fun M hM ok hq => ?_)
  subst hM
  have rz1l := rz1.1
  have rz1r := rz1.2
  show G X M cX0_isInRates 3 σ 0 [(0, .inr (.inr (8, i))), (1, .inl z1), (2, .inl z2)] []
  have aS := hS i
  refine g_iload_n ok dX0_isInRates_0 rfl rfl ?_
  refine g_aload_n ok dX0_isInRates_1 rfl rfl ?_
  refine g_geti (z := 6) ok dX0_isInRates_2 fl_X0_49 (Vd.four rfl (by omega) (by omega)) rfl rfl rfl (fun h1 h2 => ?_)
  refine g_iload_n ok dX0_isInRates_5 rfl rfl ?_
  refine g_isub ok dX0_isInRates_6 ?_
  refine g_icmp_gt (tgt := 24) ok dX0_isInRates_7 (by decide) ⟨by omega, by omega⟩ ⟨by omega, by omega⟩ (fun c3 => ?_) (fun c3 => ?_)
  · skip
    refine g_iconst (v := 0) ok dX0_isInRates_24 (by decide +kernel) ?_
    exact g_zret ok hq dX0_isInRates_25 (by omega) (by omega) (ansI (by first | (rw [bI_t (by omega)]) | (rw [bI_f (by omega)])) (by rfl))
  · skip
    refine g_iload_n ok dX0_isInRates_10 rfl rfl ?_
    refine g_iload_n ok dX0_isInRates_11 rfl rfl ?_
    refine g_aload_n ok dX0_isInRates_12 rfl rfl ?_
    refine g_geti (z := 7) ok dX0_isInRates_13 fl_X0_52 (Vd.four rfl (by omega) (by omega)) rfl rfl rfl (fun h4 h5 => ?_)
    refine g_isub ok dX0_isInRates_16 ?_
    refine g_icmp_lt (tgt := 24) ok dX0_isInRates_17 (by decide) ⟨by omega, by omega⟩ ⟨by omega, by omega⟩ (fun c6 => ?_) (fun c6 => ?_)
    · skip
      refine g_iconst (v := 0) ok dX0_isInRates_24 (by decide +kernel) ?_
      exact g_zret ok hq dX0_isInRates_25 (by omega) (by omega) (ansI (by first | (rw [bI_t (by omega)]) | (rw [bI_f (by omega)])) (by rfl))
    · skip
      refine g_iconst (v := 1) ok dX0_isInRates_20 (by decide +kernel) ?_
      refine g_goto (tgt := 25) ok dX0_isInRates_21 (by decide) ?_
      exact g_zret ok hq dX0_isInRates_25 (by omega) (by omega) (ansI (by first | (rw [bI_t (by omega)]) | (rw [bI_f (by omega)])) (by rfl))

set_option maxRecDepth 100000 in
set_option maxHeartbeats 4000000 in
theorem c_X0_chargeBehind (X : XW) (l : Launch) (σ : Mm) (i z1 : Int) (b0 : 0 ≤ i) (b1 : i < 4) (c0 : -1 ≤ z1) (c1 : z1 < 36) : Ct X l yX0_chargeBehind cX0_chargeBehind 4 (Option.some FieldType.int) 0 0 σ [.inr (.inr (8, i)), .inl z1] (Ans (some (.inl (bhC σ i z1))) (σ)) := by
  refine Ct.intro (own := RX0) (by decide) rfl (Nat.le_of_ble_eq_true rfl) (fun M hM ok hq => ?_)
  subst hM
  show G X M cX0_chargeBehind 4 σ 0 [(0, .inr (.inr (8, i))), (1, .inl z1)] []
  refine g_aload_n ok dX0_chargeBehind_0 rfl rfl ?_
  refine g_geti (z := 3) ok dX0_chargeBehind_1 fl_X0_36 (Vd.four rfl (by omega) (by omega)) rfl rfl rfl (fun h1 h2 => ?_)
  refine g_istore_n ok dX0_chargeBehind_4 rfl (Nat.le_of_ble_eq_true rfl) ?_
  refine g_iconst (v := 0) ok dX0_chargeBehind_5 (by decide +kernel) ?_
  refine g_istore_n ok dX0_chargeBehind_6 rfl (Nat.le_of_ble_eq_true rfl) ?_
  have L7 : ∀ (n : Nat) (k : Int) (c : Int), (0 ≤ k) → (k ≤ z1 + 1) → (c = σ 8 i 3 + sm (fun k => σ 9 i k) k) → (z1 + 1 - k < n) → G X M cX0_chargeBehind 4 σ 7 [(0, .inr (.inr (8, i))), (1, .inl z1), (2, .inl c), (3, .inl k)] [] := by
    intro n
    induction n with
    | zero => intro k c hk0 hk1 hc hm; exact absurd hm (by omega)
    | succ n L7ih =>
      intro k c hk0 hk1 hc hm
      refine g_iload_n ok dX0_chargeBehind_7 rfl rfl ?_
      refine g_iload_n ok dX0_chargeBehind_8 rfl rfl ?_
      refine g_icmp_gt (tgt := 33) ok dX0_chargeBehind_9 (by decide) ⟨by omega, by omega⟩ ⟨by omega, by omega⟩ (fun c3 => ?_) (fun c3 => ?_)
      · skip
        refine g_iload_n ok dX0_chargeBehind_33 rfl rfl ?_
        exact g_iret ok hq dX0_chargeBehind_34 (ansI (by (unfold bhC; rw [hc, show k = z1 + 1 by omega])) (by rfl))
      · skip
        refine g_iload_n ok dX0_chargeBehind_12 rfl rfl ?_
        refine g_bipush (v := 36) ok dX0_chargeBehind_13 (by decide +kernel) ?_
        refine g_icmp_ge (tgt := 33) ok dX0_chargeBehind_15 (by decide) ⟨by omega, by omega⟩ ⟨by omega, by omega⟩ (fun c4 => ?_) (fun c4 => ?_)
        · skip
          refine g_iload_n ok dX0_chargeBehind_33 rfl rfl ?_
          exact g_iret ok hq dX0_chargeBehind_34 (ansI (by (unfold bhC; rw [hc, show k = z1 + 1 by omega])) (by rfl))
        · skip
          refine g_iload_n ok dX0_chargeBehind_18 rfl rfl ?_
          refine g_aload_n ok dX0_chargeBehind_19 rfl rfl ?_
          refine g_getr ok dX0_chargeBehind_20 fl_X0_9 (Vd.four rfl (by omega) (by omega)) rfl rfl ?_
          refine g_iload_n ok dX0_chargeBehind_23 rfl rfl ?_
          refine g_iald ok dX0_chargeBehind_24 (Vd.four rfl (by omega) (by omega)) (fun _ => rfl) ⟨by omega, by omega⟩ (by decide) rfl (fun h5 h6 => ?_)
          refine g_iadd ok dX0_chargeBehind_25 ?_
          refine g_istore_n ok dX0_chargeBehind_26 rfl (Nat.le_of_ble_eq_true rfl) ?_
          refine g_iinc ok dX0_chargeBehind_27 rfl rfl (Nat.le_of_ble_eq_true rfl) ?_
          refine g_goto (tgt := 7) ok dX0_chargeBehind_30 (by decide) ?_
          refine G.norm [(0, .inr (.inr (8, i))), (1, .inl z1), (2, .inl _), (3, .inl _)] ⟨rfl, rfl, rfl, rfl, trivial⟩ (L7ih _ _ ?_ ?_ ?_ ?_)
          · omega
          · omega
          · (rw [sm_s hk0]; (try dsimp only); omega)
          · omega
  refine G.norm [(0, .inr (.inr (8, i))), (1, .inl z1), (2, .inl _), (3, .inl _)] ⟨rfl, rfl, rfl, rfl, trivial⟩ (L7 (38 : Nat) _ _ ?_ ?_ ?_ ?_)
  · omega
  · omega
  · (rw [sm_0]; omega)
  · omega

set_option maxRecDepth 100000 in
set_option maxHeartbeats 4000000 in
theorem c_X0_possible (X : XW) (l : Launch) (σ : Mm) (i z1 z2 : Int) (b0 : 0 ≤ i) (b1 : i < 4) (rz1 : R32 z1) (c0 : 0 ≤ z2) (c1 : z2 ≤ 60) (hS : CS σ) : Ct X l yX0_possible cX0_possible 5 (Option.some FieldType.int) 1 16 σ [.inr (.inr (8, i)), .inl z1, .inl z2] (Ans (some (.inl (psC σ i z1 z2))) (σ)) := by
  refine Ct.intro (own := RX0) (by decide) rfl (Nat.le_of_ble_eq_true rfl) (fun M hM ok hq => ?_)
  subst hM
  have rz1l := rz1.1
  have rz1r := rz1.2
  show G X M cX0_possible 5 σ 0 [(0, .inr (.inr (8, i))), (1, .inl z1), (2, .inl z2)] []
  have aS := hS i
  refine g_aload_n ok dX0_possible_0 rfl rfl ?_
  refine g_geti (z := 6) ok dX0_possible_1 fl_X0_49 (Vd.four rfl (by omega) (by omega)) rfl rfl rfl (fun h1 h2 => ?_)
  refine g_aload_n ok dX0_possible_4 rfl rfl ?_
  refine g_geti (z := 5) ok dX0_possible_5 fl_X0_33 (Vd.four rfl (by omega) (by omega)) rfl rfl rfl (fun h3 h4 => ?_)
  refine g_iload_n ok dX0_possible_8 rfl rfl ?_
  refine g_isub ok dX0_possible_9 ?_
  refine g_min ok dX0_possible_10 wd3_119 wd3_24 wd1_12 wd3_25 ⟨Nat.le_of_ble_eq_true rfl, Nat.le_of_ble_eq_true rfl⟩ ⟨by omega, by omega⟩ ⟨by omega, by omega⟩ ?_
  refine g_istore_n ok dX0_possible_13 rfl (Nat.le_of_ble_eq_true rfl) ?_
  refine g_aload_n ok dX0_possible_14 rfl rfl ?_
  refine g_geti (z := 7) ok dX0_possible_15 fl_X0_52 (Vd.four rfl (by omega) (by omega)) rfl rfl rfl (fun h5 h6 => ?_)
  refine g_ineg ok dX0_possible_18 ?_
  refine g_aload_n ok dX0_possible_19 rfl rfl ?_
  refine g_geti (z := 4) ok dX0_possible_20 fl_X0_30 (Vd.four rfl (by omega) (by omega)) rfl rfl rfl (fun h7 h8 => ?_)
  refine g_iload_n ok dX0_possible_23 rfl rfl ?_
  refine g_isub ok dX0_possible_24 ?_
  refine g_max ok dX0_possible_25 wd3_120 wd3_27 wd1_12 wd3_28 ⟨Nat.le_of_ble_eq_true rfl, Nat.le_of_ble_eq_true rfl⟩ ⟨by omega, by omega⟩ ⟨by omega, by omega⟩ ?_
  refine g_istore ok dX0_possible_28 (Nat.le_of_ble_eq_true rfl) ?_
  refine g_iload ok dX0_possible_30 rfl ?_
  refine g_iload_n ok dX0_possible_32 rfl rfl ?_
  refine g_iload_n ok dX0_possible_33 rfl rfl ?_
  refine g_min ok dX0_possible_34 wd3_119 wd3_24 wd1_12 wd3_25 ⟨Nat.le_of_ble_eq_true rfl, Nat.le_of_ble_eq_true rfl⟩ ⟨by omega, by omega⟩ ⟨by omega, by omega⟩ ?_
  refine g_max ok dX0_possible_37 wd3_120 wd3_27 wd1_12 wd3_28 ⟨Nat.le_of_ble_eq_true rfl, Nat.le_of_ble_eq_true rfl⟩ ⟨by omega, by omega⟩ ⟨by omega, by omega⟩ ?_
  exact g_iret ok hq dX0_possible_40 (ansI (by rfl) (by rfl))

set_option maxRecDepth 100000 in
set_option maxHeartbeats 4000000 in
theorem c_X0_moneyTogether (X : XW) (l : Launch) (σ : Mm) (i z1 z2 z3 : Int) (b0 : 0 ≤ i) (b1 : i < 4) (c0 : -100 ≤ z1) (c1 : z1 ≤ 100) (c2 : 1 ≤ z3) (c3 : z3 ≤ 4) (hS : CS σ) : Ct X l yX0_moneyTogether cX0_moneyTogether 5 (Option.some FieldType.long) 0 0 σ [.inr (.inr (8, i)), .inl z1, .inr (.inl z2), .inl z3] (Ans (some (.inr (.inl (mon (σ 8 i 8) (z3 * σ 8 i 9) z1 z2)))) (σ)) := by
  refine Ct.intro (own := RX0) (by decide) rfl (Nat.le_of_ble_eq_true rfl) (fun M hM ok hq => ?_)
  subst hM
  show G X M cX0_moneyTogether 5 σ 0 [(0, .inr (.inr (8, i))), (1, .inl z1), (2, .inr (.inl z2)), (4, .inl z3)] []
  have aS := hS i
  have aN : 0 < z1 → 0 ≤ z1 * σ 8 i 8 ∧ z1 * σ 8 i 8 ≤ 5000 := fun h => ⟨Int.mul_nonneg (by omega) (by omega), by have := Int.mul_le_mul (a := z1) (b := σ 8 i 8) (c := 100) (d := 50) (by omega) (by omega) (by omega) (by omega); omega⟩
  have aW : 0 ≤ z3 * σ 8 i 9 ∧ z3 * σ 8 i 9 ≤ 400 := ⟨Int.mul_nonneg (by omega) (by omega), by have := Int.mul_le_mul (a := z3) (b := σ 8 i 9) (c := 4) (d := 100) (by omega) (by omega) (by omega) (by omega); omega⟩
  refine g_iload_n ok dX0_moneyTogether_0 rfl rfl ?_
  refine g_if_le (tgt := 23) ok dX0_moneyTogether_1 (by decide) ⟨by omega, by omega⟩ (fun c1 => ?_) (fun c1 => ?_)
  · skip
    refine g_lload_n ok dX0_moneyTogether_23 rfl rfl ?_
    refine g_iload ok dX0_moneyTogether_24 rfl ?_
    refine g_aload_n ok dX0_moneyTogether_26 rfl rfl ?_
    refine g_geti (z := 9) ok dX0_moneyTogether_27 fl_X0_58 (Vd.four rfl (by omega) (by omega)) rfl rfl rfl (fun h2 h3 => ?_)
    refine g_imul ok dX0_moneyTogether_30 ?_
    refine g_i2l ok dX0_moneyTogether_31 ⟨by omega, by omega⟩ ?_
    refine g_lsub ok dX0_moneyTogether_32 ?_
    refine g_iload_n ok dX0_moneyTogether_33 rfl rfl ?_
    refine g_ineg ok dX0_moneyTogether_34 ?_
    refine g_i2l ok dX0_moneyTogether_35 ⟨by omega, by omega⟩ ?_
    refine g_lmul ok dX0_moneyTogether_36 ?_
    exact g_lret ok hq dX0_moneyTogether_37 (ansL (by (simp only [mon] <;> (repeat (first | rw [if_pos (by omega)] | rw [if_neg (by omega)])))) (by rfl))
  · skip
    refine g_lload_n ok dX0_moneyTogether_4 rfl rfl ?_
    refine g_lneg ok dX0_moneyTogether_5 ?_
    refine g_iload_n ok dX0_moneyTogether_6 rfl rfl ?_
    refine g_iload_n ok dX0_moneyTogether_7 rfl rfl ?_
    refine g_aload_n ok dX0_moneyTogether_8 rfl rfl ?_
    refine g_geti (z := 8) ok dX0_moneyTogether_9 fl_X0_55 (Vd.four rfl (by omega) (by omega)) rfl rfl rfl (fun h4 h5 => ?_)
    refine g_imul ok dX0_moneyTogether_12 ?_
    refine g_bipush (v := 99) ok dX0_moneyTogether_13 (by decide +kernel) ?_
    refine g_iadd ok dX0_moneyTogether_15 ?_
    refine g_bipush (v := 100) ok dX0_moneyTogether_16 (by decide +kernel) ?_
    refine g_idivP ok dX0_moneyTogether_18 ⟨by omega, by omega⟩ ⟨by omega, by omega⟩ (by omega) (by omega) ?_
    refine g_iadd ok dX0_moneyTogether_19 ?_
    refine g_i2l ok dX0_moneyTogether_20 ⟨by omega, by omega⟩ ?_
    refine g_lmul ok dX0_moneyTogether_21 ?_
    exact g_lret ok hq dX0_moneyTogether_22 (ansL (by (simp only [mon] <;> (repeat (first | rw [if_pos (by omega)] | rw [if_neg (by omega)])))) (by rfl))

set_option maxRecDepth 100000 in
set_option maxHeartbeats 4000000 in
theorem c_X0_moneyOf (X : XW) (l : Launch) (σ : Mm) (i z1 z2 : Int) (b0 : 0 ≤ i) (b1 : i < 4) (c0 : -100 ≤ z1) (c1 : z1 ≤ 100) (hS : CS σ) : Ct X l yX0_moneyOf cX0_moneyOf 4 (Option.some FieldType.long) 1 24 σ [.inr (.inr (8, i)), .inl z1, .inr (.inl z2)] (Ans (some (.inr (.inl (monC σ i z1 z2)))) (σ)) := by
  refine Ct.intro (own := RX0) (by decide) rfl (Nat.le_of_ble_eq_true rfl) (fun M hM ok hq => ?_)
  subst hM
  show G X M cX0_moneyOf 4 σ 0 [(0, .inr (.inr (8, i))), (1, .inl z1), (2, .inr (.inl z2))] []
  refine g_aload_n ok dX0_moneyOf_0 rfl rfl ?_
  refine g_iload_n ok dX0_moneyOf_1 rfl rfl ?_
  refine g_lload_n ok dX0_moneyOf_2 rfl rfl ?_
  refine g_iconst (v := 1) ok dX0_moneyOf_3 (by decide +kernel) ?_
  refine g_cV ok dX0_moneyOf_4 mv_X0_76 (c_X0_moneyTogether X _ _ _ _ _ _ (by omega) (by omega) (by omega) (by omega) (by omega) (by omega) hS) rfl (Vd.four rfl (by omega) (by omega)) rfl rfl (by decide) rfl (Nat.le_of_ble_eq_true rfl) ?_
  exact g_lret ok hq dX0_moneyOf_7 (ansL (by (unfold monC; rw [Int.one_mul])) (by rfl))

set_option maxRecDepth 100000 in
set_option maxHeartbeats 4000000 in
theorem c_X0_planMoney (X : XW) (l : Launch) (σ : Mm) (i w z1 : Int) (b0 : 0 ≤ i) (b1 : i < 4) (w0 : 0 ≤ w) (w1 : w < 4) (c0 : 0 ≤ z1) (c1 : z1 ≤ 36) (hS : CS σ) (hP : CP σ) (hL : CL σ) : Ct X l yX0_planMoney cX0_planMoney 6 (Option.some FieldType.long) 2 47 σ [.inr (.inr (8, i)), .inr (.inr (6, w)), .inl z1] (Ans (some (.inr (.inl (mnC σ i w z1)))) (σ)) := by
  refine Ct.intro (own := RX0) (by decide) rfl (Nat.le_of_ble_eq_true rfl) (fun M hM ok hq => ?_)
  subst hM
  show G X M cX0_planMoney 6 σ 0 [(0, .inr (.inr (8, i))), (1, .inr (.inr (6, w))), (2, .inl z1)] []
  refine g_lconst (v := 0) ok dX0_planMoney_0 (by decide +kernel) ?_
  refine g_lstore_n ok dX0_planMoney_1 rfl (Nat.le_of_ble_eq_true rfl) ?_
  refine g_iconst (v := 0) ok dX0_planMoney_2 (by decide +kernel) ?_
  refine g_istore ok dX0_planMoney_3 (Nat.le_of_ble_eq_true rfl) ?_
  have L5 : ∀ (n : Nat) (k : Int) (c : Int), (0 ≤ k) → (k ≤ z1) → (c = sm (fun t => monC σ i (σ 9 i t) (pC σ w t)) k) → (z1 - k < n) → G X M cX0_planMoney 6 σ 5 [(0, .inr (.inr (8, i))), (1, .inr (.inr (6, w))), (2, .inl z1), (3, .inr (.inl c)), (5, .inl k)] [] := by
    intro n
    induction n with
    | zero => intro k c hk0 hk1 hc hm; exact absurd hm (by omega)
    | succ n L5ih =>
      intro k c hk0 hk1 hc hm
      have aL := hL i k
      have aP := pC_b hP w k
      refine g_iload ok dX0_planMoney_5 rfl ?_
      refine g_iload_n ok dX0_planMoney_7 rfl rfl ?_
      refine g_icmp_ge (tgt := 38) ok dX0_planMoney_8 (by decide) ⟨by omega, by omega⟩ ⟨by omega, by omega⟩ (fun c1 => ?_) (fun c1 => ?_)
      · skip
        refine g_lload_n ok dX0_planMoney_38 rfl rfl ?_
        exact g_lret ok hq dX0_planMoney_39 (ansL (by (unfold mnC; rw [hc, show k = z1 by omega])) (by rfl))
      · skip
        refine g_lload_n ok dX0_planMoney_11 rfl rfl ?_
        refine g_aload_n ok dX0_planMoney_12 rfl rfl ?_
        refine g_aload_n ok dX0_planMoney_13 rfl rfl ?_
        refine g_getr ok dX0_planMoney_14 fl_X0_9 (Vd.four rfl (by omega) (by omega)) rfl rfl ?_
        refine g_iload ok dX0_planMoney_17 rfl ?_
        refine g_iald ok dX0_planMoney_19 (Vd.four rfl (by omega) (by omega)) (fun _ => rfl) ⟨by omega, by omega⟩ (by decide) rfl (fun h2 h3 => ?_)
        refine g_aload_n ok dX0_planMoney_20 rfl rfl ?_
        refine g_iload ok dX0_planMoney_21 rfl ?_
        refine g_cV ok dX0_planMoney_23 mv_X0_80 (c_X6_priceOf X _ _ _ _ (by omega) (by omega) ⟨by omega, by omega⟩ hP) rfl (Vd.four rfl (by omega) (by omega)) rfl rfl (by decide) rfl (Nat.le_of_ble_eq_true rfl) ?_
        refine g_i2l ok dX0_planMoney_26 ⟨by omega, by omega⟩ ?_
        refine g_cV ok dX0_planMoney_27 mv_X0_86 (c_X0_moneyOf X _ _ _ _ _ (by omega) (by omega) (by omega) (by omega) hS) rfl (Vd.four rfl (by omega) (by omega)) rfl rfl (by decide) rfl (Nat.le_of_ble_eq_true rfl) ?_
        refine g_ladd ok dX0_planMoney_30 ?_
        refine g_lstore_n ok dX0_planMoney_31 rfl (Nat.le_of_ble_eq_true rfl) ?_
        refine g_iinc ok dX0_planMoney_32 rfl rfl (Nat.le_of_ble_eq_true rfl) ?_
        refine g_goto (tgt := 5) ok dX0_planMoney_35 (by decide) ?_
        refine G.norm [(0, .inr (.inr (8, i))), (1, .inr (.inr (6, w))), (2, .inl z1), (3, .inr (.inl _)), (5, .inl _)] ⟨rfl, rfl, rfl, rfl, rfl, trivial⟩ (L5ih _ _ ?_ ?_ ?_ ?_)
        · omega
        · omega
        · (rw [sm_s hk0, hc])
        · omega
  refine G.norm [(0, .inr (.inr (8, i))), (1, .inr (.inr (6, w))), (2, .inl z1), (3, .inr (.inl _)), (5, .inl _)] ⟨rfl, rfl, rfl, rfl, rfl, trivial⟩ (L5 (37 : Nat) _ _ ?_ ?_ ?_ ?_)
  · omega
  · omega
  · rfl
  · omega
