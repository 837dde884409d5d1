section COPYJ
variable {X : XW} {M : MX} {cc : ByteArray} {nL fr lo : Nat} {own : String} {σ : Mm} {pc : Nat} {ls : List (Nat × AV)} {st : List AV}
theorem cpy_j {f g : Int → Int} {sp dp n : Int} (h1 : 0 ≤ sp) (h2 : 0 ≤ dp) (h3 : 0 ≤ n) : va_cpy (fun j : Nat => lI (f j)) (fun j : Nat => lI (g j)) sp.toNat dp.toNat n.toNat = fun j : Nat => lI (if dp ≤ (j : Int) ∧ (j : Int) < dp + n then f (sp + ((j : Int) - dp)) else g j) := by
  funext k
  unfold va_cpy
  by_cases h : dp ≤ (k : Int) ∧ (k : Int) < dp + n
  · rw [if_pos (by omega), if_pos h]
    show lI (f ((sp.toNat + (k - dp.toNat) : Nat) : Int)) = _
    rw [show ((sp.toNat + (k - dp.toNat) : Nat) : Int) = sp + ((k : Int) - dp) by omega]
  · rw [if_neg (by omega), if_neg h]
theorem g_copyJ {idx a b n0 n1 : Nat} {i j sp dp n : Int} (ok : MOk X M cc nL fr lo own) (hd : decode cc pc = .ok (.invokestatic idx, 3)) (hw : Cond.methodLink own idx arraycopyName ∈ Wds) (w1 : Cond.native arraycopyName ∈ Wds) (w2 : Cond.static arraycopyName ∈ Wds) (w3 : Cond.initialized "java/lang/System" ∈ Wds) (hf : 1 ≤ fr ∧ catS st + (nativeFrameWords "java/lang/System" "arraycopy" 5 + 11) ≤ lo)
    (hv : Vd a i) (hv2 : Vd b j) (he : ∀ g, encF X a i g = aJ X n0 g) (he2 : ∀ g, encF X b j g = aJ X n1 g) (h1 : 0 ≤ sp) (h2 : 0 ≤ dp) (h3 : 0 ≤ n) (h4 : sp + n ≤ n0) (h5 : dp + n ≤ n1) (hn : n0 < 2147483648 ∧ n1 < 2147483648) (hta : ∀ z, tyk a z = 1) (htb : ∀ z, tyk b z = 1)
    (kk : G X M cc nL (cpyA σ a i sp b j dp n) (pc + 3) ls st) : G X M cc nL σ pc ls (.inl n :: .inl dp :: .inr (.inr (b, j)) :: .inl sp :: .inr (.inr (a, i)) :: st) := by
  obtain ⟨p, l, e, R, s, m, args, below, meth, c, Q⟩ := M
  obtain ⟨hx, hb, hml, hown, hts, hK, hfr, hlo⟩ := ok
  intro H locs la hM hR hS hl
  obtain ⟨k1, hp1, hw1⟩ := wl_get (X := X) (σ := σ) hv
  obtain ⟨k2, hp2, hw2⟩ := wl_get (X := X) (σ := σ) hv2
  rw [he] at hw1
  rw [he2] at hw2
  have q1 : R32 sp := ⟨by omega, by omega⟩
  have q2 : R32 dp := ⟨by omega, by omega⟩
  have q3 : R32 n := ⟨by omega, by omega⟩
  refine va_copyl (sp := iI sp) (dp := iI dp) (n := iI n) (ty := .long) hx hb (hml.trans hl.1.symm) hown (hts _ hw) (hts _ w1) (hts _ w2) (hts _ w3) hK.1 hM.P hK.2.1.D hS k1 k2 1 1 hw1 hw2 rfl rfl rfl (fun z => by rw [← iI_0, iI_lt q1 r0] at z; omega) (fun z => by rw [← iI_0, iI_lt q2 r0] at z; omega) (fun z => by rw [← iI_0, iI_lt q3 r0] at z; omega) (by rw [iI_clamp h1 q1, iI_clamp h3 q3]; omega) (by rw [iI_clamp h2 q2, iI_clamp h3 q3]; omega) (fun _ _ => rfl) (by rw [hfr]; exact hf.1) (by rw [hlo, catS_eq]; exact hf.2) hd (fun H1 locs1 hP1 _ hS1 => ?_)
  rw [iI_clamp h1 q1, iI_clamp h2 q2, iI_clamp h3 q3, cpy_j h1 h2 h3] at hP1
  refine kk H1 locs1 la (Mem.put (g := fun y => if dp ≤ y ∧ y < dp + n then σ a i (sp + (y - dp)) else σ b j y) hp2 ?_ hP1 ?_ ?_) ?_ hS1 hl
  · rw [he2]; rfl
  · funext y
    rw [cpyA_e]
    simp
  · intro b' j' h
    funext y
    unfold cpyA
    rw [if_neg (fun q => h ⟨q.1, q.2.1⟩)]
  · intro a' i' z
    unfold cpyA
    split
    · rename_i q
      rw [q.1, htb]
      have := hR a i (sp + (z - dp))
      rw [hta] at this
      exact this
    · exact hR a' i' z
theorem g_cVA {idx : Nat} {y : MethodName} {cb : ByteArray} {mL n fr2 lo2 a ci N : Nat} {ret : Option FieldType} {i : Int} {av rest : List AV} {fs : List Value} {T : u_T} {v : AV} {μ : Mm} (ok : MOk X M cc nL fr lo own) (hd : decode cc pc = .ok (.invokevirtual idx, 3)) (hw : MV own idx y cb mL ret n) (ct : Ct X M.2.1 y cb mL ret fr2 lo2 σ (.inr (.inr (a, i)) :: av) (AnsA (some v) μ))
    (hst : st = av.reverse ++ .inr (.inr (a, i)) :: rest) (hv : Vd a i) (he : encF X a i (σ a i) = .inr (ci, fs)) (hc : vwCl[ci]? = some (y.cls, T, N)) (hf : fr2 + 1 ≤ fr ∧ 8 + (mL + 11) + lo2 ≤ lo) (hn : av.length = n) (h8 : catS rest ≤ 8)
    (kk : ∀ s, Ag s μ → G X M cc nL s (pc + 3) ls (v :: rest)) : G X M cc nL σ pc ls st :=
  g_callV ok hd hw ct hv he hc hf hn hst h8 (fun r s h => by obtain ⟨rfl, h⟩ := h; exact kk s h)
end COPYJ
theorem WC_cut (σ : Mm) (i ws : Int) : ∀ (k : Nat) (c : Int), WC σ i ws k c = WC (cut σ) i ws k c
  | 0, c => rfl
  | k + 1, c => by
    have ih : WC σ i ws k = WC (cut σ) i ws k := funext (WC_cut σ i ws k)
    show gF (wqF σ i ws (σ 1 0 0 - ((k : Int) + 1)) c (WC σ i ws k)) (fiC σ i (σ 1 0 0 - ((k : Int) + 1)) c) (laC σ i (σ 1 0 0 - ((k : Int) + 1)) c + 1 - fiC σ i (σ 1 0 0 - ((k : Int) + 1)) c).toNat = _
    rw [ih]
    rfl
theorem WC_ag {s σ : Mm} (h : Ag s σ) (i ws : Int) (k : Nat) (c : Int) : WC s i ws k c = WC σ i ws k c := (WC_cut s i ws k c).trans ((congrArg (fun m => WC m i ws k c) h).trans (WC_cut σ i ws k c).symm)
theorem WC_cut2 (σ : Mm) (i ws : Int) : WC σ i ws = WC (cut σ) i ws := funext fun k => funext fun c => WC_cut σ i ws k c
theorem wqC_cut (σ : Mm) (i ws : Int) : wqC σ i ws = wqC (cut σ) i ws := by
  funext t c d
  unfold wqC
  rw [WC_cut2 σ i ws]
  rfl
theorem bdC_cut (σ : Mm) (i ws : Int) : bdC σ i ws = bdC (cut σ) i ws := by
  funext t c
  unfold bdC
  rw [wqC_cut σ i ws, WC_cut2 σ i ws]
  rfl
theorem bcC_cut (σ : Mm) (i ws : Int) : bcC σ i ws = bcC (cut σ) i ws := by
  funext t
  unfold bcC
  rw [bdC_cut σ i ws]
  rfl
theorem bpC_cut (σ : Mm) (i ws : Int) : bpC σ i ws = bpC (cut σ) i ws := by
  funext t
  unfold bpC
  rw [bdC_cut σ i ws, bcC_cut σ i ws]
theorem nxW_cut (σ : Mm) (i ws t : Int) (f : Int → Int) : ∀ (m : Nat) (y : Int), nxW σ i ws t f m y = nxW (cut σ) i ws t f m y
  | 0, _ => rfl
  | m + 1, y => by
    have ih := nxW_cut σ i ws t f m y
    show (if f m ≠ 0 ∧ (fiC σ i t m ≤ y - m ∧ y - m ≤ laC σ i t m) ∧ wqC σ i ws t m (y - m) = WC σ i ws (σ 1 0 0 - t).toNat m then min 1000000000 (nxW σ i ws t f m y + f m) else nxW σ i ws t f m y) = _
    rw [ih, wqC_cut σ i ws, WC_cut2 σ i ws]
    rfl
theorem fW_cut (σ : Mm) (i ws : Int) : ∀ (t : Nat) (y : Int), fW σ i ws t y = fW (cut σ) i ws t y
  | 0, _ => rfl
  | t + 1, y => by
    have ih : fW σ i ws t = fW (cut σ) i ws t := funext (fW_cut σ i ws t)
    show nxW σ i ws t (fW σ i ws t) (σ 8 i 2 + 1).toNat y = _
    rw [ih, nxW_cut]
    rfl
theorem wbC_ag {s σ : Mm} (h : Ag s σ) (i ws : Int) : wbC s i ws = wbC σ i ws := by
  have key : ∀ μ : Mm, wbC μ i ws = wbC (cut μ) i ws := by
    intro μ
    unfold wbC
    rw [show fW μ i ws (μ 1 0 0).toNat = fW (cut μ) i ws (μ 1 0 0).toNat from funext (fW_cut μ i ws _)]
    rfl
  exact (key s).trans ((congrArg (fun m => wbC m i ws) h).trans (key σ).symm)
theorem bpC_ag {s σ : Mm} (h : Ag s σ) (i ws : Int) : bpC s i ws = bpC σ i ws := (bpC_cut s i ws).trans ((congrArg (fun m => bpC m i ws) h).trans (bpC_cut σ i ws).symm)
theorem TW_ag {s σ : Mm} {i ws lo : Int} (h : Ag s σ) (hW : TW s σ i ws lo) : TW s s i ws lo := by
  have e1 : s 1 = σ 1 := congrFun h 1
  have e8 : s 8 = σ 8 := congrFun h 8
  intro t c h0 h1 h2 h3
  rw [WC_ag h, e1]
  rw [e1] at h1
  rw [e8] at h3
  exact hW t c h0 h1 h2 h3
theorem nxW_b {σ : Mm} {i ws t : Int} {f : Int → Int} (hf : ∀ y, 0 ≤ f y ∧ f y ≤ 1000000000) : ∀ (m : Nat) (y : Int), 0 ≤ nxW σ i ws t f m y ∧ nxW σ i ws t f m y ≤ 1000000000
  | 0, _ => by show 0 ≤ (0 : Int) ∧ (0 : Int) ≤ 1000000000; omega
  | m + 1, y => by
    have q := nxW_b (σ := σ) (i := i) (ws := ws) (t := t) hf m y
    have r := hf m
    unfold nxW
    split <;> omega
theorem fW_b (σ : Mm) (i ws : Int) : ∀ (t : Nat) (y : Int), 0 ≤ fW σ i ws t y ∧ fW σ i ws t y ≤ 1000000000
  | 0, y => by unfold fW; split <;> omega
  | t + 1, y => nxW_b (fW_b σ i ws t) _ y
theorem sp_nx {s σ : Mm} (hS : CS σ) (hK : CK σ) {i ws t c : Int} (h0 : 0 ≤ t) (h1 : t < σ 1 0 0) (hz : σ 8 i 5 ≤ σ 8 i 2) (hO : OS s σ i ws t) (hW : TW s σ i ws t) (hc : 0 ≤ c ∧ c ≤ σ 8 i 2) {f : Int → Int} (h13 : s 13 0 c = f c) {y : Int} (h14 : s 14 0 y = nxW σ i ws t f c.toNat y) : spF s t c 14 0 y = nxW σ i ws t f (c + 1).toNat y := by
  rw [show (c + 1).toNat = c.toNat + 1 by omega]
  show _ = (if f (c.toNat : Int) ≠ 0 ∧ _ then _ else _)
  rw [Int.toNat_of_nonneg hc.1]
  unfold spF
  rw [h13]
  by_cases q : f c = 0
  · rw [if_pos q, if_neg (fun x => x.1 q), h14]
  · rw [if_neg q]
    unfold spW
    rw [(fm_cv hO c).1, (fm_cv hO c).2, hW t c (by omega) (by omega) hc.1 hc.2, h14, h13]
    by_cases r : fiC σ i t c ≤ y - c ∧ y - c ≤ laC σ i t c
    · have b := inr_b hS hK hz r.1 r.2
      rw [wq_cv hO (TW_lo (by omega) hW) h1 b.1 b.2.1]
      by_cases u : wqC σ i ws t c (y - c) = WC σ i ws (σ 1 0 0 - t).toNat c
      · rw [if_pos ⟨rfl, rfl, ⟨r.1, by omega⟩, u⟩, if_pos ⟨q, r, u⟩]
      · rw [if_neg (fun x => u x.2.2.2), if_neg (fun x => u x.2.2)]
    · rw [if_neg (fun x => r ⟨x.2.2.1.1, by omega⟩), if_neg (fun x => r x.2.1)]
theorem spF_o {s : Mm} {t c : Int} {b : Nat} (h : b ≠ 14) : spF s t c b = s b := by
  unfold spF
  split
  · rfl
  · funext j y
    unfold spW
    rw [if_neg (fun q => h q.1)]

set_option maxRecDepth 100000 in
set_option maxHeartbeats 4000000 in
theorem c_X5_waysOfBest (X : XW) (l : Launch) (σ : Mm) (i z2 : Int) (b0 : 0 ≤ i) (b1 : i < 4) (hw : 1 ≤ z2 ∧ z2 ≤ 15) (hz : σ 8 i 5 ≤ σ 8 i 2) (hW : TW σ σ i z2 0) (hV : ¬ WC σ i z2 (σ 1 0 0).toNat (σ 8 i 3) = NONE) (hC : 0 ≤ σ 8 i 3 ∧ σ 8 i 3 ≤ σ 8 i 2) (hS : CS σ) (hT : CT σ) (hP : CP σ) (hK : CK σ) (hQS : PS σ σ z2) : Ct X l yX5_waysOfBest cX5_waysOfBest 6 (Option.some FieldType.long) 3 70 σ [.inr (.inr (10, 0)), .inr (.inr (1, 0)), .inr (.inr (8, i))] (AnsA (some (.inr (.inl (wbC σ i z2)))) σ) := by
  refine Ct.intro (own := RX5) (by decide) rfl (Nat.le_of_ble_eq_true rfl) (fun M hM ok hq => ?_)
  subst hM
  show G X M cX5_waysOfBest 6 σ 0 [(0, .inr (.inr (10, 0))), (1, .inr (.inr (1, 0))), (2, .inr (.inr (8, i)))] []
  have aT := hT.1
  have aT2 := hT.2
  have hN : NONE = -9000000000000000005 := rfl
  have aS := hS i
  refine g_aload_n ok dX5_waysOfBest_0 rfl rfl ?_
  refine g_getr ok dX5_waysOfBest_1 fl_X5_21 (Vd.one rfl) rfl rfl ?_
  refine g_lconst (v := 0) ok dX5_waysOfBest_4 (by decide +kernel) ?_
  refine g_cS0 ok dX5_waysOfBest_5 ms_X5_37 (c_J7_fill_d0a16 X _ _ _ _ _ _ (Vd.one rfl) (fun _ => rfl) (fun _ => rfl) (by decide) ⟨by omega, by omega⟩) rfl (by decide) rfl (Nat.le_of_ble_eq_true rfl) ?_
  refine g_aload_n ok dX5_waysOfBest_8 rfl rfl ?_
  refine g_getr ok dX5_waysOfBest_9 fl_X5_21 (Vd.one rfl) rfl rfl ?_
  refine g_aload_n ok dX5_waysOfBest_12 rfl rfl ?_
  refine g_geti2 σ (z := 3) ok dX5_waysOfBest_13 fl_X5_75 (Vd.four rfl (by omega) (by omega)) rfl rfl rfl rfl (fun h1 h2 => ?_)
  refine g_lconst (v := 1) ok dX5_waysOfBest_16 (by decide +kernel) ?_
  refine g_last ok dX5_waysOfBest_17 (Vd.one rfl) (fun _ => rfl) ⟨by omega, by omega⟩ (by decide) rfl ⟨by omega, by omega⟩ ?_
  refine g_iconst (v := 0) ok dX5_waysOfBest_18 (by decide +kernel) ?_
  refine g_istore_n ok dX5_waysOfBest_19 rfl (Nat.le_of_ble_eq_true rfl) ?_
  have L20 : ∀ (n : Nat) (t : Int) (s : Mm), (0 ≤ t) → (t ≤ σ 1 0 0) → (Ag s σ) → (s 11 = σ 11) → (s 50 = σ 50) → (s 10 0 1 = σ 10 0 1) → (∀ y, 0 ≤ y → y ≤ 60 → s 13 0 y = fW σ i z2 t.toNat y) → (σ 1 0 0 - t < n) → G X M cX5_waysOfBest 6 s 20 [(0, .inr (.inr (10, 0))), (1, .inr (.inr (1, 0))), (2, .inr (.inr (8, i))), (3, .inl t)] [] := by
    intro n
    induction n with
    | zero => intro t s ht0 ht1 hA2 h11 h50b hO1b hF hm; exact absurd hm (by omega)
    | succ n L20ih =>
      intro t s ht0 ht1 hA2 h11 h50b hO1b hF hm
      have hS2 : CS s := agP (F := CS) (fun _ => rfl) hA2 hS
      have hK2 : CK s := agP (F := CK) (fun _ => rfl) hA2 hK
      have hP2 : CP s := agP (F := CP) (fun _ => rfl) hA2 hP
      refine g_iload_n ok dX5_waysOfBest_20 rfl rfl ?_
      refine g_aload_n ok dX5_waysOfBest_21 rfl rfl ?_
      refine g_geti2 σ (z := 0) ok dX5_waysOfBest_22 fl_X5_52 (Vd.one rfl) rfl rfl rfl (congrFun (congrFun (congrFun hA2 1) _) _) (fun h3 h4 => ?_)
      refine g_icmp_ge (tgt := 89) ok dX5_waysOfBest_25 (by decide) ⟨by omega, by omega⟩ ⟨by omega, by omega⟩ (fun c5 => ?_) (fun c5 => ?_)
      · skip
        refine g_lconst (v := 0) ok dX5_waysOfBest_89 (by decide +kernel) ?_
        refine g_lstore_n ok dX5_waysOfBest_90 rfl (Nat.le_of_ble_eq_true rfl) ?_
        refine g_iconst (v := 0) ok dX5_waysOfBest_91 (by decide +kernel) ?_
        refine g_istore ok dX5_waysOfBest_92 (Nat.le_of_ble_eq_true rfl) ?_
        have L94 : ∀ (n : Nat) (k : Int) (c9 : Int), (0 ≤ k) → (k ≤ 61) → (c9 = sm (fW σ i z2 (σ 1 0 0).toNat) k) → (0 ≤ c9 ∧ c9 ≤ 1000000000 * k) → (61 - k < n) → G X M cX5_waysOfBest 6 s 94 [(0, .inr (.inr (10, 0))), (1, .inr (.inr (1, 0))), (2, .inr (.inr (8, i))), (3, .inr (.inl c9)), (5, .inl k)] [] := by
          intro n
          induction n with
          | zero => intro k c9 hk0 hk1 hc9 hb9 hm9; exact absurd hm9 (by omega)
          | succ n L94ih =>
            intro k c9 hk0 hk1 hc9 hb9 hm9
            refine g_iload ok dX5_waysOfBest_94 rfl ?_
            refine g_bipush (v := 61) ok dX5_waysOfBest_96 (by decide +kernel) ?_
            refine g_icmp_ge (tgt := 117) ok dX5_waysOfBest_98 (by decide) ⟨by omega, by omega⟩ ⟨by omega, by omega⟩ (fun c6 => ?_) (fun c6 => ?_)
            · skip
              refine g_ldc2 (v := 1000000000) ok dX5_waysOfBest_117 wd3_72 (by decide +kernel) ?_
              refine g_lload_n ok dX5_waysOfBest_120 rfl rfl ?_
              refine g_minL ok dX5_waysOfBest_121 wd3_73 wd2_232 wd1_12 wd2_233 ⟨Nat.le_of_ble_eq_true rfl, Nat.le_of_ble_eq_true rfl⟩ ⟨by omega, by omega⟩ ⟨by omega, by omega⟩ ?_
              exact g_lret ok hq dX5_waysOfBest_124 (ansA (by (unfold wbC; rw [hc9, show k = 61 by omega])) (by exact hA2))
            · skip
              refine g_lload_n ok dX5_waysOfBest_101 rfl rfl ?_
              refine g_aload_n ok dX5_waysOfBest_102 rfl rfl ?_
              refine g_getr ok dX5_waysOfBest_103 fl_X5_21 (Vd.one rfl) rfl rfl ?_
              refine g_iload ok dX5_waysOfBest_106 rfl ?_
              refine g_lald ok dX5_waysOfBest_108 (Vd.one rfl) (fun _ => rfl) ⟨by omega, by omega⟩ (by decide) rfl (fun h7 h8 => ?_)
              refine g_ladd ok dX5_waysOfBest_109 ?_
              refine g_lstore_n ok dX5_waysOfBest_110 rfl (Nat.le_of_ble_eq_true rfl) ?_
              refine g_iinc ok dX5_waysOfBest_111 rfl rfl (Nat.le_of_ble_eq_true rfl) ?_
              refine g_goto (tgt := 94) ok dX5_waysOfBest_114 (by decide) ?_
              refine G.norm [(0, .inr (.inr (10, 0))), (1, .inr (.inr (1, 0))), (2, .inr (.inr (8, i))), (3, .inr (.inl _)), (5, .inl _)] ⟨rfl, rfl, rfl, rfl, rfl, trivial⟩ (L94ih _ _ ?_ ?_ ?_ ?_ ?_)
              · omega
              · omega
              · (rw [sm_s hk0, hc9, hF k (by omega) (by omega), show t = σ 1 0 0 by omega])
              · (have q := fW_b σ i z2 t.toNat k; rw [hF k (by omega) (by omega)]; omega)
              · omega
        refine G.norm [(0, .inr (.inr (10, 0))), (1, .inr (.inr (1, 0))), (2, .inr (.inr (8, i))), (3, .inr (.inl _)), (5, .inl _)] ⟨rfl, rfl, rfl, rfl, rfl, trivial⟩ (L94 (62 : Nat) _ _ ?_ ?_ ?_ ?_ ?_)
        · omega
        · omega
        · rfl
        · omega
        · omega
      · skip
        refine g_aload_n ok dX5_waysOfBest_28 rfl rfl ?_
        refine g_aload_n ok dX5_waysOfBest_29 rfl rfl ?_
        refine g_aload_n ok dX5_waysOfBest_30 rfl rfl ?_
        refine g_iload_n ok dX5_waysOfBest_31 rfl rfl ?_
        refine g_cVR ok dX5_waysOfBest_32 mv_X5_64 (c_X5_openStep X _ _ _ _ _ (by omega) (by omega) (by omega) (by omega) (by omega) hS2 hP2 hK2 (PS_mv hA2 h50b hO1b hQS)) rfl (Vd.one rfl) rfl rfl (by decide) rfl (Nat.le_of_ble_eq_true rfl) (fun s2 hs2 => ?_)
        obtain ⟨hB1, hB2, hB3, hB4, hB5, hB6, hB7⟩ := hs2
        have hA5 : Ag s2 σ := hB1.tr hA2
        have hO5 : OS s2 σ i z2 t := Eq.mp (ag (F := fun σ => OS s2 σ i z2 t) (fun _ => rfl) hA2) hB5
        have hW5 : TW s2 σ i z2 0 := TW_11 (hB2.trans h11) hW
        refine g_aload_n ok dX5_waysOfBest_35 rfl rfl ?_
        refine g_getr ok dX5_waysOfBest_36 fl_X5_24 (Vd.one rfl) rfl rfl ?_
        refine g_lconst (v := 0) ok dX5_waysOfBest_39 (by decide +kernel) ?_
        refine g_cS0 ok dX5_waysOfBest_40 ms_X5_37 (c_J7_fill_d0a16 X _ _ _ _ _ _ (Vd.one rfl) (fun _ => rfl) (fun _ => rfl) (by decide) ⟨by omega, by omega⟩) rfl (by decide) rfl (Nat.le_of_ble_eq_true rfl) ?_
        refine g_iconst (v := 0) ok dX5_waysOfBest_43 (by decide +kernel) ?_
        refine g_istore ok dX5_waysOfBest_44 (Nat.le_of_ble_eq_true rfl) ?_
        have L46 : ∀ (n : Nat) (c : Int) (s : Mm), (0 ≤ c) → (c ≤ σ 8 i 2 + 1) → (Ag s σ) → (s 11 = σ 11) → (s 50 = σ 50) → (s 10 0 1 = σ 10 0 1) → (OS s σ i z2 t) → (∀ y, 0 ≤ y → y ≤ 60 → s 13 0 y = fW σ i z2 t.toNat y) → (∀ y, 0 ≤ y → y ≤ 60 → s 14 0 y = nxW σ i z2 t (fW σ i z2 t.toNat) c.toNat y) → (σ 8 i 2 + 1 - c < n) → G X M cX5_waysOfBest 6 s 46 [(0, .inr (.inr (10, 0))), (1, .inr (.inr (1, 0))), (2, .inr (.inr (8, i))), (3, .inl t), (4, .inl c)] [] := by
          intro n
          induction n with
          | zero => intro c s hc0 hc1 hA3 h11c h50c hO1c hO3 h13c h14c hm3; exact absurd hm3 (by omega)
          | succ n L46ih =>
            intro c s hc0 hc1 hA3 h11c h50c hO1c hO3 h13c h14c hm3
            have hW3 : TW s σ i z2 0 := TW_11 h11c hW
            refine g_iload ok dX5_waysOfBest_46 rfl ?_
            refine g_aload_n ok dX5_waysOfBest_48 rfl rfl ?_
            refine g_geti2 σ (z := 2) ok dX5_waysOfBest_49 fl_X5_68 (Vd.four rfl (by omega) (by omega)) rfl rfl rfl (congrFun (congrFun (congrFun hA3 8) _) _) (fun h9 h10 => ?_)
            refine g_icmp_gt (tgt := 68) ok dX5_waysOfBest_52 (by decide) ⟨by omega, by omega⟩ ⟨by omega, by omega⟩ (fun c11 => ?_) (fun c11 => ?_)
            · skip
              refine g_aload_n ok dX5_waysOfBest_68 rfl rfl ?_
              refine g_getr ok dX5_waysOfBest_69 fl_X5_24 (Vd.one rfl) rfl rfl ?_
              refine g_iconst (v := 0) ok dX5_waysOfBest_72 (by decide +kernel) ?_
              refine g_aload_n ok dX5_waysOfBest_73 rfl rfl ?_
              refine g_getr ok dX5_waysOfBest_74 fl_X5_21 (Vd.one rfl) rfl rfl ?_
              refine g_iconst (v := 0) ok dX5_waysOfBest_77 (by decide +kernel) ?_
              refine g_bipush (v := 61) ok dX5_waysOfBest_78 (by decide +kernel) ?_
              refine g_copyJ ok dX5_waysOfBest_80 wd3_74 wd2_93 wd2_92 wd1_11 ⟨Nat.le_of_ble_eq_true rfl, Nat.le_of_ble_eq_true rfl⟩ (Vd.one rfl) (Vd.one rfl) (fun _ => rfl) (fun _ => rfl) (by omega) (by omega) (by omega) (by omega) (by omega) ⟨by decide, by decide⟩ (fun _ => rfl) (fun _ => rfl) ?_
              refine g_iinc ok dX5_waysOfBest_83 rfl rfl (Nat.le_of_ble_eq_true rfl) ?_
              refine g_goto (tgt := 20) ok dX5_waysOfBest_86 (by decide) ?_
              refine G.norm [(0, .inr (.inr (10, 0))), (1, .inr (.inr (1, 0))), (2, .inr (.inr (8, i))), (3, .inl _)] ⟨rfl, rfl, rfl, rfl, trivial⟩ (L20ih _ _ ?_ ?_ ?_ ?_ ?_ ?_ ?_ ?_)
              · omega
              · omega
              · exact (cut_cpy (Or.inl (by decide))).tr hA3
              · (rw [cpyA_s (by decide)]; exact h11c)
              · (rw [cpyA_s (by decide)]; exact h50c)
              · (rw [cpyA_s (by decide)]; exact hO1c)
              · (intro y a1 a2; rw [cpyA_e, if_pos (by omega), show (t + 1).toNat = t.toNat + 1 by omega, show 0 + (y - 0) = y by omega, h14c y a1 a2]; show _ = nxW σ i z2 (t.toNat : Int) (fW σ i z2 t.toNat) (σ 8 i 2 + 1).toNat y; rw [Int.toNat_of_nonneg ht0, show c = σ 8 i 2 + 1 by omega])
              · omega
            · skip
              refine g_aload_n ok dX5_waysOfBest_55 rfl rfl ?_
              refine g_iload_n ok dX5_waysOfBest_56 rfl rfl ?_
              refine g_iload ok dX5_waysOfBest_57 rfl ?_
              refine g_cV0 ok dX5_waysOfBest_59 mv_X5_86 (c_X5_spreadWays X _ _ _ _ (by omega) (by omega) (by omega) (by omega) (OS_PB hS hK hO3) (QB_of hS hP hK hw (by omega) (by omega) (by omega) hz hO3 (TW_lo (by omega) hW3) _) (fun y a1 a2 => by rw [h13c y a1 a2]; exact fW_b σ i z2 t.toNat y) (fun y a1 a2 => by rw [h14c y a1 a2]; exact nxW_b (fW_b σ i z2 t.toNat) c.toNat y)) rfl (Vd.one rfl) rfl rfl (by decide) rfl (Nat.le_of_ble_eq_true rfl) ?_
              refine g_iinc ok dX5_waysOfBest_62 rfl rfl (Nat.le_of_ble_eq_true rfl) ?_
              refine g_goto (tgt := 46) ok dX5_waysOfBest_65 (by decide) ?_
              refine G.norm [(0, .inr (.inr (10, 0))), (1, .inr (.inr (1, 0))), (2, .inr (.inr (8, i))), (3, .inl t), (4, .inl _)] ⟨rfl, rfl, rfl, rfl, rfl, trivial⟩ (L46ih _ _ ?_ ?_ ?_ ?_ ?_ ?_ ?_ ?_ ?_ ?_)
              · omega
              · omega
              · exact cut_spF.tr hA3
              · (rw [spF_o (by decide)]; exact h11c)
              · (rw [spF_o (by decide)]; exact h50c)
              · (rw [spF_o (by decide)]; exact hO1c)
              · (unfold OS; rw [spF_o (by decide), spF_o (by decide)]; exact hO3)
              · (rw [spF_o (by decide)]; exact h13c)
              · (intro y a1 a2; exact sp_nx hS hK ht0 (by omega) hz hO3 (TW_lo (by omega) hW3) ⟨by omega, by omega⟩ (h13c c (by omega) (by omega)) (h14c y a1 a2))
              · omega
        refine G.norm [(0, .inr (.inr (10, 0))), (1, .inr (.inr (1, 0))), (2, .inr (.inr (8, i))), (3, .inl t), (4, .inl _)] ⟨rfl, rfl, rfl, rfl, rfl, trivial⟩ (L46 (62 : Nat) _ _ ?_ ?_ ?_ ?_ ?_ ?_ ?_ ?_ ?_ ?_)
        · omega
        · omega
        · exact (cut_fill (Or.inl (by decide))).tr hA5
        · exact hB2.trans h11
        · exact hB6.trans h50b
        · exact hB7.trans hO1b
        · exact hO5
        · (intro y a1 a2; rw [fillR_s (by decide), hB3]; exact hF y a1 a2)
        · (intro y a1 a2; rw [fillR_e, if_pos (by omega)]; rfl)
        · omega
  refine G.norm [(0, .inr (.inr (10, 0))), (1, .inr (.inr (1, 0))), (2, .inr (.inr (8, i))), (3, .inl _)] ⟨rfl, rfl, rfl, rfl, trivial⟩ (L20 (37 : Nat) _ _ ?_ ?_ ?_ ?_ ?_ ?_ ?_ ?_)
  · omega
  · omega
  · exact Ag_up (Or.inl (by decide)) (cut_fill (Or.inl (by decide)))
  · rfl
  · rfl
  · rfl
  · (intro y a1 a2; rw [up_e]; show _ = (if _ then _ else _); by_cases q : y = σ 8 i 3 <;> simp [q, fillR]; omega)
  · omega

set_option maxRecDepth 100000 in
set_option maxHeartbeats 4000000 in
theorem c_X7_best (X : XW) (l : Launch) (σ : Mm) (z1 z2 : Int) (rz1 : R32 z1) (rz2 : R32 z2) (hz : σ 8 z1 5 ≤ σ 8 z1 2) (hC : 0 ≤ σ 8 z1 3 ∧ σ 8 z1 3 ≤ σ 8 z1 2) (hS : CS σ) (hT : CT σ) (hP : CP σ) (hK : CK σ) : Ct X l yX7_best cX7_best 8 (Option.some FieldType.long) 4 95 σ [.inr (.inr (0, 0)), .inl z1, .inl z2] (AnsA (some (.inr (.inl (rc_best σ z1 z2)))) (sc_best σ z1 z2)) := by
  refine Ct.intro (own := RX7) (by decide) rfl (Nat.le_of_ble_eq_true rfl) (fun M hM ok hq => ?_)
  subst hM
  have rz1l := rz1.1
  have rz1r := rz1.2
  have rz2l := rz2.1
  have rz2r := rz2.2
  show G X M cX7_best 8 σ 0 [(0, .inr (.inr (0, 0))), (1, .inl z1), (2, .inl z2)] []
  have aT := hT.1
  have aT2 := hT.2
  have hN : NONE = -9000000000000000005 := rfl
  have aS := hS z1
  have hb := bI_1 (c := 1 ≤ z2 ∧ z2 ≤ 15)
  have hb2 := bI_in (c := 1 ≤ z2 ∧ z2 ≤ 15)
  refine g_aload_n ok dX7_best_0 rfl rfl ?_
  refine g_iload_n ok dX7_best_1 rfl rfl ?_
  refine g_iload_n ok dX7_best_2 rfl rfl ?_
  refine g_cS ok dX7_best_3 ms_X7_193 (c_X7_areWorlds X _ _ _ ⟨by omega, by omega⟩) rfl (by decide) rfl (Nat.le_of_ble_eq_true rfl) ?_
  refine g_cV3 ok dX7_best_6 mv_X7_154 (c_X7_refusal X _ _ _ _ ⟨by omega, by omega⟩ (by first | omega | exact bI_in.1) (by first | omega | exact bI_in.2)) rfl (Vd.one rfl) rfl rfl (by decide) rfl (Nat.le_of_ble_eq_true rfl) (fun q1 => ?_) (fun q1 => ?_) (fun q1 => ?_)
  · skip
    refine g_lstore_n ok dX7_best_9 rfl (Nat.le_of_ble_eq_true rfl) ?_
    refine g_lload_n ok dX7_best_10 rfl rfl ?_
    refine g_lconst (v := 0) ok dX7_best_11 (by decide +kernel) ?_
    refine g_lcmp_eq (tgt := 18) ok dX7_best_12 dX7_best_13 (by decide) ⟨by omega, by omega⟩ ⟨by omega, by omega⟩ (fun c2 => ?_) (fun c2 => ?_)
    · skip
      exfalso
      omega
    · skip
      refine g_lload_n ok dX7_best_16 rfl rfl ?_
      exact g_lret ok hq dX7_best_17 (ansA (by (simp only [rc_best, BAD, NO, FULL, NONE, NOTHING, INDEX, SIZE] <;> (repeat (first | rw [if_pos (by omega)] | rw [if_neg (by omega)])) <;> omega)) (by (unfold sc_best; rw [if_neg (by omega)]; first | exact Ag.rf σ | exact hA)))
  · skip
    refine g_lstore_n ok dX7_best_9 rfl (Nat.le_of_ble_eq_true rfl) ?_
    refine g_lload_n ok dX7_best_10 rfl rfl ?_
    refine g_lconst (v := 0) ok dX7_best_11 (by decide +kernel) ?_
    refine g_lcmp_eq (tgt := 18) ok dX7_best_12 dX7_best_13 (by decide) ⟨by omega, by omega⟩ ⟨by omega, by omega⟩ (fun c3 => ?_) (fun c3 => ?_)
    · skip
      exfalso
      omega
    · skip
      refine g_lload_n ok dX7_best_16 rfl rfl ?_
      exact g_lret ok hq dX7_best_17 (ansA (by (simp only [rc_best, BAD, NO, FULL, NONE, NOTHING, INDEX, SIZE] <;> (repeat (first | rw [if_pos (by omega)] | rw [if_neg (by omega)])) <;> omega)) (by (unfold sc_best; rw [if_neg (by omega)]; first | exact Ag.rf σ | exact hA)))
  · skip
    refine g_lstore_n ok dX7_best_9 rfl (Nat.le_of_ble_eq_true rfl) ?_
    refine g_lload_n ok dX7_best_10 rfl rfl ?_
    refine g_lconst (v := 0) ok dX7_best_11 (by decide +kernel) ?_
    refine g_lcmp_eq (tgt := 18) ok dX7_best_12 dX7_best_13 (by decide) ⟨by omega, by omega⟩ ⟨by omega, by omega⟩ (fun c4 => ?_) (fun c4 => ?_)
    · skip
      refine g_aload_n ok dX7_best_18 rfl rfl ?_
      refine g_getr ok dX7_best_19 fl_X7_25 (Vd.one rfl) rfl rfl ?_
      refine g_iload_n ok dX7_best_22 rfl rfl ?_
      refine g_aald ok dX7_best_23 (Vd.one rfl) (fun _ => rfl) ⟨by omega, by omega⟩ rfl ?_
      refine g_astore ok dX7_best_24 (Nat.le_of_ble_eq_true rfl) ?_
      refine g_aload_n ok dX7_best_26 rfl rfl ?_
      refine g_getr ok dX7_best_27 fl_X7_33 (Vd.one rfl) rfl rfl ?_
      refine g_aload_n ok dX7_best_30 rfl rfl ?_
      refine g_getr ok dX7_best_31 fl_X7_18 (Vd.one rfl) rfl rfl ?_
      refine g_iload_n ok dX7_best_34 rfl rfl ?_
      refine g_cVR ok dX7_best_35 mv_X7_207 (c_X5_sumPrices X _ _ _ (by omega) hP) rfl (Vd.one rfl) rfl rfl (by decide) rfl (Nat.le_of_ble_eq_true rfl) (fun s1 hs1 => ?_)
      obtain ⟨hA1, hQ1⟩ := hs1
      have hS1 : CS s1 := agP (F := CS) (fun _ => rfl) hA1 hS
      have hK1 : CK s1 := agP (F := CK) (fun _ => rfl) hA1 hK
      have hP1 : CP s1 := agP (F := CP) (fun _ => rfl) hA1 hP
      have hT1 : CT s1 := agP (F := CT) (fun _ => rfl) hA1 hT
      have hz1 : s1 8 z1 5 ≤ s1 8 z1 2 := Eq.mpr (ag (F := fun s => s 8 z1 5 ≤ s 8 z1 2) (fun _ => rfl) hA1) hz
      have hC1 : 0 ≤ s1 8 z1 3 ∧ s1 8 z1 3 ≤ s1 8 z1 2 := Eq.mpr (ag (F := fun s => 0 ≤ s 8 z1 3 ∧ s 8 z1 3 ≤ s 8 z1 2) (fun _ => rfl) hA1) hC
      have hQ1s : PS s1 s1 z2 := PS_ag hA1 hQ1
      have e11 : s1 1 = σ 1 := congrFun hA1 1
      refine g_aload_n ok dX7_best_38 rfl rfl ?_
      refine g_getr ok dX7_best_39 fl_X7_33 (Vd.one rfl) rfl rfl ?_
      refine g_aload_n ok dX7_best_42 rfl rfl ?_
      refine g_getr ok dX7_best_43 fl_X7_12 (Vd.one rfl) rfl rfl ?_
      refine g_aload ok dX7_best_46 rfl ?_
      refine g_iconst (v := 0) ok dX7_best_48 (by decide +kernel) ?_
      refine g_cVR ok dX7_best_49 mv_X7_211 (c_X5_solve X _ _ _ _ _ (by omega) (by omega) (by omega) (by omega) (by rw [e11]; omega) hz1 hS1 hT1 hP1 hK1 hQ1s) rfl (Vd.one rfl) rfl rfl (by decide) rfl (Nat.le_of_ble_eq_true rfl) (fun s hs => ?_)
      obtain ⟨hA0, hW0, h500, hO10⟩ := hs
      have hA : Ag s σ := hA0.tr hA1
      have hS2 : CS s := agP (F := CS) (fun _ => rfl) hA hS
      have hK2 : CK s := agP (F := CK) (fun _ => rfl) hA hK
      have hP2 : CP s := agP (F := CP) (fun _ => rfl) hA hP
      have hT2 : CT s := agP (F := CT) (fun _ => rfl) hA hT
      have hzs : s 8 z1 5 ≤ s 8 z1 2 := Eq.mpr (ag (F := fun s => s 8 z1 5 ≤ s 8 z1 2) (fun _ => rfl) hA) hz
      have hCs : 0 ≤ s 8 z1 3 ∧ s 8 z1 3 ≤ s 8 z1 2 := Eq.mpr (ag (F := fun s => 0 ≤ s 8 z1 3 ∧ s 8 z1 3 ≤ s 8 z1 2) (fun _ => rfl) hA) hC
      have hWs : TW s s z1 z2 0 := TW_ag hA0 hW0
      have hQs : PS s s z2 := PS_mv hA0 h500 hO10 hQ1s
      have aV := WC_b hS hP hK (i := z1) (ws := z2) (by omega) (σ 1 0 0).toNat (σ 8 z1 3)
      have e1 : s 1 = σ 1 := congrFun hA 1
      have e8 : s 8 = σ 8 := congrFun hA 8
      have e0 : s 11 0 (0 * 61 + σ 8 z1 3) = WC σ z1 z2 (σ 1 0 0).toNat (σ 8 z1 3) := by have q := hWs 0 (σ 8 z1 3) (by omega) (by rw [e1]; omega) (by omega) (by rw [e8]; omega); rw [Int.sub_zero, WC_ag hA, e1] at q; exact q
      have hVs : ¬ WC σ z1 z2 (σ 1 0 0).toNat (σ 8 z1 3) = NONE → ¬ WC s z1 z2 (s 1 0 0).toNat (s 8 z1 3) = NONE := fun h => (by rw [WC_ag hA, e1, e8]; exact h)
      refine g_aload_n ok dX7_best_52 rfl rfl ?_
      refine g_getr ok dX7_best_53 fl_X7_33 (Vd.one rfl) rfl rfl ?_
      refine g_iconst (v := 0) ok dX7_best_56 (by decide +kernel) ?_
      refine g_aload ok dX7_best_57 rfl ?_
      refine g_geti2 σ (z := 3) ok dX7_best_59 fl_X7_164 (Vd.four rfl (by omega) (by omega)) rfl rfl rfl (congrFun (congrFun (congrFun hA 8) _) _) (fun h5 h6 => ?_)
      refine g_cV ok dX7_best_62 mv_X7_215 (c_X5_worthOf X _ _ _ _ (by omega) (by omega) (by omega) (by omega)) rfl (Vd.one rfl) rfl rfl (by decide) rfl (Nat.le_of_ble_eq_true rfl) ?_
      rw [e0]
      refine g_lstore ok dX7_best_65 (Nat.le_of_ble_eq_true rfl) ?_
      refine g_lload ok dX7_best_67 rfl ?_
      refine g_ldc2 (v := -9000000000000000005) ok dX7_best_69 wd2_227 (by decide +kernel) ?_
      refine g_lcmp_eq (tgt := 89) ok dX7_best_72 dX7_best_73 (by decide) ⟨by omega, by omega⟩ ⟨by omega, by omega⟩ (fun c7 => ?_) (fun c7 => ?_)
      · skip
        refine g_lload ok dX7_best_89 rfl ?_
        exact g_lret ok hq dX7_best_91 (ansA (by (simp only [rc_best]; rw [if_pos (by omega), if_neg (by omega)])) (by (unfold sc_best; first | (rw [if_neg (by omega)]; exact hA) | (rw [if_pos (by omega)]; rw [bpC_ag hA, e1] at hA9; exact hA9.tr (plW_ag hA)))))
      · skip
        refine g_aload_n ok dX7_best_76 rfl rfl ?_
        refine g_getr ok dX7_best_77 fl_X7_33 (Vd.one rfl) rfl rfl ?_
        refine g_aload_n ok dX7_best_80 rfl rfl ?_
        refine g_getr ok dX7_best_81 fl_X7_12 (Vd.one rfl) rfl rfl ?_
        refine g_aload ok dX7_best_84 rfl ?_
        refine g_cVR ok dX7_best_86 mv_X7_219 (c_X5_writeFirstBest X _ _ _ _ (by omega) (by omega) (by omega) hzs hWs (hVs (by omega)) hCs hS2 hT2 hP2 hK2 hQs) rfl (Vd.one rfl) rfl rfl (by decide) rfl (Nat.le_of_ble_eq_true rfl) (fun s3 hA9 => ?_)
        refine g_lload ok dX7_best_89 rfl ?_
        exact g_lret ok hq dX7_best_91 (ansA (by (simp only [rc_best]; rw [if_pos (by omega), if_neg (by omega)])) (by (unfold sc_best; first | (rw [if_neg (by omega)]; exact hA) | (rw [if_pos (by omega)]; rw [bpC_ag hA, e1] at hA9; exact hA9.tr (plW_ag hA)))))
    · skip
      exfalso
      omega

set_option maxRecDepth 100000 in
set_option maxHeartbeats 4000000 in
theorem c_X7_many (X : XW) (l : Launch) (σ : Mm) (z1 z2 : Int) (rz1 : R32 z1) (rz2 : R32 z2) (hz : σ 8 z1 5 ≤ σ 8 z1 2) (hC : 0 ≤ σ 8 z1 3 ∧ σ 8 z1 3 ≤ σ 8 z1 2) (hS : CS σ) (hT : CT σ) (hP : CP σ) (hK : CK σ) : Ct X l yX7_many cX7_many 6 (Option.some FieldType.long) 4 95 σ [.inr (.inr (0, 0)), .inl z1, .inl z2] (AnsA (some (.inr (.inl (rc_many σ z1 z2)))) (σ)) := by
  refine Ct.intro (own := RX7) (by decide) rfl (Nat.le_of_ble_eq_true rfl) (fun M hM ok hq => ?_)
  subst hM
  have rz1l := rz1.1
  have rz1r := rz1.2
  have rz2l := rz2.1
  have rz2r := rz2.2
  show G X M cX7_many 6 σ 0 [(0, .inr (.inr (0, 0))), (1, .inl z1), (2, .inl z2)] []
  have aT := hT.1
  have aT2 := hT.2
  have hN : NONE = -9000000000000000005 := rfl
  have aS := hS z1
  have hb := bI_1 (c := 1 ≤ z2 ∧ z2 ≤ 15)
  have hb2 := bI_in (c := 1 ≤ z2 ∧ z2 ≤ 15)
  refine g_aload_n ok dX7_many_0 rfl rfl ?_
  refine g_iload_n ok dX7_many_1 rfl rfl ?_
  refine g_iload_n ok dX7_many_2 rfl rfl ?_
  refine g_cS ok dX7_many_3 ms_X7_193 (c_X7_areWorlds X _ _ _ ⟨by omega, by omega⟩) rfl (by decide) rfl (Nat.le_of_ble_eq_true rfl) ?_
  refine g_cV3 ok dX7_many_6 mv_X7_154 (c_X7_refusal X _ _ _ _ ⟨by omega, by omega⟩ (by first | omega | exact bI_in.1) (by first | omega | exact bI_in.2)) rfl (Vd.one rfl) rfl rfl (by decide) rfl (Nat.le_of_ble_eq_true rfl) (fun q1 => ?_) (fun q1 => ?_) (fun q1 => ?_)
  · skip
    refine g_lstore_n ok dX7_many_9 rfl (Nat.le_of_ble_eq_true rfl) ?_
    refine g_lload_n ok dX7_many_10 rfl rfl ?_
    refine g_lconst (v := 0) ok dX7_many_11 (by decide +kernel) ?_
    refine g_lcmp_eq (tgt := 18) ok dX7_many_12 dX7_many_13 (by decide) ⟨by omega, by omega⟩ ⟨by omega, by omega⟩ (fun c2 => ?_) (fun c2 => ?_)
    · skip
      exfalso
      omega
    · skip
      refine g_lload_n ok dX7_many_16 rfl rfl ?_
      exact g_lret ok hq dX7_many_17 (ansA (by (simp only [rc_many, BAD, NO, FULL, NONE, NOTHING, INDEX, SIZE] <;> (repeat (first | rw [if_pos (by omega)] | rw [if_neg (by omega)])) <;> omega)) (by first | exact Ag.rf σ | exact hA))
  · skip
    refine g_lstore_n ok dX7_many_9 rfl (Nat.le_of_ble_eq_true rfl) ?_
    refine g_lload_n ok dX7_many_10 rfl rfl ?_
    refine g_lconst (v := 0) ok dX7_many_11 (by decide +kernel) ?_
    refine g_lcmp_eq (tgt := 18) ok dX7_many_12 dX7_many_13 (by decide) ⟨by omega, by omega⟩ ⟨by omega, by omega⟩ (fun c3 => ?_) (fun c3 => ?_)
    · skip
      exfalso
      omega
    · skip
      refine g_lload_n ok dX7_many_16 rfl rfl ?_
      exact g_lret ok hq dX7_many_17 (ansA (by (simp only [rc_many, BAD, NO, FULL, NONE, NOTHING, INDEX, SIZE] <;> (repeat (first | rw [if_pos (by omega)] | rw [if_neg (by omega)])) <;> omega)) (by first | exact Ag.rf σ | exact hA))
  · skip
    refine g_lstore_n ok dX7_many_9 rfl (Nat.le_of_ble_eq_true rfl) ?_
    refine g_lload_n ok dX7_many_10 rfl rfl ?_
    refine g_lconst (v := 0) ok dX7_many_11 (by decide +kernel) ?_
    refine g_lcmp_eq (tgt := 18) ok dX7_many_12 dX7_many_13 (by decide) ⟨by omega, by omega⟩ ⟨by omega, by omega⟩ (fun c4 => ?_) (fun c4 => ?_)
    · skip
      refine g_aload_n ok dX7_many_18 rfl rfl ?_
      refine g_getr ok dX7_many_19 fl_X7_25 (Vd.one rfl) rfl rfl ?_
      refine g_iload_n ok dX7_many_22 rfl rfl ?_
      refine g_aald ok dX7_many_23 (Vd.one rfl) (fun _ => rfl) ⟨by omega, by omega⟩ rfl ?_
      refine g_astore ok dX7_many_24 (Nat.le_of_ble_eq_true rfl) ?_
      refine g_aload_n ok dX7_many_26 rfl rfl ?_
      refine g_getr ok dX7_many_27 fl_X7_33 (Vd.one rfl) rfl rfl ?_
      refine g_aload_n ok dX7_many_30 rfl rfl ?_
      refine g_getr ok dX7_many_31 fl_X7_18 (Vd.one rfl) rfl rfl ?_
      refine g_iload_n ok dX7_many_34 rfl rfl ?_
      refine g_cVR ok dX7_many_35 mv_X7_207 (c_X5_sumPrices X _ _ _ (by omega) hP) rfl (Vd.one rfl) rfl rfl (by decide) rfl (Nat.le_of_ble_eq_true rfl) (fun s1 hs1 => ?_)
      obtain ⟨hA1, hQ1⟩ := hs1
      have hS1 : CS s1 := agP (F := CS) (fun _ => rfl) hA1 hS
      have hK1 : CK s1 := agP (F := CK) (fun _ => rfl) hA1 hK
      have hP1 : CP s1 := agP (F := CP) (fun _ => rfl) hA1 hP
      have hT1 : CT s1 := agP (F := CT) (fun _ => rfl) hA1 hT
      have hz1 : s1 8 z1 5 ≤ s1 8 z1 2 := Eq.mpr (ag (F := fun s => s 8 z1 5 ≤ s 8 z1 2) (fun _ => rfl) hA1) hz
      have hC1 : 0 ≤ s1 8 z1 3 ∧ s1 8 z1 3 ≤ s1 8 z1 2 := Eq.mpr (ag (F := fun s => 0 ≤ s 8 z1 3 ∧ s 8 z1 3 ≤ s 8 z1 2) (fun _ => rfl) hA1) hC
      have hQ1s : PS s1 s1 z2 := PS_ag hA1 hQ1
      have e11 : s1 1 = σ 1 := congrFun hA1 1
      refine g_aload_n ok dX7_many_38 rfl rfl ?_
      refine g_getr ok dX7_many_39 fl_X7_33 (Vd.one rfl) rfl rfl ?_
      refine g_aload_n ok dX7_many_42 rfl rfl ?_
      refine g_getr ok dX7_many_43 fl_X7_12 (Vd.one rfl) rfl rfl ?_
      refine g_aload ok dX7_many_46 rfl ?_
      refine g_iconst (v := 0) ok dX7_many_48 (by decide +kernel) ?_
      refine g_cVR ok dX7_many_49 mv_X7_211 (c_X5_solve X _ _ _ _ _ (by omega) (by omega) (by omega) (by omega) (by rw [e11]; omega) hz1 hS1 hT1 hP1 hK1 hQ1s) rfl (Vd.one rfl) rfl rfl (by decide) rfl (Nat.le_of_ble_eq_true rfl) (fun s hs => ?_)
      obtain ⟨hA0, hW0, h500, hO10⟩ := hs
      have hA : Ag s σ := hA0.tr hA1
      have hS2 : CS s := agP (F := CS) (fun _ => rfl) hA hS
      have hK2 : CK s := agP (F := CK) (fun _ => rfl) hA hK
      have hP2 : CP s := agP (F := CP) (fun _ => rfl) hA hP
      have hT2 : CT s := agP (F := CT) (fun _ => rfl) hA hT
      have hzs : s 8 z1 5 ≤ s 8 z1 2 := Eq.mpr (ag (F := fun s => s 8 z1 5 ≤ s 8 z1 2) (fun _ => rfl) hA) hz
      have hCs : 0 ≤ s 8 z1 3 ∧ s 8 z1 3 ≤ s 8 z1 2 := Eq.mpr (ag (F := fun s => 0 ≤ s 8 z1 3 ∧ s 8 z1 3 ≤ s 8 z1 2) (fun _ => rfl) hA) hC
      have hWs : TW s s z1 z2 0 := TW_ag hA0 hW0
      have hQs : PS s s z2 := PS_mv hA0 h500 hO10 hQ1s
      have aV := WC_b hS hP hK (i := z1) (ws := z2) (by omega) (σ 1 0 0).toNat (σ 8 z1 3)
      have e1 : s 1 = σ 1 := congrFun hA 1
      have e8 : s 8 = σ 8 := congrFun hA 8
      have e0 : s 11 0 (0 * 61 + σ 8 z1 3) = WC σ z1 z2 (σ 1 0 0).toNat (σ 8 z1 3) := by have q := hWs 0 (σ 8 z1 3) (by omega) (by rw [e1]; omega) (by omega) (by rw [e8]; omega); rw [Int.sub_zero, WC_ag hA, e1] at q; exact q
      have hVs : ¬ WC σ z1 z2 (σ 1 0 0).toNat (σ 8 z1 3) = NONE → ¬ WC s z1 z2 (s 1 0 0).toNat (s 8 z1 3) = NONE := fun h => (by rw [WC_ag hA, e1, e8]; exact h)
      refine g_aload_n ok dX7_many_52 rfl rfl ?_
      refine g_getr ok dX7_many_53 fl_X7_33 (Vd.one rfl) rfl rfl ?_
      refine g_iconst (v := 0) ok dX7_many_56 (by decide +kernel) ?_
      refine g_aload ok dX7_many_57 rfl ?_
      refine g_geti2 σ (z := 3) ok dX7_many_59 fl_X7_164 (Vd.four rfl (by omega) (by omega)) rfl rfl rfl (congrFun (congrFun (congrFun hA 8) _) _) (fun h5 h6 => ?_)
      refine g_cV ok dX7_many_62 mv_X7_215 (c_X5_worthOf X _ _ _ _ (by omega) (by omega) (by omega) (by omega)) rfl (Vd.one rfl) rfl rfl (by decide) rfl (Nat.le_of_ble_eq_true rfl) ?_
      rw [e0]
      refine g_ldc2 (v := -9000000000000000005) ok dX7_many_65 wd2_227 (by decide +kernel) ?_
      refine g_lcmp_ne (tgt := 74) ok dX7_many_68 dX7_many_69 (by decide) ⟨by omega, by omega⟩ ⟨by omega, by omega⟩ (fun c7 => ?_) (fun c7 => ?_)
      · skip
        refine g_aload_n ok dX7_many_74 rfl rfl ?_
        refine g_getr ok dX7_many_75 fl_X7_33 (Vd.one rfl) rfl rfl ?_
        refine g_aload_n ok dX7_many_78 rfl rfl ?_
        refine g_getr ok dX7_many_79 fl_X7_12 (Vd.one rfl) rfl rfl ?_
        refine g_aload ok dX7_many_82 rfl ?_
        refine g_cVA ok dX7_many_84 mv_X7_223 (c_X5_waysOfBest X _ _ _ _ (by omega) (by omega) (by omega) hzs hWs (hVs (by omega)) hCs hS2 hT2 hP2 hK2 hQs) rfl (Vd.one rfl) rfl rfl (by decide) rfl (Nat.le_of_ble_eq_true rfl) (fun s9 hA9 => ?_)
        rw [show wbC s z1 z2 = wbC σ z1 z2 from wbC_ag hA z1 z2]
        exact g_lret ok hq dX7_many_87 (ansA (by (simp only [rc_many, BAD, NO, FULL, NONE, NOTHING, INDEX, SIZE] <;> (repeat (first | rw [if_pos (by omega)] | rw [if_neg (by omega)])) <;> omega)) (by exact hA9.tr hA))
      · skip
        refine g_lconst (v := 0) ok dX7_many_72 (by decide +kernel) ?_
        exact g_lret ok hq dX7_many_73 (ansA (by (simp only [rc_many, BAD, NO, FULL, NONE, NOTHING, INDEX, SIZE] <;> (repeat (first | rw [if_pos (by omega)] | rw [if_neg (by omega)])) <;> omega)) (by first | exact Ag.rf σ | exact hA))
    · skip
      exfalso
      omega

set_option maxRecDepth 100000 in
set_option maxHeartbeats 4000000 in
theorem c_X7_value (X : XW) (l : Launch) (σ : Mm) (z1 z2 z3 z4 : Int) (rz1 : R32 z1) (rz2 : R32 z2) (rz3 : R32 z3) (rz4 : R32 z4) (hz : σ 8 z1 5 ≤ σ 8 z1 2) (hC : 0 ≤ σ 8 z1 3 ∧ σ 8 z1 3 ≤ σ 8 z1 2) (hS : CS σ) (hT : CT σ) (hP : CP σ) (hK : CK σ) : Ct X l yX7_value cX7_value 8 (Option.some FieldType.long) 4 95 σ [.inr (.inr (0, 0)), .inl z1, .inl z2, .inl z3, .inl z4] (AnsA (some (.inr (.inl (rc_value σ z1 z2 z3 z4)))) (σ)) := by
  refine Ct.intro (own := RX7) (by decide) rfl (Nat.le_of_ble_eq_true rfl) (fun M hM ok hq => ?_)
  subst hM
  have rz1l := rz1.1
  have rz1r := rz1.2
  have rz2l := rz2.1
  have rz2r := rz2.2
  have rz3l := rz3.1
  have rz3r := rz3.2
  have rz4l := rz4.1
  have rz4r := rz4.2
  show G X M cX7_value 8 σ 0 [(0, .inr (.inr (0, 0))), (1, .inl z1), (2, .inl z2), (3, .inl z3), (4, .inl z4)] []
  have aT := hT.1
  have aT2 := hT.2
  have hN : NONE = -9000000000000000005 := rfl
  have aS := hS z1
  have hb := bI_1 (c := 1 ≤ z2 ∧ z2 ≤ 15)
  have hb2 := bI_in (c := 1 ≤ z2 ∧ z2 ≤ 15)
  refine g_aload_n ok dX7_value_0 rfl rfl ?_
  refine g_iload_n ok dX7_value_1 rfl rfl ?_
  refine g_iload_n ok dX7_value_2 rfl rfl ?_
  refine g_cS ok dX7_value_3 ms_X7_193 (c_X7_areWorlds X _ _ _ ⟨by omega, by omega⟩) rfl (by decide) rfl (Nat.le_of_ble_eq_true rfl) ?_
  refine g_cV3 ok dX7_value_6 mv_X7_154 (c_X7_refusal X _ _ _ _ ⟨by omega, by omega⟩ (by first | omega | exact bI_in.1) (by first | omega | exact bI_in.2)) rfl (Vd.one rfl) rfl rfl (by decide) rfl (Nat.le_of_ble_eq_true rfl) (fun q1 => ?_) (fun q1 => ?_) (fun q1 => ?_)
  · skip
    refine g_lstore ok dX7_value_9 (Nat.le_of_ble_eq_true rfl) ?_
    refine g_lload ok dX7_value_11 rfl ?_
    refine g_lconst (v := 0) ok dX7_value_13 (by decide +kernel) ?_
    refine g_lcmp_eq (tgt := 21) ok dX7_value_14 dX7_value_15 (by decide) ⟨by omega, by omega⟩ ⟨by omega, by omega⟩ (fun c2 => ?_) (fun c2 => ?_)
    · skip
      exfalso
      omega
    · skip
      refine g_lload ok dX7_value_18 rfl ?_
      exact g_lret ok hq dX7_value_20 (ansA (by (simp only [rc_value, BAD, NO, FULL, NONE, NOTHING, INDEX, SIZE] <;> (repeat (first | rw [if_pos (by omega)] | rw [if_neg (by omega)])) <;> omega)) (by first | exact Ag.rf σ | exact hA))
  · skip
    refine g_lstore ok dX7_value_9 (Nat.le_of_ble_eq_true rfl) ?_
    refine g_lload ok dX7_value_11 rfl ?_
    refine g_lconst (v := 0) ok dX7_value_13 (by decide +kernel) ?_
    refine g_lcmp_eq (tgt := 21) ok dX7_value_14 dX7_value_15 (by decide) ⟨by omega, by omega⟩ ⟨by omega, by omega⟩ (fun c3 => ?_) (fun c3 => ?_)
    · skip
      exfalso
      omega
    · skip
      refine g_lload ok dX7_value_18 rfl ?_
      exact g_lret ok hq dX7_value_20 (ansA (by (simp only [rc_value, BAD, NO, FULL, NONE, NOTHING, INDEX, SIZE] <;> (repeat (first | rw [if_pos (by omega)] | rw [if_neg (by omega)])) <;> omega)) (by first | exact Ag.rf σ | exact hA))
  · skip
    refine g_lstore ok dX7_value_9 (Nat.le_of_ble_eq_true rfl) ?_
    refine g_lload ok dX7_value_11 rfl ?_
    refine g_lconst (v := 0) ok dX7_value_13 (by decide +kernel) ?_
    refine g_lcmp_eq (tgt := 21) ok dX7_value_14 dX7_value_15 (by decide) ⟨by omega, by omega⟩ ⟨by omega, by omega⟩ (fun c4 => ?_) (fun c4 => ?_)
    · skip
      refine g_aload_n ok dX7_value_21 rfl rfl ?_
      refine g_getr ok dX7_value_22 fl_X7_25 (Vd.one rfl) rfl rfl ?_
      refine g_iload_n ok dX7_value_25 rfl rfl ?_
      refine g_aald ok dX7_value_26 (Vd.one rfl) (fun _ => rfl) ⟨by omega, by omega⟩ rfl ?_
      refine g_astore ok dX7_value_27 (Nat.le_of_ble_eq_true rfl) ?_
      refine g_iload_n ok dX7_value_29 rfl rfl ?_
      refine g_iconst (v := 0) ok dX7_value_30 (by decide +kernel) ?_
      refine g_aload_n ok dX7_value_31 rfl rfl ?_
      refine g_getr ok dX7_value_32 fl_X7_12 (Vd.one rfl) rfl rfl ?_
      refine g_geti (z := 0) ok dX7_value_35 fl_X7_68 (Vd.one rfl) rfl rfl rfl (fun h5 h6 => ?_)
      refine g_cS ok dX7_value_38 ms_X7_58 (c_X7_within X _ _ _ _ _ ⟨by omega, by omega⟩ ⟨by omega, by omega⟩ ⟨by omega, by omega⟩) rfl (by decide) rfl (Nat.le_of_ble_eq_true rfl) ?_
      refine g_ifb_eq (tgt := 58) ok dX7_value_41 (by decide) (fun c7 => ?_) (fun c7 => ?_)
      · skip
        refine g_ldc2 (v := -9000000000000000001) ok dX7_value_58 wd2_31 (by decide +kernel) ?_
        exact g_lret ok hq dX7_value_61 (ansA (by (simp only [rc_value, BAD, NO, FULL, NONE, NOTHING, INDEX, SIZE] <;> (repeat (first | rw [if_pos (by omega)] | rw [if_neg (by omega)])) <;> omega)) (by first | exact Ag.rf σ | exact hA))
      · skip
        refine g_iload ok dX7_value_44 rfl ?_
        refine g_iconst (v := 0) ok dX7_value_46 (by decide +kernel) ?_
        refine g_aload ok dX7_value_47 rfl ?_
        refine g_geti (z := 2) ok dX7_value_49 fl_X7_227 (Vd.four rfl (by omega) (by omega)) rfl rfl rfl (fun h8 h9 => ?_)
        refine g_cS ok dX7_value_52 ms_X7_58 (c_X7_within X _ _ _ _ _ ⟨by omega, by omega⟩ ⟨by omega, by omega⟩ ⟨by omega, by omega⟩) rfl (by decide) rfl (Nat.le_of_ble_eq_true rfl) ?_
        refine g_ifb_ne (tgt := 62) ok dX7_value_55 (by decide) (fun c10 => ?_) (fun c10 => ?_)
        · skip
          refine g_aload_n ok dX7_value_62 rfl rfl ?_
          refine g_getr ok dX7_value_63 fl_X7_33 (Vd.one rfl) rfl rfl ?_
          refine g_aload_n ok dX7_value_66 rfl rfl ?_
          refine g_getr ok dX7_value_67 fl_X7_18 (Vd.one rfl) rfl rfl ?_
          refine g_iload_n ok dX7_value_70 rfl rfl ?_
          refine g_cVR ok dX7_value_71 mv_X7_207 (c_X5_sumPrices X _ _ _ (by omega) hP) rfl (Vd.one rfl) rfl rfl (by decide) rfl (Nat.le_of_ble_eq_true rfl) (fun s1 hs1 => ?_)
          obtain ⟨hA1, hQ1⟩ := hs1
          have hS1 : CS s1 := agP (F := CS) (fun _ => rfl) hA1 hS
          have hK1 : CK s1 := agP (F := CK) (fun _ => rfl) hA1 hK
          have hP1 : CP s1 := agP (F := CP) (fun _ => rfl) hA1 hP
          have hT1 : CT s1 := agP (F := CT) (fun _ => rfl) hA1 hT
          have hz1 : s1 8 z1 5 ≤ s1 8 z1 2 := Eq.mpr (ag (F := fun s => s 8 z1 5 ≤ s 8 z1 2) (fun _ => rfl) hA1) hz
          have hC1 : 0 ≤ s1 8 z1 3 ∧ s1 8 z1 3 ≤ s1 8 z1 2 := Eq.mpr (ag (F := fun s => 0 ≤ s 8 z1 3 ∧ s 8 z1 3 ≤ s 8 z1 2) (fun _ => rfl) hA1) hC
          have hQ1s : PS s1 s1 z2 := PS_ag hA1 hQ1
          have e11 : s1 1 = σ 1 := congrFun hA1 1
          refine g_aload_n ok dX7_value_74 rfl rfl ?_
          refine g_getr ok dX7_value_75 fl_X7_33 (Vd.one rfl) rfl rfl ?_
          refine g_aload_n ok dX7_value_78 rfl rfl ?_
          refine g_getr ok dX7_value_79 fl_X7_12 (Vd.one rfl) rfl rfl ?_
          refine g_aload ok dX7_value_82 rfl ?_
          refine g_iload_n ok dX7_value_84 rfl rfl ?_
          refine g_cVR ok dX7_value_85 mv_X7_211 (c_X5_solve X _ _ _ _ _ (by omega) (by omega) (by omega) (by omega) (by rw [e11]; omega) hz1 hS1 hT1 hP1 hK1 hQ1s) rfl (Vd.one rfl) rfl rfl (by decide) rfl (Nat.le_of_ble_eq_true rfl) (fun s hs => ?_)
          obtain ⟨hA0, hW0, h500, hO10⟩ := hs
          have hA : Ag s σ := hA0.tr hA1
          have hS2 : CS s := agP (F := CS) (fun _ => rfl) hA hS
          have hK2 : CK s := agP (F := CK) (fun _ => rfl) hA hK
          have hP2 : CP s := agP (F := CP) (fun _ => rfl) hA hP
          have hT2 : CT s := agP (F := CT) (fun _ => rfl) hA hT
          have hzs : s 8 z1 5 ≤ s 8 z1 2 := Eq.mpr (ag (F := fun s => s 8 z1 5 ≤ s 8 z1 2) (fun _ => rfl) hA) hz
          have hCs : 0 ≤ s 8 z1 3 ∧ s 8 z1 3 ≤ s 8 z1 2 := Eq.mpr (ag (F := fun s => 0 ≤ s 8 z1 3 ∧ s 8 z1 3 ≤ s 8 z1 2) (fun _ => rfl) hA) hC
          have hWs : TW s s z1 z2 z3 := TW_ag hA0 hW0
          have hQs : PS s s z2 := PS_mv hA0 h500 hO10 hQ1s
          have e1 : s 1 = σ 1 := congrFun hA 1
          have e8 : s 8 = σ 8 := congrFun hA 8
          have e0 : s 11 0 (z3 * 61 + z4) = WC σ z1 z2 (σ 1 0 0 - z3).toNat z4 := by have q := hWs z3 z4 (by omega) (by rw [e1]; omega) (by omega) (by rw [e8]; omega); rw [WC_ag hA, e1] at q; exact q
          refine g_aload_n ok dX7_value_88 rfl rfl ?_
          refine g_getr ok dX7_value_89 fl_X7_33 (Vd.one rfl) rfl rfl ?_
          refine g_iload_n ok dX7_value_92 rfl rfl ?_
          refine g_iload ok dX7_value_93 rfl ?_
          refine g_cV ok dX7_value_95 mv_X7_215 (c_X5_worthOf X _ _ _ _ (by omega) (by omega) (by omega) (by omega)) rfl (Vd.one rfl) rfl rfl (by decide) rfl (Nat.le_of_ble_eq_true rfl) ?_
          rw [e0]
          exact g_lret ok hq dX7_value_98 (ansA (by (simp only [rc_value, BAD, NO, FULL, NONE, NOTHING, INDEX, SIZE] <;> (repeat (first | rw [if_pos (by omega)] | rw [if_neg (by omega)])) <;> omega)) (by first | exact Ag.rf σ | exact hA))
        · skip
          refine g_ldc2 (v := -9000000000000000001) ok dX7_value_58 wd2_31 (by decide +kernel) ?_
          exact g_lret ok hq dX7_value_61 (ansA (by (simp only [rc_value, BAD, NO, FULL, NONE, NOTHING, INDEX, SIZE] <;> (repeat (first | rw [if_pos (by omega)] | rw [if_neg (by omega)])) <;> omega)) (by first | exact Ag.rf σ | exact hA))
    · skip
      exfalso
      omega
