theorem zI (c : ClassId) (n : Nat) : vp_cell c (n, .inl (fun _ => iI 0)) = arrV c n (fun _ => defaultValue .int) := by rw [iI_0]; rfl
theorem zZ (c : ClassId) (n : Nat) : vp_cell c (n, .inl (fun _ => iI 0)) = arrV c n (fun _ => defaultValue .boolean) := by rw [iI_0]; rfl
theorem zJ (c : ClassId) (n : Nat) : vp_cell c (n, .inr (.inl (fun _ => lI 0))) = arrV c n (fun _ => defaultValue .long) := by rw [lI_0]; rfl
theorem arrV_c {c : ClassId} {n : Nat} {f g : Nat → Value} (h : ∀ j, j < n → f j = g j) : arrV c n f = arrV c n g := by
  have e : (fun j : Fin n => f j.val) = fun j : Fin n => g j.val := funext (fun j => h j.val j.isLt)
  unfold arrV
  rw [e]
/-- a row filled -/
def flF (v : Int) (f : Nat → Int32) (k : Nat) : Nat → Int32 := fun j => if j < k then iI v else f j
theorem flF_0 (v : Int) (f : Nat → Int32) : flF v f 0 = f := by funext j; unfold flF; rw [if_neg (by omega)]
theorem flF_s (v : Int) (f : Nat → Int32) (k : Nat) : upd (flF v f k) k (iI v) = flF v f (k + 1) := by
  funext j
  unfold upd flF
  by_cases h : j = k
  · rw [if_pos h, if_pos (by omega)]
  · rw [if_neg h]
    by_cases h2 : j < k
    · rw [if_pos h2, if_pos (by omega)]
    · rw [if_neg h2, if_neg (by omega)]
set_option maxRecDepth 100000 in
set_option maxHeartbeats 4000000 in
theorem k_fill (D : va_G) (cA : Nat → ClassId) (A : Nat → Prop) (l : Launch) (pre lw : va_W) (i a n : Nat) (f : Nat → Int32) (v : Int) (hi : lw[i]? = some (a, .inl (cA 0, n, .inl f))) (hn : n < 2147483648) : CMk D cA A l yJ7_fill_53178 cJ7_fill_53178 4 0 0 0 0 (pre ++ lw) [.ref a, .int (iI v)] (fun ws => ws = pre ++ lw.set i (a, .inl (cA 0, n, .inl (flF v f n)))) := by
  refine CMk.intro (own := RJ7) (by decide) rfl (Nat.le_of_ble_eq_true rfl) (fun M hM ok hq _ => ?_)
  subst hM
  have hlen : i < lw.length := (List.getElem?_eq_some_iff.mp hi).1
  show KG D A M 4 pre lw 0 0 0 [(0, .ref a), (1, .int (iI v))] []
  refine k_iconst (v := 0) ok dJ7_fill_53178_0 (by decide +kernel) ?_
  refine k_istore (ls2 := [(2, .int (iI 0)), (0, .ref a), (1, .int (iI v))]) ok dJ7_fill_53178_1 rfl (Nat.le_of_ble_eq_true rfl) rfl ?_
  refine k_aload (j := 1) ok dJ7_fill_53178_2 rfl rfl ?_
  refine k_alen (t := 0) (n := n) ok dJ7_fill_53178_3 hi rfl rfl ?_
  refine k_istore (z := n) (ls2 := [(3, .int (iI n)), (2, .int (iI 0)), (0, .ref a), (1, .int (iI v))]) ok dJ7_fill_53178_4 rfl (Nat.le_of_ble_eq_true rfl) rfl ?_
  have L : ∀ (m k : Nat) (ls : List (Nat × Value)), k ≤ n → n - k < m → ls[0]? = some (0, .ref a) → ls[1]? = some (1, .int (iI v)) → ls[2]? = some (2, .int (iI k)) → ls[3]? = some (3, .int (iI n)) → ls.length = 4 → KG D A M 4 pre (lw.set i (a, .inl (cA 0, n, .inl (flF v f k)))) 0 0 5 ls [] := by
    intro m
    induction m with
    | zero => intro k ls h1 h2; omega
    | succ m ih =>
      intro k ls h1 h2 e0 e1 e2 e3 e4
      have els : ls = [(0, .ref a), (1, .int (iI v)), (2, .int (iI k)), (3, .int (iI n))] := by
        match ls, e4 with
        | [x0, x1, x2, x3], _ =>
          cases e0; cases e1; cases e2; cases e3; rfl
      subst els
      refine k_iload (j := 2) (z := k) ok dJ7_fill_53178_5 rfl rfl ?_
      refine k_iload (j := 3) (z := n) ok dJ7_fill_53178_6 rfl rfl ?_
      refine k_ge 20 ok dJ7_fill_53178_7 (by decide) ⟨by omega, by omega⟩ ⟨by omega, by omega⟩ (fun c1 => ?_) (fun c1 => ?_)
      · refine k_vret ok hq dJ7_fill_53178_20 ⟨Nat.le_refl _, Nat.le_refl _⟩ ?_
        rw [show k = n by omega]
      · refine k_aload (j := 0) ok dJ7_fill_53178_10 rfl rfl ?_
        refine k_iload (j := 2) (z := k) ok dJ7_fill_53178_11 rfl rfl ?_
        refine k_iload (j := 1) (z := v) ok dJ7_fill_53178_12 rfl rfl ?_
        refine k_iast (i := i) ok dJ7_fill_53178_13 (List.getElem?_set_self hlen) ⟨by omega, by omega⟩ hn ?_
        refine k_iinc (j := 2) (z := k) (v := ((k + 1 : Nat) : Int)) (ls2 := [(2, .int (iI ((k + 1 : Nat) : Int))), (0, .ref a), (1, .int (iI v)), (3, .int (iI n))]) ok dJ7_fill_53178_14 rfl (by omega) (Nat.le_of_ble_eq_true rfl) rfl ?_
        refine k_goto 5 ok dJ7_fill_53178_17 (by decide) ?_
        refine KG.re (pre2 := pre) (lw2 := lw.set i (a, .inl (cA 0, n, .inl (flF v f (k + 1))))) (by rw [List.set_set, Int.toNat_natCast, flF_s]) ?_
        refine KG.pk [1, 2, 0, 3] (ls2 := [(0, .ref a), (1, .int (iI v)), (2, .int (iI ((k + 1 : Nat) : Int))), (3, .int (iI n))]) rfl ?_
        exact ih (k + 1) _ (by omega) (by omega) rfl rfl rfl rfl rfl
  refine KG.re (pre2 := pre) (lw2 := lw.set i (a, .inl (cA 0, n, .inl (flF v f 0)))) ?_ ?_
  · rw [flF_0]
    congr 1
    refine (List.ext_getElem? (fun j => ?_)).symm
    by_cases h : j = i
    · subst h; rw [List.getElem?_set_self hlen, hi]
    · rw [List.getElem?_set_ne (Ne.symm h)]
  refine KG.pk [2, 3, 1, 0] (ls2 := [(0, .ref a), (1, .int (iI v)), (2, .int (iI ((0 : Nat) : Int))), (3, .int (iI n))]) rfl ?_
  exact L (n + 1) 0 _ (by omega) (by omega) rfl rfl rfl rfl rfl
theorem fp_X0_9 : FP RX0 9 0 12 (.array .int) := ⟨TX0, 13, tyX0, rfl, by decide, wd1_108, rfl, inw0, tyX0_ok, nmX0, rfl, by decide +kernel⟩
set_option maxRecDepth 100000 in
set_option maxHeartbeats 4000000 in
theorem k_X0_init (D : va_G) (cA : Nat → ClassId) (A : Nat → Prop) (l : Launch) (pre : va_W) (h0 : Nat) : CMk D cA A l yX0_init cX0_init 1 1 12 1 36 (pre ++ [(h0, .inr (0, [.int (iI 0), .int (iI 0), .int (iI 0), .int (iI 0), .int (iI 0), .int (iI 0), .int (iI 0), .int (iI 0), .int (iI 0), .int (iI 0), .int (iI 0), .int (iI 0), .null]))]) [.ref h0] (fun ws => ∃ q1 : Nat, ws = pre ++ [(h0, .inr (0, [.int (iI 0), .int (iI 0), .int (iI 0), .int (iI 0), .int (iI 0), .int (iI 0), .int (iI 0), .int (iI 0), .int (iI 0), .int (iI 0), .int (iI 0), .int (iI 0), .ref q1])), (q1, .inl (cA 0, 36, .inl (fun _ => iI 0)))]) := by
  refine CMk.intro (own := RX0) (by decide) rfl (Nat.le_of_ble_eq_true rfl) (fun M hM ok hq hnm => ?_)
  subst hM
  show KG D A M 1 pre [(h0, .inr (0, [.int (iI 0), .int (iI 0), .int (iI 0), .int (iI 0), .int (iI 0), .int (iI 0), .int (iI 0), .int (iI 0), .int (iI 0), .int (iI 0), .int (iI 0), .int (iI 0), .null]))] 0 0 0 [(0, .ref h0)] []
  refine k_aload (j := 0) ok dX0_init_0 rfl rfl ?_
  refine k_obj ok dX0_init_1 wd1_75 ⟨(Nat.le_of_ble_eq_true rfl), (Nat.le_of_ble_eq_true rfl)⟩ ?_
  refine k_aload (j := 0) ok dX0_init_4 rfl rfl ?_
  refine k_bipush (v := 36) ok dX0_init_5 (by decide +kernel) ?_
  refine k_newa (ty := .int) (N := 36) (a0 := (36, .inl (fun _ => iI 0))) 0 ok dX0_init_7 wd1_44 rfl rfl (fun _ _ h => h) (fun c => zI c 36) (by decide +kernel) (by decide +kernel) (by decide +kernel) ⟨(Nat.le_of_ble_eq_true rfl), (Nat.le_of_ble_eq_true rfl)⟩ (fun q1 => ?_)
  show KG D A M 1 pre [(h0, .inr (0, [.int (iI 0), .int (iI 0), .int (iI 0), .int (iI 0), .int (iI 0), .int (iI 0), .int (iI 0), .int (iI 0), .int (iI 0), .int (iI 0), .int (iI 0), .int (iI 0), .null])), (q1, .inl (cA 0, 36, .inl (fun _ => iI 0)))] 1 36 9 [(0, .ref h0)] [.ref q1, .ref h0]
  refine k_putF (i := 0) ok (hnm rfl) dX0_init_9 fp_X0_9 rfl rfl rfl (Nat.le_of_ble_eq_true rfl) ?_
  show KG D A M 1 pre [(h0, .inr (0, [.int (iI 0), .int (iI 0), .int (iI 0), .int (iI 0), .int (iI 0), .int (iI 0), .int (iI 0), .int (iI 0), .int (iI 0), .int (iI 0), .int (iI 0), .int (iI 0), .ref q1])), (q1, .inl (cA 0, 36, .inl (fun _ => iI 0)))] 1 36 12 [(0, .ref h0)] []
  exact k_vret ok hq dX0_init_12 ⟨(Nat.le_of_ble_eq_true rfl), (Nat.le_of_ble_eq_true rfl)⟩ ⟨q1, rfl⟩
theorem fp_X1_9 : FP RX1 9 1 1 (.array .int) := ⟨TX1, 5, tyX1, rfl, by decide, wd1_185, rfl, inw1, tyX1_ok, nmX1, rfl, by decide +kernel⟩
theorem fp_X1_15 : FP RX1 15 1 2 (.array .int) := ⟨TX1, 5, tyX1, rfl, by decide, wd1_186, rfl, inw1, tyX1_ok, nmX1, rfl, by decide +kernel⟩
theorem fp_X1_18 : FP RX1 18 1 3 (.array .int) := ⟨TX1, 5, tyX1, rfl, by decide, wd1_187, rfl, inw1, tyX1_ok, nmX1, rfl, by decide +kernel⟩
theorem fp_X1_21 : FP RX1 21 1 4 (.array .int) := ⟨TX1, 5, tyX1, rfl, by decide, wd1_188, rfl, inw1, tyX1_ok, nmX1, rfl, by decide +kernel⟩
set_option maxRecDepth 100000 in
set_option maxHeartbeats 4000000 in
theorem k_X1_init (D : va_G) (cA : Nat → ClassId) (A : Nat → Prop) (l : Launch) (pre : va_W) (h0 : Nat) : CMk D cA A l yX1_init cX1_init 1 1 12 4 48 (pre ++ [(h0, .inr (1, [.int (iI 0), .null, .null, .null, .null]))]) [.ref h0] (fun ws => ∃ q1 q2 q3 q4 : Nat, ws = pre ++ [(h0, .inr (1, [.int (iI 0), .ref q1, .ref q2, .ref q3, .ref q4])), (q1, .inl (cA 0, 12, .inl (fun _ => iI 0))), (q2, .inl (cA 0, 12, .inl (fun _ => iI 0))), (q3, .inl (cA 0, 12, .inl (fun _ => iI 0))), (q4, .inl (cA 0, 12, .inl (fun _ => iI 0)))]) := by
  refine CMk.intro (own := RX1) (by decide) rfl (Nat.le_of_ble_eq_true rfl) (fun M hM ok hq hnm => ?_)
  subst hM
  show KG D A M 1 pre [(h0, .inr (1, [.int (iI 0), .null, .null, .null, .null]))] 0 0 0 [(0, .ref h0)] []
  refine k_aload (j := 0) ok dX1_init_0 rfl rfl ?_
  refine k_obj ok dX1_init_1 wd1_182 ⟨(Nat.le_of_ble_eq_true rfl), (Nat.le_of_ble_eq_true rfl)⟩ ?_
  refine k_aload (j := 0) ok dX1_init_4 rfl rfl ?_
  refine k_bipush (v := 12) ok dX1_init_5 (by decide +kernel) ?_
  refine k_newa (ty := .int) (N := 12) (a0 := (12, .inl (fun _ => iI 0))) 0 ok dX1_init_7 wd1_44 rfl rfl (fun _ _ h => h) (fun c => zI c 12) (by decide +kernel) (by decide +kernel) (by decide +kernel) ⟨(Nat.le_of_ble_eq_true rfl), (Nat.le_of_ble_eq_true rfl)⟩ (fun q1 => ?_)
  show KG D A M 1 pre [(h0, .inr (1, [.int (iI 0), .null, .null, .null, .null])), (q1, .inl (cA 0, 12, .inl (fun _ => iI 0)))] 1 12 9 [(0, .ref h0)] [.ref q1, .ref h0]
  refine k_putF (i := 0) ok (hnm rfl) dX1_init_9 fp_X1_9 rfl rfl rfl (Nat.le_of_ble_eq_true rfl) ?_
  show KG D A M 1 pre [(h0, .inr (1, [.int (iI 0), .ref q1, .null, .null, .null])), (q1, .inl (cA 0, 12, .inl (fun _ => iI 0)))] 1 12 12 [(0, .ref h0)] []
  refine k_aload (j := 0) ok dX1_init_12 rfl rfl ?_
  refine k_bipush (v := 12) ok dX1_init_13 (by decide +kernel) ?_
  refine k_newa (ty := .int) (N := 12) (a0 := (12, .inl (fun _ => iI 0))) 0 ok dX1_init_15 wd1_44 rfl rfl (fun _ _ h => h) (fun c => zI c 12) (by decide +kernel) (by decide +kernel) (by decide +kernel) ⟨(Nat.le_of_ble_eq_true rfl), (Nat.le_of_ble_eq_true rfl)⟩ (fun q2 => ?_)
  show KG D A M 1 pre [(h0, .inr (1, [.int (iI 0), .ref q1, .null, .null, .null])), (q1, .inl (cA 0, 12, .inl (fun _ => iI 0))), (q2, .inl (cA 0, 12, .inl (fun _ => iI 0)))] 2 24 17 [(0, .ref h0)] [.ref q2, .ref h0]
  refine k_putF (i := 0) ok (hnm rfl) dX1_init_17 fp_X1_15 rfl rfl rfl (Nat.le_of_ble_eq_true rfl) ?_
  show KG D A M 1 pre [(h0, .inr (1, [.int (iI 0), .ref q1, .ref q2, .null, .null])), (q1, .inl (cA 0, 12, .inl (fun _ => iI 0))), (q2, .inl (cA 0, 12, .inl (fun _ => iI 0)))] 2 24 20 [(0, .ref h0)] []
  refine k_aload (j := 0) ok dX1_init_20 rfl rfl ?_
  refine k_bipush (v := 12) ok dX1_init_21 (by decide +kernel) ?_
  refine k_newa (ty := .int) (N := 12) (a0 := (12, .inl (fun _ => iI 0))) 0 ok dX1_init_23 wd1_44 rfl rfl (fun _ _ h => h) (fun c => zI c 12) (by decide +kernel) (by decide +kernel) (by decide +kernel) ⟨(Nat.le_of_ble_eq_true rfl), (Nat.le_of_ble_eq_true rfl)⟩ (fun q3 => ?_)
  show KG D A M 1 pre [(h0, .inr (1, [.int (iI 0), .ref q1, .ref q2, .null, .null])), (q1, .inl (cA 0, 12, .inl (fun _ => iI 0))), (q2, .inl (cA 0, 12, .inl (fun _ => iI 0))), (q3, .inl (cA 0, 12, .inl (fun _ => iI 0)))] 3 36 25 [(0, .ref h0)] [.ref q3, .ref h0]
  refine k_putF (i := 0) ok (hnm rfl) dX1_init_25 fp_X1_18 rfl rfl rfl (Nat.le_of_ble_eq_true rfl) ?_
  show KG D A M 1 pre [(h0, .inr (1, [.int (iI 0), .ref q1, .ref q2, .ref q3, .null])), (q1, .inl (cA 0, 12, .inl (fun _ => iI 0))), (q2, .inl (cA 0, 12, .inl (fun _ => iI 0))), (q3, .inl (cA 0, 12, .inl (fun _ => iI 0)))] 3 36 28 [(0, .ref h0)] []
  refine k_aload (j := 0) ok dX1_init_28 rfl rfl ?_
  refine k_bipush (v := 12) ok dX1_init_29 (by decide +kernel) ?_
  refine k_newa (ty := .int) (N := 12) (a0 := (12, .inl (fun _ => iI 0))) 0 ok dX1_init_31 wd1_44 rfl rfl (fun _ _ h => h) (fun c => zI c 12) (by decide +kernel) (by decide +kernel) (by decide +kernel) ⟨(Nat.le_of_ble_eq_true rfl), (Nat.le_of_ble_eq_true rfl)⟩ (fun q4 => ?_)
  show KG D A M 1 pre [(h0, .inr (1, [.int (iI 0), .ref q1, .ref q2, .ref q3, .null])), (q1, .inl (cA 0, 12, .inl (fun _ => iI 0))), (q2, .inl (cA 0, 12, .inl (fun _ => iI 0))), (q3, .inl (cA 0, 12, .inl (fun _ => iI 0))), (q4, .inl (cA 0, 12, .inl (fun _ => iI 0)))] 4 48 33 [(0, .ref h0)] [.ref q4, .ref h0]
  refine k_putF (i := 0) ok (hnm rfl) dX1_init_33 fp_X1_21 rfl rfl rfl (Nat.le_of_ble_eq_true rfl) ?_
  show KG D A M 1 pre [(h0, .inr (1, [.int (iI 0), .ref q1, .ref q2, .ref q3, .ref q4])), (q1, .inl (cA 0, 12, .inl (fun _ => iI 0))), (q2, .inl (cA 0, 12, .inl (fun _ => iI 0))), (q3, .inl (cA 0, 12, .inl (fun _ => iI 0))), (q4, .inl (cA 0, 12, .inl (fun _ => iI 0)))] 4 48 36 [(0, .ref h0)] []
  exact k_vret ok hq dX1_init_36 ⟨(Nat.le_of_ble_eq_true rfl), (Nat.le_of_ble_eq_true rfl)⟩ ⟨q1, q2, q3, q4, rfl⟩
theorem fp_X2_9 : FP RX2 9 2 1 (.array .int) := ⟨TX2, 6, tyX2, rfl, by decide, wd1_222, rfl, inw2, tyX2_ok, nmX2, rfl, by decide +kernel⟩
theorem fp_X2_15 : FP RX2 15 2 2 (.array .int) := ⟨TX2, 6, tyX2, rfl, by decide, wd1_223, rfl, inw2, tyX2_ok, nmX2, rfl, by decide +kernel⟩
theorem fp_X2_18 : FP RX2 18 2 3 (.array .int) := ⟨TX2, 6, tyX2, rfl, by decide, wd1_224, rfl, inw2, tyX2_ok, nmX2, rfl, by decide +kernel⟩
theorem fp_X2_21 : FP RX2 21 2 4 (.array .int) := ⟨TX2, 6, tyX2, rfl, by decide, wd1_225, rfl, inw2, tyX2_ok, nmX2, rfl, by decide +kernel⟩
theorem fp_X2_24 : FP RX2 24 2 5 (.array .long) := ⟨TX2, 6, tyX2, rfl, by decide, wd1_227, rfl, inw2, tyX2_ok, nmX2, rfl, by decide +kernel⟩
set_option maxRecDepth 100000 in
set_option maxHeartbeats 4000000 in
theorem k_X2_init (D : va_G) (cA : Nat → ClassId) (A : Nat → Prop) (l : Launch) (pre : va_W) (h0 : Nat) : CMk D cA A l yX2_init cX2_init 1 1 12 5 750 (pre ++ [(h0, .inr (2, [.int (iI 0), .null, .null, .null, .null, .null]))]) [.ref h0] (fun ws => ∃ q1 q2 q3 q4 q5 : Nat, ws = pre ++ [(h0, .inr (2, [.int (iI 0), .ref q1, .ref q2, .ref q3, .ref q4, .ref q5])), (q1, .inl (cA 0, 150, .inl (fun _ => iI 0))), (q2, .inl (cA 0, 150, .inl (fun _ => iI 0))), (q3, .inl (cA 0, 150, .inl (fun _ => iI 0))), (q4, .inl (cA 0, 150, .inl (fun _ => iI 0))), (q5, .inl (cA 1, 150, .inr (.inl (fun _ => lI 0))))]) := by
  refine CMk.intro (own := RX2) (by decide) rfl (Nat.le_of_ble_eq_true rfl) (fun M hM ok hq hnm => ?_)
  subst hM
  show KG D A M 1 pre [(h0, .inr (2, [.int (iI 0), .null, .null, .null, .null, .null]))] 0 0 0 [(0, .ref h0)] []
  refine k_aload (j := 0) ok dX2_init_0 rfl rfl ?_
  refine k_obj ok dX2_init_1 wd1_219 ⟨(Nat.le_of_ble_eq_true rfl), (Nat.le_of_ble_eq_true rfl)⟩ ?_
  refine k_aload (j := 0) ok dX2_init_4 rfl rfl ?_
  refine k_sipush (v := 150) ok dX2_init_5 (by decide +kernel) ?_
  refine k_newa (ty := .int) (N := 150) (a0 := (150, .inl (fun _ => iI 0))) 0 ok dX2_init_8 wd1_44 rfl rfl (fun _ _ h => h) (fun c => zI c 150) (by decide +kernel) (by decide +kernel) (by decide +kernel) ⟨(Nat.le_of_ble_eq_true rfl), (Nat.le_of_ble_eq_true rfl)⟩ (fun q1 => ?_)
  show KG D A M 1 pre [(h0, .inr (2, [.int (iI 0), .null, .null, .null, .null, .null])), (q1, .inl (cA 0, 150, .inl (fun _ => iI 0)))] 1 150 10 [(0, .ref h0)] [.ref q1, .ref h0]
  refine k_putF (i := 0) ok (hnm rfl) dX2_init_10 fp_X2_9 rfl rfl rfl (Nat.le_of_ble_eq_true rfl) ?_
  show KG D A M 1 pre [(h0, .inr (2, [.int (iI 0), .ref q1, .null, .null, .null, .null])), (q1, .inl (cA 0, 150, .inl (fun _ => iI 0)))] 1 150 13 [(0, .ref h0)] []
  refine k_aload (j := 0) ok dX2_init_13 rfl rfl ?_
  refine k_sipush (v := 150) ok dX2_init_14 (by decide +kernel) ?_
  refine k_newa (ty := .int) (N := 150) (a0 := (150, .inl (fun _ => iI 0))) 0 ok dX2_init_17 wd1_44 rfl rfl (fun _ _ h => h) (fun c => zI c 150) (by decide +kernel) (by decide +kernel) (by decide +kernel) ⟨(Nat.le_of_ble_eq_true rfl), (Nat.le_of_ble_eq_true rfl)⟩ (fun q2 => ?_)
  show KG D A M 1 pre [(h0, .inr (2, [.int (iI 0), .ref q1, .null, .null, .null, .null])), (q1, .inl (cA 0, 150, .inl (fun _ => iI 0))), (q2, .inl (cA 0, 150, .inl (fun _ => iI 0)))] 2 300 19 [(0, .ref h0)] [.ref q2, .ref h0]
  refine k_putF (i := 0) ok (hnm rfl) dX2_init_19 fp_X2_15 rfl rfl rfl (Nat.le_of_ble_eq_true rfl) ?_
  show KG D A M 1 pre [(h0, .inr (2, [.int (iI 0), .ref q1, .ref q2, .null, .null, .null])), (q1, .inl (cA 0, 150, .inl (fun _ => iI 0))), (q2, .inl (cA 0, 150, .inl (fun _ => iI 0)))] 2 300 22 [(0, .ref h0)] []
  refine k_aload (j := 0) ok dX2_init_22 rfl rfl ?_
  refine k_sipush (v := 150) ok dX2_init_23 (by decide +kernel) ?_
  refine k_newa (ty := .int) (N := 150) (a0 := (150, .inl (fun _ => iI 0))) 0 ok dX2_init_26 wd1_44 rfl rfl (fun _ _ h => h) (fun c => zI c 150) (by decide +kernel) (by decide +kernel) (by decide +kernel) ⟨(Nat.le_of_ble_eq_true rfl), (Nat.le_of_ble_eq_true rfl)⟩ (fun q3 => ?_)
  show KG D A M 1 pre [(h0, .inr (2, [.int (iI 0), .ref q1, .ref q2, .null, .null, .null])), (q1, .inl (cA 0, 150, .inl (fun _ => iI 0))), (q2, .inl (cA 0, 150, .inl (fun _ => iI 0))), (q3, .inl (cA 0, 150, .inl (fun _ => iI 0)))] 3 450 28 [(0, .ref h0)] [.ref q3, .ref h0]
  refine k_putF (i := 0) ok (hnm rfl) dX2_init_28 fp_X2_18 rfl rfl rfl (Nat.le_of_ble_eq_true rfl) ?_
  show KG D A M 1 pre [(h0, .inr (2, [.int (iI 0), .ref q1, .ref q2, .ref q3, .null, .null])), (q1, .inl (cA 0, 150, .inl (fun _ => iI 0))), (q2, .inl (cA 0, 150, .inl (fun _ => iI 0))), (q3, .inl (cA 0, 150, .inl (fun _ => iI 0)))] 3 450 31 [(0, .ref h0)] []
  refine k_aload (j := 0) ok dX2_init_31 rfl rfl ?_
  refine k_sipush (v := 150) ok dX2_init_32 (by decide +kernel) ?_
  refine k_newa (ty := .int) (N := 150) (a0 := (150, .inl (fun _ => iI 0))) 0 ok dX2_init_35 wd1_44 rfl rfl (fun _ _ h => h) (fun c => zI c 150) (by decide +kernel) (by decide +kernel) (by decide +kernel) ⟨(Nat.le_of_ble_eq_true rfl), (Nat.le_of_ble_eq_true rfl)⟩ (fun q4 => ?_)
  show KG D A M 1 pre [(h0, .inr (2, [.int (iI 0), .ref q1, .ref q2, .ref q3, .null, .null])), (q1, .inl (cA 0, 150, .inl (fun _ => iI 0))), (q2, .inl (cA 0, 150, .inl (fun _ => iI 0))), (q3, .inl (cA 0, 150, .inl (fun _ => iI 0))), (q4, .inl (cA 0, 150, .inl (fun _ => iI 0)))] 4 600 37 [(0, .ref h0)] [.ref q4, .ref h0]
  refine k_putF (i := 0) ok (hnm rfl) dX2_init_37 fp_X2_21 rfl rfl rfl (Nat.le_of_ble_eq_true rfl) ?_
  show KG D A M 1 pre [(h0, .inr (2, [.int (iI 0), .ref q1, .ref q2, .ref q3, .ref q4, .null])), (q1, .inl (cA 0, 150, .inl (fun _ => iI 0))), (q2, .inl (cA 0, 150, .inl (fun _ => iI 0))), (q3, .inl (cA 0, 150, .inl (fun _ => iI 0))), (q4, .inl (cA 0, 150, .inl (fun _ => iI 0)))] 4 600 40 [(0, .ref h0)] []
  refine k_aload (j := 0) ok dX2_init_40 rfl rfl ?_
  refine k_sipush (v := 150) ok dX2_init_41 (by decide +kernel) ?_
  refine k_newa (ty := .long) (N := 150) (a0 := (150, .inr (.inl (fun _ => lI 0)))) 1 ok dX2_init_44 wd1_176 rfl rfl (fun _ _ h => h) (fun c => zJ c 150) (by decide +kernel) (by decide +kernel) (by decide +kernel) ⟨(Nat.le_of_ble_eq_true rfl), (Nat.le_of_ble_eq_true rfl)⟩ (fun q5 => ?_)
  show KG D A M 1 pre [(h0, .inr (2, [.int (iI 0), .ref q1, .ref q2, .ref q3, .ref q4, .null])), (q1, .inl (cA 0, 150, .inl (fun _ => iI 0))), (q2, .inl (cA 0, 150, .inl (fun _ => iI 0))), (q3, .inl (cA 0, 150, .inl (fun _ => iI 0))), (q4, .inl (cA 0, 150, .inl (fun _ => iI 0))), (q5, .inl (cA 1, 150, .inr (.inl (fun _ => lI 0))))] 5 750 46 [(0, .ref h0)] [.ref q5, .ref h0]
  refine k_putF (i := 0) ok (hnm rfl) dX2_init_46 fp_X2_24 rfl rfl rfl (Nat.le_of_ble_eq_true rfl) ?_
  show KG D A M 1 pre [(h0, .inr (2, [.int (iI 0), .ref q1, .ref q2, .ref q3, .ref q4, .ref q5])), (q1, .inl (cA 0, 150, .inl (fun _ => iI 0))), (q2, .inl (cA 0, 150, .inl (fun _ => iI 0))), (q3, .inl (cA 0, 150, .inl (fun _ => iI 0))), (q4, .inl (cA 0, 150, .inl (fun _ => iI 0))), (q5, .inl (cA 1, 150, .inr (.inl (fun _ => lI 0))))] 5 750 49 [(0, .ref h0)] []
  exact k_vret ok hq dX2_init_49 ⟨(Nat.le_of_ble_eq_true rfl), (Nat.le_of_ble_eq_true rfl)⟩ ⟨q1, q2, q3, q4, q5, rfl⟩
theorem fp_X3_15 : FP RX3 15 3 1 (.array .boolean) := ⟨TX3, 3, tyX3, rfl, by decide, wd1_31, rfl, inw3, tyX3_ok, nmX3, rfl, by decide +kernel⟩
theorem fp_X3_19 : FP RX3 19 3 2 (.array .int) := ⟨TX3, 3, tyX3, rfl, by decide, wd1_34, rfl, inw3, tyX3_ok, nmX3, rfl, by decide +kernel⟩
set_option maxRecDepth 100000 in
set_option maxHeartbeats 4000000 in
theorem k_X3_init (D : va_G) (cA : Nat → ClassId) (A : Nat → Prop) (l : Launch) (pre : va_W) (h0 : Nat) : CMk D cA A l yX3_init cX3_init 1 1 12 2 72 (pre ++ [(h0, .inr (3, [.int (iI 0), .null, .null]))]) [.ref h0] (fun ws => ∃ q1 q2 : Nat, ws = pre ++ [(h0, .inr (3, [.int (iI 24), .ref q1, .ref q2])), (q1, .inl (cA 2, 36, .inl (fun _ => iI 0))), (q2, .inl (cA 0, 36, .inl (fun _ => iI 0)))]) := by
  refine CMk.intro (own := RX3) (by decide) rfl (Nat.le_of_ble_eq_true rfl) (fun M hM ok hq hnm => ?_)
  subst hM
  show KG D A M 1 pre [(h0, .inr (3, [.int (iI 0), .null, .null]))] 0 0 0 [(0, .ref h0)] []
  refine k_aload (j := 0) ok dX3_init_0 rfl rfl ?_
  refine k_obj ok dX3_init_1 wd1_27 ⟨(Nat.le_of_ble_eq_true rfl), (Nat.le_of_ble_eq_true rfl)⟩ ?_
  refine k_aload (j := 0) ok dX3_init_4 rfl rfl ?_
  refine k_bipush (v := 24) ok dX3_init_5 (by decide +kernel) ?_
  refine k_puti (i := 0) ok dX3_init_7 fw_X3_9 rfl (Nat.le_of_ble_eq_true rfl) ?_
  show KG D A M 1 pre [(h0, .inr (3, [.int (iI 24), .null, .null]))] 0 0 10 [(0, .ref h0)] []
  refine k_aload (j := 0) ok dX3_init_10 rfl rfl ?_
  refine k_bipush (v := 36) ok dX3_init_11 (by decide +kernel) ?_
  refine k_newa (ty := .boolean) (N := 36) (a0 := (36, .inl (fun _ => iI 0))) 2 ok dX3_init_13 wd1_43 rfl rfl (fun _ _ h => h) (fun c => zZ c 36) (by decide +kernel) (by decide +kernel) (by decide +kernel) ⟨(Nat.le_of_ble_eq_true rfl), (Nat.le_of_ble_eq_true rfl)⟩ (fun q1 => ?_)
  show KG D A M 1 pre [(h0, .inr (3, [.int (iI 24), .null, .null])), (q1, .inl (cA 2, 36, .inl (fun _ => iI 0)))] 1 36 15 [(0, .ref h0)] [.ref q1, .ref h0]
  refine k_putF (i := 0) ok (hnm rfl) dX3_init_15 fp_X3_15 rfl rfl rfl (Nat.le_of_ble_eq_true rfl) ?_
  show KG D A M 1 pre [(h0, .inr (3, [.int (iI 24), .ref q1, .null])), (q1, .inl (cA 2, 36, .inl (fun _ => iI 0)))] 1 36 18 [(0, .ref h0)] []
  refine k_aload (j := 0) ok dX3_init_18 rfl rfl ?_
  refine k_bipush (v := 36) ok dX3_init_19 (by decide +kernel) ?_
  refine k_newa (ty := .int) (N := 36) (a0 := (36, .inl (fun _ => iI 0))) 0 ok dX3_init_21 wd1_44 rfl rfl (fun _ _ h => h) (fun c => zI c 36) (by decide +kernel) (by decide +kernel) (by decide +kernel) ⟨(Nat.le_of_ble_eq_true rfl), (Nat.le_of_ble_eq_true rfl)⟩ (fun q2 => ?_)
  show KG D A M 1 pre [(h0, .inr (3, [.int (iI 24), .ref q1, .null])), (q1, .inl (cA 2, 36, .inl (fun _ => iI 0))), (q2, .inl (cA 0, 36, .inl (fun _ => iI 0)))] 2 72 23 [(0, .ref h0)] [.ref q2, .ref h0]
  refine k_putF (i := 0) ok (hnm rfl) dX3_init_23 fp_X3_19 rfl rfl rfl (Nat.le_of_ble_eq_true rfl) ?_
  show KG D A M 1 pre [(h0, .inr (3, [.int (iI 24), .ref q1, .ref q2])), (q1, .inl (cA 2, 36, .inl (fun _ => iI 0))), (q2, .inl (cA 0, 36, .inl (fun _ => iI 0)))] 2 72 26 [(0, .ref h0)] []
  exact k_vret ok hq dX3_init_26 ⟨(Nat.le_of_ble_eq_true rfl), (Nat.le_of_ble_eq_true rfl)⟩ ⟨q1, q2, rfl⟩
theorem fp_X4_9 : FP RX4 9 4 0 (.array .int) := ⟨TX4, 1, tyX4, rfl, by decide, wd1_209, rfl, inw4, tyX4_ok, nmX4, rfl, by decide +kernel⟩
set_option maxRecDepth 100000 in
set_option maxHeartbeats 4000000 in
theorem k_X4_init (D : va_G) (cA : Nat → ClassId) (A : Nat → Prop) (l : Launch) (pre : va_W) (h0 : Nat) : CMk D cA A l yX4_init cX4_init 1 1 23 1 36 (pre ++ [(h0, .inr (4, [.null]))]) [.ref h0] (fun ws => ∃ q1 : Nat, ws = pre ++ [(h0, .inr (4, [.ref q1])), (q1, .inl (cA 0, 36, .inl (flF (-1001) (fun _ => iI 0) 36)))]) := by
  refine CMk.intro (own := RX4) (by decide) rfl (Nat.le_of_ble_eq_true rfl) (fun M hM ok hq hnm => ?_)
  subst hM
  show KG D A M 1 pre [(h0, .inr (4, [.null]))] 0 0 0 [(0, .ref h0)] []
  refine k_aload (j := 0) ok dX4_init_0 rfl rfl ?_
  refine k_obj ok dX4_init_1 wd1_205 ⟨(Nat.le_of_ble_eq_true rfl), (Nat.le_of_ble_eq_true rfl)⟩ ?_
  refine k_aload (j := 0) ok dX4_init_4 rfl rfl ?_
  refine k_bipush (v := 36) ok dX4_init_5 (by decide +kernel) ?_
  refine k_newa (ty := .int) (N := 36) (a0 := (36, .inl (fun _ => iI 0))) 0 ok dX4_init_7 wd1_44 rfl rfl (fun _ _ h => h) (fun c => zI c 36) (by decide +kernel) (by decide +kernel) (by decide +kernel) ⟨(Nat.le_of_ble_eq_true rfl), (Nat.le_of_ble_eq_true rfl)⟩ (fun q1 => ?_)
  show KG D A M 1 pre [(h0, .inr (4, [.null])), (q1, .inl (cA 0, 36, .inl (fun _ => iI 0)))] 1 36 9 [(0, .ref h0)] [.ref q1, .ref h0]
  refine k_putF (i := 0) ok (hnm rfl) dX4_init_9 fp_X4_9 rfl rfl rfl (Nat.le_of_ble_eq_true rfl) ?_
  show KG D A M 1 pre [(h0, .inr (4, [.ref q1])), (q1, .inl (cA 0, 36, .inl (fun _ => iI 0)))] 1 36 12 [(0, .ref h0)] []
  refine k_aload (j := 0) ok dX4_init_12 rfl rfl ?_
  refine k_getf (i := 0) ok dX4_init_13 fl_X4_9 rfl rfl ?_
  refine k_sipush (v := (-1001)) ok dX4_init_16 (by decide +kernel) ?_
  refine k_callS (rest := []) ok dX4_init_19 ms_X4_15 (k_fill D cA A M.2.1 pre [(h0, .inr (4, [.ref q1])), (q1, .inl (cA 0, 36, .inl (fun _ => iI 0)))] 1 q1 36 (fun _ => iI 0) (-1001) rfl (by decide)) rfl ⟨(Nat.le_of_ble_eq_true rfl), (Nat.le_of_ble_eq_true rfl)⟩ ⟨(Nat.le_of_ble_eq_true rfl), (Nat.le_of_ble_eq_true rfl)⟩ rfl (by decide) (fun ws hS => ?_)
  subst hS
  refine KG.re (pre2 := pre) (lw2 := [(h0, .inr (4, [.ref q1])), (q1, .inl (cA 0, 36, .inl (flF (-1001) (fun _ => iI 0) 36)))]) rfl ?_
  show KG D A M 1 pre [(h0, .inr (4, [.ref q1])), (q1, .inl (cA 0, 36, .inl (flF (-1001) (fun _ => iI 0) 36)))] 1 36 22 [(0, .ref h0)] []
  exact k_vret ok hq dX4_init_22 ⟨(Nat.le_of_ble_eq_true rfl), (Nat.le_of_ble_eq_true rfl)⟩ ⟨q1, rfl⟩
theorem fp_X5_9 : FP RX5 9 5 0 (.array .long) := ⟨TX5, 10, tyX5, rfl, by decide, wd1_145, rfl, inw5, tyX5_ok, nmX5, rfl, by decide +kernel⟩
theorem fp_X5_15 : FP RX5 15 5 2 (.array .long) := ⟨TX5, 10, tyX5, rfl, by decide, wd1_147, rfl, inw5, tyX5_ok, nmX5, rfl, by decide +kernel⟩
theorem fp_X5_18 : FP RX5 18 5 3 (.array .long) := ⟨TX5, 10, tyX5, rfl, by decide, wd1_148, rfl, inw5, tyX5_ok, nmX5, rfl, by decide +kernel⟩
theorem fp_X5_21 : FP RX5 21 5 4 (.array .long) := ⟨TX5, 10, tyX5, rfl, by decide, wd1_149, rfl, inw5, tyX5_ok, nmX5, rfl, by decide +kernel⟩
theorem fp_X5_24 : FP RX5 24 5 5 (.array .long) := ⟨TX5, 10, tyX5, rfl, by decide, wd1_150, rfl, inw5, tyX5_ok, nmX5, rfl, by decide +kernel⟩
set_option maxRecDepth 100000 in
set_option maxHeartbeats 4000000 in
theorem k_X5_init (D : va_G) (cA : Nat → ClassId) (A : Nat → Prop) (l : Launch) (pre : va_W) (h0 : Nat) : CMk D cA A l yX5_init cX5_init 1 1 12 5 2496 (pre ++ [(h0, .inr (5, [.null, .int (iI 0), .null, .null, .null, .null, .int (iI 0), .int (iI 0), .int (iI 0), .int (iI 0)]))]) [.ref h0] (fun ws => ∃ q1 q2 q3 q4 q5 : Nat, ws = pre ++ [(h0, .inr (5, [.ref q1, .int (iI 0), .ref q2, .ref q3, .ref q4, .ref q5, .int (iI 0), .int (iI 0), .int (iI 0), .int (iI 0)])), (q1, .inl (cA 1, 36, .inr (.inl (fun _ => lI 0)))), (q2, .inl (cA 1, 2257, .inr (.inl (fun _ => lI 0)))), (q3, .inl (cA 1, 81, .inr (.inl (fun _ => lI 0)))), (q4, .inl (cA 1, 61, .inr (.inl (fun _ => lI 0)))), (q5, .inl (cA 1, 61, .inr (.inl (fun _ => lI 0))))]) := by
  refine CMk.intro (own := RX5) (by decide) rfl (Nat.le_of_ble_eq_true rfl) (fun M hM ok hq hnm => ?_)
  subst hM
  show KG D A M 1 pre [(h0, .inr (5, [.null, .int (iI 0), .null, .null, .null, .null, .int (iI 0), .int (iI 0), .int (iI 0), .int (iI 0)]))] 0 0 0 [(0, .ref h0)] []
  refine k_aload (j := 0) ok dX5_init_0 rfl rfl ?_
  refine k_obj ok dX5_init_1 wd1_144 ⟨(Nat.le_of_ble_eq_true rfl), (Nat.le_of_ble_eq_true rfl)⟩ ?_
  refine k_aload (j := 0) ok dX5_init_4 rfl rfl ?_
  refine k_bipush (v := 36) ok dX5_init_5 (by decide +kernel) ?_
  refine k_newa (ty := .long) (N := 36) (a0 := (36, .inr (.inl (fun _ => lI 0)))) 1 ok dX5_init_7 wd1_176 rfl rfl (fun _ _ h => h) (fun c => zJ c 36) (by decide +kernel) (by decide +kernel) (by decide +kernel) ⟨(Nat.le_of_ble_eq_true rfl), (Nat.le_of_ble_eq_true rfl)⟩ (fun q1 => ?_)
  show KG D A M 1 pre [(h0, .inr (5, [.null, .int (iI 0), .null, .null, .null, .null, .int (iI 0), .int (iI 0), .int (iI 0), .int (iI 0)])), (q1, .inl (cA 1, 36, .inr (.inl (fun _ => lI 0))))] 1 36 9 [(0, .ref h0)] [.ref q1, .ref h0]
  refine k_putF (i := 0) ok (hnm rfl) dX5_init_9 fp_X5_9 rfl rfl rfl (Nat.le_of_ble_eq_true rfl) ?_
  show KG D A M 1 pre [(h0, .inr (5, [.ref q1, .int (iI 0), .null, .null, .null, .null, .int (iI 0), .int (iI 0), .int (iI 0), .int (iI 0)])), (q1, .inl (cA 1, 36, .inr (.inl (fun _ => lI 0))))] 1 36 12 [(0, .ref h0)] []
  refine k_aload (j := 0) ok dX5_init_12 rfl rfl ?_
  refine k_sipush (v := 2257) ok dX5_init_13 (by decide +kernel) ?_
  refine k_newa (ty := .long) (N := 2257) (a0 := (2257, .inr (.inl (fun _ => lI 0)))) 1 ok dX5_init_16 wd1_176 rfl rfl (fun _ _ h => h) (fun c => zJ c 2257) (by decide +kernel) (by decide +kernel) (by decide +kernel) ⟨(Nat.le_of_ble_eq_true rfl), (Nat.le_of_ble_eq_true rfl)⟩ (fun q2 => ?_)
  show KG D A M 1 pre [(h0, .inr (5, [.ref q1, .int (iI 0), .null, .null, .null, .null, .int (iI 0), .int (iI 0), .int (iI 0), .int (iI 0)])), (q1, .inl (cA 1, 36, .inr (.inl (fun _ => lI 0)))), (q2, .inl (cA 1, 2257, .inr (.inl (fun _ => lI 0))))] 2 2293 18 [(0, .ref h0)] [.ref q2, .ref h0]
  refine k_putF (i := 0) ok (hnm rfl) dX5_init_18 fp_X5_15 rfl rfl rfl (Nat.le_of_ble_eq_true rfl) ?_
  show KG D A M 1 pre [(h0, .inr (5, [.ref q1, .int (iI 0), .ref q2, .null, .null, .null, .int (iI 0), .int (iI 0), .int (iI 0), .int (iI 0)])), (q1, .inl (cA 1, 36, .inr (.inl (fun _ => lI 0)))), (q2, .inl (cA 1, 2257, .inr (.inl (fun _ => lI 0))))] 2 2293 21 [(0, .ref h0)] []
  refine k_aload (j := 0) ok dX5_init_21 rfl rfl ?_
  refine k_bipush (v := 81) ok dX5_init_22 (by decide +kernel) ?_
  refine k_newa (ty := .long) (N := 81) (a0 := (81, .inr (.inl (fun _ => lI 0)))) 1 ok dX5_init_24 wd1_176 rfl rfl (fun _ _ h => h) (fun c => zJ c 81) (by decide +kernel) (by decide +kernel) (by decide +kernel) ⟨(Nat.le_of_ble_eq_true rfl), (Nat.le_of_ble_eq_true rfl)⟩ (fun q3 => ?_)
  show KG D A M 1 pre [(h0, .inr (5, [.ref q1, .int (iI 0), .ref q2, .null, .null, .null, .int (iI 0), .int (iI 0), .int (iI 0), .int (iI 0)])), (q1, .inl (cA 1, 36, .inr (.inl (fun _ => lI 0)))), (q2, .inl (cA 1, 2257, .inr (.inl (fun _ => lI 0)))), (q3, .inl (cA 1, 81, .inr (.inl (fun _ => lI 0))))] 3 2374 26 [(0, .ref h0)] [.ref q3, .ref h0]
  refine k_putF (i := 0) ok (hnm rfl) dX5_init_26 fp_X5_18 rfl rfl rfl (Nat.le_of_ble_eq_true rfl) ?_
  show KG D A M 1 pre [(h0, .inr (5, [.ref q1, .int (iI 0), .ref q2, .ref q3, .null, .null, .int (iI 0), .int (iI 0), .int (iI 0), .int (iI 0)])), (q1, .inl (cA 1, 36, .inr (.inl (fun _ => lI 0)))), (q2, .inl (cA 1, 2257, .inr (.inl (fun _ => lI 0)))), (q3, .inl (cA 1, 81, .inr (.inl (fun _ => lI 0))))] 3 2374 29 [(0, .ref h0)] []
  refine k_aload (j := 0) ok dX5_init_29 rfl rfl ?_
  refine k_bipush (v := 61) ok dX5_init_30 (by decide +kernel) ?_
  refine k_newa (ty := .long) (N := 61) (a0 := (61, .inr (.inl (fun _ => lI 0)))) 1 ok dX5_init_32 wd1_176 rfl rfl (fun _ _ h => h) (fun c => zJ c 61) (by decide +kernel) (by decide +kernel) (by decide +kernel) ⟨(Nat.le_of_ble_eq_true rfl), (Nat.le_of_ble_eq_true rfl)⟩ (fun q4 => ?_)
  show KG D A M 1 pre [(h0, .inr (5, [.ref q1, .int (iI 0), .ref q2, .ref q3, .null, .null, .int (iI 0), .int (iI 0), .int (iI 0), .int (iI 0)])), (q1, .inl (cA 1, 36, .inr (.inl (fun _ => lI 0)))), (q2, .inl (cA 1, 2257, .inr (.inl (fun _ => lI 0)))), (q3, .inl (cA 1, 81, .inr (.inl (fun _ => lI 0)))), (q4, .inl (cA 1, 61, .inr (.inl (fun _ => lI 0))))] 4 2435 34 [(0, .ref h0)] [.ref q4, .ref h0]
  refine k_putF (i := 0) ok (hnm rfl) dX5_init_34 fp_X5_21 rfl rfl rfl (Nat.le_of_ble_eq_true rfl) ?_
  show KG D A M 1 pre [(h0, .inr (5, [.ref q1, .int (iI 0), .ref q2, .ref q3, .ref q4, .null, .int (iI 0), .int (iI 0), .int (iI 0), .int (iI 0)])), (q1, .inl (cA 1, 36, .inr (.inl (fun _ => lI 0)))), (q2, .inl (cA 1, 2257, .inr (.inl (fun _ => lI 0)))), (q3, .inl (cA 1, 81, .inr (.inl (fun _ => lI 0)))), (q4, .inl (cA 1, 61, .inr (.inl (fun _ => lI 0))))] 4 2435 37 [(0, .ref h0)] []
  refine k_aload (j := 0) ok dX5_init_37 rfl rfl ?_
  refine k_bipush (v := 61) ok dX5_init_38 (by decide +kernel) ?_
  refine k_newa (ty := .long) (N := 61) (a0 := (61, .inr (.inl (fun _ => lI 0)))) 1 ok dX5_init_40 wd1_176 rfl rfl (fun _ _ h => h) (fun c => zJ c 61) (by decide +kernel) (by decide +kernel) (by decide +kernel) ⟨(Nat.le_of_ble_eq_true rfl), (Nat.le_of_ble_eq_true rfl)⟩ (fun q5 => ?_)
  show KG D A M 1 pre [(h0, .inr (5, [.ref q1, .int (iI 0), .ref q2, .ref q3, .ref q4, .null, .int (iI 0), .int (iI 0), .int (iI 0), .int (iI 0)])), (q1, .inl (cA 1, 36, .inr (.inl (fun _ => lI 0)))), (q2, .inl (cA 1, 2257, .inr (.inl (fun _ => lI 0)))), (q3, .inl (cA 1, 81, .inr (.inl (fun _ => lI 0)))), (q4, .inl (cA 1, 61, .inr (.inl (fun _ => lI 0)))), (q5, .inl (cA 1, 61, .inr (.inl (fun _ => lI 0))))] 5 2496 42 [(0, .ref h0)] [.ref q5, .ref h0]
  refine k_putF (i := 0) ok (hnm rfl) dX5_init_42 fp_X5_24 rfl rfl rfl (Nat.le_of_ble_eq_true rfl) ?_
  show KG D A M 1 pre [(h0, .inr (5, [.ref q1, .int (iI 0), .ref q2, .ref q3, .ref q4, .ref q5, .int (iI 0), .int (iI 0), .int (iI 0), .int (iI 0)])), (q1, .inl (cA 1, 36, .inr (.inl (fun _ => lI 0)))), (q2, .inl (cA 1, 2257, .inr (.inl (fun _ => lI 0)))), (q3, .inl (cA 1, 81, .inr (.inl (fun _ => lI 0)))), (q4, .inl (cA 1, 61, .inr (.inl (fun _ => lI 0)))), (q5, .inl (cA 1, 61, .inr (.inl (fun _ => lI 0))))] 5 2496 45 [(0, .ref h0)] []
  exact k_vret ok hq dX5_init_45 ⟨(Nat.le_of_ble_eq_true rfl), (Nat.le_of_ble_eq_true rfl)⟩ ⟨q1, q2, q3, q4, q5, rfl⟩
theorem fp_X6_9 : FP RX6 9 6 3 (.array .int) := ⟨TX6, 4, tyX6, rfl, by decide, wd1_58, rfl, inw6, tyX6_ok, nmX6, rfl, by decide +kernel⟩
set_option maxRecDepth 100000 in
set_option maxHeartbeats 4000000 in
theorem k_X6_init (D : va_G) (cA : Nat → ClassId) (A : Nat → Prop) (l : Launch) (pre : va_W) (h0 : Nat) : CMk D cA A l yX6_init cX6_init 1 1 12 1 36 (pre ++ [(h0, .inr (6, [.int (iI 0), .int (iI 0), .int (iI 0), .null]))]) [.ref h0] (fun ws => ∃ q1 : Nat, ws = pre ++ [(h0, .inr (6, [.int (iI 0), .int (iI 0), .int (iI 0), .ref q1])), (q1, .inl (cA 0, 36, .inl (fun _ => iI 0)))]) := by
  refine CMk.intro (own := RX6) (by decide) rfl (Nat.le_of_ble_eq_true rfl) (fun M hM ok hq hnm => ?_)
  subst hM
  show KG D A M 1 pre [(h0, .inr (6, [.int (iI 0), .int (iI 0), .int (iI 0), .null]))] 0 0 0 [(0, .ref h0)] []
  refine k_aload (j := 0) ok dX6_init_0 rfl rfl ?_
  refine k_obj ok dX6_init_1 wd1_51 ⟨(Nat.le_of_ble_eq_true rfl), (Nat.le_of_ble_eq_true rfl)⟩ ?_
  refine k_aload (j := 0) ok dX6_init_4 rfl rfl ?_
  refine k_bipush (v := 36) ok dX6_init_5 (by decide +kernel) ?_
  refine k_newa (ty := .int) (N := 36) (a0 := (36, .inl (fun _ => iI 0))) 0 ok dX6_init_7 wd1_44 rfl rfl (fun _ _ h => h) (fun c => zI c 36) (by decide +kernel) (by decide +kernel) (by decide +kernel) ⟨(Nat.le_of_ble_eq_true rfl), (Nat.le_of_ble_eq_true rfl)⟩ (fun q1 => ?_)
  show KG D A M 1 pre [(h0, .inr (6, [.int (iI 0), .int (iI 0), .int (iI 0), .null])), (q1, .inl (cA 0, 36, .inl (fun _ => iI 0)))] 1 36 9 [(0, .ref h0)] [.ref q1, .ref h0]
  refine k_putF (i := 0) ok (hnm rfl) dX6_init_9 fp_X6_9 rfl rfl rfl (Nat.le_of_ble_eq_true rfl) ?_
  show KG D A M 1 pre [(h0, .inr (6, [.int (iI 0), .int (iI 0), .int (iI 0), .ref q1])), (q1, .inl (cA 0, 36, .inl (fun _ => iI 0)))] 1 36 12 [(0, .ref h0)] []
  exact k_vret ok hq dX6_init_12 ⟨(Nat.le_of_ble_eq_true rfl), (Nat.le_of_ble_eq_true rfl)⟩ ⟨q1, rfl⟩
