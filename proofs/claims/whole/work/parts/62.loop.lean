def wsg (cA : Nat → ClassId) (g : Nat → Nat) : va_W := [((g 0), .inr (8, [.int (iI 24), .ref (g 1), .ref (g 2), .ref (g 3), .ref (g 4), .ref (g 5), .ref (g 6), .ref (g 7), .ref (g 8), .ref (g 9), .ref (g 10), .ref (g 11), .ref (g 12), .ref (g 13), .ref (g 14), .ref (g 15), .ref (g 16), .int (iI 0), .ref (g 17), .ref (g 18), .int (iI 0), .ref (g 19), .ref (g 20), .ref (g 21)])), ((g 1), .inl (cA 2, 36, .inl (fun _ => iI 0))), ((g 2), .inl (cA 0, 36, .inl (fun _ => iI 0))), ((g 3), .inl (cA 0, 4, .inl (upd (upd (upd (upd (fun _ => iI 0) 0 (iI (-1))) 1 (iI (-1))) 2 (iI (-1))) 3 (iI (-1))))), ((g 4), .inl (cA 0, 4, .inl (fun _ => iI 0))), ((g 5), .inl (cA 0, 144, .inl (fun _ => iI 0))), ((g 6), .inl (cA 0, 4, .inl (upd (upd (upd (upd (fun _ => iI 0) 0 (iI (-1))) 1 (iI (-1))) 2 (iI (-1))) 3 (iI (-1))))), ((g 7), .inl (cA 0, 4, .inl (fun _ => iI 0))), ((g 8), .inl (cA 0, 4, .inl (fun _ => iI 0))), ((g 9), .inl (cA 0, 4, .inl (fun _ => iI 0))), ((g 10), .inl (cA 0, 4, .inl (fun _ => iI 0))), ((g 11), .inl (cA 0, 4, .inl (fun _ => iI 0))), ((g 12), .inl (cA 0, 4, .inl (fun _ => iI 0))), ((g 13), .inl (cA 0, 4, .inl (fun _ => iI 0))), ((g 14), .inl (cA 0, 4, .inl (fun _ => iI 0))), ((g 15), .inl (cA 0, 144, .inl (fun _ => iI 0))), ((g 16), .inl (cA 0, 48, .inl (fun _ => iI 0))), ((g 17), .inl (cA 0, 36, .inl (flF (-1001) (fun _ => iI 0) 36))), ((g 18), .inl (cA 1, 750, .inr (.inl (fun _ => lI 0)))), ((g 19), .inl (cA 0, 36, .inl (fun _ => iI 0))), ((g 20), .inl (cA 1, 2257, .inr (.inl (fun _ => lI 0)))), ((g 21), .inl (cA 1, 2257, .inr (.inl (fun _ => lI 0))))]
set_option maxRecDepth 100000 in
set_option maxHeartbeats 4000000 in
theorem s7 {cA : Nat → ClassId} {h0 : Nat} {ws : va_W} (h : ∃ q1 q2 q3 q4 q5 q6 q7 q8 q9 q10 q11 q12 q13 q14 q15 q16 q17 q18 q19 q20 q21 q22 q23 q24 q25 q26 q27 q28 q29 q30 q31 q32 q33 q34 q35 q36 q37 q38 q39 q40 : Nat, ws = [(h0, .inr (7, [.ref q1, .ref q4, .ref q13, .ref q22, .ref q28, .ref q33, .ref q35])), (q1, .inr (3, [.int (iI 24), .ref q2, .ref q3])), (q2, .inl (cA 2, 36, .inl (fun _ => iI 0))), (q3, .inl (cA 0, 36, .inl (fun _ => iI 0))), (q4, .inl (cA 4, 4, .inr (.inr (.inr (.inr (va_up (va_up (va_up (va_up (fun _ => none) 0 (some q5)) 1 (some q7)) 2 (some q9)) 3 (some q11))))))), (q5, .inr (6, [.int (iI 0), .int (iI 0), .int (iI 0), .ref q6])), (q6, .inl (cA 0, 36, .inl (fun _ => iI 0))), (q7, .inr (6, [.int (iI 0), .int (iI 0), .int (iI 0), .ref q8])), (q8, .inl (cA 0, 36, .inl (fun _ => iI 0))), (q9, .inr (6, [.int (iI 0), .int (iI 0), .int (iI 0), .ref q10])), (q10, .inl (cA 0, 36, .inl (fun _ => iI 0))), (q11, .inr (6, [.int (iI 0), .int (iI 0), .int (iI 0), .ref q12])), (q12, .inl (cA 0, 36, .inl (fun _ => iI 0))), (q13, .inl (cA 3, 4, .inr (.inr (.inr (.inr (va_up (va_up (va_up (va_up (fun _ => none) 0 (some q14)) 1 (some q16)) 2 (some q18)) 3 (some q20))))))), (q14, .inr (0, [.int (iI 0), .int (iI 0), .int (iI 0), .int (iI 0), .int (iI 0), .int (iI 0), .int (iI 0), .int (iI 0), .int (iI 0), .int (iI 0), .int (iI 0), .int (iI 0), .ref q15])), (q15, .inl (cA 0, 36, .inl (fun _ => iI 0))), (q16, .inr (0, [.int (iI 0), .int (iI 0), .int (iI 0), .int (iI 0), .int (iI 0), .int (iI 0), .int (iI 0), .int (iI 0), .int (iI 0), .int (iI 0), .int (iI 0), .int (iI 0), .ref q17])), (q17, .inl (cA 0, 36, .inl (fun _ => iI 0))), (q18, .inr (0, [.int (iI 0), .int (iI 0), .int (iI 0), .int (iI 0), .int (iI 0), .int (iI 0), .int (iI 0), .int (iI 0), .int (iI 0), .int (iI 0), .int (iI 0), .int (iI 0), .ref q19])), (q19, .inl (cA 0, 36, .inl (fun _ => iI 0))), (q20, .inr (0, [.int (iI 0), .int (iI 0), .int (iI 0), .int (iI 0), .int (iI 0), .int (iI 0), .int (iI 0), .int (iI 0), .int (iI 0), .int (iI 0), .int (iI 0), .int (iI 0), .ref q21])), (q21, .inl (cA 0, 36, .inl (fun _ => iI 0))), (q22, .inr (5, [.ref q23, .int (iI 0), .ref q24, .ref q25, .ref q26, .ref q27, .int (iI 0), .int (iI 0), .int (iI 0), .int (iI 0)])), (q23, .inl (cA 1, 36, .inr (.inl (fun _ => lI 0)))), (q24, .inl (cA 1, 2257, .inr (.inl (fun _ => lI 0)))), (q25, .inl (cA 1, 81, .inr (.inl (fun _ => lI 0)))), (q26, .inl (cA 1, 61, .inr (.inl (fun _ => lI 0)))), (q27, .inl (cA 1, 61, .inr (.inl (fun _ => lI 0)))), (q28, .inr (1, [.int (iI 0), .ref q29, .ref q30, .ref q31, .ref q32])), (q29, .inl (cA 0, 12, .inl (fun _ => iI 0))), (q30, .inl (cA 0, 12, .inl (fun _ => iI 0))), (q31, .inl (cA 0, 12, .inl (fun _ => iI 0))), (q32, .inl (cA 0, 12, .inl (fun _ => iI 0))), (q33, .inr (4, [.ref q34])), (q34, .inl (cA 0, 36, .inl (flF (-1001) (fun _ => iI 0) 36))), (q35, .inr (2, [.int (iI 0), .ref q36, .ref q37, .ref q38, .ref q39, .ref q40])), (q36, .inl (cA 0, 150, .inl (fun _ => iI 0))), (q37, .inl (cA 0, 150, .inl (fun _ => iI 0))), (q38, .inl (cA 0, 150, .inl (fun _ => iI 0))), (q39, .inl (cA 0, 150, .inl (fun _ => iI 0))), (q40, .inl (cA 1, 150, .inr (.inl (fun _ => lI 0))))]) : ∃ f : Nat → Nat, f 0 = h0 ∧ ws = ws7 cA f := by
  obtain ⟨q1, q2, q3, q4, q5, q6, q7, q8, q9, q10, q11, q12, q13, q14, q15, q16, q17, q18, q19, q20, q21, q22, q23, q24, q25, q26, q27, q28, q29, q30, q31, q32, q33, q34, q35, q36, q37, q38, q39, q40, rfl⟩ := h
  exact ⟨fun k => [h0, q1, q2, q3, q4, q5, q6, q7, q8, q9, q10, q11, q12, q13, q14, q15, q16, q17, q18, q19, q20, q21, q22, q23, q24, q25, q26, q27, q28, q29, q30, q31, q32, q33, q34, q35, q36, q37, q38, q39, q40].getD k 0, rfl, rfl⟩
set_option maxRecDepth 100000 in
set_option maxHeartbeats 4000000 in
theorem s8 {cA : Nat → ClassId} {h0 : Nat} {pre ws : va_W} (h : ∃ q1 q2 q3 q4 q5 q6 q7 q8 q9 q10 q11 q12 q13 q14 q15 q16 q17 q18 q19 q20 q21 : Nat, ws = pre ++ [(h0, .inr (8, [.int (iI 24), .ref q1, .ref q2, .ref q3, .ref q4, .ref q5, .ref q6, .ref q7, .ref q8, .ref q9, .ref q10, .ref q11, .ref q12, .ref q13, .ref q14, .ref q15, .ref q16, .int (iI 0), .ref q17, .ref q18, .int (iI 0), .ref q19, .ref q20, .ref q21])), (q1, .inl (cA 2, 36, .inl (fun _ => iI 0))), (q2, .inl (cA 0, 36, .inl (fun _ => iI 0))), (q3, .inl (cA 0, 4, .inl (upd (upd (upd (upd (fun _ => iI 0) 0 (iI (-1))) 1 (iI (-1))) 2 (iI (-1))) 3 (iI (-1))))), (q4, .inl (cA 0, 4, .inl (fun _ => iI 0))), (q5, .inl (cA 0, 144, .inl (fun _ => iI 0))), (q6, .inl (cA 0, 4, .inl (upd (upd (upd (upd (fun _ => iI 0) 0 (iI (-1))) 1 (iI (-1))) 2 (iI (-1))) 3 (iI (-1))))), (q7, .inl (cA 0, 4, .inl (fun _ => iI 0))), (q8, .inl (cA 0, 4, .inl (fun _ => iI 0))), (q9, .inl (cA 0, 4, .inl (fun _ => iI 0))), (q10, .inl (cA 0, 4, .inl (fun _ => iI 0))), (q11, .inl (cA 0, 4, .inl (fun _ => iI 0))), (q12, .inl (cA 0, 4, .inl (fun _ => iI 0))), (q13, .inl (cA 0, 4, .inl (fun _ => iI 0))), (q14, .inl (cA 0, 4, .inl (fun _ => iI 0))), (q15, .inl (cA 0, 144, .inl (fun _ => iI 0))), (q16, .inl (cA 0, 48, .inl (fun _ => iI 0))), (q17, .inl (cA 0, 36, .inl (flF (-1001) (fun _ => iI 0) 36))), (q18, .inl (cA 1, 750, .inr (.inl (fun _ => lI 0)))), (q19, .inl (cA 0, 36, .inl (fun _ => iI 0))), (q20, .inl (cA 1, 2257, .inr (.inl (fun _ => lI 0)))), (q21, .inl (cA 1, 2257, .inr (.inl (fun _ => lI 0))))]) : ∃ g : Nat → Nat, g 0 = h0 ∧ ws = pre ++ wsg cA g := by
  obtain ⟨q1, q2, q3, q4, q5, q6, q7, q8, q9, q10, q11, q12, q13, q14, q15, q16, q17, q18, q19, q20, q21, rfl⟩ := h
  exact ⟨fun k => [h0, q1, q2, q3, q4, q5, q6, q7, q8, q9, q10, q11, q12, q13, q14, q15, q16, q17, q18, q19, q20, q21].getD k 0, rfl, rfl⟩
def fj (f g : Nat → Nat) : Nat → Nat := fun k => if k < 41 then f k else g (k - 41)
set_option maxRecDepth 100000 in
set_option maxHeartbeats 4000000 in
theorem wsj (cA : Nat → ClassId) (f g : Nat → Nat) : ws7 cA f ++ wsg cA g = ws7 cA (fj f g) ++ ws8 cA (fj f g) := rfl
theorem nw_L_7 : NW RL 7 7 RX7 7 [.null, .null, .null, .null, .null, .null, .null] := ⟨TX7, tyX7, rfl, wd1_14, wd1_15, wd1_1, inw7, tyX7_ok, by decide +kernel⟩
theorem nw_L_10 : NW RL 10 8 RX8 24 [.int (iI 0), .null, .null, .null, .null, .null, .null, .null, .null, .null, .null, .null, .null, .null, .null, .null, .null, .int (iI 0), .null, .null, .int (iI 0), .null, .null, .null] := ⟨TX8, tyX8, rfl, wd3_222, wd3_223, wd1_10, inw8, tyX8_ok, by decide +kernel⟩
theorem mi_L_9 : MI RL 9 yX7_init cX7_init 2 0 := ⟨rfl, wd1_17, wd1_18, wd1_1, by decide +kernel⟩
theorem mi_L_12 : MI RL 12 yX8_init cX8_init 2 0 := ⟨rfl, wd3_225, wd3_226, wd1_10, by decide +kernel⟩
def offL : List Nat := [163, 187, 221, 255, 299, 323, 367, 431, 465, 529, 563, 597, 631, 665, 709, 743, 777, 801, 835, 869, 903, 937, 991, 1045, 1059, 1093, 1127, 1161, 1195, 1219, 1253, 1287, 1331, 1345, 1359, 1393, 1417]
def offA (k : Nat) : Nat := offL.getD k 0
theorem offA_ok : ∀ k, k < 37 → (#[163, 187, 221, 255, 299, 323, 367, 431, 465, 529, 563, 597, 631, 665, 709, 743, 777, 801, 835, 869, 903, 937, 991, 1045, 1059, 1093, 1127, 1161, 1195, 1219, 1253, 1287, 1331, 1345, 1359, 1393, 1417] : Array Int)[k]? = some ((offA k : Nat) : Int) := by decide +kernel
section LOOP
variable {X : XW} {b L : Nat} {xs : Nat → Int32} {M : MX} {kc sl : Nat} {σ : Mm} {i : Int}
theorem l_head (ok : LOk X b L xs M kc sl) (h0 : 0 ≤ i) (h1 : i ≤ 4000) (kt : (L : Int) - 6 < i → LW X b M kc sl σ 1480 i []) (kf : i ≤ (L : Int) - 6 → LW X b M kc sl σ 27 i []) : LW X b M kc sl σ 18 i [] := by
  obtain ⟨p, l, e, R, s, m, args, below, meth, c, Q⟩ := M
  obtain ⟨hx, hb, hml, hown, hts, hK, hA, hfr, hlo, hkc, hsl, hX, hbl, hL⟩ := ok
  intro H locs la hM hR hS hl
  refine lv_iload_n hx hb dL_law_18 rfl (lv_at hl 3 rfl) ?_
  refine lv_aload_n hx hb dL_law_19 rfl (lv_at hl 0 rfl) ?_
  refine va_slen hx hb hX hbl (Nat.not_le.mpr hbl) hS dL_law_20 ?_
  refine lv_bipush (v := iI 6) hx hb dL_law_21 (by decide +kernel) ?_
  refine lv_isub hx hb dL_law_23 ?_
  rw [iI_nat, iI_sub]
  refine lv_icmp_gt (tgt := 1480) hx hb dL_law_24 (by decide) (fun q => ?_) (fun q => ?_)
  · exact kt ((iI_lt ⟨by omega, by omega⟩ ⟨by omega, by omega⟩).mp q) H locs la hM hR hS hl
  · refine kf ?_ H locs la hM hR hS hl
    have h9 : ¬ (L : Int) - 6 < i := fun z => q ((iI_lt ⟨by omega, by omega⟩ ⟨by omega, by omega⟩).mpr z)
    omega
theorem l_sw (ok : LOk X b L xs M kc sl) (h0 : 0 ≤ i) (h1 : i < L) (ki : ∀ k : Nat, k < 37 → LW X b M kc sl σ (33 + offA k) i []) (ko : LW X b M kc sl σ 1474 i []) : LW X b M kc sl σ 27 i [] := by
  obtain ⟨p, l, e, R, s, m, args, below, meth, c, Q⟩ := M
  obtain ⟨hx, hb, hml, hown, hts, hK, hA, hfr, hlo, hkc, hsl, hX, hbl, hL⟩ := ok
  intro H locs la hM hR hS hl
  refine lv_aload_n hx hb dL_law_27 rfl (lv_at hl 0 rfl) ?_
  refine lv_iload_n hx hb dL_law_28 rfl (lv_at hl 3 rfl) ?_
  refine va_sld hx hb hX hbl (Nat.not_le.mpr hbl) hS (iI_in h0 h1 (by omega)) dL_law_29 ?_
  refine lv_bipush (v := iI 63) hx hb dL_law_30 (by decide +kernel) ?_
  refine lv_iand hx hb dL_law_32 ?_
  generalize xs (iI i).toNatClampNeg &&& iI 63 = v
  by_cases h : 0 ≤ v.toInt ∧ v.toInt ≤ 36
  · refine lv_tableIn (tgt := 33 + offA v.toInt.toNat) hx hb dL_law_33 (by omega) (by omega) (by rw [Int.sub_zero]; exact offA_ok _ (by omega)) (by omega) ?_
    exact ki v.toInt.toNat (by omega) H locs la hM hR hS hl
  · refine lv_tableOut (tgt := 1474) hx hb dL_law_33 (by omega) (by decide) ?_
    exact ko H locs la hM hR hS hl
theorem l_body (ok : LOk X b L xs M kc sl) (h : JK σ) (h0 : 0 ≤ i) (h1 : i ≤ (L : Int) - 6) (kk : ∀ ρ, JK ρ → LW X b M kc sl ρ 1474 i []) : LW X b M kc sl σ 27 i [] := by
  refine l_sw ok h0 (by omega) (fun k hk => ?_) (kk σ h)
  match k, hk with
  | 0, _ => exact la_time ok h h0 (by omega) kk
  | 1, _ => exact la_dark ok h h0 (by omega) kk
  | 2, _ => exact la_keep ok h h0 (by omega) kk
  | 3, _ => exact la_world ok h h0 (by omega) kk
  | 4, _ => exact la_lose ok h h0 (by omega) kk
  | 5, _ => exact la_price ok h h0 (by omega) kk
  | 6, _ => exact la_copy ok h h0 (by omega) kk
  | 7, _ => exact la_told ok h h0 (by omega) kk
  | 8, _ => exact la_store ok h h0 (by omega) kk
  | 9, _ => exact la_charge ok h h0 (by omega) kk
  | 10, _ => exact la_end ok h h0 (by omega) kk
  | 11, _ => exact la_about ok h h0 (by omega) kk
  | 12, _ => exact la_isOf ok h h0 (by omega) kk
  | 13, _ => exact la_put ok h h0 (by omega) kk
  | 14, _ => exact la_planned ok h h0 (by omega) kk
  | 15, _ => exact la_behind ok h h0 (by omega) kk
  | 16, _ => exact la_why ok h h0 (by omega) kk
  | 17, _ => exact la_money ok h h0 (by omega) kk
  | 18, _ => exact la_worst ok h h0 (by omega) kk
  | 19, _ => exact la_best ok h h0 (by omega) kk
  | 20, _ => exact la_many ok h h0 (by omega) kk
  | 21, _ => exact la_value ok h h0 (by omega) kk
  | 22, _ => exact la_bid ok h h0 (by omega) kk
  | 23, _ => exact la_unbid ok h h0 (by omega) kk
  | 24, _ => exact la_taken ok h h0 (by omega) kk
  | 25, _ => exact la_wanted ok h h0 (by omega) kk
  | 26, _ => exact la_fill ok h h0 (by omega) kk
  | 27, _ => exact la_meter ok h h0 (by omega) kk
  | 28, _ => exact la_counts ok h h0 (by omega) kk
  | 29, _ => exact la_live ok h h0 (by omega) kk
  | 30, _ => exact la_row ok h h0 (by omega) kk
  | 31, _ => exact la_forge ok h h0 (by omega) kk
  | 32, _ => exact la_check ok h h0 (by omega) kk
  | 33, _ => exact la_shut ok h h0 (by omega) kk
  | 34, _ => exact la_warrant ok h h0 (by omega) kk
  | 35, _ => exact la_voided ok h h0 (by omega) kk
  | 36, _ => exact la_count ok h h0 (by omega) kk
  | k + 37, hk => exact absurd hk (by omega)
theorem l_loop (ok : LOk X b L xs M kc sl) (hend : ∀ (σ : Mm) (i : Int), LW X b M kc sl σ 1480 i []) : ∀ (n : Nat) (i : Int) (σ : Mm), JK σ → 0 ≤ i → i ≤ 3999 → (L : Int) - i < n → LW X b M kc sl σ 18 i [] := by
  have hL : (L : Int) ≤ 3072 := by
    obtain ⟨p, l, e, R, s, m, args, below, meth, c, Q⟩ := M
    have h9 := ok.2.2.2.2.2.2.2.2.2.2.2.2.2
    omega
  intro n
  induction n with
  | zero => 
    intro i σ h h0 h1 h2
    exact l_head ok h0 (by omega) (fun _ => hend σ i) (fun q => absurd q (by omega))
  | succ n ih =>
    intro i σ h h0 h1 h2
    refine l_head ok h0 (by omega) (fun _ => hend σ i) (fun q => ?_)
    exact l_body ok h h0 q (fun ρ hρ => l_next ok (ih (i + 6) ρ hρ (by omega) (by omega) (by omega)))
end LOOP
