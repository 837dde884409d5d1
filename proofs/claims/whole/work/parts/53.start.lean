theorem tb_lim : (Cond.laysStatic RX7 "PRICE_LIMITS" "[I") ∈ lw_tbl := List.mem_append_right _ (List.mem_append_right _ (List.mem_append_left _ (List.mem_of_getElem? (i := 59) (by decide +kernel : tables_1_2[59]? = some _))))
theorem tb_ao6 : (Cond.arrayOver (.object RX6)) ∈ lw_tbl := List.mem_append_right _ (List.mem_append_left _ (List.mem_of_getElem? (i := 46) (by decide +kernel : tables_1_1[46]? = some _)))
theorem tb_ao0 : (Cond.arrayOver (.object RX0)) ∈ lw_tbl := List.mem_append_right _ (List.mem_append_left _ (List.mem_of_getElem? (i := 70) (by decide +kernel : tables_1_1[70]? = some _)))
theorem tb_ni11 : (Cond.methodLinkNest RX7 11 yX3_init RX7) ∈ lw_tbl := List.mem_append_right _ (List.mem_append_left _ (List.mem_of_getElem? (i := 24) (by decide +kernel : tables_1_1[24]? = some _)))
theorem tb_ni22 : (Cond.methodLinkNest RX7 22 yX6_init RX7) ∈ lw_tbl := List.mem_append_right _ (List.mem_append_left _ (List.mem_of_getElem? (i := 48) (by decide +kernel : tables_1_1[48]? = some _)))
theorem tb_ni29 : (Cond.methodLinkNest RX7 29 yX0_init RX7) ∈ lw_tbl := List.mem_append_right _ (List.mem_append_left _ (List.mem_of_getElem? (i := 72) (by decide +kernel : tables_1_1[72]? = some _)))
theorem tb_ni32 : (Cond.methodLinkNest RX7 32 yX5_init RX7) ∈ lw_tbl := List.mem_append_right _ (List.mem_append_left _ (List.mem_of_getElem? (i := 141) (by decide +kernel : tables_1_1[141]? = some _)))
theorem tb_ni39 : (Cond.methodLinkNest RX7 39 yX1_init RX7) ∈ lw_tbl := List.mem_append_right _ (List.mem_append_left _ (List.mem_of_getElem? (i := 179) (by decide +kernel : tables_1_1[179]? = some _)))
theorem tb_ni53 : (Cond.methodLinkNest RX7 53 yX2_init RX7) ∈ lw_tbl := List.mem_append_right _ (List.mem_append_left _ (List.mem_of_getElem? (i := 216) (by decide +kernel : tables_1_1[216]? = some _)))
theorem tb_nw_RX6_35 : (Cond.methodLinkNest RX6 35 yX7_within RX7) ∈ lw_tbl := List.mem_append_right _ (List.mem_append_right _ (List.mem_append_left _ (List.mem_of_getElem? (i := 81) (by decide +kernel : tables_1_2[81]? = some _))))
theorem tb_nw_RX5_43 : (Cond.methodLinkNest RX5 43 yX7_hasWorld RX7) ∈ lw_tbl := List.mem_append_right _ (List.mem_append_right _ (List.mem_append_right _ (List.mem_append_left _ (List.mem_of_getElem? (i := 11) (by decide +kernel : tables_1_3[11]? = some _)))))
theorem tb_nw_RX1_34 : (Cond.methodLinkNest RX1 34 yX7_within RX7) ∈ lw_tbl := List.mem_append_right _ (List.mem_append_right _ (List.mem_append_right _ (List.mem_append_left _ (List.mem_of_getElem? (i := 109) (by decide +kernel : tables_1_3[109]? = some _)))))
theorem tb_nw_RX2_52 : (Cond.methodLinkNest RX2 52 yX7_within RX7) ∈ lw_tbl := List.mem_append_right _ (List.mem_append_right _ (List.mem_append_right _ (List.mem_append_left _ (List.mem_of_getElem? (i := 179) (by decide +kernel : tables_1_3[179]? = some _)))))
theorem tb_nf : (Cond.fieldLinkNest RX6 32 RX7 "PRICE_LIMITS" "[I" RX7) ∈ lw_tbl := List.mem_append_right _ (List.mem_append_right _ (List.mem_append_left _ (List.mem_of_getElem? (i := 80) (by decide +kernel : tables_1_2[80]? = some _))))
theorem kn_start {s : State} {args : Array Value} (hts : ∀ w ∈ lw_tbl, w.before args s = true) : ∃ (D : va_G) (cA : Nat → ClassId), KnK D cA s := by
  have hW : ∀ w ∈ Wds, w.before args s = true := fun w h => hts w (Wds_tbl h)
  obtain ⟨c0, i0, k0⟩ := u_known (T := TX0) (N := 13) hW inw0 (hW _ wd1_71)
  obtain ⟨c1, i1, k1⟩ := u_known (T := TX1) (N := 5) hW inw1 (hW _ wd1_178)
  obtain ⟨c2, i2, k2⟩ := u_known (T := TX2) (N := 6) hW inw2 (hW _ wd1_215)
  obtain ⟨c3, i3, k3⟩ := u_known (T := TX3) (N := 3) hW inw3 (hW _ wd1_23)
  obtain ⟨c4, i4, k4⟩ := u_known (T := TX4) (N := 1) hW inw4 (hW _ wd1_201)
  obtain ⟨c5, i5, k5⟩ := u_known (T := TX5) (N := 10) hW inw5 (hW _ wd1_140)
  obtain ⟨c6, i6, k6⟩ := u_known (T := TX6) (N := 4) hW inw6 (hW _ wd1_47)
  obtain ⟨c7, i7, k7⟩ := u_known (T := TX7) (N := 7) hW inw7 (hW _ wd1_15)
  obtain ⟨c8, i8, k8⟩ := u_known (T := TX8) (N := 24) hW inw8 (hW _ wd3_223)
  obtain ⟨a0, ka0, m0, f0, g0, e0⟩ := Cond.arrayClass_spec (hW _ wd1_44)
  obtain ⟨a1, ka1, m1, f1, g1, e1⟩ := Cond.arrayClass_spec (hW _ wd1_176)
  obtain ⟨a2, ka2, m2, f2, g2, e2⟩ := Cond.arrayClass_spec (hW _ wd1_43)
  obtain ⟨m3, a3, ka3, p3, -, g3, e3, f3⟩ := Cond.arrayOver_spec (hts _ tb_ao0)
  obtain ⟨m4, a4, ka4, p4, -, g4, e4, f4⟩ := Cond.arrayOver_spec (hts _ tb_ao6)
  refine ⟨(fun k => match k with | 0 => c0 | 1 => c1 | 2 => c2 | 3 => c3 | 4 => c4 | 5 => c5 | 6 => c6 | 7 => c7 | _ => c8, fun k => match k with | 0 => i0 | 1 => i1 | 2 => i2 | 3 => i3 | 4 => i4 | 5 => i5 | 6 => i6 | 7 => i7 | _ => i8), fun k => match k with | 0 => a0 | 1 => a1 | 2 => a2 | 3 => a3 | _ => a4, ⟨fun c q hq => ?_, fun k q hk => ?_⟩, ?_, va_AO.of (hts _ tb_ao0), va_AO.of (hts _ tb_ao6)⟩
  · match c, hq with
    | 0, hq => cases hq; exact k0
    | 1, hq => cases hq; exact k1
    | 2, hq => cases hq; exact k2
    | 3, hq => cases hq; exact k3
    | 4, hq => cases hq; exact k4
    | 5, hq => cases hq; exact k5
    | 6, hq => cases hq; exact k6
    | 7, hq => cases hq; exact k7
    | 8, hq => cases hq; exact k8
    | c + 9, hq => cases hq
  · match k, hk with
    | 0, hk => cases hk; exact ⟨fun n z => ⟨fun k h => (by cases h), ka0, g0, m0, e0⟩, f0⟩
    | 1, hk => cases hk; exact ⟨fun n z => ⟨fun k h => (by cases h), ka1, g1, m1, e1⟩, f1⟩
    | 2, hk => cases hk; exact ⟨fun n z => ⟨fun k h => (by cases h), ka2, g2, m2, e2⟩, f2⟩
    | 3, hk => cases hk; exact ⟨fun n z => ⟨fun k h => (by cases h), ka3, g3, m3, e3⟩, ka3, m3, g3, e3, p3, f3⟩
    | 4, hk => cases hk; exact ⟨fun n z => ⟨fun k h => (by cases h), ka4, g4, m4, e4⟩, ka4, m4, g4, e4, p4, f4⟩
    | k + 5, hk => cases hk
  · intro w hw
    simp only [nestI, List.mem_cons, List.not_mem_nil, or_false] at hw
    rcases hw with rfl | rfl | rfl | rfl | rfl | rfl
    · exact va_Nw.of rfl (hts _ tb_ni11)
    · exact va_Nw.of rfl (hts _ tb_ni22)
    · exact va_Nw.of rfl (hts _ tb_ni29)
    · exact va_Nw.of rfl (hts _ tb_ni32)
    · exact va_Nw.of rfl (hts _ tb_ni39)
    · exact va_Nw.of rfl (hts _ tb_ni53)
theorem lim_at {s : State} {args : Array Value} {A : Nat → Prop} (hts : ∀ w ∈ lw_tbl, w.before args s = true) (hgv : (Jvm.Cond.and given_1 narrow_1).before args s = true) (hA : ∀ a : Nat, a < s.heap.size → ¬ A a) : ∃ t : Nat, va_Z RX7 "PRICE_LIMITS" "[I" (.ref t) A s s.heap ∧ va_T .int t 3 limF A s s.heap := by
  have hs := flat_of_before _ hgv
  obtain ⟨t, h1, h2⟩ := va_Tof (tm := .static "HourStore" "PRICE_LIMITS" "[I") (ty := .int) (N := 3) (f := limF) (A := A) (by decide) (hs _ (by decide +kernel)) (va_eqt (hs (.eq (.length (.static "HourStore" "PRICE_LIMITS" "[I")) (.int 3)) (by decide +kernel))) (fun j hj => by
    match j, hj with
    | 0, _ => exact va_eqt (hs (.eq (.elem (.static "HourStore" "PRICE_LIMITS" "[I") (.int 0)) (.int 100)) (by decide +kernel))
    | 1, _ => exact va_eqt (hs (.eq (.elem (.static "HourStore" "PRICE_LIMITS" "[I") (.int 1)) (.int 1000)) (by decide +kernel))
    | 2, _ => exact va_eqt (hs (.eq (.elem (.static "HourStore" "PRICE_LIMITS" "[I") (.int 2)) (.int 10000)) (by decide +kernel))
    | j + 3, h => exact absurd h (by omega)) hA
  exact ⟨t, va_Zref (hts _ tb_lim) (hts _ (Wds_tbl wd1_1)) h1 hA, h2⟩
/-- the memory at the start -/
def sg0 : Mm := fun a _ z => match a with
  | 1 => if z = 0 then 24 else 0
  | 28 => if z = 0 then 24 else 0
  | 21 => if 0 ≤ z ∧ z < 36 then -1001 else 0
  | 45 => if 0 ≤ z ∧ z < 36 then -1001 else 0
  | 31 => if 0 ≤ z ∧ z < 4 then -1 else 0
  | 34 => if 0 ≤ z ∧ z < 4 then -1 else 0
  | _ => 0
theorem inT0 (t : Nat) : inT t 0 := by
  match t with
  | 0 => exact ⟨by decide, by decide⟩
  | 1 => exact ⟨by decide, by decide⟩
  | t + 2 => exact ⟨by decide, by decide⟩
theorem Rg0 : Rg sg0 := by
  intro a i z
  unfold sg0
  split
  · show R32 _; split <;> exact ⟨by decide, by decide⟩
  · show R32 _; split <;> exact ⟨by decide, by decide⟩
  · show R32 _; split <;> exact ⟨by decide, by decide⟩
  · show R32 _; split <;> exact ⟨by decide, by decide⟩
  · show R32 _; split <;> exact ⟨by decide, by decide⟩
  · show R32 _; split <;> exact ⟨by decide, by decide⟩
  · exact inT0 _
theorem JJ0 : JJ sg0 := by
  have z (a b : Int) (h : a ≤ 0 ∧ 0 ≤ b) : a ≤ (0 : Int) ∧ (0 : Int) ≤ b := h
  have k (s : Int) (h0 : 0 ≤ s) (h1 : s < 4) : sg0 34 0 s = -1 := if_pos ⟨h0, h1⟩
  have w (s : Int) (h0 : 0 ≤ s) (h1 : s < 4) : sg0 31 0 s = -1 := if_pos ⟨h0, h1⟩
  have k2 (s : Int) : -1 ≤ sg0 34 0 s ∧ sg0 34 0 s ≤ 0 := by
    show -1 ≤ (if 0 ≤ s ∧ s < 4 then (-1 : Int) else 0) ∧ (if 0 ≤ s ∧ s < 4 then (-1 : Int) else 0) ≤ 0
    split <;> omega
  have w2 (s : Int) : -1 ≤ sg0 31 0 s ∧ sg0 31 0 s ≤ 0 := by
    show -1 ≤ (if 0 ≤ s ∧ s < 4 then (-1 : Int) else 0) ∧ (if 0 ≤ s ∧ s < 4 then (-1 : Int) else 0) ≤ 0
    split <;> omega
  have m2 (s : Int) : -1001 ≤ sg0 45 0 s ∧ sg0 45 0 s ≤ 1000 := by
    show -1001 ≤ (if 0 ≤ s ∧ s < 36 then (-1001 : Int) else 0) ∧ (if 0 ≤ s ∧ s < 36 then (-1001 : Int) else 0) ≤ 1000
    split <;> omega
  refine mkJ ?_ ?_ ?_ ?_ ?_ ?_ ?_ ?_ ?_ ?_ ?_ ?_ ?_ ?_ ?_ ?_ ?_ ?_ ?_ ?_ ?_ ?_
  · show (1 : Int) ≤ 24 ∧ (24 : Int) ≤ 36; decide
  · exact fun t => z 0 10 (by decide)
  · exact ⟨fun v => ⟨(w2 v).1, by have := (w2 v).2; omega, z 0 36 (by decide)⟩, fun v => z (-10000) 10000 (by decide)⟩
  · exact fun s => ⟨⟨(k2 s).1, by have := (k2 s).2; omega⟩, z 0 60 (by decide), z 0 60 (by decide), z 0 20 (by decide), z 0 20 (by decide), z 0 50 (by decide), z 0 100 (by decide), z 0 60 (by decide), z 0 100000 (by decide)⟩
  · exact fun t => z (-100) 100 (by decide)
  · exact ⟨z 0 12 (by decide), fun b => ⟨⟨Int.le_refl 0, Int.le_refl 0, (by decide : (0 : Int) ≤ 35)⟩, z (-20) 20 (by decide), z (-10000) 10000 (by decide)⟩⟩
  · exact m2
  · exact ⟨z 0 150 (by decide), fun b => ⟨z 0 3 (by decide), z 0 3 (by decide), z 0 35 (by decide), z (-100) 100 (by decide)⟩⟩
  · intro s s0 s1 h
    rw [k s s0 s1] at h
    omega
  · exact rfl
  · exact ⟨fun _ => rfl, fun _ => rfl⟩
  · exact fun v v0 v1 => Or.inl ⟨rfl, w v v0 v1⟩
  · exact fun v => ⟨z 0 2 (by decide), z 0 36 (by decide), fun t => z (-10000) 10000 (by decide)⟩
  · exact fun s s0 s1 => Or.inl ⟨rfl, k s s0 s1⟩
  · exact fun s => ⟨z 0 4 (by decide), z 0 60 (by decide), z 0 60 (by decide), z 0 6 (by decide), z 0 60 (by decide), z 0 40 (by decide), z 0 40 (by decide), z 0 50 (by decide), z 0 100 (by decide), z 0 60 (by decide), z 0 100000 (by decide)⟩
  · exact fun s t _ _ _ _ => rfl
  · exact fun s t => z (-100) 100 (by decide)
  · exact ⟨rfl, fun b _ _ => ⟨rfl, rfl, rfl, rfl⟩⟩
  · exact ⟨z 0 12 (by decide), fun b => ⟨⟨Int.le_refl 0, Int.le_refl 0, (by decide : (0 : Int) ≤ 35)⟩, z (-20) 20 (by decide), z (-10000) 10000 (by decide)⟩⟩
  · exact fun _ => rfl
  · exact ⟨rfl, fun i _ _ => ⟨rfl, rfl, rfl, rfl, rfl⟩⟩
  · exact ⟨z 0 150 (by decide), fun b => ⟨z 0 3 (by decide), z 0 3 (by decide), z 0 35 (by decide), z (-100) 100 (by decide)⟩⟩
