/-! bounds of every store, there or not -/
def CC (σ : Mm) : Prop := (∀ s, floM σ s ≤ σ 36 0 s ∧ σ 36 0 s ≤ topM σ s) ∧ ∀ s, σ 8 s 4 ≤ σ 8 s 3 ∧ σ 8 s 3 ≤ σ 8 s 5 ∧ σ 8 s 5 ≤ σ 8 s 2
def JM (σ : Mm) : Prop := MT σ ∧ MK σ ∧ MP σ ∧ MSt σ ∧ ML σ ∧ MD σ ∧ ME σ ∧ MR σ ∧ ∀ s, floM σ s ≤ σ 36 0 s ∧ σ 36 0 s ≤ topM σ s
def JK (σ : Mm) : Prop := JJ σ ∧ CC σ
theorem JK.m {σ : Mm} (h : JK σ) : JM σ := ⟨jMT h.1, jMK h.1, jMP h.1, jMS h.1, jML h.1, jMD h.1, jME h.1, jMR h.1, h.2.1⟩
theorem CC0 : CC sg0 := by
  refine ⟨fun s => ?_, fun s => ⟨Int.le_refl 0, Int.le_refl 0, Int.le_refl 0⟩⟩
  have k2 : -1 ≤ sg0 34 0 s ∧ sg0 34 0 s ≤ 0 := by
    show -1 ≤ (if 0 ≤ s ∧ s < 4 then (-1 : Int) else 0) ∧ (if 0 ≤ s ∧ s < 4 then (-1 : Int) else 0) ≤ 0
    split <;> omega
  have a : floM sg0 s = 0 := by unfold floM; rw [if_neg (by omega)]
  have b : topM sg0 s = 0 := by unfold topM; rw [if_neg (by omega)]; rfl
  rw [a, b]
  exact ⟨Int.le_refl 0, Int.le_refl 0⟩
theorem JK0 : JK sg0 := ⟨JJ0, CC0⟩
section CCS
variable {σ : Mm}
theorem jm_time (h : JM σ) (z1 : Int) : JM (sc_time σ z1) := by
  unfold sc_time
  (repeat' split) <;> exact h
theorem jm_dark (h : JM σ) (z1 z2 : Int) : JM (sc_dark σ z1 z2) := by
  unfold sc_dark
  (repeat' split) <;> exact h
theorem jm_keep (h : JM σ) (z1 z2 : Int) : JM (sc_keep σ z1 z2) := by
  unfold sc_keep
  (repeat' split) <;> exact h
theorem jm_world (h : JM σ) (z1 z2 z3 : Int) : JM (sc_world σ z1 z2 z3) := by
  unfold sc_world
  (repeat' split) <;> exact h
theorem jm_lose (h : JM σ) (z1 : Int) : JM (sc_lose σ z1) := by
  unfold sc_lose
  (repeat' split) <;> exact h
theorem jm_price (h : JM σ) (z1 z2 z3 : Int) : JM (sc_price σ z1 z2 z3) := by
  unfold sc_price
  (repeat' split) <;> exact h
theorem jm_copy (h : JM σ) (z1 z2 z3 z4 z5 : Int) : JM (sc_copy σ z1 z2 z3 z4 z5) := by
  unfold sc_copy
  (repeat' split) <;> exact h
theorem jm_store (h : JM σ) (z1 z2 z3 z4 z5 : Int) : JM (sc_store σ z1 z2 z3 z4 z5) := by
  unfold sc_store
  (repeat' split) <;> exact h
theorem jm_charge (h : JM σ) (z1 z2 : Int) : JM (sc_charge σ z1 z2) := by
  unfold sc_charge
  (repeat' split) <;> exact h
theorem jm_end (h : JM σ) (z1 z2 : Int) : JM (sc_end σ z1 z2) := by
  unfold sc_end
  (repeat' split) <;> exact h
theorem jm_put (h : JM σ) (z1 z2 z3 : Int) : JM (sc_put σ z1 z2 z3) := by
  unfold sc_put
  (repeat' split) <;> exact h
theorem jm_best (h : JM σ) (z1 z2 : Int) : JM (sc_best σ z1 z2) := by
  unfold sc_best
  (repeat' split) <;> exact h
theorem jm_bid (h : JM σ) (z1 z2 z3 z4 : Int) : JM (sc_bid σ z1 z2 z3 z4) := by
  unfold sc_bid
  (repeat' split) <;> exact h
theorem jm_unbid (h : JM σ) : JM (sc_unbid σ ) := by
  unfold sc_unbid
  (repeat' split) <;> exact h
theorem jm_fill (h : JM σ) (z1 z2 : Int) : JM (sc_fill σ z1 z2) := by
  unfold sc_fill
  (repeat' split) <;> exact h
theorem jm_meter (h : JM σ) (z1 z2 : Int) : JM (sc_meter σ z1 z2) := by
  unfold sc_meter
  (repeat' split) <;> exact h
theorem jm_live (h : JM σ) (z1 z2 : Int) : JM (sc_live σ z1 z2) := by
  unfold sc_live
  (repeat' split) <;> exact h
theorem jm_forge (h : JM σ) (z1 z2 z3 : Int) : JM (sc_forge σ z1 z2 z3) := by
  unfold sc_forge
  (repeat' split) <;> exact h
theorem jm_shut (h : JM σ) : JM (sc_shut σ ) := by
  unfold sc_shut
  (repeat' split) <;> exact h
theorem jm_warrant (h : JM σ) (z1 z2 : Int) : JM (sc_warrant σ z1 z2) := by
  unfold sc_warrant
  (repeat' split) <;> exact h
theorem C_time (h : CC σ) (z1 : Int) : CC (sm_time (sc_time σ z1) z1) := by
  have e : ∀ τ, CC τ → CC (sm_time τ z1) := fun τ k => by
    unfold sm_time
    (repeat' split) <;> exact k
  refine e _ ?_
  unfold sc_time
  (repeat' split) <;> exact h
theorem C_dark (h : CC σ) (z1 z2 : Int) : CC (sm_dark (sc_dark σ z1 z2) z1 z2) := by
  have e : ∀ τ, CC τ → CC (sm_dark τ z1 z2) := fun τ k => by
    unfold sm_dark
    (repeat' split) <;> exact k
  refine e _ ?_
  unfold sc_dark
  (repeat' split) <;> exact h
theorem C_keep (h : CC σ) (z1 z2 : Int) : CC (sm_keep (sc_keep σ z1 z2) z1 z2) := by
  have e : ∀ τ, CC τ → CC (sm_keep τ z1 z2) := fun τ k => by
    unfold sm_keep
    (repeat' split) <;> exact k
  refine e _ ?_
  unfold sc_keep
  (repeat' split) <;> exact h
theorem C_world (h : CC σ) (z1 z2 z3 : Int) : CC (sm_world (sc_world σ z1 z2 z3) z1 z2 z3) := by
  have e : ∀ τ, CC τ → CC (sm_world τ z1 z2 z3) := fun τ k => by
    unfold sm_world
    (repeat' split) <;> exact k
  refine e _ ?_
  unfold sc_world
  (repeat' split) <;> exact h
theorem C_lose (h : CC σ) (z1 : Int) : CC (sm_lose (sc_lose σ z1) z1) := by
  have e : ∀ τ, CC τ → CC (sm_lose τ z1) := fun τ k => by
    unfold sm_lose
    (repeat' split) <;> exact k
  refine e _ ?_
  unfold sc_lose
  (repeat' split) <;> exact h
theorem C_price (h : CC σ) (z1 z2 z3 : Int) : CC (sm_price (sc_price σ z1 z2 z3) z1 z2 z3) := by
  have e : ∀ τ, CC τ → CC (sm_price τ z1 z2 z3) := fun τ k => by
    unfold sm_price
    (repeat' split) <;> exact k
  refine e _ ?_
  unfold sc_price
  (repeat' split) <;> exact h
theorem C_copy (h : CC σ) (z1 z2 z3 z4 z5 : Int) : CC (sm_copy (sc_copy σ z1 z2 z3 z4 z5) z1 z2 z3 z4 z5) := by
  have e : ∀ τ, CC τ → CC (sm_copy τ z1 z2 z3 z4 z5) := fun τ k => by
    unfold sm_copy
    (repeat' split) <;> exact k
  refine e _ ?_
  unfold sc_copy
  (repeat' split) <;> exact h
theorem C_put (h : CC σ) (z1 z2 z3 : Int) : CC (sm_put (sc_put σ z1 z2 z3) z1 z2 z3) := by
  have e : ∀ τ, CC τ → CC (sm_put τ z1 z2 z3) := fun τ k => by
    unfold sm_put
    (repeat' split) <;> exact k
  refine e _ ?_
  unfold sc_put
  (repeat' split) <;> exact h
theorem C_bid (h : CC σ) (z1 z2 z3 z4 : Int) : CC (sm_bid (sc_bid σ z1 z2 z3 z4) z1 z2 z3 z4) := by
  have e : ∀ τ, CC τ → CC (sm_bid τ z1 z2 z3 z4) := fun τ k => by
    unfold sm_bid
    (repeat' split) <;> exact k
  refine e _ ?_
  unfold sc_bid
  (repeat' split) <;> exact h
theorem C_unbid (h : CC σ) : CC (sm_unbid (sc_unbid σ ) ) := by
  have e : ∀ τ, CC τ → CC (sm_unbid τ ) := fun τ k => by
    unfold sm_unbid
    (repeat' split) <;> exact k
  refine e _ ?_
  unfold sc_unbid
  (repeat' split) <;> exact h
theorem C_fill (h : CC σ) (z1 z2 : Int) : CC (sm_fill (sc_fill σ z1 z2) z1 z2) := by
  have e : ∀ τ, CC τ → CC (sm_fill τ z1 z2) := fun τ k => by
    unfold sm_fill
    (repeat' split) <;> exact k
  refine e _ ?_
  unfold sc_fill
  (repeat' split) <;> exact h
theorem C_meter (h : CC σ) (z1 z2 : Int) : CC (sm_meter (sc_meter σ z1 z2) z1 z2) := by
  have e : ∀ τ, CC τ → CC (sm_meter τ z1 z2) := fun τ k => by
    unfold sm_meter
    (repeat' split) <;> exact k
  refine e _ ?_
  unfold sc_meter
  (repeat' split) <;> exact h
theorem C_forge (h : CC σ) (z1 z2 z3 : Int) : CC (sm_forge (sc_forge σ z1 z2 z3) z1 z2 z3) := by
  have e : ∀ τ, CC τ → CC (sm_forge τ z1 z2 z3) := fun τ k => by
    unfold sm_forge
    (repeat' split) <;> exact k
  refine e _ ?_
  unfold sc_forge
  (repeat' split) <;> exact h
theorem C_shut (h : CC σ) : CC (sm_shut (sc_shut σ ) ) := by
  have e : ∀ τ, CC τ → CC (sm_shut τ ) := fun τ k => by
    unfold sm_shut
    (repeat' split) <;> exact k
  refine e _ ?_
  unfold sc_shut
  (repeat' split) <;> exact h
theorem C_end (h : CC σ) (z1 z2 : Int) : CC (sm_end (sc_end σ z1 z2) z1 z2) := by
  have e : ∀ τ, CC τ → CC (sm_end τ z1 z2) := fun τ k => by
    unfold sm_end
    split <;> exact k
  refine e _ ?_
  unfold sc_end
  split
  · refine ⟨h.1, fun s => ?_⟩
    have q := h.2 s
    simp only [up, fillR, plW, cpyA, nwP, nwB, nwR, nwL, adB, sm_store0, Nat.reduceEqDiff, Int.reduceEq, eq_self_iff_true, eq_self, false_and, true_and, and_false, and_true, if_false, if_true, ite_false, ite_true, reduceIte]
    exact q
  · exact h
theorem C_warrant (h : CC σ) (z1 z2 : Int) : CC (sm_warrant (sc_warrant σ z1 z2) z1 z2) := by
  have e : ∀ τ, CC τ → CC (sm_warrant τ z1 z2) := fun τ k => by
    unfold sm_warrant
    split <;> exact k
  refine e _ ?_
  unfold sc_warrant
  split
  · refine ⟨h.1, fun s => ?_⟩
    have q := h.2 s
    simp only [up, fillR, plW, cpyA, nwP, nwB, nwR, nwL, adB, sm_store0, Nat.reduceEqDiff, Int.reduceEq, eq_self_iff_true, eq_self, false_and, true_and, and_false, and_true, if_false, if_true, ite_false, ite_true, reduceIte]
    exact q
  · exact h
theorem C_charge (h : CC σ) (z1 z2 : Int) : CC (sm_charge (sc_charge σ z1 z2) z1 z2) := by
  have e : ∀ τ, CC τ → CC (sm_charge τ z1 z2) := fun τ k => by
    unfold sm_charge
    split
    · rename_i c
      refine ⟨fun s => ?_, k.2⟩
      have q := k.1 s
      show floM τ s ≤ up τ 36 0 z1 z2 36 0 s ∧ up τ 36 0 z1 z2 36 0 s ≤ topM τ s
      rw [up_e]
      split
      · rename_i x; rw [x.2]; exact c.2.2
      · exact q
    · exact k
  refine e _ ?_
  unfold sc_charge
  split
  · rename_i c
    refine ⟨h.1, fun s => ?_⟩
    have q := h.2 s
    simp only [up, fillR, plW, cpyA, nwP, nwB, nwR, nwL, adB, sm_store0, Nat.reduceEqDiff, Int.reduceEq, eq_self_iff_true, eq_self, false_and, true_and, and_false, and_true, if_false, if_true, ite_false, ite_true, reduceIte]
    split
    · rename_i x; rw [x]; rw [x] at q; exact ⟨c.2.2.1, c.2.2.2, q.2.2⟩
    · exact q
  · exact h
theorem C_store (h : CC σ) (z1 z2 z3 z4 z5 : Int) : CC (sm_store (sc_store σ z1 z2 z3 z4 z5) z1 z2 z3 z4 z5) := by
  have e : ∀ τ, CC τ → CC (sm_store τ z1 z2 z3 z4 z5) := fun τ k => by
    unfold sm_store
    split
    · rename_i c
      unfold okSt at c
      refine ⟨fun s => ?_, k.2⟩
      have q := k.1 s
      unfold floM topM at q ⊢
      simp only [up, fillR, plW, cpyA, nwP, nwB, nwR, nwL, adB, sm_store0, Nat.reduceEqDiff, Int.reduceEq, eq_self_iff_true, eq_self, false_and, true_and, and_false, and_true, if_false, if_true, ite_false, ite_true, reduceIte]
      by_cases x : s = z1
      · simp only [if_pos x]
        (repeat' split) <;> omega
      · simp only [if_neg x]
        exact q
    · exact k
  refine e _ ?_
  unfold sc_store
  split
  · rename_i c
    unfold okSc at c
    refine ⟨h.1, fun s => ?_⟩
    have q := h.2 s
    simp only [up, fillR, plW, cpyA, nwP, nwB, nwR, nwL, adB, sm_store0, Nat.reduceEqDiff, Int.reduceEq, eq_self_iff_true, eq_self, false_and, true_and, and_false, and_true, if_false, if_true, ite_false, ite_true, reduceIte]
    by_cases x : s = z1
    · simp only [if_pos x]
      (repeat' split) <;> omega
    · simp only [if_neg x]
      exact q
  · exact h
theorem C_live (h : JK σ) (z1 z2 : Int) : CC (sm_live (sc_live σ z1 z2) z1 z2) := by
  have hj := J_live h.1 z1 z2
  by_cases c : ((0 ≤ z1 ∧ z1 ≤ 3) ∧ (0 ≤ z2 ∧ z2 ≤ 3)) ∧ ¬ (σ 8 z1 0 = 0 ∨ whC σ z1 ≠ NONE) ∧ σ 22 0 0 + σ 1 0 0 ≤ 150
  · have t := thereS h.1 (s := z1) (by omega) (by omega)
    have k : 0 ≤ σ 34 0 z1 := by have := c.2.1; omega
    have e : sc_live σ z1 z2 = up (lvC σ z1 z2 (σ 1 0 0)) 8 z1 3 (bhC σ z1 (σ 1 0 0 - 1)) := if_pos c
    rw [e] at hj ⊢
    have key : ∀ τ : Mm, (∀ s y, τ 34 0 s = σ 34 0 s ∧ τ 35 0 s = σ 35 0 s ∧ (s ≠ z1 → τ 36 0 s = σ 36 0 s) ∧ ((s ≠ z1 ∨ y ≠ 3) → τ 8 s y = σ 8 s y)) → JJ τ → CC τ := by
      intro τ q j
      have ms := atS j (s := z1) (by omega) (by omega) (by rw [(q z1 0).1]; omega)
      have mc := jMC j z1 (by omega) (by omega) (by rw [(q z1 0).1]; omega)
      refine ⟨fun s => ?_, fun s => ?_⟩
      · by_cases x : s = z1
        · rw [x]; exact ⟨mc.1, mc.2.1⟩
        · have p := h.2.1 s
          unfold floM topM at p ⊢
          rw [(q s 0).1, (q s 0).2.1, (q s 0).2.2.1 x]
          exact p
      · by_cases x : s = z1
        · have p := h.2.2 s
          rw [(q s 5).2.2.2 (Or.inr (by decide)), (q s 2).2.2.2 (Or.inr (by decide))]
          rw [x] at p ⊢
          have p2 := (q z1 4).2.2.2 (Or.inr (by decide))
          have p5 := (q z1 5).2.2.2 (Or.inr (by decide))
          refine ⟨?_, ?_, p.2.2⟩
          · rw [ms.2.2.2.2.2.1, ms.2.2.2.2.1]; exact mc.1
          · rw [← p5, ms.2.2.2.2.2.2.1, ms.2.2.2.2.1]; exact mc.2.1
        · rw [(q s 2).2.2.2 (Or.inl x), (q s 3).2.2.2 (Or.inl x), (q s 4).2.2.2 (Or.inl x), (q s 5).2.2.2 (Or.inl x)]
          exact h.2.2 s
    refine key _ (fun s y => ?_) hj
    have base : up (lvC σ z1 z2 (σ 1 0 0)) 8 z1 3 (bhC σ z1 (σ 1 0 0 - 1)) 34 0 s = σ 34 0 s ∧ up (lvC σ z1 z2 (σ 1 0 0)) 8 z1 3 (bhC σ z1 (σ 1 0 0 - 1)) 35 0 s = σ 35 0 s ∧ (s ≠ z1 → up (lvC σ z1 z2 (σ 1 0 0)) 8 z1 3 (bhC σ z1 (σ 1 0 0 - 1)) 36 0 s = σ 36 0 s) ∧ ((s ≠ z1 ∨ y ≠ 3) → up (lvC σ z1 z2 (σ 1 0 0)) 8 z1 3 (bhC σ z1 (σ 1 0 0 - 1)) 8 s y = σ 8 s y) := by
      refine ⟨rfl, rfl, fun _ => rfl, fun x => ?_⟩
      rw [up_e, if_neg (by omega)]
      rfl
    unfold sm_live
    split
    · refine ⟨base.1, base.2.1, fun x => ?_, base.2.2.2⟩
      rw [up_e, if_neg (fun q => x q.2)]
      exact base.2.2.1 x
    · exact base
  · have e : sc_live σ z1 z2 = σ := if_neg c
    rw [e] at hj ⊢
    have f : sm_live σ z1 z2 = σ := if_neg (fun q => c (by
      have t := thereS h.1 (s := z1) (by omega) (by omega)
      have d : ¬ σ 34 0 z1 < 0 := fun x => q.2.1 (Or.inl x)
      have g := jrT h.1
      unfold rT at g
      rw [whCM h.1 (by omega) (by omega) d, g, (jrR h.1).1]
      exact ⟨q.1, fun x => x.elim (fun x => d (t.mp x)) (fun x => q.2.1 (Or.inr x)), q.2.2⟩))
    rw [f]
    exact h.2
theorem C_best (h : CC σ) {τ : Mm} {z1 z2 : Int} (ha : Ag τ (sc_best σ z1 z2)) : CC (sm_best τ z1 z2) := by
  have k : CC τ := by
    refine agP (F := CC) (fun _ => rfl) ha ?_
    unfold sc_best
    split <;> exact h
  unfold sm_best
  split <;> exact k
theorem K_time (h : JK σ) (z1 : Int) : JK (sm_time (sc_time σ z1) z1) := ⟨J_time h.1 z1, C_time h.2 z1⟩
theorem K_dark (h : JK σ) (z1 z2 : Int) : JK (sm_dark (sc_dark σ z1 z2) z1 z2) := ⟨J_dark h.1 z1 z2, C_dark h.2 z1 z2⟩
theorem K_keep (h : JK σ) (z1 z2 : Int) : JK (sm_keep (sc_keep σ z1 z2) z1 z2) := ⟨J_keep h.1 z1 z2, C_keep h.2 z1 z2⟩
theorem K_world (h : JK σ) (z1 z2 z3 : Int) : JK (sm_world (sc_world σ z1 z2 z3) z1 z2 z3) := ⟨J_world h.1 z1 z2 z3, C_world h.2 z1 z2 z3⟩
theorem K_lose (h : JK σ) (z1 : Int) : JK (sm_lose (sc_lose σ z1) z1) := ⟨J_lose h.1 z1, C_lose h.2 z1⟩
theorem K_price (h : JK σ) (z1 z2 z3 : Int) : JK (sm_price (sc_price σ z1 z2 z3) z1 z2 z3) := ⟨J_price h.1 z1 z2 z3, C_price h.2 z1 z2 z3⟩
theorem K_copy (h : JK σ) (z1 z2 z3 z4 z5 : Int) : JK (sm_copy (sc_copy σ z1 z2 z3 z4 z5) z1 z2 z3 z4 z5) := ⟨J_copy h.1 z1 z2 z3 z4 z5, C_copy h.2 z1 z2 z3 z4 z5⟩
theorem K_put (h : JK σ) (z1 z2 z3 : Int) : JK (sm_put (sc_put σ z1 z2 z3) z1 z2 z3) := ⟨J_put h.1 z1 z2 z3, C_put h.2 z1 z2 z3⟩
theorem K_bid (h : JK σ) (z1 z2 z3 z4 : Int) : JK (sm_bid (sc_bid σ z1 z2 z3 z4) z1 z2 z3 z4) := ⟨J_bid h.1 z1 z2 z3 z4, C_bid h.2 z1 z2 z3 z4⟩
theorem K_unbid (h : JK σ) : JK (sm_unbid (sc_unbid σ ) ) := ⟨J_unbid h.1 , C_unbid h.2 ⟩
theorem K_fill (h : JK σ) (z1 z2 : Int) : JK (sm_fill (sc_fill σ z1 z2) z1 z2) := ⟨J_fill h.1 z1 z2, C_fill h.2 z1 z2⟩
theorem K_meter (h : JK σ) (z1 z2 : Int) : JK (sm_meter (sc_meter σ z1 z2) z1 z2) := ⟨J_meter h.1 z1 z2, C_meter h.2 z1 z2⟩
theorem K_forge (h : JK σ) (z1 z2 z3 : Int) : JK (sm_forge (sc_forge σ z1 z2 z3) z1 z2 z3) := ⟨J_forge h.1 z1 z2 z3, C_forge h.2 z1 z2 z3⟩
theorem K_shut (h : JK σ) : JK (sm_shut (sc_shut σ ) ) := ⟨J_shut h.1 , C_shut h.2 ⟩
theorem K_end (h : JK σ) (z1 z2 : Int) : JK (sm_end (sc_end σ z1 z2) z1 z2) := ⟨J_end h.1 z1 z2, C_end h.2 z1 z2⟩
theorem K_warrant (h : JK σ) (z1 z2 : Int) : JK (sm_warrant (sc_warrant σ z1 z2) z1 z2) := ⟨J_warrant h.1 z1 z2, C_warrant h.2 z1 z2⟩
theorem K_charge (h : JK σ) (z1 z2 : Int) : JK (sm_charge (sc_charge σ z1 z2) z1 z2) := ⟨J_charge h.1 z1 z2, C_charge h.2 z1 z2⟩
theorem K_store (h : JK σ) (z1 z2 z3 z4 z5 : Int) : JK (sm_store (sc_store σ z1 z2 z3 z4 z5) z1 z2 z3 z4 z5) := ⟨J_store h.1 z1 z2 z3 z4 z5, C_store h.2 z1 z2 z3 z4 z5⟩
theorem K_live (h : JK σ) (z1 z2 : Int) : JK (sm_live (sc_live σ z1 z2) z1 z2) := ⟨J_live h.1 z1 z2, C_live h z1 z2⟩
theorem K_best (h : JK σ) {τ ρ : Mm} {z1 z2 : Int} (ha : Ag τ (sc_best σ z1 z2)) (hb : Ag ρ (sm_best τ z1 z2)) : JK ρ := ⟨agP (F := JJ) (fun _ => rfl) hb (J_best h.1 ha), agP (F := CC) (fun _ => rfl) hb (C_best h.2 ha)⟩
theorem K_ag (h : JK σ) {τ ρ : Mm} (ha : Ag τ σ) (hb : Ag ρ τ) : JK ρ := ⟨agP (F := JJ) (fun _ => rfl) (hb.tr ha) h.1, agP (F := CC) (fun _ => rfl) (hb.tr ha) h.2⟩
theorem jm_ag (h : JM σ) {τ : Mm} (ha : Ag τ σ) : JM τ := agP (F := JM) (fun _ => rfl) ha h
end CCS
