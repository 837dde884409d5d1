/-! each call: both sides answer alike, and what ties them holds behind it -/
theorem mkJ {σ : Mm} (a1 : MT σ) (a2 : MK σ) (a3 : MP σ) (a4 : MSt σ) (a5 : ML σ) (a6 : MD σ) (a7 : ME σ) (a8 : MR σ) (a9 : MC σ) (b1 : rT σ) (b2 : rK σ) (b3 : rW σ) (b4 : CP σ) (b5 : rS σ) (b6 : CS σ) (b7 : rL σ) (b8 : CL σ) (b9 : rD σ) (d1 : CD σ) (d2 : rE σ) (d3 : rR σ) (d4 : CR σ) : JJ σ :=
  ⟨a1, a2, a3, a4, a5, a6, a7, a8, a9, b1, b2, b3, b4, b5, b6, b7, b8, b9, d1, d2, d3, d4⟩
section JC
variable {σ : Mm}
theorem J_time (h : JJ σ) (z1 : Int) : JJ (sm_time (sc_time σ z1) z1) := by
  have cm : (1 ≤ z1 ∧ z1 ≤ 36) ↔ (1 ≤ z1 ∧ z1 ≤ 36) := by
    exact Iff.rfl
  by_cases c : 1 ≤ z1 ∧ z1 ≤ 36
  · have e : sc_time σ z1 = fillR (fillR (fillR (fillR (up (up σ 1 0 0 z1) 15 0 0 0) 9 0 0 36 0) 9 1 0 36 0) 9 2 0 36 0) 9 3 0 36 0 := if_pos c
    have f : sm_time (fillR (fillR (fillR (fillR (up (up σ 1 0 0 z1) 15 0 0 0) 9 0 0 36 0) 9 1 0 36 0) 9 2 0 36 0) 9 3 0 36 0) z1 = fillR (up (up (fillR (fillR (fillR (fillR (up (up σ 1 0 0 z1) 15 0 0 0) 9 0 0 36 0) 9 1 0 36 0) 9 2 0 36 0) 9 3 0 36 0) 28 0 0 z1) 28 0 17 0) 43 0 0 144 0 := if_pos (cm.mp c)
    rw [e, f]
    have c2 := cm.mp c
    refine mkJ ?_ (jMK (σ := σ) h) (jMP (σ := σ) h) (jMS (σ := σ) h) ?_ ?_ (jME (σ := σ) h) (jMR (σ := σ) h) (jMC (σ := σ) h) ?_ (jrK (σ := σ) h) (jrW (σ := σ) h) (jCP (σ := σ) h) (jrS (σ := σ) h) (jCS (σ := σ) h) ?_ ?_ ?_ ?_ (jrE (σ := σ) h) (jrR (σ := σ) h) (jCR (σ := σ) h)
    · exact c
    · intro k
      have q := jML h k
      simp only [up, fillR, plW, cpyA, nwP, nwB, nwR, nwL, adB, Nat.reduceEqDiff, Int.reduceEq, eq_self_iff_true, eq_self, false_and, true_and, and_false, and_true, if_false, if_true, ite_false, ite_true, reduceIte]
      (repeat' split) <;> omega
    · exact ⟨show (0 : Int) ≤ 0 ∧ (0 : Int) ≤ 12 by decide, (jMD h).2⟩
    · show z1 = z1; rfl
    · intro s t s0 s1 t0 t1
      simp only [up, fillR, plW, cpyA, nwP, nwB, nwR, nwL, adB, Nat.reduceEqDiff, Int.reduceEq, eq_self_iff_true, eq_self, false_and, true_and, and_false, and_true, if_false, if_true, ite_false, ite_true, reduceIte]
      (repeat' split) <;> omega
    · intro s t
      have q := jCL h s t
      simp only [up, fillR, plW, cpyA, nwP, nwB, nwR, nwL, adB, Nat.reduceEqDiff, Int.reduceEq, eq_self_iff_true, eq_self, false_and, true_and, and_false, and_true, if_false, if_true, ite_false, ite_true, reduceIte]
      (repeat' split) <;> omega
    · exact ⟨rfl, (jrD h).2⟩
    · exact ⟨show (0 : Int) ≤ 0 ∧ (0 : Int) ≤ 12 by decide, (jCD h).2⟩
  · have e : sc_time σ z1 = σ := if_neg c
    have f : sm_time σ z1 = σ := if_neg (fun q => c (cm.mpr q))
    rw [e, f]; exact h
theorem e_time (h : JJ σ) (z1 : Int) : rc_time σ z1 = rm_time σ z1 := by
  unfold rc_time rm_time
  rw [(jrD h).1]
theorem x_time (σ : Mm) (z1 : Int) : rm_time (sc_time σ z1) z1 = rm_time σ z1 := by
  unfold sc_time
  split <;> rfl
theorem J_dark (h : JJ σ) (z1 z2 : Int) : JJ (sm_dark (sc_dark σ z1 z2) z1 z2) := by
  have cm : ((0 ≤ z1 ∧ z1 ≤ 35) ∧ (0 ≤ z2 ∧ z2 ≤ 1)) ↔ ((0 ≤ z1 ∧ z1 ≤ 35) ∧ (0 ≤ z2 ∧ z2 ≤ 1)) := by
    exact Iff.rfl
  by_cases c : (0 ≤ z1 ∧ z1 ≤ 35) ∧ (0 ≤ z2 ∧ z2 ≤ 1)
  · have e : sc_dark σ z1 z2 = up σ 2 0 z1 z2 := if_pos c
    have f : sm_dark (up σ 2 0 z1 z2) z1 z2 = up (up σ 2 0 z1 z2) 29 0 z1 z2 := if_pos (cm.mp c)
    rw [e, f]
    have c2 := cm.mp c
    refine mkJ (jMT (σ := σ) h) (jMK (σ := σ) h) (jMP (σ := σ) h) (jMS (σ := σ) h) (jML (σ := σ) h) (jMD (σ := σ) h) (jME (σ := σ) h) (jMR (σ := σ) h) (jMC (σ := σ) h) (jrT (σ := σ) h) ?_ (jrW (σ := σ) h) (jCP (σ := σ) h) (jrS (σ := σ) h) (jCS (σ := σ) h) (jrL (σ := σ) h) (jCL (σ := σ) h) (jrD (σ := σ) h) (jCD (σ := σ) h) (jrE (σ := σ) h) (jrR (σ := σ) h) (jCR (σ := σ) h)
    · refine ⟨fun t => ?_, (jrK h).2⟩
      have q := (jrK h).1 t
      simp only [up, fillR, plW, cpyA, nwP, nwB, nwR, nwL, adB, Nat.reduceEqDiff, Int.reduceEq, eq_self_iff_true, eq_self, false_and, true_and, and_false, and_true, if_false, if_true, ite_false, ite_true, reduceIte]
      split <;> first | rfl | exact q
  · have e : sc_dark σ z1 z2 = σ := if_neg c
    have f : sm_dark σ z1 z2 = σ := if_neg (fun q => c (cm.mpr q))
    rw [e, f]; exact h
theorem e_dark (h : JJ σ) (z1 z2 : Int) : rc_dark σ z1 z2 = rm_dark σ z1 z2 := by
  unfold rc_dark rm_dark
  rw [(jrK h).1 z1]
theorem x_dark (σ : Mm) (z1 z2 : Int) : rm_dark (sc_dark σ z1 z2) z1 z2 = rm_dark σ z1 z2 := by
  unfold sc_dark
  split <;> rfl
theorem J_keep (h : JJ σ) (z1 z2 : Int) : JJ (sm_keep (sc_keep σ z1 z2) z1 z2) := by
  have cm : ((0 ≤ z1 ∧ z1 ≤ 35) ∧ (0 ≤ z2 ∧ z2 ≤ 10)) ↔ ((0 ≤ z1 ∧ z1 ≤ 35) ∧ (0 ≤ z2 ∧ z2 ≤ 10)) := by
    exact Iff.rfl
  by_cases c : (0 ≤ z1 ∧ z1 ≤ 35) ∧ (0 ≤ z2 ∧ z2 ≤ 10)
  · have e : sc_keep σ z1 z2 = up σ 3 0 z1 z2 := if_pos c
    have f : sm_keep (up σ 3 0 z1 z2) z1 z2 = up (up σ 3 0 z1 z2) 30 0 z1 z2 := if_pos (cm.mp c)
    rw [e, f]
    have c2 := cm.mp c
    refine mkJ (jMT (σ := σ) h) ?_ (jMP (σ := σ) h) (jMS (σ := σ) h) (jML (σ := σ) h) (jMD (σ := σ) h) (jME (σ := σ) h) (jMR (σ := σ) h) (jMC (σ := σ) h) (jrT (σ := σ) h) ?_ (jrW (σ := σ) h) (jCP (σ := σ) h) (jrS (σ := σ) h) (jCS (σ := σ) h) (jrL (σ := σ) h) (jCL (σ := σ) h) (jrD (σ := σ) h) (jCD (σ := σ) h) (jrE (σ := σ) h) (jrR (σ := σ) h) (jCR (σ := σ) h)
    · intro t
      have q := jMK h t
      simp only [up, fillR, plW, cpyA, nwP, nwB, nwR, nwL, adB, Nat.reduceEqDiff, Int.reduceEq, eq_self_iff_true, eq_self, false_and, true_and, and_false, and_true, if_false, if_true, ite_false, ite_true, reduceIte]
      split <;> omega
    · refine ⟨(jrK h).1, fun t => ?_⟩
      have q := (jrK h).2 t
      simp only [up, fillR, plW, cpyA, nwP, nwB, nwR, nwL, adB, Nat.reduceEqDiff, Int.reduceEq, eq_self_iff_true, eq_self, false_and, true_and, and_false, and_true, if_false, if_true, ite_false, ite_true, reduceIte]
      split <;> first | rfl | exact q
  · have e : sc_keep σ z1 z2 = σ := if_neg c
    have f : sm_keep σ z1 z2 = σ := if_neg (fun q => c (cm.mpr q))
    rw [e, f]; exact h
theorem e_keep (h : JJ σ) (z1 z2 : Int) : rc_keep σ z1 z2 = rm_keep σ z1 z2 := by
  unfold rc_keep rm_keep
  rw [(jrK h).2 z1]
theorem x_keep (σ : Mm) (z1 z2 : Int) : rm_keep (sc_keep σ z1 z2) z1 z2 = rm_keep σ z1 z2 := by
  unfold sc_keep
  split <;> rfl
theorem J_world (h : JJ σ) (z1 z2 z3 : Int) : JJ (sm_world (sc_world σ z1 z2 z3) z1 z2 z3) := by
  have cm : (((0 ≤ z1 ∧ z1 ≤ 3) ∧ (0 ≤ z2 ∧ z2 ≤ 2) ∧ z3 ≤ 36) ∧ 0 ≤ z3) ↔ (((0 ≤ z1 ∧ z1 ≤ 3) ∧ (0 ≤ z2 ∧ z2 ≤ 2) ∧ z3 ≤ 36) ∧ 0 ≤ z3) := by
    exact Iff.rfl
  by_cases c : ((0 ≤ z1 ∧ z1 ≤ 3) ∧ (0 ≤ z2 ∧ z2 ≤ 2) ∧ z3 ≤ 36) ∧ 0 ≤ z3
  · have e : sc_world σ z1 z2 z3 = nwP σ z1 z2 z3 := if_pos c
    have f : sm_world (nwP σ z1 z2 z3) z1 z2 z3 = fillR (up (up (nwP σ z1 z2 z3) 31 0 z1 z2) 32 0 z1 z3) 33 0 (36 * z1) (36 * z1 + 36) 0 := if_pos (cm.mp c)
    rw [e, f]
    have c2 := cm.mp c
    refine mkJ (jMT (σ := σ) h) (jMK (σ := σ) h) ?_ (jMS (σ := σ) h) (jML (σ := σ) h) (jMD (σ := σ) h) (jME (σ := σ) h) (jMR (σ := σ) h) (jMC (σ := σ) h) (jrT (σ := σ) h) (jrK (σ := σ) h) ?_ ?_ (jrS (σ := σ) h) (jCS (σ := σ) h) (jrL (σ := σ) h) (jCL (σ := σ) h) (jrD (σ := σ) h) (jCD (σ := σ) h) (jrE (σ := σ) h) (jrR (σ := σ) h) (jCR (σ := σ) h)
    · refine ⟨fun w => ?_, fun k => ?_⟩
      · have q := (jMP h).1 w
        simp only [up, fillR, plW, cpyA, nwP, nwB, nwR, nwL, adB, Nat.reduceEqDiff, Int.reduceEq, eq_self_iff_true, eq_self, false_and, true_and, and_false, and_true, if_false, if_true, ite_false, ite_true, reduceIte]
        (repeat' split) <;> omega
      · have q := (jMP h).2 k
        simp only [up, fillR, plW, cpyA, nwP, nwB, nwR, nwL, adB, Nat.reduceEqDiff, Int.reduceEq, eq_self_iff_true, eq_self, false_and, true_and, and_false, and_true, if_false, if_true, ite_false, ite_true, reduceIte]
        (repeat' split) <;> omega
    · intro w w0 w1
      have q := jrW h w w0 w1
      by_cases e : w = z1
      · subst e
        refine Or.inr ⟨?_, ?_, ?_, ?_, fun t t0 t1 => ?_⟩
        · simp only [up, fillR, plW, cpyA, nwP, nwB, nwR, nwL, adB, Nat.reduceEqDiff, Int.reduceEq, eq_self_iff_true, eq_self, false_and, true_and, and_false, and_true, if_false, if_true, ite_false, ite_true, reduceIte]
        · simp only [up, fillR, plW, cpyA, nwP, nwB, nwR, nwL, adB, Nat.reduceEqDiff, Int.reduceEq, eq_self_iff_true, eq_self, false_and, true_and, and_false, and_true, if_false, if_true, ite_false, ite_true, reduceIte]; omega
        · simp only [up, fillR, plW, cpyA, nwP, nwB, nwR, nwL, adB, Nat.reduceEqDiff, Int.reduceEq, eq_self_iff_true, eq_self, false_and, true_and, and_false, and_true, if_false, if_true, ite_false, ite_true, reduceIte]
        · simp only [up, fillR, plW, cpyA, nwP, nwB, nwR, nwL, adB, Nat.reduceEqDiff, Int.reduceEq, eq_self_iff_true, eq_self, false_and, true_and, and_false, and_true, if_false, if_true, ite_false, ite_true, reduceIte]
        · simp only [up, fillR, plW, cpyA, nwP, nwB, nwR, nwL, adB, Nat.reduceEqDiff, Int.reduceEq, eq_self_iff_true, eq_self, false_and, true_and, and_false, and_true, if_false, if_true, ite_false, ite_true, reduceIte]
          rw [if_pos (by omega), if_pos (by omega)]
      · have e1 : ∀ t, 0 ≤ t → t < 36 → ¬ (36 * z1 ≤ 36 * w + t ∧ 36 * w + t < 36 * z1 + 36) := fun t t0 t1 => by omega
        rcases q with q | q
        · refine Or.inl ⟨?_, ?_⟩
          · simp only [up, fillR, plW, cpyA, nwP, nwB, nwR, nwL, adB, Nat.reduceEqDiff, Int.reduceEq, eq_self_iff_true, eq_self, false_and, true_and, and_false, and_true, if_false, if_true, ite_false, ite_true, reduceIte]; (repeat' split) <;> omega
          · simp only [up, fillR, plW, cpyA, nwP, nwB, nwR, nwL, adB, Nat.reduceEqDiff, Int.reduceEq, eq_self_iff_true, eq_self, false_and, true_and, and_false, and_true, if_false, if_true, ite_false, ite_true, reduceIte]; rw [if_neg e]; exact q.2
        · refine Or.inr ⟨?_, ?_, ?_, ?_, fun t t0 t1 => ?_⟩
          · simp only [up, fillR, plW, cpyA, nwP, nwB, nwR, nwL, adB, Nat.reduceEqDiff, Int.reduceEq, eq_self_iff_true, eq_self, false_and, true_and, and_false, and_true, if_false, if_true, ite_false, ite_true, reduceIte]; (repeat' split) <;> omega
          · simp only [up, fillR, plW, cpyA, nwP, nwB, nwR, nwL, adB, Nat.reduceEqDiff, Int.reduceEq, eq_self_iff_true, eq_self, false_and, true_and, and_false, and_true, if_false, if_true, ite_false, ite_true, reduceIte]; (repeat' split) <;> omega
          · simp only [up, fillR, plW, cpyA, nwP, nwB, nwR, nwL, adB, Nat.reduceEqDiff, Int.reduceEq, eq_self_iff_true, eq_self, false_and, true_and, and_false, and_true, if_false, if_true, ite_false, ite_true, reduceIte]; (repeat' split) <;> omega
          · simp only [up, fillR, plW, cpyA, nwP, nwB, nwR, nwL, adB, Nat.reduceEqDiff, Int.reduceEq, eq_self_iff_true, eq_self, false_and, true_and, and_false, and_true, if_false, if_true, ite_false, ite_true, reduceIte]; (repeat' split) <;> omega
          · have q4 := q.2.2.2.2 t t0 t1
            simp only [up, fillR, plW, cpyA, nwP, nwB, nwR, nwL, adB, Nat.reduceEqDiff, Int.reduceEq, eq_self_iff_true, eq_self, false_and, true_and, and_false, and_true, if_false, if_true, ite_false, ite_true, reduceIte]; (repeat' split) <;> omega
    · intro w
      have q := jCP h w
      refine ⟨?_, ?_, fun t => ?_⟩
      · simp only [up, fillR, plW, cpyA, nwP, nwB, nwR, nwL, adB, Nat.reduceEqDiff, Int.reduceEq, eq_self_iff_true, eq_self, false_and, true_and, and_false, and_true, if_false, if_true, ite_false, ite_true, reduceIte]; (repeat' split) <;> omega
      · simp only [up, fillR, plW, cpyA, nwP, nwB, nwR, nwL, adB, Nat.reduceEqDiff, Int.reduceEq, eq_self_iff_true, eq_self, false_and, true_and, and_false, and_true, if_false, if_true, ite_false, ite_true, reduceIte]; (repeat' split) <;> omega
      · have q4 := q.2.2 t
        simp only [up, fillR, plW, cpyA, nwP, nwB, nwR, nwL, adB, Nat.reduceEqDiff, Int.reduceEq, eq_self_iff_true, eq_self, false_and, true_and, and_false, and_true, if_false, if_true, ite_false, ite_true, reduceIte]; (repeat' split) <;> omega
  · have e : sc_world σ z1 z2 z3 = σ := if_neg c
    have f : sm_world σ z1 z2 z3 = σ := if_neg (fun q => c (cm.mpr q))
    rw [e, f]; exact h
theorem e_world (h : JJ σ) (z1 z2 z3 : Int) : rc_world z1 z2 z3 = rm_world σ z1 z2 z3 := by
  rfl
theorem x_world (σ : Mm) (z1 z2 z3 : Int) : rm_world (sc_world σ z1 z2 z3) z1 z2 z3 = rm_world σ z1 z2 z3 := by
  unfold sc_world
  split <;> rfl
theorem J_lose (h : JJ σ) (z1 : Int) : JJ (sm_lose (sc_lose σ z1) z1) := by
  have cm : ((0 ≤ z1 ∧ z1 ≤ 3) ∧ ¬ σ 6 z1 0 = 0) ↔ ((0 ≤ z1 ∧ z1 ≤ 3) ∧ 0 ≤ σ 31 0 z1) := by
    refine ⟨fun q => ⟨q.1, ?_⟩, fun q => ⟨q.1, ?_⟩⟩
    · have t := (thereW h (w := z1) (by omega) (by omega)).1; omega
    · have t := (thereW h (w := z1) (by omega) (by omega)).1; omega
  by_cases c : (0 ≤ z1 ∧ z1 ≤ 3) ∧ ¬ σ 6 z1 0 = 0
  · have e : sc_lose σ z1 = up σ 6 z1 0 0 := if_pos c
    have f : sm_lose (up σ 6 z1 0 0) z1 = up (up (up σ 6 z1 0 0) 31 0 z1 (-1)) 32 0 z1 0 := if_pos (cm.mp c)
    rw [e, f]
    have c2 := cm.mp c
    refine mkJ (jMT (σ := σ) h) (jMK (σ := σ) h) ?_ (jMS (σ := σ) h) (jML (σ := σ) h) (jMD (σ := σ) h) (jME (σ := σ) h) (jMR (σ := σ) h) (jMC (σ := σ) h) (jrT (σ := σ) h) (jrK (σ := σ) h) ?_ ?_ (jrS (σ := σ) h) (jCS (σ := σ) h) (jrL (σ := σ) h) (jCL (σ := σ) h) (jrD (σ := σ) h) (jCD (σ := σ) h) (jrE (σ := σ) h) (jrR (σ := σ) h) (jCR (σ := σ) h)
    · refine ⟨fun w => ?_, (jMP h).2⟩
      have q := (jMP h).1 w
      simp only [up, fillR, plW, cpyA, nwP, nwB, nwR, nwL, adB, Nat.reduceEqDiff, Int.reduceEq, eq_self_iff_true, eq_self, false_and, true_and, and_false, and_true, if_false, if_true, ite_false, ite_true, reduceIte]
      (repeat' split) <;> omega
    · intro w w0 w1
      have q := jrW h w w0 w1
      by_cases e : w = z1
      · subst e
        exact Or.inl ⟨by simp only [up, fillR, plW, cpyA, nwP, nwB, nwR, nwL, adB, Nat.reduceEqDiff, Int.reduceEq, eq_self_iff_true, eq_self, false_and, true_and, and_false, and_true, if_false, if_true, ite_false, ite_true, reduceIte], by simp only [up, fillR, plW, cpyA, nwP, nwB, nwR, nwL, adB, Nat.reduceEqDiff, Int.reduceEq, eq_self_iff_true, eq_self, false_and, true_and, and_false, and_true, if_false, if_true, ite_false, ite_true, reduceIte]⟩
      · rcases q with q | q
        · refine Or.inl ⟨?_, ?_⟩
          · simp only [up, fillR, plW, cpyA, nwP, nwB, nwR, nwL, adB, Nat.reduceEqDiff, Int.reduceEq, eq_self_iff_true, eq_self, false_and, true_and, and_false, and_true, if_false, if_true, ite_false, ite_true, reduceIte]; (repeat' split) <;> omega
          · simp only [up, fillR, plW, cpyA, nwP, nwB, nwR, nwL, adB, Nat.reduceEqDiff, Int.reduceEq, eq_self_iff_true, eq_self, false_and, true_and, and_false, and_true, if_false, if_true, ite_false, ite_true, reduceIte]; (repeat' split) <;> omega
        · refine Or.inr ⟨?_, ?_, ?_, ?_, fun t t0 t1 => ?_⟩
          · simp only [up, fillR, plW, cpyA, nwP, nwB, nwR, nwL, adB, Nat.reduceEqDiff, Int.reduceEq, eq_self_iff_true, eq_self, false_and, true_and, and_false, and_true, if_false, if_true, ite_false, ite_true, reduceIte]; (repeat' split) <;> omega
          · simp only [up, fillR, plW, cpyA, nwP, nwB, nwR, nwL, adB, Nat.reduceEqDiff, Int.reduceEq, eq_self_iff_true, eq_self, false_and, true_and, and_false, and_true, if_false, if_true, ite_false, ite_true, reduceIte]; (repeat' split) <;> omega
          · simp only [up, fillR, plW, cpyA, nwP, nwB, nwR, nwL, adB, Nat.reduceEqDiff, Int.reduceEq, eq_self_iff_true, eq_self, false_and, true_and, and_false, and_true, if_false, if_true, ite_false, ite_true, reduceIte]; (repeat' split) <;> omega
          · simp only [up, fillR, plW, cpyA, nwP, nwB, nwR, nwL, adB, Nat.reduceEqDiff, Int.reduceEq, eq_self_iff_true, eq_self, false_and, true_and, and_false, and_true, if_false, if_true, ite_false, ite_true, reduceIte]; (repeat' split) <;> omega
          · exact q.2.2.2.2 t t0 t1
    · intro w
      have q := jCP h w
      refine ⟨?_, ?_, fun t => q.2.2 t⟩
      · simp only [up, fillR, plW, cpyA, nwP, nwB, nwR, nwL, adB, Nat.reduceEqDiff, Int.reduceEq, eq_self_iff_true, eq_self, false_and, true_and, and_false, and_true, if_false, if_true, ite_false, ite_true, reduceIte]; omega
      · simp only [up, fillR, plW, cpyA, nwP, nwB, nwR, nwL, adB, Nat.reduceEqDiff, Int.reduceEq, eq_self_iff_true, eq_self, false_and, true_and, and_false, and_true, if_false, if_true, ite_false, ite_true, reduceIte]; omega
  · have e : sc_lose σ z1 = σ := if_neg c
    have f : sm_lose σ z1 = σ := if_neg (fun q => c (cm.mpr q))
    rw [e, f]; exact h
theorem e_lose (h : JJ σ) (z1 : Int) : rc_lose σ z1 = rm_lose σ z1 := by
  unfold rc_lose rm_lose
  split
  · rename_i c
    have t := thereW h (w := z1) (by omega) (by omega)
    by_cases d : σ 31 0 z1 < 0
    · rw [if_pos d, if_pos (t.1.mpr d)]
    · rw [if_neg d, if_neg (fun q => d (t.1.mp q)), (t.2 d).2.1]
  · rfl
theorem x_lose (σ : Mm) (z1 : Int) : rm_lose (sc_lose σ z1) z1 = rm_lose σ z1 := by
  unfold sc_lose
  split <;> rfl
theorem J_price (h : JJ σ) (z1 z2 z3 : Int) : JJ (sm_price (sc_price σ z1 z2 z3) z1 z2 z3) := by
  have cm : ((0 ≤ z1 ∧ z1 ≤ 3) ∧ ¬ σ 6 z1 0 = 0 ∧ (0 ≤ z2 ∧ z2 ≤ σ 6 z1 2 - 1) ∧ (-limZ (σ 6 z1 1) ≤ z3 ∧ z3 ≤ limZ (σ 6 z1 1))) ↔ ((0 ≤ z1 ∧ z1 ≤ 3) ∧ 0 ≤ σ 31 0 z1 ∧ (0 ≤ z2 ∧ z2 ≤ σ 32 0 z1 - 1) ∧ (-limZ (σ 31 0 z1) ≤ z3 ∧ z3 ≤ limZ (σ 31 0 z1))) := by
    refine ⟨fun q => ?_, fun q => ?_⟩
    · have t := thereW h (w := z1) (by omega) (by omega)
      have d : ¬ σ 31 0 z1 < 0 := fun r => q.2.1 (t.1.mpr r)
      have u := t.2 d
      rw [← u.1, ← u.2.1]
      exact ⟨q.1, by omega, q.2.2⟩
    · have t := thereW h (w := z1) (by omega) (by omega)
      have d : ¬ σ 31 0 z1 < 0 := by omega
      have u := t.2 d
      rw [u.1, u.2.1]
      exact ⟨q.1, fun r => d (t.1.mp r), q.2.2⟩
  by_cases c : (0 ≤ z1 ∧ z1 ≤ 3) ∧ ¬ σ 6 z1 0 = 0 ∧ (0 ≤ z2 ∧ z2 ≤ σ 6 z1 2 - 1) ∧ (-limZ (σ 6 z1 1) ≤ z3 ∧ z3 ≤ limZ (σ 6 z1 1))
  · have e : sc_price σ z1 z2 z3 = up σ 7 z1 z2 z3 := if_pos c
    have f : sm_price (up σ 7 z1 z2 z3) z1 z2 z3 = up (up σ 7 z1 z2 z3) 33 0 (36 * z1 + z2) z3 := if_pos (cm.mp c)
    rw [e, f]
    have c2 := cm.mp c
    refine mkJ (jMT (σ := σ) h) (jMK (σ := σ) h) ?_ (jMS (σ := σ) h) (jML (σ := σ) h) (jMD (σ := σ) h) (jME (σ := σ) h) (jMR (σ := σ) h) (jMC (σ := σ) h) (jrT (σ := σ) h) (jrK (σ := σ) h) ?_ ?_ (jrS (σ := σ) h) (jCS (σ := σ) h) (jrL (σ := σ) h) (jCL (σ := σ) h) (jrD (σ := σ) h) (jCD (σ := σ) h) (jrE (σ := σ) h) (jrR (σ := σ) h) (jCR (σ := σ) h)
    · refine ⟨(jMP h).1, fun k => ?_⟩
      have q := (jMP h).2 k
      have l := limZ_b (σ 31 0 z1)
      simp only [up, fillR, plW, cpyA, nwP, nwB, nwR, nwL, adB, Nat.reduceEqDiff, Int.reduceEq, eq_self_iff_true, eq_self, false_and, true_and, and_false, and_true, if_false, if_true, ite_false, ite_true, reduceIte]
      (repeat' split) <;> omega
    · intro w w0 w1
      have q := jrW h w w0 w1
      have u := (jMP h).1 z1
      rcases q with q | q
      · exact Or.inl q
      · refine Or.inr ⟨q.1, q.2.1, q.2.2.1, q.2.2.2.1, fun t t0 t1 => ?_⟩
        have q4 := q.2.2.2.2 t t0 t1
        simp only [up, fillR, plW, cpyA, nwP, nwB, nwR, nwL, adB, Nat.reduceEqDiff, Int.reduceEq, eq_self_iff_true, eq_self, false_and, true_and, and_false, and_true, if_false, if_true, ite_false, ite_true, reduceIte]
        (repeat' split) <;> omega
    · intro w
      have q := jCP h w
      refine ⟨q.1, q.2.1, fun t => ?_⟩
      have q4 := q.2.2 t
      have l := limZ_b (σ 31 0 z1)
      simp only [up, fillR, plW, cpyA, nwP, nwB, nwR, nwL, adB, Nat.reduceEqDiff, Int.reduceEq, eq_self_iff_true, eq_self, false_and, true_and, and_false, and_true, if_false, if_true, ite_false, ite_true, reduceIte]
      (repeat' split) <;> omega
  · have e : sc_price σ z1 z2 z3 = σ := if_neg c
    have f : sm_price σ z1 z2 z3 = σ := if_neg (fun q => c (cm.mpr q))
    rw [e, f]; exact h
theorem e_price (h : JJ σ) (z1 z2 z3 : Int) : rc_price σ z1 z2 z3 = rm_price σ z1 z2 z3 := by
  unfold rc_price rm_price
  split
  · rename_i c
    have t := thereW h (w := z1) (by omega) (by omega)
    by_cases d : σ 31 0 z1 < 0
    · rw [if_pos d, if_pos (t.1.mpr d)]
    · have m := (jMP h).1 z1
      rw [if_neg d, if_neg (fun q => d (t.1.mp q)), (t.2 d).2.1, (t.2 d).1]
      split
      · rw [(t.2 d).2.2 z2 (by omega) (by omega)]
      · rfl
  · rfl
theorem x_price (σ : Mm) (z1 z2 z3 : Int) : rm_price (sc_price σ z1 z2 z3) z1 z2 z3 = rm_price σ z1 z2 z3 := by
  unfold sc_price
  split <;> rfl
theorem e_told (h : JJ σ) (z1 z2 : Int) : rc_told σ z1 z2 = rm_told σ z1 z2 := by
  unfold rc_told rm_told
  split
  · rename_i c
    exact pCM h (by omega) (by omega) (by omega) (by omega)
  · rfl
theorem J_charge (h : JJ σ) (z1 z2 : Int) : JJ (sm_charge (sc_charge σ z1 z2) z1 z2) := by
  have cm : ((0 ≤ z1 ∧ z1 ≤ 3) ∧ ¬ σ 8 z1 0 = 0 ∧ (σ 8 z1 4 ≤ z2 ∧ z2 ≤ σ 8 z1 5)) ↔ ((0 ≤ z1 ∧ z1 ≤ 3) ∧ 0 ≤ σ 34 0 z1 ∧ (floM σ z1 ≤ z2 ∧ z2 ≤ topM σ z1)) := by
    refine ⟨fun q => ?_, fun q => ?_⟩
    · have t := thereS h (s := z1) (by omega) (by omega)
      have u := atS h (s := z1) (by omega) (by omega) (fun r => q.2.1 (t.mpr r))
      rw [← u.2.2.2.2.2.1, ← u.2.2.2.2.2.2.1]
      exact ⟨q.1, u.2.1, q.2.2⟩
    · have t := thereS h (s := z1) (by omega) (by omega)
      have u := atS h (s := z1) (by omega) (by omega) (by omega)
      rw [u.2.2.2.2.2.1, u.2.2.2.2.2.2.1]
      exact ⟨q.1, by omega, q.2.2⟩
  by_cases c : (0 ≤ z1 ∧ z1 ≤ 3) ∧ ¬ σ 8 z1 0 = 0 ∧ (σ 8 z1 4 ≤ z2 ∧ z2 ≤ σ 8 z1 5)
  · have e : sc_charge σ z1 z2 = up σ 8 z1 3 z2 := if_pos c
    have f : sm_charge (up σ 8 z1 3 z2) z1 z2 = up (up σ 8 z1 3 z2) 36 0 z1 z2 := if_pos (cm.mp c)
    rw [e, f]
    have c2 := cm.mp c
    refine mkJ (jMT (σ := σ) h) (jMK (σ := σ) h) (jMP (σ := σ) h) ?_ (jML (σ := σ) h) (jMD (σ := σ) h) (jME (σ := σ) h) (jMR (σ := σ) h) ?_ (jrT (σ := σ) h) (jrK (σ := σ) h) (jrW (σ := σ) h) (jCP (σ := σ) h) ?_ ?_ (jrL (σ := σ) h) (jCL (σ := σ) h) (jrD (σ := σ) h) (jCD (σ := σ) h) (jrE (σ := σ) h) (jrR (σ := σ) h) (jCR (σ := σ) h)
    · intro s
      have q := jMS h s
      have b := bM (jMS h) z1
      refine ⟨q.1, q.2.1, ?_, q.2.2.2⟩
      simp only [up, fillR, plW, cpyA, nwP, nwB, nwR, nwL, adB, Nat.reduceEqDiff, Int.reduceEq, eq_self_iff_true, eq_self, false_and, true_and, and_false, and_true, if_false, if_true, ite_false, ite_true, reduceIte]; (repeat' split) <;> omega
    · intro s s0 s1 k
      have q := jMC h s s0 s1 k
      refine ⟨?_, ?_, q.2.2⟩
      · show floM σ s ≤ _
        simp only [up, fillR, plW, cpyA, nwP, nwB, nwR, nwL, adB, Nat.reduceEqDiff, Int.reduceEq, eq_self_iff_true, eq_self, false_and, true_and, and_false, and_true, if_false, if_true, ite_false, ite_true, reduceIte]; split
        · rename_i e; rw [e]; omega
        · omega
      · show _ ≤ topM σ s
        simp only [up, fillR, plW, cpyA, nwP, nwB, nwR, nwL, adB, Nat.reduceEqDiff, Int.reduceEq, eq_self_iff_true, eq_self, false_and, true_and, and_false, and_true, if_false, if_true, ite_false, ite_true, reduceIte]; split
        · rename_i e; rw [e]; omega
        · omega
    · intro s s0 s1
      have q := jrS h s s0 s1
      rcases q with q | q
      · refine Or.inl ⟨?_, q.2⟩
        simp only [up, fillR, plW, cpyA, nwP, nwB, nwR, nwL, adB, Nat.reduceEqDiff, Int.reduceEq, eq_self_iff_true, eq_self, false_and, true_and, and_false, and_true, if_false, if_true, ite_false, ite_true, reduceIte]; omega
      · obtain ⟨q0, q1, q2, q3, q4, q5, q6, q7, q8, q9, qa, qb, qc⟩ := q
        refine Or.inr ⟨?_, q1, ?_, ?_, ?_, ?_, ?_, ?_, ?_, ?_, ?_, ?_, ?_⟩
        · simp only [up, fillR, plW, cpyA, nwP, nwB, nwR, nwL, adB, Nat.reduceEqDiff, Int.reduceEq, eq_self_iff_true, eq_self, false_and, true_and, and_false, and_true, if_false, if_true, ite_false, ite_true, reduceIte]; exact q0
        · simp only [up, fillR, plW, cpyA, nwP, nwB, nwR, nwL, adB, Nat.reduceEqDiff, Int.reduceEq, eq_self_iff_true, eq_self, false_and, true_and, and_false, and_true, if_false, if_true, ite_false, ite_true, reduceIte]; exact q2
        · simp only [up, fillR, plW, cpyA, nwP, nwB, nwR, nwL, adB, Nat.reduceEqDiff, Int.reduceEq, eq_self_iff_true, eq_self, false_and, true_and, and_false, and_true, if_false, if_true, ite_false, ite_true, reduceIte]; exact q3
        · simp only [up, fillR, plW, cpyA, nwP, nwB, nwR, nwL, adB, Nat.reduceEqDiff, Int.reduceEq, eq_self_iff_true, eq_self, false_and, true_and, and_false, and_true, if_false, if_true, ite_false, ite_true, reduceIte]; rw [q4]
        · simp only [up, fillR, plW, cpyA, nwP, nwB, nwR, nwL, adB, Nat.reduceEqDiff, Int.reduceEq, eq_self_iff_true, eq_self, false_and, true_and, and_false, and_true, if_false, if_true, ite_false, ite_true, reduceIte]; exact q5
        · simp only [up, fillR, plW, cpyA, nwP, nwB, nwR, nwL, adB, Nat.reduceEqDiff, Int.reduceEq, eq_self_iff_true, eq_self, false_and, true_and, and_false, and_true, if_false, if_true, ite_false, ite_true, reduceIte]; exact q6
        · simp only [up, fillR, plW, cpyA, nwP, nwB, nwR, nwL, adB, Nat.reduceEqDiff, Int.reduceEq, eq_self_iff_true, eq_self, false_and, true_and, and_false, and_true, if_false, if_true, ite_false, ite_true, reduceIte]; exact q7
        · simp only [up, fillR, plW, cpyA, nwP, nwB, nwR, nwL, adB, Nat.reduceEqDiff, Int.reduceEq, eq_self_iff_true, eq_self, false_and, true_and, and_false, and_true, if_false, if_true, ite_false, ite_true, reduceIte]; exact q8
        · simp only [up, fillR, plW, cpyA, nwP, nwB, nwR, nwL, adB, Nat.reduceEqDiff, Int.reduceEq, eq_self_iff_true, eq_self, false_and, true_and, and_false, and_true, if_false, if_true, ite_false, ite_true, reduceIte]; exact q9
        · simp only [up, fillR, plW, cpyA, nwP, nwB, nwR, nwL, adB, Nat.reduceEqDiff, Int.reduceEq, eq_self_iff_true, eq_self, false_and, true_and, and_false, and_true, if_false, if_true, ite_false, ite_true, reduceIte]; exact qa
        · simp only [up, fillR, plW, cpyA, nwP, nwB, nwR, nwL, adB, Nat.reduceEqDiff, Int.reduceEq, eq_self_iff_true, eq_self, false_and, true_and, and_false, and_true, if_false, if_true, ite_false, ite_true, reduceIte]; exact qb
        · simp only [up, fillR, plW, cpyA, nwP, nwB, nwR, nwL, adB, Nat.reduceEqDiff, Int.reduceEq, eq_self_iff_true, eq_self, false_and, true_and, and_false, and_true, if_false, if_true, ite_false, ite_true, reduceIte]; exact qc
    · intro s
      have q := jCS h s
      have b := bM (jMS h) z1
      obtain ⟨q2, q3, q4, q5, q6, q7, q8, q9, qa, qb, qc⟩ := q
      refine ⟨?_, ?_, ?_, ?_, ?_, ?_, ?_, ?_, ?_, ?_, ?_⟩
      · simp only [up, fillR, plW, cpyA, nwP, nwB, nwR, nwL, adB, Nat.reduceEqDiff, Int.reduceEq, eq_self_iff_true, eq_self, false_and, true_and, and_false, and_true, if_false, if_true, ite_false, ite_true, reduceIte]; exact q2
      · simp only [up, fillR, plW, cpyA, nwP, nwB, nwR, nwL, adB, Nat.reduceEqDiff, Int.reduceEq, eq_self_iff_true, eq_self, false_and, true_and, and_false, and_true, if_false, if_true, ite_false, ite_true, reduceIte]; exact q3
      · simp only [up, fillR, plW, cpyA, nwP, nwB, nwR, nwL, adB, Nat.reduceEqDiff, Int.reduceEq, eq_self_iff_true, eq_self, false_and, true_and, and_false, and_true, if_false, if_true, ite_false, ite_true, reduceIte]; split <;> omega
      · simp only [up, fillR, plW, cpyA, nwP, nwB, nwR, nwL, adB, Nat.reduceEqDiff, Int.reduceEq, eq_self_iff_true, eq_self, false_and, true_and, and_false, and_true, if_false, if_true, ite_false, ite_true, reduceIte]; exact q5
      · simp only [up, fillR, plW, cpyA, nwP, nwB, nwR, nwL, adB, Nat.reduceEqDiff, Int.reduceEq, eq_self_iff_true, eq_self, false_and, true_and, and_false, and_true, if_false, if_true, ite_false, ite_true, reduceIte]; exact q6
      · simp only [up, fillR, plW, cpyA, nwP, nwB, nwR, nwL, adB, Nat.reduceEqDiff, Int.reduceEq, eq_self_iff_true, eq_self, false_and, true_and, and_false, and_true, if_false, if_true, ite_false, ite_true, reduceIte]; exact q7
      · simp only [up, fillR, plW, cpyA, nwP, nwB, nwR, nwL, adB, Nat.reduceEqDiff, Int.reduceEq, eq_self_iff_true, eq_self, false_and, true_and, and_false, and_true, if_false, if_true, ite_false, ite_true, reduceIte]; exact q8
      · simp only [up, fillR, plW, cpyA, nwP, nwB, nwR, nwL, adB, Nat.reduceEqDiff, Int.reduceEq, eq_self_iff_true, eq_self, false_and, true_and, and_false, and_true, if_false, if_true, ite_false, ite_true, reduceIte]; exact q9
      · simp only [up, fillR, plW, cpyA, nwP, nwB, nwR, nwL, adB, Nat.reduceEqDiff, Int.reduceEq, eq_self_iff_true, eq_self, false_and, true_and, and_false, and_true, if_false, if_true, ite_false, ite_true, reduceIte]; exact qa
      · simp only [up, fillR, plW, cpyA, nwP, nwB, nwR, nwL, adB, Nat.reduceEqDiff, Int.reduceEq, eq_self_iff_true, eq_self, false_and, true_and, and_false, and_true, if_false, if_true, ite_false, ite_true, reduceIte]; exact qb
      · simp only [up, fillR, plW, cpyA, nwP, nwB, nwR, nwL, adB, Nat.reduceEqDiff, Int.reduceEq, eq_self_iff_true, eq_self, false_and, true_and, and_false, and_true, if_false, if_true, ite_false, ite_true, reduceIte]; exact qc
  · have e : sc_charge σ z1 z2 = σ := if_neg c
    have f : sm_charge σ z1 z2 = σ := if_neg (fun q => c (cm.mpr q))
    rw [e, f]; exact h
theorem e_charge (h : JJ σ) (z1 z2 : Int) : rc_charge σ z1 z2 = rm_charge σ z1 z2 := by
  unfold rc_charge rm_charge
  split
  · rename_i c
    have t := thereS h (s := z1) (by omega) (by omega)
    by_cases d : σ 34 0 z1 < 0
    · rw [if_pos d, if_pos (t.mpr d)]
    · have u := atS h (s := z1) (by omega) (by omega) d
      rw [if_neg d, if_neg (fun q => d (t.mp q)), u.2.2.2.2.2.1, u.2.2.2.2.2.2.1, u.2.2.2.2.1]
  · rfl
theorem x_charge (σ : Mm) (z1 z2 : Int) : rm_charge (sc_charge σ z1 z2) z1 z2 = rm_charge σ z1 z2 := by
  unfold sc_charge
  split <;> rfl
theorem J_end (h : JJ σ) (z1 z2 : Int) : JJ (sm_end (sc_end σ z1 z2) z1 z2) := by
  have cm : (((0 ≤ z1 ∧ z1 ≤ 3) ∧ (0 ≤ z2 ∧ z2 ≤ 60)) ∧ ¬ σ 8 z1 0 = 0) ↔ (((0 ≤ z1 ∧ z1 ≤ 3) ∧ (0 ≤ z2 ∧ z2 ≤ 60)) ∧ 0 ≤ σ 34 0 z1) := by
    refine ⟨fun q => ⟨q.1, ?_⟩, fun q => ⟨q.1, ?_⟩⟩
    · have t := thereS h (s := z1) (by omega) (by omega); omega
    · have t := thereS h (s := z1) (by omega) (by omega); omega
  by_cases c : ((0 ≤ z1 ∧ z1 ≤ 3) ∧ (0 ≤ z2 ∧ z2 ≤ 60)) ∧ ¬ σ 8 z1 0 = 0
  · have e : sc_end σ z1 z2 = up σ 8 z1 10 z2 := if_pos c
    have f : sm_end (up σ 8 z1 10 z2) z1 z2 = up (up σ 8 z1 10 z2) 41 0 z1 z2 := if_pos (cm.mp c)
    rw [e, f]
    have c2 := cm.mp c
    refine mkJ (jMT (σ := σ) h) (jMK (σ := σ) h) (jMP (σ := σ) h) ?_ (jML (σ := σ) h) (jMD (σ := σ) h) (jME (σ := σ) h) (jMR (σ := σ) h) (jMC (σ := σ) h) (jrT (σ := σ) h) (jrK (σ := σ) h) (jrW (σ := σ) h) (jCP (σ := σ) h) ?_ ?_ (jrL (σ := σ) h) (jCL (σ := σ) h) (jrD (σ := σ) h) (jCD (σ := σ) h) (jrE (σ := σ) h) (jrR (σ := σ) h) (jCR (σ := σ) h)
    · intro s
      have q := jMS h s
      obtain ⟨q1, q2, q3, q4, q5, q6, q7, q8, q9⟩ := q
      refine ⟨q1, q2, q3, q4, q5, q6, q7, ?_, q9⟩
      simp only [up, fillR, plW, cpyA, nwP, nwB, nwR, nwL, adB, Nat.reduceEqDiff, Int.reduceEq, eq_self_iff_true, eq_self, false_and, true_and, and_false, and_true, if_false, if_true, ite_false, ite_true, reduceIte]; (repeat' split) <;> omega
    · intro s s0 s1
      have q := jrS h s s0 s1
      rcases q with q | q
      · refine Or.inl ⟨?_, q.2⟩
        simp only [up, fillR, plW, cpyA, nwP, nwB, nwR, nwL, adB, Nat.reduceEqDiff, Int.reduceEq, eq_self_iff_true, eq_self, false_and, true_and, and_false, and_true, if_false, if_true, ite_false, ite_true, reduceIte]; omega
      · obtain ⟨q0, q1, q2, q3, q4, q5, q6, q7, q8, q9, qa, qb, qc⟩ := q
        refine Or.inr ⟨?_, q1, ?_, ?_, ?_, ?_, ?_, ?_, ?_, ?_, ?_, ?_, ?_⟩
        · simp only [up, fillR, plW, cpyA, nwP, nwB, nwR, nwL, adB, Nat.reduceEqDiff, Int.reduceEq, eq_self_iff_true, eq_self, false_and, true_and, and_false, and_true, if_false, if_true, ite_false, ite_true, reduceIte]; exact q0
        · simp only [up, fillR, plW, cpyA, nwP, nwB, nwR, nwL, adB, Nat.reduceEqDiff, Int.reduceEq, eq_self_iff_true, eq_self, false_and, true_and, and_false, and_true, if_false, if_true, ite_false, ite_true, reduceIte]; exact q2
        · simp only [up, fillR, plW, cpyA, nwP, nwB, nwR, nwL, adB, Nat.reduceEqDiff, Int.reduceEq, eq_self_iff_true, eq_self, false_and, true_and, and_false, and_true, if_false, if_true, ite_false, ite_true, reduceIte]; exact q3
        · simp only [up, fillR, plW, cpyA, nwP, nwB, nwR, nwL, adB, Nat.reduceEqDiff, Int.reduceEq, eq_self_iff_true, eq_self, false_and, true_and, and_false, and_true, if_false, if_true, ite_false, ite_true, reduceIte]; exact q4
        · simp only [up, fillR, plW, cpyA, nwP, nwB, nwR, nwL, adB, Nat.reduceEqDiff, Int.reduceEq, eq_self_iff_true, eq_self, false_and, true_and, and_false, and_true, if_false, if_true, ite_false, ite_true, reduceIte]; exact q5
        · simp only [up, fillR, plW, cpyA, nwP, nwB, nwR, nwL, adB, Nat.reduceEqDiff, Int.reduceEq, eq_self_iff_true, eq_self, false_and, true_and, and_false, and_true, if_false, if_true, ite_false, ite_true, reduceIte]; exact q6
        · simp only [up, fillR, plW, cpyA, nwP, nwB, nwR, nwL, adB, Nat.reduceEqDiff, Int.reduceEq, eq_self_iff_true, eq_self, false_and, true_and, and_false, and_true, if_false, if_true, ite_false, ite_true, reduceIte]; exact q7
        · simp only [up, fillR, plW, cpyA, nwP, nwB, nwR, nwL, adB, Nat.reduceEqDiff, Int.reduceEq, eq_self_iff_true, eq_self, false_and, true_and, and_false, and_true, if_false, if_true, ite_false, ite_true, reduceIte]; exact q8
        · simp only [up, fillR, plW, cpyA, nwP, nwB, nwR, nwL, adB, Nat.reduceEqDiff, Int.reduceEq, eq_self_iff_true, eq_self, false_and, true_and, and_false, and_true, if_false, if_true, ite_false, ite_true, reduceIte]; exact q9
        · simp only [up, fillR, plW, cpyA, nwP, nwB, nwR, nwL, adB, Nat.reduceEqDiff, Int.reduceEq, eq_self_iff_true, eq_self, false_and, true_and, and_false, and_true, if_false, if_true, ite_false, ite_true, reduceIte]; exact qa
        · simp only [up, fillR, plW, cpyA, nwP, nwB, nwR, nwL, adB, Nat.reduceEqDiff, Int.reduceEq, eq_self_iff_true, eq_self, false_and, true_and, and_false, and_true, if_false, if_true, ite_false, ite_true, reduceIte]; rw [qb]
        · simp only [up, fillR, plW, cpyA, nwP, nwB, nwR, nwL, adB, Nat.reduceEqDiff, Int.reduceEq, eq_self_iff_true, eq_self, false_and, true_and, and_false, and_true, if_false, if_true, ite_false, ite_true, reduceIte]; exact qc
    · intro s
      have q := jCS h s
      obtain ⟨q2, q3, q4, q5, q6, q7, q8, q9, qa, qb, qc⟩ := q
      refine ⟨?_, ?_, ?_, ?_, ?_, ?_, ?_, ?_, ?_, ?_, ?_⟩
      · simp only [up, fillR, plW, cpyA, nwP, nwB, nwR, nwL, adB, Nat.reduceEqDiff, Int.reduceEq, eq_self_iff_true, eq_self, false_and, true_and, and_false, and_true, if_false, if_true, ite_false, ite_true, reduceIte]; exact q2
      · simp only [up, fillR, plW, cpyA, nwP, nwB, nwR, nwL, adB, Nat.reduceEqDiff, Int.reduceEq, eq_self_iff_true, eq_self, false_and, true_and, and_false, and_true, if_false, if_true, ite_false, ite_true, reduceIte]; exact q3
      · simp only [up, fillR, plW, cpyA, nwP, nwB, nwR, nwL, adB, Nat.reduceEqDiff, Int.reduceEq, eq_self_iff_true, eq_self, false_and, true_and, and_false, and_true, if_false, if_true, ite_false, ite_true, reduceIte]; exact q4
      · simp only [up, fillR, plW, cpyA, nwP, nwB, nwR, nwL, adB, Nat.reduceEqDiff, Int.reduceEq, eq_self_iff_true, eq_self, false_and, true_and, and_false, and_true, if_false, if_true, ite_false, ite_true, reduceIte]; exact q5
      · simp only [up, fillR, plW, cpyA, nwP, nwB, nwR, nwL, adB, Nat.reduceEqDiff, Int.reduceEq, eq_self_iff_true, eq_self, false_and, true_and, and_false, and_true, if_false, if_true, ite_false, ite_true, reduceIte]; exact q6
      · simp only [up, fillR, plW, cpyA, nwP, nwB, nwR, nwL, adB, Nat.reduceEqDiff, Int.reduceEq, eq_self_iff_true, eq_self, false_and, true_and, and_false, and_true, if_false, if_true, ite_false, ite_true, reduceIte]; exact q7
      · simp only [up, fillR, plW, cpyA, nwP, nwB, nwR, nwL, adB, Nat.reduceEqDiff, Int.reduceEq, eq_self_iff_true, eq_self, false_and, true_and, and_false, and_true, if_false, if_true, ite_false, ite_true, reduceIte]; exact q8
      · simp only [up, fillR, plW, cpyA, nwP, nwB, nwR, nwL, adB, Nat.reduceEqDiff, Int.reduceEq, eq_self_iff_true, eq_self, false_and, true_and, and_false, and_true, if_false, if_true, ite_false, ite_true, reduceIte]; exact q9
      · simp only [up, fillR, plW, cpyA, nwP, nwB, nwR, nwL, adB, Nat.reduceEqDiff, Int.reduceEq, eq_self_iff_true, eq_self, false_and, true_and, and_false, and_true, if_false, if_true, ite_false, ite_true, reduceIte]; exact qa
      · simp only [up, fillR, plW, cpyA, nwP, nwB, nwR, nwL, adB, Nat.reduceEqDiff, Int.reduceEq, eq_self_iff_true, eq_self, false_and, true_and, and_false, and_true, if_false, if_true, ite_false, ite_true, reduceIte]; split <;> omega
      · simp only [up, fillR, plW, cpyA, nwP, nwB, nwR, nwL, adB, Nat.reduceEqDiff, Int.reduceEq, eq_self_iff_true, eq_self, false_and, true_and, and_false, and_true, if_false, if_true, ite_false, ite_true, reduceIte]; exact qc
  · have e : sc_end σ z1 z2 = σ := if_neg c
    have f : sm_end σ z1 z2 = σ := if_neg (fun q => c (cm.mpr q))
    rw [e, f]; exact h
theorem e_end (h : JJ σ) (z1 z2 : Int) : rc_end σ z1 z2 = rm_end σ z1 z2 := by
  unfold rc_end rm_end
  split
  · rename_i c
    have t := thereS h (s := z1) (by omega) (by omega)
    by_cases d : σ 34 0 z1 < 0
    · rw [if_pos d, if_pos (t.mpr d)]
    · have u := atS h (s := z1) (by omega) (by omega) d
      rw [if_neg d, if_neg (fun q => d (t.mp q)), u.2.2.2.2.2.2.2.2.2.2.2.1]
  · rfl
theorem x_end (σ : Mm) (z1 z2 : Int) : rm_end (sc_end σ z1 z2) z1 z2 = rm_end σ z1 z2 := by
  unfold sc_end
  split <;> rfl
theorem J_warrant (h : JJ σ) (z1 z2 : Int) : JJ (sm_warrant (sc_warrant σ z1 z2) z1 z2) := by
  have cm : (((0 ≤ z1 ∧ z1 ≤ 3) ∧ (0 ≤ z2 ∧ z2 ≤ 100000)) ∧ ¬ σ 8 z1 0 = 0) ↔ (((0 ≤ z1 ∧ z1 ≤ 3) ∧ (0 ≤ z2 ∧ z2 ≤ 100000)) ∧ 0 ≤ σ 34 0 z1) := by
    refine ⟨fun q => ⟨q.1, ?_⟩, fun q => ⟨q.1, ?_⟩⟩
    · have t := thereS h (s := z1) (by omega) (by omega); omega
    · have t := thereS h (s := z1) (by omega) (by omega); omega
  by_cases c : ((0 ≤ z1 ∧ z1 ≤ 3) ∧ (0 ≤ z2 ∧ z2 ≤ 100000)) ∧ ¬ σ 8 z1 0 = 0
  · have e : sc_warrant σ z1 z2 = up σ 8 z1 11 z2 := if_pos c
    have f : sm_warrant (up σ 8 z1 11 z2) z1 z2 = up (up σ 8 z1 11 z2) 42 0 z1 z2 := if_pos (cm.mp c)
    rw [e, f]
    have c2 := cm.mp c
    refine mkJ (jMT (σ := σ) h) (jMK (σ := σ) h) (jMP (σ := σ) h) ?_ (jML (σ := σ) h) (jMD (σ := σ) h) (jME (σ := σ) h) (jMR (σ := σ) h) (jMC (σ := σ) h) (jrT (σ := σ) h) (jrK (σ := σ) h) (jrW (σ := σ) h) (jCP (σ := σ) h) ?_ ?_ (jrL (σ := σ) h) (jCL (σ := σ) h) (jrD (σ := σ) h) (jCD (σ := σ) h) (jrE (σ := σ) h) (jrR (σ := σ) h) (jCR (σ := σ) h)
    · intro s
      have q := jMS h s
      obtain ⟨q1, q2, q3, q4, q5, q6, q7, q8, q9⟩ := q
      refine ⟨q1, q2, q3, q4, q5, q6, q7, q8, ?_⟩
      simp only [up, fillR, plW, cpyA, nwP, nwB, nwR, nwL, adB, Nat.reduceEqDiff, Int.reduceEq, eq_self_iff_true, eq_self, false_and, true_and, and_false, and_true, if_false, if_true, ite_false, ite_true, reduceIte]; (repeat' split) <;> omega
    · intro s s0 s1
      have q := jrS h s s0 s1
      rcases q with q | q
      · refine Or.inl ⟨?_, q.2⟩
        simp only [up, fillR, plW, cpyA, nwP, nwB, nwR, nwL, adB, Nat.reduceEqDiff, Int.reduceEq, eq_self_iff_true, eq_self, false_and, true_and, and_false, and_true, if_false, if_true, ite_false, ite_true, reduceIte]; omega
      · obtain ⟨q0, q1, q2, q3, q4, q5, q6, q7, q8, q9, qa, qb, qc⟩ := q
        refine Or.inr ⟨?_, q1, ?_, ?_, ?_, ?_, ?_, ?_, ?_, ?_, ?_, ?_, ?_⟩
        · simp only [up, fillR, plW, cpyA, nwP, nwB, nwR, nwL, adB, Nat.reduceEqDiff, Int.reduceEq, eq_self_iff_true, eq_self, false_and, true_and, and_false, and_true, if_false, if_true, ite_false, ite_true, reduceIte]; exact q0
        · simp only [up, fillR, plW, cpyA, nwP, nwB, nwR, nwL, adB, Nat.reduceEqDiff, Int.reduceEq, eq_self_iff_true, eq_self, false_and, true_and, and_false, and_true, if_false, if_true, ite_false, ite_true, reduceIte]; exact q2
        · simp only [up, fillR, plW, cpyA, nwP, nwB, nwR, nwL, adB, Nat.reduceEqDiff, Int.reduceEq, eq_self_iff_true, eq_self, false_and, true_and, and_false, and_true, if_false, if_true, ite_false, ite_true, reduceIte]; exact q3
        · simp only [up, fillR, plW, cpyA, nwP, nwB, nwR, nwL, adB, Nat.reduceEqDiff, Int.reduceEq, eq_self_iff_true, eq_self, false_and, true_and, and_false, and_true, if_false, if_true, ite_false, ite_true, reduceIte]; exact q4
        · simp only [up, fillR, plW, cpyA, nwP, nwB, nwR, nwL, adB, Nat.reduceEqDiff, Int.reduceEq, eq_self_iff_true, eq_self, false_and, true_and, and_false, and_true, if_false, if_true, ite_false, ite_true, reduceIte]; exact q5
        · simp only [up, fillR, plW, cpyA, nwP, nwB, nwR, nwL, adB, Nat.reduceEqDiff, Int.reduceEq, eq_self_iff_true, eq_self, false_and, true_and, and_false, and_true, if_false, if_true, ite_false, ite_true, reduceIte]; exact q6
        · simp only [up, fillR, plW, cpyA, nwP, nwB, nwR, nwL, adB, Nat.reduceEqDiff, Int.reduceEq, eq_self_iff_true, eq_self, false_and, true_and, and_false, and_true, if_false, if_true, ite_false, ite_true, reduceIte]; exact q7
        · simp only [up, fillR, plW, cpyA, nwP, nwB, nwR, nwL, adB, Nat.reduceEqDiff, Int.reduceEq, eq_self_iff_true, eq_self, false_and, true_and, and_false, and_true, if_false, if_true, ite_false, ite_true, reduceIte]; exact q8
        · simp only [up, fillR, plW, cpyA, nwP, nwB, nwR, nwL, adB, Nat.reduceEqDiff, Int.reduceEq, eq_self_iff_true, eq_self, false_and, true_and, and_false, and_true, if_false, if_true, ite_false, ite_true, reduceIte]; exact q9
        · simp only [up, fillR, plW, cpyA, nwP, nwB, nwR, nwL, adB, Nat.reduceEqDiff, Int.reduceEq, eq_self_iff_true, eq_self, false_and, true_and, and_false, and_true, if_false, if_true, ite_false, ite_true, reduceIte]; exact qa
        · simp only [up, fillR, plW, cpyA, nwP, nwB, nwR, nwL, adB, Nat.reduceEqDiff, Int.reduceEq, eq_self_iff_true, eq_self, false_and, true_and, and_false, and_true, if_false, if_true, ite_false, ite_true, reduceIte]; exact qb
        · simp only [up, fillR, plW, cpyA, nwP, nwB, nwR, nwL, adB, Nat.reduceEqDiff, Int.reduceEq, eq_self_iff_true, eq_self, false_and, true_and, and_false, and_true, if_false, if_true, ite_false, ite_true, reduceIte]; rw [qc]
    · intro s
      have q := jCS h s
      obtain ⟨q2, q3, q4, q5, q6, q7, q8, q9, qa, qb, qc⟩ := q
      refine ⟨?_, ?_, ?_, ?_, ?_, ?_, ?_, ?_, ?_, ?_, ?_⟩
      · simp only [up, fillR, plW, cpyA, nwP, nwB, nwR, nwL, adB, Nat.reduceEqDiff, Int.reduceEq, eq_self_iff_true, eq_self, false_and, true_and, and_false, and_true, if_false, if_true, ite_false, ite_true, reduceIte]; exact q2
      · simp only [up, fillR, plW, cpyA, nwP, nwB, nwR, nwL, adB, Nat.reduceEqDiff, Int.reduceEq, eq_self_iff_true, eq_self, false_and, true_and, and_false, and_true, if_false, if_true, ite_false, ite_true, reduceIte]; exact q3
      · simp only [up, fillR, plW, cpyA, nwP, nwB, nwR, nwL, adB, Nat.reduceEqDiff, Int.reduceEq, eq_self_iff_true, eq_self, false_and, true_and, and_false, and_true, if_false, if_true, ite_false, ite_true, reduceIte]; exact q4
      · simp only [up, fillR, plW, cpyA, nwP, nwB, nwR, nwL, adB, Nat.reduceEqDiff, Int.reduceEq, eq_self_iff_true, eq_self, false_and, true_and, and_false, and_true, if_false, if_true, ite_false, ite_true, reduceIte]; exact q5
      · simp only [up, fillR, plW, cpyA, nwP, nwB, nwR, nwL, adB, Nat.reduceEqDiff, Int.reduceEq, eq_self_iff_true, eq_self, false_and, true_and, and_false, and_true, if_false, if_true, ite_false, ite_true, reduceIte]; exact q6
      · simp only [up, fillR, plW, cpyA, nwP, nwB, nwR, nwL, adB, Nat.reduceEqDiff, Int.reduceEq, eq_self_iff_true, eq_self, false_and, true_and, and_false, and_true, if_false, if_true, ite_false, ite_true, reduceIte]; exact q7
      · simp only [up, fillR, plW, cpyA, nwP, nwB, nwR, nwL, adB, Nat.reduceEqDiff, Int.reduceEq, eq_self_iff_true, eq_self, false_and, true_and, and_false, and_true, if_false, if_true, ite_false, ite_true, reduceIte]; exact q8
      · simp only [up, fillR, plW, cpyA, nwP, nwB, nwR, nwL, adB, Nat.reduceEqDiff, Int.reduceEq, eq_self_iff_true, eq_self, false_and, true_and, and_false, and_true, if_false, if_true, ite_false, ite_true, reduceIte]; exact q9
      · simp only [up, fillR, plW, cpyA, nwP, nwB, nwR, nwL, adB, Nat.reduceEqDiff, Int.reduceEq, eq_self_iff_true, eq_self, false_and, true_and, and_false, and_true, if_false, if_true, ite_false, ite_true, reduceIte]; exact qa
      · simp only [up, fillR, plW, cpyA, nwP, nwB, nwR, nwL, adB, Nat.reduceEqDiff, Int.reduceEq, eq_self_iff_true, eq_self, false_and, true_and, and_false, and_true, if_false, if_true, ite_false, ite_true, reduceIte]; exact qb
      · simp only [up, fillR, plW, cpyA, nwP, nwB, nwR, nwL, adB, Nat.reduceEqDiff, Int.reduceEq, eq_self_iff_true, eq_self, false_and, true_and, and_false, and_true, if_false, if_true, ite_false, ite_true, reduceIte]; split <;> omega
  · have e : sc_warrant σ z1 z2 = σ := if_neg c
    have f : sm_warrant σ z1 z2 = σ := if_neg (fun q => c (cm.mpr q))
    rw [e, f]; exact h
theorem e_warrant (h : JJ σ) (z1 z2 : Int) : rc_warrant σ z1 z2 = rm_warrant σ z1 z2 := by
  unfold rc_warrant rm_warrant
  split
  · rename_i c
    have t := thereS h (s := z1) (by omega) (by omega)
    by_cases d : σ 34 0 z1 < 0
    · rw [if_pos d, if_pos (t.mpr d)]
    · have u := atS h (s := z1) (by omega) (by omega) d
      rw [if_neg d, if_neg (fun q => d (t.mp q)), u.2.2.2.2.2.2.2.2.2.2.2.2]
  · rfl
theorem x_warrant (σ : Mm) (z1 z2 : Int) : rm_warrant (sc_warrant σ z1 z2) z1 z2 = rm_warrant σ z1 z2 := by
  unfold sc_warrant
  split <;> rfl
theorem e_about (h : JJ σ) (z1 z2 : Int) : rc_about σ z1 z2 = rm_about σ z1 z2 := by
  unfold rc_about rm_about
  split
  · rename_i c
    have t := thereS h (s := z1) (by omega) (by omega)
    by_cases d : σ 34 0 z1 < 0
    · rw [if_pos d, if_pos (t.mpr d)]
    · obtain ⟨q0, q1, q2, q3, q4, q5, q6, q7, q8, q9, qa, qb, qc⟩ := atS h (s := z1) (by omega) (by omega) d
      rw [if_neg d, if_neg (fun q => d (t.mp q))]
      unfold abC abM
      rw [q2, q3, q4, q5, q6, q7, q8, q9, qa, qb, qc]
  · rfl
theorem e_isOf (h : JJ σ) (z1 z2 : Int) : rc_isOf σ z1 z2 = rm_isOf σ z1 z2 := by
  unfold rc_isOf rm_isOf
  split
  · rename_i c
    have t := thereS h (s := z1) (by omega) (by omega)
    by_cases d : σ 34 0 z1 < 0
    · rw [if_pos d, if_pos (t.mpr d)]
    · obtain ⟨q0, q1, q2, q3⟩ := atS h (s := z1) (by omega) (by omega) d
      rw [if_neg d, if_neg (fun q => d (t.mp q)), q2]
      rfl
  · rfl
theorem J_put (h : JJ σ) (z1 z2 z3 : Int) : JJ (sm_put (sc_put σ z1 z2 z3) z1 z2 z3) := by
  have cm : ((0 ≤ z1 ∧ z1 ≤ 3) ∧ ¬ σ 8 z1 0 = 0 ∧ (0 ≤ z2 ∧ z2 ≤ σ 1 0 0 - 1) ∧ (-100 ≤ z3 ∧ z3 ≤ 100)) ↔ ((0 ≤ z1 ∧ z1 ≤ 3) ∧ 0 ≤ σ 34 0 z1 ∧ (0 ≤ z2 ∧ z2 ≤ σ 28 0 0 - 1) ∧ (-100 ≤ z3 ∧ z3 ≤ 100)) := by
    have g := jrT h
    unfold rT at g
    rw [g]
    refine ⟨fun q => ⟨q.1, ?_, q.2.2⟩, fun q => ⟨q.1, ?_, q.2.2⟩⟩
    · have t := thereS h (s := z1) (by omega) (by omega); omega
    · have t := thereS h (s := z1) (by omega) (by omega); omega
  by_cases c : (0 ≤ z1 ∧ z1 ≤ 3) ∧ ¬ σ 8 z1 0 = 0 ∧ (0 ≤ z2 ∧ z2 ≤ σ 1 0 0 - 1) ∧ (-100 ≤ z3 ∧ z3 ≤ 100)
  · have e : sc_put σ z1 z2 z3 = up σ 9 z1 z2 z3 := if_pos c
    have f : sm_put (up σ 9 z1 z2 z3) z1 z2 z3 = up (up σ 9 z1 z2 z3) 43 0 (36 * z1 + z2) z3 := if_pos (cm.mp c)
    rw [e, f]
    have c2 := cm.mp c
    refine mkJ (jMT (σ := σ) h) (jMK (σ := σ) h) (jMP (σ := σ) h) (jMS (σ := σ) h) ?_ (jMD (σ := σ) h) (jME (σ := σ) h) (jMR (σ := σ) h) (jMC (σ := σ) h) (jrT (σ := σ) h) (jrK (σ := σ) h) (jrW (σ := σ) h) (jCP (σ := σ) h) (jrS (σ := σ) h) (jCS (σ := σ) h) ?_ ?_ (jrD (σ := σ) h) (jCD (σ := σ) h) (jrE (σ := σ) h) (jrR (σ := σ) h) (jCR (σ := σ) h)
    · intro k
      have q := jML h k
      simp only [up, fillR, plW, cpyA, nwP, nwB, nwR, nwL, adB, Nat.reduceEqDiff, Int.reduceEq, eq_self_iff_true, eq_self, false_and, true_and, and_false, and_true, if_false, if_true, ite_false, ite_true, reduceIte]
      (repeat' split) <;> omega
    · intro s t s0 s1 t0 t1
      have q := jrL h s t s0 s1 t0 t1
      have m := jMT h
      unfold MT at m
      simp only [up, fillR, plW, cpyA, nwP, nwB, nwR, nwL, adB, Nat.reduceEqDiff, Int.reduceEq, eq_self_iff_true, eq_self, false_and, true_and, and_false, and_true, if_false, if_true, ite_false, ite_true, reduceIte]
      (repeat' split) <;> omega
    · intro s t
      have q := jCL h s t
      simp only [up, fillR, plW, cpyA, nwP, nwB, nwR, nwL, adB, Nat.reduceEqDiff, Int.reduceEq, eq_self_iff_true, eq_self, false_and, true_and, and_false, and_true, if_false, if_true, ite_false, ite_true, reduceIte]
      (repeat' split) <;> omega
  · have e : sc_put σ z1 z2 z3 = σ := if_neg c
    have f : sm_put σ z1 z2 z3 = σ := if_neg (fun q => c (cm.mpr q))
    rw [e, f]; exact h
theorem e_put (h : JJ σ) (z1 z2 z3 : Int) : rc_put σ z1 z2 z3 = rm_put σ z1 z2 z3 := by
  have g := jrT h
  unfold rT at g
  have m := jMT h
  unfold MT at m
  unfold rc_put rm_put
  split
  · rename_i c
    have t := thereS h (s := z1) (by omega) (by omega)
    by_cases d : σ 34 0 z1 < 0
    · rw [if_pos d, if_pos (t.mpr d)]
    · rw [if_neg d, if_neg (fun q => d (t.mp q)), g]
      split
      · rw [jrL h z1 z2 (by omega) (by omega) (by omega) (by omega)]
      · rfl
  · rfl
theorem x_put (σ : Mm) (z1 z2 z3 : Int) : rm_put (sc_put σ z1 z2 z3) z1 z2 z3 = rm_put σ z1 z2 z3 := by
  unfold sc_put
  split <;> rfl
theorem e_planned (h : JJ σ) (z1 z2 : Int) : rc_planned σ z1 z2 = rm_planned σ z1 z2 := by
  have g := jrT h
  unfold rT at g
  have m := jMT h
  unfold MT at m
  unfold rc_planned rm_planned
  split
  · rename_i c
    have t := thereS h (s := z1) (by omega) (by omega)
    by_cases d : σ 34 0 z1 < 0
    · rw [if_pos d, if_pos (t.mpr d)]
    · rw [if_neg d, if_neg (fun q => d (t.mp q)), g]
      split
      · rw [jrL h z1 z2 (by omega) (by omega) (by omega) (by omega)]
      · rfl
  · rfl
theorem e_behind (h : JJ σ) (z1 z2 : Int) : rc_behind σ z1 z2 = rm_behind σ z1 z2 := by
  have g := jrT h
  unfold rT at g
  have m := jMT h
  unfold MT at m
  unfold rc_behind rm_behind
  split
  · rename_i c
    have t := thereS h (s := z1) (by omega) (by omega)
    by_cases d : σ 34 0 z1 < 0
    · rw [if_pos d, if_pos (t.mpr d)]
    · rw [if_neg d, if_neg (fun q => d (t.mp q)), g]
      split
      · exact bhCM h (by omega) (by omega) d (by omega)
      · rfl
  · rfl
theorem e_why (h : JJ σ) (z1 : Int) : rc_why σ z1 = rm_why σ z1 := by
  unfold rc_why rm_why
  split
  · rename_i c
    have t := thereS h (s := z1) (by omega) (by omega)
    by_cases d : σ 34 0 z1 < 0
    · rw [if_pos d, if_pos (t.mpr d)]
    · rw [if_neg d, if_neg (fun q => d (t.mp q))]
      exact whCM h (by omega) (by omega) d
  · rfl
theorem e_money (h : JJ σ) (z1 z2 : Int) : rc_money σ z1 z2 = rm_money σ z1 z2 := by
  unfold rc_money rm_money
  split
  · rename_i c
    have t := thereS h (s := z1) (by omega) (by omega)
    by_cases d : σ 34 0 z1 < 0
    · rw [if_pos d, if_pos (t.mpr d)]
    · rw [if_neg d, if_neg (fun q => d (t.mp q))]
      exact mnCM h (by omega) (by omega) d (by omega) (by omega)
  · rfl
theorem J_bid (h : JJ σ) (z1 z2 z3 z4 : Int) : JJ (sm_bid (sc_bid σ z1 z2 z3 z4) z1 z2 z3 z4) := by
  have cm : (((0 ≤ z1 ∧ z1 ≤ σ 1 0 0 - 1) ∧ (0 ≤ z2 ∧ z2 ≤ σ 1 0 0 - 1) ∧ z1 ≤ z2 ∧ (-20 ≤ z3 ∧ z3 ≤ 20) ∧ z3 ≠ 0 ∧ (-10000 ≤ z4 ∧ z4 ≤ 10000)) ∧ σ 15 0 0 < 12) ↔ (((0 ≤ z1 ∧ z1 ≤ σ 28 0 0 - 1) ∧ (0 ≤ z2 ∧ z2 ≤ σ 28 0 0 - 1) ∧ z1 ≤ z2 ∧ (-20 ≤ z3 ∧ z3 ≤ 20) ∧ z3 ≠ 0 ∧ (-10000 ≤ z4 ∧ z4 ≤ 10000)) ∧ σ 28 0 17 ≠ 12) := by
    have g := jrT h
    have k := (jrD h).1
    have m := (jMD h).1
    unfold rT at g
    rw [g, k]
    exact ⟨fun q => ⟨q.1, by omega⟩, fun q => ⟨q.1, by omega⟩⟩
  by_cases c : ((0 ≤ z1 ∧ z1 ≤ σ 1 0 0 - 1) ∧ (0 ≤ z2 ∧ z2 ≤ σ 1 0 0 - 1) ∧ z1 ≤ z2 ∧ (-20 ≤ z3 ∧ z3 ≤ 20) ∧ z3 ≠ 0 ∧ (-10000 ≤ z4 ∧ z4 ≤ 10000)) ∧ σ 15 0 0 < 12
  · have e : sc_bid σ z1 z2 z3 z4 = adB σ z1 z2 z3 z4 := if_pos c
    have f : sm_bid (adB σ z1 z2 z3 z4) z1 z2 z3 z4 = up (up (up (up (up (adB σ z1 z2 z3 z4) 44 0 (4 * σ 28 0 17) z1) 44 0 (4 * σ 28 0 17 + 1) z2) 44 0 (4 * σ 28 0 17 + 2) z3) 44 0 (4 * σ 28 0 17 + 3) z4) 28 0 17 (σ 28 0 17 + 1) := if_pos (cm.mp c)
    rw [e, f]
    have c2 := cm.mp c
    refine mkJ (jMT (σ := σ) h) (jMK (σ := σ) h) (jMP (σ := σ) h) (jMS (σ := σ) h) (jML (σ := σ) h) ?_ (jME (σ := σ) h) (jMR (σ := σ) h) (jMC (σ := σ) h) (jrT (σ := σ) h) (jrK (σ := σ) h) (jrW (σ := σ) h) (jCP (σ := σ) h) (jrS (σ := σ) h) (jCS (σ := σ) h) (jrL (σ := σ) h) (jCL (σ := σ) h) ?_ ?_ (jrE (σ := σ) h) (jrR (σ := σ) h) (jCR (σ := σ) h)
    · have m := (jMD h).1
      have mt := jMT h
      unfold MT at mt
      refine ⟨?_, fun b => ?_⟩
      · show 0 ≤ σ 28 0 17 + 1 ∧ σ 28 0 17 + 1 ≤ 12
        omega
      · have q := (jMD h).2 b
        by_cases e : b = σ 28 0 17
        · subst e
          have r1 : ∀ x y : Int, 4 * σ 28 0 17 + x = 4 * σ 28 0 17 + y ↔ x = y := fun x y => by omega
          have r2 : ∀ y : Int, 4 * σ 28 0 17 = 4 * σ 28 0 17 + y ↔ 0 = y := fun y => by omega
          have r3 : ∀ y : Int, 4 * σ 28 0 17 + y = 4 * σ 28 0 17 ↔ y = 0 := fun y => by omega
          refine ⟨⟨?_, ?_, ?_⟩, ?_, ?_⟩ <;> simp only [up, fillR, plW, cpyA, nwP, nwB, nwR, nwL, adB, Nat.reduceEqDiff, Int.reduceEq, eq_self_iff_true, eq_self, false_and, true_and, and_false, and_true, if_false, if_true, ite_false, ite_true, reduceIte] <;> (repeat' split) <;> omega
        · have r1 : ∀ x y : Int, 0 ≤ x → x < 4 → 0 ≤ y → y < 4 → ¬ (4 * b + x = 4 * σ 28 0 17 + y) := fun x y _ _ _ _ => by omega
          have a0 : ∀ x : Int, 0 ≤ x → x < 4 → (up (up (up (up (up (adB σ z1 z2 z3 z4) 44 0 (4 * σ 28 0 17) z1) 44 0 (4 * σ 28 0 17 + 1) z2) 44 0 (4 * σ 28 0 17 + 2) z3) 44 0 (4 * σ 28 0 17 + 3) z4) 28 0 17 (σ 28 0 17 + 1)) 44 0 (4 * b + x) = σ 44 0 (4 * b + x) := by
            intro x x0 x1
            simp only [up, fillR, plW, cpyA, nwP, nwB, nwR, nwL, adB, Nat.reduceEqDiff, Int.reduceEq, eq_self_iff_true, eq_self, false_and, true_and, and_false, and_true, if_false, if_true, ite_false, ite_true, reduceIte]
            rw [if_neg (by omega), if_neg (by omega), if_neg (by omega), if_neg (by omega)]
          have a1 := a0 0 (by omega) (by omega)
          rw [Int.add_zero] at a1
          rw [a1, a0 1 (by omega) (by omega), a0 2 (by omega) (by omega), a0 3 (by omega) (by omega)]
          exact q
    · have k := (jrD h).1
      refine ⟨?_, fun b b0 b1 => ?_⟩
      · show σ 15 0 0 + 1 = σ 28 0 17 + 1
        rw [k]
      · have q := (jrD h).2 b b0 b1
        obtain ⟨q1, q2, q3, q4⟩ := q
        refine ⟨?_, ?_, ?_, ?_⟩ <;> simp only [up, fillR, plW, cpyA, nwP, nwB, nwR, nwL, adB, Nat.reduceEqDiff, Int.reduceEq, eq_self_iff_true, eq_self, false_and, true_and, and_false, and_true, if_false, if_true, ite_false, ite_true, reduceIte] <;> rw [k] <;> (repeat' split) <;> omega
    · have k := (jrD h).1
      have m := (jMD h).1
      have mt := jMT h
      unfold MT at mt
      refine ⟨?_, fun b => ?_⟩
      · show 0 ≤ σ 15 0 0 + 1 ∧ σ 15 0 0 + 1 ≤ 12
        omega
      · have q := (jCD h).2 b
        simp only [up, fillR, plW, cpyA, nwP, nwB, nwR, nwL, adB, Nat.reduceEqDiff, Int.reduceEq, eq_self_iff_true, eq_self, false_and, true_and, and_false, and_true, if_false, if_true, ite_false, ite_true, reduceIte]
        (repeat' split) <;> omega
  · have e : sc_bid σ z1 z2 z3 z4 = σ := if_neg c
    have f : sm_bid σ z1 z2 z3 z4 = σ := if_neg (fun q => c (cm.mpr q))
    rw [e, f]; exact h
theorem e_bid (h : JJ σ) (z1 z2 z3 z4 : Int) : rc_bid σ z1 z2 z3 z4 = rm_bid σ z1 z2 z3 z4 := by
  have g := jrT h
  have k := (jrD h).1
  have m := (jMD h).1
  unfold rT at g
  unfold rc_bid rm_bid
  rw [g, k]
  split
  · by_cases e : σ 28 0 17 = 12
    · rw [if_pos e, if_pos (by omega)]
    · rw [if_neg e, if_neg (by omega)]
  · rfl
theorem x_bid (σ : Mm) (z1 z2 z3 z4 : Int) : rm_bid (sc_bid σ z1 z2 z3 z4) z1 z2 z3 z4 = rm_bid σ z1 z2 z3 z4 := by
  unfold sc_bid
  split <;> rfl
theorem J_unbid (h : JJ σ) : JJ (sm_unbid (sc_unbid σ)) := by
  have k := (jrD h).1
  have m := (jMD h).1
  by_cases c : σ 15 0 0 ≤ 0
  · have e : sc_unbid σ = σ := if_pos c
    have f : sm_unbid σ = σ := if_pos (by omega)
    rw [e, f]; exact h
  · have e : sc_unbid σ = up σ 15 0 0 (σ 15 0 0 - 1) := if_neg c
    have f : sm_unbid (up σ 15 0 0 (σ 15 0 0 - 1)) = up (up σ 15 0 0 (σ 15 0 0 - 1)) 28 0 17 (σ 28 0 17 - 1) := if_neg (show ¬ σ 28 0 17 = 0 by omega)
    rw [e, f]
    refine mkJ (jMT (σ := σ) h) (jMK (σ := σ) h) (jMP (σ := σ) h) (jMS (σ := σ) h) (jML (σ := σ) h) ⟨?_, (jMD h).2⟩ (jME (σ := σ) h) (jMR (σ := σ) h) (jMC (σ := σ) h) (jrT (σ := σ) h) (jrK (σ := σ) h) (jrW (σ := σ) h) (jCP (σ := σ) h) (jrS (σ := σ) h) (jCS (σ := σ) h) (jrL (σ := σ) h) (jCL (σ := σ) h) ⟨?_, (jrD h).2⟩ ⟨?_, (jCD h).2⟩ (jrE (σ := σ) h) (jrR (σ := σ) h) (jCR (σ := σ) h)
    · show 0 ≤ σ 28 0 17 - 1 ∧ σ 28 0 17 - 1 ≤ 12
      omega
    · show σ 15 0 0 - 1 = σ 28 0 17 - 1
      omega
    · show 0 ≤ σ 15 0 0 - 1 ∧ σ 15 0 0 - 1 ≤ 12
      omega
theorem e_unbid (h : JJ σ) : rc_unbid σ  = rm_unbid σ  := by
  have k := (jrD h).1
  have m := (jMD h).1
  unfold rc_unbid rm_unbid
  rw [k]
  by_cases e : σ 28 0 17 = 0
  · rw [if_pos e, if_pos (by omega)]
  · rw [if_neg e, if_neg (by omega)]
theorem x_unbid (σ : Mm) : rm_unbid (sc_unbid σ )  = rm_unbid σ  := by
  unfold sc_unbid
  split <;> rfl
theorem e_taken (h : JJ σ) (z1 z2 : Int) : rc_taken σ z1 z2 = rm_taken σ z1 z2 := by
  have k := (jrD h).1
  have m := (jMD h).1
  unfold rc_taken rm_taken
  rw [k]
  split
  · rename_i c
    have t := takCM h (b := z1) (w := z2) (by omega) (by omega) (by omega) (by omega)
    unfold takMi bI
    by_cases e : takM σ z1 z2
    · rw [if_pos e, if_pos (t.mpr e)]
    · rw [if_neg e, if_neg (fun q => e (t.mp q))]
  · rfl
theorem e_wanted (h : JJ σ) (z1 z2 : Int) : rc_wanted σ z1 z2 = rm_wanted σ z1 z2 := by
  have g := jrT h
  unfold rT at g
  unfold rc_wanted rm_wanted
  rw [g]
  split
  · split
    · exact waCM h (by omega) (by omega)
    · rfl
  · rfl
theorem J_meter (h : JJ σ) (z1 z2 : Int) : JJ (sm_meter (sc_meter σ z1 z2) z1 z2) := by
  have cm : ((0 ≤ z1 ∧ z1 ≤ 35) ∧ (-1001 ≤ z2 ∧ z2 ≤ 1000)) ↔ ((0 ≤ z1 ∧ z1 ≤ 35) ∧ (-1001 ≤ z2 ∧ z2 ≤ 1000)) := by
    exact Iff.rfl
  by_cases c : (0 ≤ z1 ∧ z1 ≤ 35) ∧ (-1001 ≤ z2 ∧ z2 ≤ 1000)
  · have e : sc_meter σ z1 z2 = up σ 21 0 z1 z2 := if_pos c
    have f : sm_meter (up σ 21 0 z1 z2) z1 z2 = up (up σ 21 0 z1 z2) 45 0 z1 z2 := if_pos (cm.mp c)
    rw [e, f]
    have c2 := cm.mp c
    refine mkJ (jMT (σ := σ) h) (jMK (σ := σ) h) (jMP (σ := σ) h) (jMS (σ := σ) h) (jML (σ := σ) h) (jMD (σ := σ) h) ?_ (jMR (σ := σ) h) (jMC (σ := σ) h) (jrT (σ := σ) h) (jrK (σ := σ) h) (jrW (σ := σ) h) (jCP (σ := σ) h) (jrS (σ := σ) h) (jCS (σ := σ) h) (jrL (σ := σ) h) (jCL (σ := σ) h) (jrD (σ := σ) h) (jCD (σ := σ) h) ?_ (jrR (σ := σ) h) (jCR (σ := σ) h)
    · intro t
      have q := jME h t
      simp only [up, fillR, plW, cpyA, nwP, nwB, nwR, nwL, adB, Nat.reduceEqDiff, Int.reduceEq, eq_self_iff_true, eq_self, false_and, true_and, and_false, and_true, if_false, if_true, ite_false, ite_true, reduceIte]
      split <;> omega
    · intro t
      have q := jrE h t
      simp only [up, fillR, plW, cpyA, nwP, nwB, nwR, nwL, adB, Nat.reduceEqDiff, Int.reduceEq, eq_self_iff_true, eq_self, false_and, true_and, and_false, and_true, if_false, if_true, ite_false, ite_true, reduceIte]
      split <;> first | rfl | exact q
  · have e : sc_meter σ z1 z2 = σ := if_neg c
    have f : sm_meter σ z1 z2 = σ := if_neg (fun q => c (cm.mpr q))
    rw [e, f]; exact h
theorem e_meter (h : JJ σ) (z1 z2 : Int) : rc_meter σ z1 z2 = rm_meter σ z1 z2 := by
  unfold rc_meter rm_meter
  rw [jrE h z1]
theorem x_meter (σ : Mm) (z1 z2 : Int) : rm_meter (sc_meter σ z1 z2) z1 z2 = rm_meter σ z1 z2 := by
  unfold sc_meter
  split <;> rfl
theorem e_counts (h : JJ σ) (z1 : Int) : rc_counts σ z1 = rm_counts σ z1 := by
  unfold rc_counts rm_counts
  split
  · unfold cnC cnM
    have e : (fun k => σ 21 0 k) = fun k => σ 45 0 k := funext (fun k => jrE h k)
    rw [e, jrE h z1]
    rfl
  · rfl
theorem e_row (h : JJ σ) (z1 z2 : Int) : rc_row σ z1 z2 = rm_row σ z1 z2 := by
  have k := (jrR h).1
  have m := (jMR h).1
  unfold rc_row rm_row
  rw [k]
  split
  · rename_i c
    obtain ⟨q0, q1, q2, q3, q4⟩ := (jrR h).2 z1 (by omega) (by omega)
    unfold bkC
    rcases (show z2 = 0 ∨ z2 = 1 ∨ z2 = 2 ∨ z2 = 3 ∨ z2 = 4 by omega) with rfl | rfl | rfl | rfl | rfl
    · rw [if_pos rfl, Int.add_zero]; exact q0
    · exact q1
    · exact q2
    · exact q3
    · exact q4
  · rfl
theorem e_forge (h : JJ σ) (z1 z2 z3 : Int) : rc_forge σ z1 z2 z3 = rm_forge σ z1 z2 z3 := by
  have k := (jrR h).1
  have m := (jMR h).1
  unfold rc_forge rm_forge
  rw [k]
  split
  · rename_i c
    obtain ⟨q0, q1, q2, q3, q4⟩ := (jrR h).2 z1 (by omega) (by omega)
    unfold bkC
    rcases (show z2 = 3 ∨ z2 = 4 by omega) with rfl | rfl
    · exact q3
    · exact q4
  · rfl
theorem x_forge (σ : Mm) (z1 z2 z3 : Int) : rm_forge (sc_forge σ z1 z2 z3) z1 z2 z3 = rm_forge σ z1 z2 z3 := by
  unfold sc_forge
  split
  · split <;> rfl
  · rfl
theorem J_forge (h : JJ σ) (z1 z2 z3 : Int) : JJ (sm_forge (sc_forge σ z1 z2 z3) z1 z2 z3) := by
  have k := (jrR h).1
  have m := (jMR h).1
  by_cases c : (0 ≤ z1 ∧ z1 ≤ σ 28 0 20 - 1) ∧ (3 ≤ z2 ∧ z2 ≤ 4) ∧ (z2 = 3 → -100 ≤ z3 ∧ z3 ≤ 100)
  · have e : sc_forge σ z1 z2 z3 = if z2 = 3 then up σ 26 0 z1 z3 else up σ 27 0 z1 z3 := by unfold sc_forge; rw [k]; exact if_pos c
    rw [e]
    by_cases d : z2 = 3
    · rw [if_pos d]
      subst d
      have f : sm_forge (up σ 26 0 z1 z3) z1 3 z3 = up (up σ 26 0 z1 z3) 46 0 (5 * z1 + 3) z3 := if_pos c
      rw [f]
      refine mkJ (jMT (σ := σ) h) (jMK (σ := σ) h) (jMP (σ := σ) h) (jMS (σ := σ) h) (jML (σ := σ) h) (jMD (σ := σ) h) (jME (σ := σ) h) ⟨(jMR h).1, ?_⟩ (jMC (σ := σ) h) (jrT (σ := σ) h) (jrK (σ := σ) h) (jrW (σ := σ) h) (jCP (σ := σ) h) (jrS (σ := σ) h) (jCS (σ := σ) h) (jrL (σ := σ) h) (jCL (σ := σ) h) (jrD (σ := σ) h) (jCD (σ := σ) h) (jrE (σ := σ) h) ⟨(jrR h).1, ?_⟩ ⟨(jCR h).1, ?_⟩
      · intro i
        have q := (jMR h).2 i
        have q4 := c.2.2 rfl
        simp only [up, fillR, plW, cpyA, nwP, nwB, nwR, nwL, adB, Nat.reduceEqDiff, Int.reduceEq, eq_self_iff_true, eq_self, false_and, true_and, and_false, and_true, if_false, if_true, ite_false, ite_true, reduceIte]
        rw [if_neg (by omega), if_neg (by omega), if_neg (by omega)]
        split <;> omega
      · intro i i0 i1
        obtain ⟨q0, q1, q2, q3, q4⟩ := (jrR h).2 i i0 i1
        simp only [up, fillR, plW, cpyA, nwP, nwB, nwR, nwL, adB, Nat.reduceEqDiff, Int.reduceEq, eq_self_iff_true, eq_self, false_and, true_and, and_false, and_true, if_false, if_true, ite_false, ite_true, reduceIte]
        rw [if_neg (by omega), if_neg (by omega), if_neg (by omega), if_neg (show ¬ 5 * i + 4 = 5 * z1 + 3 by omega)]
        refine ⟨q0, q1, q2, ?_, q4⟩
        (repeat' split) <;> omega
      · intro i
        have q := (jCR h).2 i
        have q4 := c.2.2 rfl
        simp only [up, fillR, plW, cpyA, nwP, nwB, nwR, nwL, adB, Nat.reduceEqDiff, Int.reduceEq, eq_self_iff_true, eq_self, false_and, true_and, and_false, and_true, if_false, if_true, ite_false, ite_true, reduceIte]
        split <;> omega
    · have d2 : z2 = 4 := by omega
      rw [if_neg d]
      subst d2
      have f : sm_forge (up σ 27 0 z1 z3) z1 4 z3 = up (up σ 27 0 z1 z3) 46 0 (5 * z1 + 4) z3 := if_pos c
      rw [f]
      refine mkJ (jMT (σ := σ) h) (jMK (σ := σ) h) (jMP (σ := σ) h) (jMS (σ := σ) h) (jML (σ := σ) h) (jMD (σ := σ) h) (jME (σ := σ) h) ⟨(jMR h).1, ?_⟩ (jMC (σ := σ) h) (jrT (σ := σ) h) (jrK (σ := σ) h) (jrW (σ := σ) h) (jCP (σ := σ) h) (jrS (σ := σ) h) (jCS (σ := σ) h) (jrL (σ := σ) h) (jCL (σ := σ) h) (jrD (σ := σ) h) (jCD (σ := σ) h) (jrE (σ := σ) h) ⟨(jrR h).1, ?_⟩ (jCR (σ := σ) h)
      · intro i
        have q := (jMR h).2 i
        simp only [up, fillR, plW, cpyA, nwP, nwB, nwR, nwL, adB, Nat.reduceEqDiff, Int.reduceEq, eq_self_iff_true, eq_self, false_and, true_and, and_false, and_true, if_false, if_true, ite_false, ite_true, reduceIte]
        rw [if_neg (by omega), if_neg (by omega), if_neg (by omega), if_neg (by omega)]
        exact q
      · intro i i0 i1
        obtain ⟨q0, q1, q2, q3, q4⟩ := (jrR h).2 i i0 i1
        simp only [up, fillR, plW, cpyA, nwP, nwB, nwR, nwL, adB, Nat.reduceEqDiff, Int.reduceEq, eq_self_iff_true, eq_self, false_and, true_and, and_false, and_true, if_false, if_true, ite_false, ite_true, reduceIte]
        rw [if_neg (by omega), if_neg (by omega), if_neg (by omega), if_neg (show ¬ 5 * i + 3 = 5 * z1 + 4 by omega)]
        refine ⟨q0, q1, q2, q3, ?_⟩
        (repeat' split) <;> omega
  · have e : sc_forge σ z1 z2 z3 = σ := by unfold sc_forge; rw [k]; exact if_neg c
    have f : sm_forge σ z1 z2 z3 = σ := if_neg c
    rw [e, f]; exact h
theorem J_shut (h : JJ σ) : JJ (sm_shut (sc_shut σ)) := by
  show JJ (up (up σ 22 0 0 0) 28 0 20 0)
  exact mkJ (jMT (σ := σ) h) (jMK (σ := σ) h) (jMP (σ := σ) h) (jMS (σ := σ) h) (jML (σ := σ) h) (jMD (σ := σ) h) (jME (σ := σ) h) ⟨show (0 : Int) ≤ 0 ∧ (0 : Int) ≤ 150 by decide, (jMR h).2⟩ (jMC (σ := σ) h) (jrT (σ := σ) h) (jrK (σ := σ) h) (jrW (σ := σ) h) (jCP (σ := σ) h) (jrS (σ := σ) h) (jCS (σ := σ) h) (jrL (σ := σ) h) (jCL (σ := σ) h) (jrD (σ := σ) h) (jCD (σ := σ) h) (jrE (σ := σ) h) ⟨rfl, (jrR h).2⟩ ⟨show (0 : Int) ≤ 0 ∧ (0 : Int) ≤ 150 by decide, (jCR h).2⟩
theorem x_shut (σ : Mm) : rm_shut (sc_shut σ) = rm_shut σ := rfl
theorem e_shut (h : JJ σ) : rc_shut σ  = rm_shut σ  := by
  exact (jrR h).1
theorem e_count (h : JJ σ) (z1 : Int) : rc_count σ z1 = rm_count σ z1 := by
  have g := jrT h
  unfold rT at g
  have m := jMT h
  unfold MT at m
  unfold rc_count rm_count
  rw [g, (jrD h).1, (jrR h).1]
  have e0 : sm (fun k => if σ 8 k 0 = 0 then 0 else 1) 4 = sm (fun k => if σ 34 0 k < 0 then 0 else 1) 4 := sm_c (fun k a b => by
    have t := thereS h (s := k) a b
    (try dsimp only)
    by_cases d : σ 34 0 k < 0
    · rw [if_pos d, if_pos (t.mpr d)]
    · rw [if_neg d, if_neg (fun q => d (t.mp q))])
  have e4 : sm (fun k => if σ 6 k 0 = 0 then 0 else 1) 4 = sm (fun k => if σ 31 0 k < 0 then 0 else 1) 4 := sm_c (fun k a b => by
    have t := (thereW h (w := k) a b).1
    (try dsimp only)
    by_cases d : σ 31 0 k < 0
    · rw [if_pos d, if_pos (t.mpr d)]
    · rw [if_neg d, if_neg (fun q => d (t.mp q))])
  have e5 : sm (fun k => if σ 21 0 k = -1001 then 0 else 1) 36 = sm (fun k => if σ 45 0 k = -1001 then 0 else 1) 36 := sm_c (fun k a b => by
    (try dsimp only)
    rw [jrE h k])
  have e6 : sm (fun k => if σ 2 0 k = 0 then 0 else 1) (σ 28 0 0) = sm (fun k => if σ 29 0 k = 0 then 0 else 1) (σ 28 0 0) := sm_c (fun k a b => by
    (try dsimp only)
    rw [(jrK h).1 k])
  have e7 : sm (fun k => σ 27 0 k) (σ 28 0 20) = sm (fun k => σ 46 0 (5 * k + 4)) (σ 28 0 20) := sm_c (fun k a b => by
    have mr := (jMR h).1
    exact ((jrR h).2 k a (by omega)).2.2.2.2)
  rw [e0, e4, e5, e6, e7]
end JC
