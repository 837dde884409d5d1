/-! the reference's calls: what they answer, what memory they leave -/
def rm_dark (σ : Mm) (z1 z2 : Int) : Int := if (0 ≤ z1 ∧ z1 ≤ 35) ∧ (0 ≤ z2 ∧ z2 ≤ 1) then σ 29 0 z1 else BAD
def sm_dark (σ : Mm) (z1 z2 : Int) : Mm := if (0 ≤ z1 ∧ z1 ≤ 35) ∧ (0 ≤ z2 ∧ z2 ≤ 1) then up σ 29 0 z1 z2 else σ
def rm_keep (σ : Mm) (z1 z2 : Int) : Int := if (0 ≤ z1 ∧ z1 ≤ 35) ∧ (0 ≤ z2 ∧ z2 ≤ 10) then σ 30 0 z1 else BAD
def sm_keep (σ : Mm) (z1 z2 : Int) : Mm := if (0 ≤ z1 ∧ z1 ≤ 35) ∧ (0 ≤ z2 ∧ z2 ≤ 10) then up σ 30 0 z1 z2 else σ
def rm_lose (σ : Mm) (z1 : Int) : Int := if 0 ≤ z1 ∧ z1 ≤ 3 then (if σ 31 0 z1 < 0 then NOTHING else σ 32 0 z1) else BAD
def sm_lose (σ : Mm) (z1 : Int) : Mm := if (0 ≤ z1 ∧ z1 ≤ 3) ∧ 0 ≤ σ 31 0 z1 then up (up σ 31 0 z1 (-1)) 32 0 z1 0 else σ
def rm_price (σ : Mm) (z1 z2 z3 : Int) : Int := if 0 ≤ z1 ∧ z1 ≤ 3 then (if σ 31 0 z1 < 0 then NOTHING else if 0 ≤ z2 ∧ z2 ≤ σ 32 0 z1 - 1 then (if -limZ (σ 31 0 z1) ≤ z3 ∧ z3 ≤ limZ (σ 31 0 z1) then σ 33 0 (36 * z1 + z2) else BAD) else INDEX) else BAD
def sm_price (σ : Mm) (z1 z2 z3 : Int) : Mm := if (0 ≤ z1 ∧ z1 ≤ 3) ∧ 0 ≤ σ 31 0 z1 ∧ (0 ≤ z2 ∧ z2 ≤ σ 32 0 z1 - 1) ∧ (-limZ (σ 31 0 z1) ≤ z3 ∧ z3 ≤ limZ (σ 31 0 z1)) then up σ 33 0 (36 * z1 + z2) z3 else σ
def rm_told (σ : Mm) (z1 z2 : Int) : Int := if (0 ≤ z1 ∧ z1 ≤ 3) ∧ (0 ≤ z2 ∧ z2 ≤ 35) then pM σ z1 z2 else BAD
def rm_charge (σ : Mm) (z1 z2 : Int) : Int := if 0 ≤ z1 ∧ z1 ≤ 3 then (if σ 34 0 z1 < 0 then NO else if floM σ z1 ≤ z2 ∧ z2 ≤ topM σ z1 then σ 36 0 z1 else BAD) else BAD
def sm_charge (σ : Mm) (z1 z2 : Int) : Mm := if (0 ≤ z1 ∧ z1 ≤ 3) ∧ 0 ≤ σ 34 0 z1 ∧ (floM σ z1 ≤ z2 ∧ z2 ≤ topM σ z1) then up σ 36 0 z1 z2 else σ
def rm_end (σ : Mm) (z1 z2 : Int) : Int := if (0 ≤ z1 ∧ z1 ≤ 3) ∧ (0 ≤ z2 ∧ z2 ≤ 60) then (if σ 34 0 z1 < 0 then NO else σ 41 0 z1) else BAD
def sm_end (σ : Mm) (z1 z2 : Int) : Mm := if ((0 ≤ z1 ∧ z1 ≤ 3) ∧ (0 ≤ z2 ∧ z2 ≤ 60)) ∧ 0 ≤ σ 34 0 z1 then up σ 41 0 z1 z2 else σ
def abM (σ : Mm) (s w : Int) : Int := if w = 0 then σ 34 0 s else if w = 1 then σ 35 0 s else if w = 2 then σ 36 0 s else if w = 3 then inM σ s else if w = 4 then outM σ s else if w = 5 then lossM σ s else if w = 6 then σ 40 0 s else if w = 7 then floM σ s else if w = 8 then topM σ s else if w = 9 then σ 41 0 s else σ 42 0 s
def rm_about (σ : Mm) (z1 z2 : Int) : Int := if (0 ≤ z1 ∧ z1 ≤ 3) ∧ (0 ≤ z2 ∧ z2 ≤ 10) then (if σ 34 0 z1 < 0 then NO else abM σ z1 z2) else BAD
def rm_isOf (σ : Mm) (z1 z2 : Int) : Int := if (0 ≤ z1 ∧ z1 ≤ 3) ∧ (0 ≤ z2 ∧ z2 ≤ 4) then (if σ 34 0 z1 < 0 then NO else isPd (σ 34 0 z1) z2) else BAD
def rm_put (σ : Mm) (z1 z2 z3 : Int) : Int := if 0 ≤ z1 ∧ z1 ≤ 3 then (if σ 34 0 z1 < 0 then NO else if 0 ≤ z2 ∧ z2 ≤ σ 28 0 0 - 1 then (if -100 ≤ z3 ∧ z3 ≤ 100 then σ 43 0 (36 * z1 + z2) else BAD) else INDEX) else BAD
def sm_put (σ : Mm) (z1 z2 z3 : Int) : Mm := if (0 ≤ z1 ∧ z1 ≤ 3) ∧ 0 ≤ σ 34 0 z1 ∧ (0 ≤ z2 ∧ z2 ≤ σ 28 0 0 - 1) ∧ (-100 ≤ z3 ∧ z3 ≤ 100) then up σ 43 0 (36 * z1 + z2) z3 else σ
def rm_planned (σ : Mm) (z1 z2 : Int) : Int := if 0 ≤ z1 ∧ z1 ≤ 3 then (if σ 34 0 z1 < 0 then NO else if 0 ≤ z2 ∧ z2 ≤ σ 28 0 0 - 1 then σ 43 0 (36 * z1 + z2) else INDEX) else BAD
def bhM (σ : Mm) (s t : Int) : Int := σ 36 0 s + sm (fun k => σ 43 0 (36 * s + k)) (t + 1)
def rm_behind (σ : Mm) (z1 z2 : Int) : Int := if 0 ≤ z1 ∧ z1 ≤ 3 then (if σ 34 0 z1 < 0 then NO else if z2 = -1 ∨ (0 ≤ z2 ∧ z2 ≤ σ 28 0 0 - 1) then bhM σ z1 z2 else INDEX) else BAD
/-- WHY a number d at step t with the charge c behind it is not allowed -/
def ftM (σ : Mm) (s t d c : Int) : Int := if σ 29 0 t ≠ 0 ∧ d ≠ 0 then 1 else if d ≠ 0 ∧ (inM σ s - rmM σ t < d ∨ d < rmM σ t - outM σ s) then 2 else if c < floM σ s + rmM σ t then 3 else if topM σ s - rmM σ t < c then 4 else if t = σ 28 0 0 - 1 ∧ c < σ 41 0 s then 5 else 0
def whM (σ : Mm) (s : Int) : Int := fst (fun t => ftM σ s t (σ 43 0 (36 * s + t)) (bhM σ s t)) 0 (σ 28 0 0).toNat
def rm_why (σ : Mm) (z1 : Int) : Int := if 0 ≤ z1 ∧ z1 ≤ 3 then (if σ 34 0 z1 < 0 then NO else whM σ z1) else BAD
def mnM (σ : Mm) (s w : Int) : Int := sm (fun t => monM σ s (σ 43 0 (36 * s + t)) (pM σ w t)) (σ 28 0 0)
def rm_money (σ : Mm) (z1 z2 : Int) : Int := if (0 ≤ z1 ∧ z1 ≤ 3) ∧ (0 ≤ z2 ∧ z2 ≤ 3) then (if σ 34 0 z1 < 0 then NO else mnM σ z1 z2) else BAD
def okBid (T z1 z2 z3 z4 : Int) : Prop := (0 ≤ z1 ∧ z1 ≤ T - 1) ∧ (0 ≤ z2 ∧ z2 ≤ T - 1) ∧ z1 ≤ z2 ∧ (-20 ≤ z3 ∧ z3 ≤ 20) ∧ z3 ≠ 0 ∧ (-10000 ≤ z4 ∧ z4 ≤ 10000)
def rm_bid (σ : Mm) (z1 z2 z3 z4 : Int) : Int := if (0 ≤ z1 ∧ z1 ≤ σ 28 0 0 - 1) ∧ (0 ≤ z2 ∧ z2 ≤ σ 28 0 0 - 1) ∧ z1 ≤ z2 ∧ (-20 ≤ z3 ∧ z3 ≤ 20) ∧ z3 ≠ 0 ∧ (-10000 ≤ z4 ∧ z4 ≤ 10000) then (if σ 28 0 17 = 12 then FULL else σ 28 0 17) else BAD
def sm_bid (σ : Mm) (z1 z2 z3 z4 : Int) : Mm := if ((0 ≤ z1 ∧ z1 ≤ σ 28 0 0 - 1) ∧ (0 ≤ z2 ∧ z2 ≤ σ 28 0 0 - 1) ∧ z1 ≤ z2 ∧ (-20 ≤ z3 ∧ z3 ≤ 20) ∧ z3 ≠ 0 ∧ (-10000 ≤ z4 ∧ z4 ≤ 10000)) ∧ σ 28 0 17 ≠ 12 then up (up (up (up (up σ 44 0 (4 * σ 28 0 17) z1) 44 0 (4 * σ 28 0 17 + 1) z2) 44 0 (4 * σ 28 0 17 + 2) z3) 44 0 (4 * σ 28 0 17 + 3) z4) 28 0 17 (σ 28 0 17 + 1) else σ
def rm_unbid (σ : Mm) : Int := if σ 28 0 17 = 0 then NO else σ 28 0 17 - 1
def sm_unbid (σ : Mm) : Mm := if σ 28 0 17 = 0 then σ else up σ 28 0 17 (σ 28 0 17 - 1)
/-- a bid is taken -/
def tkM (σ : Mm) (b w : Int) : Int := sm (fun k => pM σ w (σ 44 0 (4 * b) + k) - σ 44 0 (4 * b + 3)) (σ 44 0 (4 * b + 1) - σ 44 0 (4 * b) + 1)
abbrev takM (σ : Mm) (b w : Int) : Prop := (σ 44 0 (4 * b + 2) < 0 ∧ 0 ≤ tkM σ b w) ∨ (¬ σ 44 0 (4 * b + 2) < 0 ∧ tkM σ b w ≤ 0)
def takMi (σ : Mm) (b w : Int) : Int := bI (takM σ b w)
def rm_taken (σ : Mm) (z1 z2 : Int) : Int := if (0 ≤ z1 ∧ z1 ≤ σ 28 0 17 - 1) ∧ (0 ≤ z2 ∧ z2 ≤ 3) then takMi σ z1 z2 else BAD
def waM (σ : Mm) (w t : Int) : Int := sm (fun b => if (σ 44 0 (4 * b) ≤ t ∧ t ≤ σ 44 0 (4 * b + 1)) ∧ takM σ b w then σ 44 0 (4 * b + 2) else 0) (σ 28 0 17)
def rm_wanted (σ : Mm) (z1 z2 : Int) : Int := if 0 ≤ z1 ∧ z1 ≤ 3 then (if 0 ≤ z2 ∧ z2 ≤ σ 28 0 0 - 1 then waM σ z1 z2 else INDEX) else BAD
def rm_meter (σ : Mm) (z1 z2 : Int) : Int := if (0 ≤ z1 ∧ z1 ≤ 35) ∧ (-1001 ≤ z2 ∧ z2 ≤ 1000) then σ 45 0 z1 else BAD
def sm_meter (σ : Mm) (z1 z2 : Int) : Mm := if (0 ≤ z1 ∧ z1 ≤ 35) ∧ (-1001 ≤ z2 ∧ z2 ≤ 1000) then up σ 45 0 z1 z2 else σ
def rm_row (σ : Mm) (z1 z2 : Int) : Int := if (0 ≤ z1 ∧ z1 ≤ σ 28 0 20 - 1) ∧ (0 ≤ z2 ∧ z2 ≤ 4) then σ 46 0 (5 * z1 + z2) else BAD
def rm_forge (σ : Mm) (z1 z2 z3 : Int) : Int := if (0 ≤ z1 ∧ z1 ≤ σ 28 0 20 - 1) ∧ (3 ≤ z2 ∧ z2 ≤ 4) ∧ (z2 = 3 → -100 ≤ z3 ∧ z3 ≤ 100) then σ 46 0 (5 * z1 + z2) else BAD
def sm_forge (σ : Mm) (z1 z2 z3 : Int) : Mm := if (0 ≤ z1 ∧ z1 ≤ σ 28 0 20 - 1) ∧ (3 ≤ z2 ∧ z2 ≤ 4) ∧ (z2 = 3 → -100 ≤ z3 ∧ z3 ≤ 100) then up σ 46 0 (5 * z1 + z2) z3 else σ
def rm_shut (σ : Mm) : Int := σ 28 0 20
def sm_shut (σ : Mm) : Mm := up σ 28 0 20 0
def rm_warrant (σ : Mm) (z1 z2 : Int) : Int := if (0 ≤ z1 ∧ z1 ≤ 3) ∧ (0 ≤ z2 ∧ z2 ≤ 100000) then (if σ 34 0 z1 < 0 then NO else σ 42 0 z1) else BAD
def sm_warrant (σ : Mm) (z1 z2 : Int) : Mm := if ((0 ≤ z1 ∧ z1 ≤ 3) ∧ (0 ≤ z2 ∧ z2 ≤ 100000)) ∧ 0 ≤ σ 34 0 z1 then up σ 42 0 z1 z2 else σ
theorem bM {σ : Mm} (h : MSt σ) (s : Int) : (0 ≤ floM σ s ∧ floM σ s ≤ 6) ∧ (0 ≤ topM σ s ∧ topM σ s ≤ 60) ∧ (0 ≤ inM σ s ∧ inM σ s ≤ 40) ∧ (0 ≤ outM σ s ∧ outM σ s ≤ 40) ∧ (0 ≤ lossM σ s ∧ lossM σ s ≤ 50) := by
  have q := h s
  unfold floM topM inM outM lossM
  refine ⟨?_, ?_, ?_, ?_, ?_⟩ <;> split <;> omega
theorem rmM_b {σ : Mm} (h : MK σ) (t : Int) : 0 ≤ rmM σ t ∧ rmM σ t ≤ 10 := by
  unfold rmM
  split
  · exact h t
  · omega
theorem bhM_b {σ : Mm} (hS : MSt σ) (hL : ML σ) (s : Int) {t : Int} (h0 : -1 ≤ t) (h1 : t < 36) : -3700 ≤ bhM σ s t ∧ bhM σ s t ≤ 3700 := by
  have q := hS s
  have b := sm_b (f := fun k => σ 43 0 (36 * s + k)) (a := -100) (b := 100) (n := t + 1) (by omega) (fun k _ _ => hL _)
  unfold bhM
  omega
theorem bhM_s {σ : Mm} {s t : Int} (h : -1 ≤ t) : bhM σ s (t + 1) = bhM σ s t + σ 43 0 (36 * s + (t + 1)) := by
  unfold bhM
  rw [sm_s (by omega)]
  (try dsimp only)
  omega
def cnM (σ : Mm) (t : Int) : Int := cnF (σ 45 0 t) (nr (fun k => σ 45 0 k) (-1) 37 (t + -1)) (nr (fun k => σ 45 0 k) 1 37 (t + 1))
def rm_counts (σ : Mm) (z1 : Int) : Int := if 0 ≤ z1 ∧ z1 ≤ 35 then cnM σ z1 else BAD
