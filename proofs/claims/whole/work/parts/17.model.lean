/-! the reference's calls: what they answer, what memory they leave -/
def rm_dark (σ : Mm) (z1 z2 : Int) : Int := if (0 ≤ z1 ∧ z1 ≤ 35) ∧ (0 ≤ z2 ∧ z2 ≤ 1) then σ 29 0 z1 else BAD
def sm_dark (σ : Mm) (z1 z2 : Int) : Mm := if (0 ≤ z1 ∧ z1 ≤ 35) ∧ (0 ≤ z2 ∧ z2 ≤ 1) then up σ 29 0 z1 z2 else σ
def rm_keep (σ : Mm) (z1 z2 : Int) : Int := if (0 ≤ z1 ∧ z1 ≤ 35) ∧ (0 ≤ z2 ∧ z2 ≤ 10) then σ 30 0 z1 else BAD
def sm_keep (σ : Mm) (z1 z2 : Int) : Mm := if (0 ≤ z1 ∧ z1 ≤ 35) ∧ (0 ≤ z2 ∧ z2 ≤ 10) then up σ 30 0 z1 z2 else σ
def rm_lose (σ : Mm) (z1 : Int) : Int := if 0 ≤ z1 ∧ z1 ≤ 3 then (if σ 31 0 z1 < 0 then NOTHING else σ 32 0 z1) else BAD
def sm_lose (σ : Mm) (z1 : Int) : Mm := if (0 ≤ z1 ∧ z1 ≤ 3) ∧ 0 ≤ σ 31 0 z1 then up (up σ 31 0 z1 (-1)) 32 0 z1 0 else σ
def rm_price (σ : Mm) (z1 z2 z3 : Int) : Int := if 0 ≤ z1 ∧ z1 ≤ 3 then (if σ 31 0 z1 < 0 then NOTHING else if 0 ≤ z2 ∧ z2 ≤ σ 32 0 z1 - 1 then (if -limZ (σ 31 0 z1) ≤ z3 ∧ z3 ≤ limZ (σ 31 0 z1) then σ 33 0 (36 * z1 + z2) else BAD) else INDEX) else BAD
def sm_price (σ : Mm) (z1 z2 z3 : Int) : Mm := if (0 ≤ z1 ∧ z1 ≤ 3) ∧ 0 ≤ σ 31 0 z1 ∧ (0 ≤ z2 ∧ z2 ≤ σ 32 0 z1 - 1) ∧ (-limZ (σ 31 0 z1) ≤ z3 ∧ z3 ≤ limZ (σ 31 0 z1)) then up σ 33 0 (36 * z1 + z2) z3 else σ
def rm_told (σ : Mm) (z1 z2 : Int) : Int := if (0 ≤ z1 ∧ z1 ≤ 3) ∧ (0 ≤ z2 ∧ z2 ≤ 35) then pM σ z1 z2 else BAD
def rm_charge (σ : Mm) (z1 z2 : Int) : Int := if 0 ≤ z1 ∧ z1 ≤ 3 then (if σ 34 0 z1 < 0 then NO else if floM σ z1 ≤ z2 ∧ z2 ≤ topM σ z1 then σ 36 0 z1 else BAD) else BAD
def sm_charge (σ : Mm) (z1 z2 : Int) : Mm := if (0 ≤ z1 ∧ z1 ≤ 3) ∧ 0 ≤ σ 34 0 z1 ∧ (floM σ z1 ≤ z2 ∧ z2 ≤ topM σ z1) then up σ 36 0 z1 z2 else σ
def rm_end (σ : Mm) (z1 z2 : Int) : Int := if (0 ≤ z1 ∧ z1 ≤ 3) ∧ (0 ≤ z2 ∧ z2 ≤ 60) then (if σ 34 0 z1 < 0 then NO else σ 41 0 z1) else BAD
def sm_end (σ : Mm) (z1 z2 : Int) : Mm := if ((0 ≤ z1 ∧ z1 ≤ 3) ∧ (0 ≤ z2 ∧ z2 ≤ 60)) ∧ 0 ≤ σ 34 0 z1 then up σ 41 0 z1 z2 else σ
def abM (σ : Mm) (s w : Int) : Int := if w = 0 then σ 34 0 s else if w = 1 then σ 35 0 s else if w = 2 then σ 36 0 s else if w = 3 then inM σ s else if w = 4 then outM σ s else if w = 5 then lossM σ s else if w = 6 then σ 40 0 s else if w = 7 then floM σ s else if w = 8 then topM σ s else if w = 9 then σ 41 0 s else σ 42 0 s
def rm_about (σ : Mm) (z1 z2 : Int) : Int := if (0 ≤ z1 ∧ z1 ≤ 3) ∧ (0 ≤ z2 ∧ z2 ≤ 10) then (if σ 34 0 z1 < 0 then NO else abM σ z1 z2) else BAD
def rm_isOf (σ : Mm) (z1 z2 : Int) : Int := if (0 ≤ z1 ∧ z1 ≤ 3) ∧ (0 ≤ z2 ∧ z2 ≤ 4) then (if σ 34 0 z1 < 0 then NO else isPd (σ 34 0 z1) z2) else BAD
def rm_put (σ : Mm) (z1 z2 z3 : Int) : Int := if 0 ≤ z1 ∧ z1 ≤ 3 then (if σ 34 0 z1 < 0 then NO else if 0 ≤ z2 ∧ z2 ≤ σ 28 0 0 - 1 then (if -100 ≤ z3 ∧ z3 ≤ 100 then σ 43 0 (36 * z1 + z2) else BAD) else INDEX) else BAD
def sm_put (σ : Mm) (z1 z2 z3 : Int) : Mm := if (0 ≤ z1 ∧ z1 ≤ 3) ∧ 0 ≤ σ 34 0 z1 ∧ (0 ≤ z2 ∧ z2 ≤ σ 28 0 0 - 1) ∧ (-100 ≤ z3 ∧ z3 ≤ 100) then up σ 43 0 (36 * z1 + z2) z3 else σ
def rm_planned (σ : Mm) (z1 z2 : Int) : Int := if 0 ≤ z1 ∧ z1 ≤ 3 then (if σ 34 0 z1 < 0 then NO else if 0 ≤ z2 ∧ z2 ≤ σ 28 0 0 - 1 then σ 43 0 (36 * z1 + z2) else INDEX) else BAD
def bhM (σ : Mm) (s t : Int) : Int := σ 36 0 s + sm (fun k => σ 43 0 (36 * s + k)) (t + 1)
def rm_behind (σ : Mm) (z1 z2 : Int) : Int := if 0 ≤ z1 ∧ z1 ≤ 3 then (if σ 34 0 z1 < 0 then NO else if z2 = -1 ∨ (0 ≤ z2 ∧ z2 ≤ σ 28 0 0 - 1) then bhM σ z1 z2 else INDEX) else BAD
/-- WHY a number d at step t with the charge c behind it is not allowed -/
def ftM (σ : Mm) (s t d c : Int) : Int := if σ 29 0 t ≠ 0 ∧ d ≠ 0 then 1 else if d ≠ 0 ∧ (inM σ s - rmM σ t < d ∨ d < rmM σ t - outM σ s) then 2 else if c < floM σ s + rmM σ t then 3 else if topM σ s - rmM σ t < c then 4 else if t = σ 28 0 0 - 1 ∧ c < σ 41 0 s then 5 else 0
def whM (σ : Mm) (s : Int) : Int := fst (fun t => ftM σ s t (σ 43 0 (36 * s + t)) (bhM σ s t)) 0 (σ 28 0 0).toNat
def rm_why (σ : Mm) (z1 : Int) : Int := if 0 ≤ z1 ∧ z1 ≤ 3 then (if σ 34 0 z1 < 0 then NO else whM σ z1) else BAD
def mnM (σ : Mm) (s w : Int) : Int := sm (fun t => monM σ s (σ 43 0 (36 * s + t)) (pM σ w t)) (σ 28 0 0)
def rm_money (σ : Mm) (z1 z2 : Int) : Int := if (0 ≤ z1 ∧ z1 ≤ 3) ∧ (0 ≤ z2 ∧ z2 ≤ 3) then (if σ 34 0 z1 < 0 then NO else mnM σ z1 z2) else BAD
def okBid (T z1 z2 z3 z4 : Int) : Prop := (0 ≤ z1 ∧ z1 ≤ T - 1) ∧ (0 ≤ z2 ∧ z2 ≤ T - 1) ∧ z1 ≤ z2 ∧ (-20 ≤ z3 ∧ z3 ≤ 20) ∧ z3 ≠ 0 ∧ (-10000 ≤ z4 ∧ z4 ≤ 10000)
def rm_bid (σ : Mm) (z1 z2 z3 z4 : Int) : Int := if (0 ≤ z1 ∧ z1 ≤ σ 28 0 0 - 1) ∧ (0 ≤ z2 ∧ z2 ≤ σ 28 0 0 - 1) ∧ z1 ≤ z2 ∧ (-20 ≤ z3 ∧ z3 ≤ 20) ∧ z3 ≠ 0 ∧ (-10000 ≤ z4 ∧ z4 ≤ 10000) then (if σ 28 0 17 = 12 then FULL else σ 28 0 17) else BAD
def sm_bid (σ : Mm) (z1 z2 z3 z4 : Int) : Mm := if ((0 ≤ z1 ∧ z1 ≤ σ 28 0 0 - 1) ∧ (0 ≤ z2 ∧ z2 ≤ σ 28 0 0 - 1) ∧ z1 ≤ z2 ∧ (-20 ≤ z3 ∧ z3 ≤ 20) ∧ z3 ≠ 0 ∧ (-10000 ≤ z4 ∧ z4 ≤ 10000)) ∧ σ 28 0 17 ≠ 12 then up (up (up (up (up σ 44 0 (4 * σ 28 0 17) z1) 44 0 (4 * σ 28 0 17 + 1) z2) 44 0 (4 * σ 28 0 17 + 2) z3) 44 0 (4 * σ 28 0 17 + 3) z4) 28 0 17 (σ 28 0 17 + 1) else σ
def rm_unbid (σ : Mm) : Int := if σ 28 0 17 = 0 then NO else σ 28 0 17 - 1
def sm_unbid (σ : Mm) : Mm := if σ 28 0 17 = 0 then σ else up σ 28 0 17 (σ 28 0 17 - 1)
/-- a bid is taken -/
def tkM (σ : Mm) (b w : Int) : Int := sm (fun k => pM σ w (σ 44 0 (4 * b) + k) - σ 44 0 (4 * b + 3)) (σ 44 0 (4 * b + 1) - σ 44 0 (4 * b) + 1)
abbrev takM (σ : Mm) (b w : Int) : Prop := (σ 44 0 (4 * b + 2) < 0 ∧ 0 ≤ tkM σ b w) ∨ (¬ σ 44 0 (4 * b + 2) < 0 ∧ tkM σ b w ≤ 0)
def takMi (σ : Mm) (b w : Int) : Int := bI (takM σ b w)
def rm_taken (σ : Mm) (z1 z2 : Int) : Int := if (0 ≤ z1 ∧ z1 ≤ σ 28 0 17 - 1) ∧ (0 ≤ z2 ∧ z2 ≤ 3) then takMi σ z1 z2 else BAD
def waM (σ : Mm) (w t : Int) : Int := sm (fun b => if (σ 44 0 (4 * b) ≤ t ∧ t ≤ σ 44 0 (4 * b + 1)) ∧ takM σ b w then σ 44 0 (4 * b + 2) else 0) (σ 28 0 17)
def rm_wanted (σ : Mm) (z1 z2 : Int) : Int := if 0 ≤ z1 ∧ z1 ≤ 3 then (if 0 ≤ z2 ∧ z2 ≤ σ 28 0 0 - 1 then waM σ z1 z2 else INDEX) else BAD
def rm_meter (σ : Mm) (z1 z2 : Int) : Int := if (0 ≤ z1 ∧ z1 ≤ 35) ∧ (-1001 ≤ z2 ∧ z2 ≤ 1000) then σ 45 0 z1 else BAD
def sm_meter (σ : Mm) (z1 z2 : Int) : Mm := if (0 ≤ z1 ∧ z1 ≤ 35) ∧ (-1001 ≤ z2 ∧ z2 ≤ 1000) then up σ 45 0 z1 z2 else σ
def rm_row (σ : Mm) (z1 z2 : Int) : Int := if (0 ≤ z1 ∧ z1 ≤ σ 28 0 20 - 1) ∧ (0 ≤ z2 ∧ z2 ≤ 4) then σ 46 0 (5 * z1 + z2) else BAD
def rm_forge (σ : Mm) (z1 z2 z3 : Int) : Int := if (0 ≤ z1 ∧ z1 ≤ σ 28 0 20 - 1) ∧ (3 ≤ z2 ∧ z2 ≤ 4) ∧ (z2 = 3 → -100 ≤ z3 ∧ z3 ≤ 100) then σ 46 0 (5 * z1 + z2) else BAD
def sm_forge (σ : Mm) (z1 z2 z3 : Int) : Mm := if (0 ≤ z1 ∧ z1 ≤ σ 28 0 20 - 1) ∧ (3 ≤ z2 ∧ z2 ≤ 4) ∧ (z2 = 3 → -100 ≤ z3 ∧ z3 ≤ 100) then up σ 46 0 (5 * z1 + z2) z3 else σ
def rm_shut (σ : Mm) : Int := σ 28 0 20
def sm_shut (σ : Mm) : Mm := up σ 28 0 20 0
def rm_warrant (σ : Mm) (z1 z2 : Int) : Int := if (0 ≤ z1 ∧ z1 ≤ 3) ∧ (0 ≤ z2 ∧ z2 ≤ 100000) then (if σ 34 0 z1 < 0 then NO else σ 42 0 z1) else BAD
def sm_warrant (σ : Mm) (z1 z2 : Int) : Mm := if ((0 ≤ z1 ∧ z1 ≤ 3) ∧ (0 ≤ z2 ∧ z2 ≤ 100000)) ∧ 0 ≤ σ 34 0 z1 then up σ 42 0 z1 z2 else σ
theorem bM {σ : Mm} (h : MSt σ) (s : Int) : (0 ≤ floM σ s ∧ floM σ s ≤ 6) ∧ (0 ≤ topM σ s ∧ topM σ s ≤ 60) ∧ (0 ≤ inM σ s ∧ inM σ s ≤ 40) ∧ (0 ≤ outM σ s ∧ outM σ s ≤ 40) ∧ (0 ≤ lossM σ s ∧ lossM σ s ≤ 50) := by
  have q := h s
  unfold floM topM inM outM lossM
  refine ⟨?_, ?_, ?_, ?_, ?_⟩ <;> split <;> omega
theorem rmM_b {σ : Mm} (h : MK σ) (t : Int) : 0 ≤ rmM σ t ∧ rmM σ t ≤ 10 := by
  unfold rmM
  split
  · exact h t
  · omega
theorem bhM_b {σ : Mm} (hS : MSt σ) (hL : ML σ) (s : Int) {t : Int} (h0 : -1 ≤ t) (h1 : t < 36) : -3700 ≤ bhM σ s t ∧ bhM σ s t ≤ 3700 := by
  have q := hS s
  have b := sm_b (f := fun k => σ 43 0 (36 * s + k)) (a := -100) (b := 100) (n := t + 1) (by omega) (fun k _ _ => hL _)
  unfold bhM
  omega
theorem bhM_s {σ : Mm} {s t : Int} (h : -1 ≤ t) : bhM σ s (t + 1) = bhM σ s t + σ 43 0 (36 * s + (t + 1)) := by
  unfold bhM
  rw [sm_s (by omega)]
  (try dsimp only)
  omega
def cnM (σ : Mm) (t : Int) : Int := cnF (σ 45 0 t) (nr (fun k => σ 45 0 k) (-1) 37 (t + -1)) (nr (fun k => σ 45 0 k) 1 37 (t + 1))
def rm_counts (σ : Mm) (z1 : Int) : Int := if 0 ≤ z1 ∧ z1 ≤ 35 then cnM σ z1 else BAD
def rm_time (σ : Mm) (z1 : Int) : Int := if 1 ≤ z1 ∧ z1 ≤ 36 then σ 28 0 17 else BAD
def sm_time (σ : Mm) (z1 : Int) : Mm := if 1 ≤ z1 ∧ z1 ≤ 36 then fillR (up (up σ 28 0 0 z1) 28 0 17 0) 43 0 0 144 0 else σ
def rm_world (σ : Mm) (z1 z2 z3 : Int) : Int := if (0 ≤ z1 ∧ z1 ≤ 3) ∧ (0 ≤ z2 ∧ z2 ≤ 2) ∧ z3 ≤ 36 then (if z3 < 0 then SIZE else z3) else BAD
def sm_world (σ : Mm) (z1 z2 z3 : Int) : Mm := if ((0 ≤ z1 ∧ z1 ≤ 3) ∧ (0 ≤ z2 ∧ z2 ≤ 2) ∧ z3 ≤ 36) ∧ 0 ≤ z3 then fillR (up (up σ 31 0 z1 z2) 32 0 z1 z3) 33 0 (36 * z1) (36 * z1 + 36) 0 else σ
def rm_copy (σ : Mm) (z1 z2 z3 z4 z5 : Int) : Int := if (0 ≤ z1 ∧ z1 ≤ 3) ∧ (0 ≤ z3 ∧ z3 ≤ 3) then (if σ 31 0 z1 < 0 ∨ σ 31 0 z3 < 0 then NOTHING else if σ 31 0 z1 = σ 31 0 z3 then (if 0 ≤ z5 ∧ 0 ≤ z2 ∧ 0 ≤ z4 ∧ z2 + z5 ≤ σ 32 0 z1 ∧ z4 + z5 ≤ σ 32 0 z3 then z5 else INDEX) else NO) else BAD
def sm_copy (σ : Mm) (z1 z2 z3 z4 z5 : Int) : Mm := if ((0 ≤ z1 ∧ z1 ≤ 3) ∧ (0 ≤ z3 ∧ z3 ≤ 3)) ∧ (0 ≤ σ 31 0 z1 ∧ 0 ≤ σ 31 0 z3) ∧ σ 31 0 z1 = σ 31 0 z3 ∧ (0 ≤ z5 ∧ 0 ≤ z2 ∧ 0 ≤ z4 ∧ z2 + z5 ≤ σ 32 0 z1 ∧ z4 + z5 ≤ σ 32 0 z3) then cpyA (cpyA σ 33 0 (36 * z1 + z2) 47 0 0 z5) 47 0 0 33 0 (36 * z3 + z4) z5 else σ
theorem cpyA_0 (σ : Mm) (a : Nat) (i sp : Int) (b : Nat) (j dp : Int) : cpyA σ a i sp b j dp 0 = σ := by
  funext c k y
  unfold cpyA
  rw [if_neg (by omega)]
theorem cpyA_up {σ : Mm} {a : Nat} {i sp : Int} {b : Nat} {j dp n : Int} (h : 0 ≤ n) : up (cpyA σ a i sp b j dp n) b j (dp + n) (σ a i (sp + n)) = cpyA σ a i sp b j dp (n + 1) := by
  funext c k y
  unfold up cpyA
  by_cases h1 : c = b ∧ k = j
  · by_cases h2 : y = dp + n
    · rw [if_pos ⟨h1.1, h1.2, h2⟩, if_pos ⟨h1.1, h1.2, by omega, by omega⟩, show y - dp = n by omega]
    · rw [if_neg (fun q => h2 q.2.2)]
      by_cases h3 : dp ≤ y ∧ y < dp + n
      · rw [if_pos ⟨h1.1, h1.2, h3.1, h3.2⟩, if_pos ⟨h1.1, h1.2, by omega, by omega⟩]
      · rw [if_neg (fun q => h3 q.2.2), if_neg (fun q => h3 ⟨q.2.2.1, by omega⟩)]
  · rw [if_neg (fun q => h1 ⟨q.1, q.2.1⟩), if_neg (fun q => h1 ⟨q.1, q.2.1⟩), if_neg (fun q => h1 ⟨q.1, q.2.1⟩)]
abbrev okSt (z1 z2 z3 z4 z5 : Int) : Prop := ((0 ≤ z1 ∧ z1 ≤ 3) ∧ (0 ≤ z2 ∧ z2 ≤ 4) ∧ (1 ≤ z3 ∧ z3 ≤ 60)) ∧ ((21 ≤ z4 ∧ z4 ≤ 440) ∧ (1 ≤ z4 / 21 ∧ z4 / 21 ≤ 20) ∧ (1 ≤ z4 % 21 ∧ z4 % 21 ≤ 20)) ∧ ((0 ≤ z5 ∧ z5 ≤ 5150) ∧ (0 ≤ z5 / 101 ∧ z5 / 101 ≤ 50))
def rm_store (z1 z2 z3 z4 z5 : Int) : Int := if okSt z1 z2 z3 z4 z5 then 0 else BAD
def sm_store0 (σ : Mm) (z1 z2 z3 z4 z5 : Int) : Mm := up (up (up (up (up (up (up (up (up σ 34 0 z1 z2) 35 0 z1 z3) 37 0 z1 (z4 / 21)) 38 0 z1 (z4 % 21)) 39 0 z1 (z5 / 101)) 40 0 z1 (z5 % 101)) 41 0 z1 0) 42 0 z1 100000) 36 0 z1 (if z2 = 4 then z3 / 10 else 0)
def sm_store (σ : Mm) (z1 z2 z3 z4 z5 : Int) : Mm := if okSt z1 z2 z3 z4 z5 then fillR (sm_store0 σ z1 z2 z3 z4 z5) 43 0 (36 * z1) (36 * z1 + 36) 0 else σ
/-- filled step by step: the charge ahead of step n, if g tells what is done at a step with a charge -/
def chg (g : Int → Int → Int) (c0 : Int) : Nat → Int
  | 0 => c0
  | n + 1 => chg g c0 n + g n (chg g c0 n)
def chI (g : Int → Int → Int) (c0 t : Int) : Int := chg g c0 t.toNat
theorem chI_s {g : Int → Int → Int} {c0 t : Int} (h : 0 ≤ t) : chI g c0 (t + 1) = chI g c0 t + g t (chI g c0 t) := by
  unfold chI
  rw [show (t + 1).toNat = t.toNat + 1 by omega]
  show chg g c0 t.toNat + g t.toNat (chg g c0 t.toNat) = _
  rw [Int.toNat_of_nonneg h]
/-- a row whose places from base on hold what is done -/
def plW (σ : Mm) (a : Nat) (i base : Int) (h : Int → Int) (t : Int) : Mm := fun b j y => if b = a ∧ j = i ∧ base ≤ y ∧ y < base + t then h (y - base) else σ b j y
theorem plW_0 (σ : Mm) (a : Nat) (i base : Int) (h : Int → Int) : plW σ a i base h 0 = σ := by
  funext b j y
  unfold plW
  rw [if_neg (by omega)]
theorem plW_up {σ : Mm} {a : Nat} {i base t v : Int} {h : Int → Int} (h0 : 0 ≤ t) (hv : v = h t) : up (plW σ a i base h t) a i (base + t) v = plW σ a i base h (t + 1) := by
  subst hv
  funext c k y
  unfold up plW
  by_cases h1 : c = a ∧ k = i
  · by_cases h2 : y = base + t
    · rw [if_pos ⟨h1.1, h1.2, h2⟩, if_pos ⟨h1.1, h1.2, by omega, by omega⟩, show y - base = t by omega]
    · rw [if_neg (fun q => h2 q.2.2)]
      by_cases h3 : base ≤ y ∧ y < base + t
      · rw [if_pos ⟨h1.1, h1.2, h3.1, h3.2⟩, if_pos ⟨h1.1, h1.2, by omega, by omega⟩]
      · rw [if_neg (fun q => h3 q.2.2), if_neg (fun q => h3 ⟨q.2.2.1, by omega⟩)]
  · rw [if_neg (fun q => h1 ⟨q.1, q.2.1⟩), if_neg (fun q => h1 ⟨q.1, q.2.1⟩), if_neg (fun q => h1 ⟨q.1, q.2.1⟩)]
def btw (v lo hi : Int) : Int := if v < lo then lo else if hi < v then hi else v
def dnM (σ : Mm) (s w t c : Int) : Int := btw (if σ 29 0 t = 0 then btw (waM σ w t) (-outM σ s) (inM σ s) else 0) (floM σ s - c) (topM σ s - c)
def fcM (σ : Mm) (s w t : Int) : Int := chI (dnM σ s w) (σ 36 0 s) t
def fdM (σ : Mm) (s w t : Int) : Int := dnM σ s w t (fcM σ s w t)
def absd (a b : Int) : Int := if b < a then a - b else b - a
def fmM (σ : Mm) (s w t : Int) : Int := sm (fun k => absd (waM σ w k) (fdM σ s w k)) t
def rm_fill (σ : Mm) (z1 z2 : Int) : Int := if (0 ≤ z1 ∧ z1 ≤ 3) ∧ (0 ≤ z2 ∧ z2 ≤ 3) then (if σ 34 0 z1 < 0 then NO else fmM σ z1 z2 (σ 28 0 0)) else BAD
def sm_fill (σ : Mm) (z1 z2 : Int) : Mm := if ((0 ≤ z1 ∧ z1 ≤ 3) ∧ (0 ≤ z2 ∧ z2 ≤ 3)) ∧ 0 ≤ σ 34 0 z1 then plW σ 43 0 (36 * z1) (fdM σ z1 z2) (σ 28 0 0) else σ
theorem waM_b {σ : Mm} (hD : MD σ) (w t : Int) : -240 ≤ waM σ w t ∧ waM σ w t ≤ 240 := by
  have q := hD.1
  have b := sm_b (f := fun b => if (σ 44 0 (4 * b) ≤ t ∧ t ≤ σ 44 0 (4 * b + 1)) ∧ takM σ b w then σ 44 0 (4 * b + 2) else 0) (a := -20) (b := 20) (n := σ 28 0 17) (by omega) (fun k _ _ => by have d := hD.2 k; (try dsimp only); split <;> omega)
  unfold waM
  omega
/-- the book -/
def bkE (s w k d m e : Int) : Int := if e = 0 then s else if e = 1 then w else if e = 2 then k else if e = 3 then d else m
def lvM (σ : Mm) (s w t : Int) : Mm := fun b j y => if b = 46 ∧ j = 0 ∧ 5 * σ 28 0 20 ≤ y ∧ y < 5 * (σ 28 0 20 + t) then bkE s w ((y - 5 * σ 28 0 20) / 5) (σ 43 0 (36 * s + (y - 5 * σ 28 0 20) / 5)) (monM σ s (σ 43 0 (36 * s + (y - 5 * σ 28 0 20) / 5)) (pM σ w ((y - 5 * σ 28 0 20) / 5))) ((y - 5 * σ 28 0 20) % 5) else if b = 28 ∧ j = 0 ∧ y = 20 then σ 28 0 20 + t else σ b j y
theorem lvM_0 (σ : Mm) (s w : Int) : lvM σ s w 0 = σ := by
  funext b j y
  unfold lvM
  rw [if_neg (by omega)]
  split
  · rename_i h
    obtain ⟨rfl, rfl, rfl⟩ := h
    omega
  · rfl
theorem lvM_up {σ : Mm} {s w t d m : Int} (h0 : 0 ≤ t) (hd : d = σ 43 0 (36 * s + t)) (hm : m = monM σ s (σ 43 0 (36 * s + t)) (pM σ w t)) :
    up (up (up (up (up (up (lvM σ s w t) 46 0 (5 * (σ 28 0 20 + t)) s) 46 0 (5 * (σ 28 0 20 + t) + 1) w) 46 0 (5 * (σ 28 0 20 + t) + 2) t) 46 0 (5 * (σ 28 0 20 + t) + 3) d) 46 0 (5 * (σ 28 0 20 + t) + 4) m) 28 0 20 (σ 28 0 20 + t + 1) = lvM σ s w (t + 1) := by
  subst hd; subst hm
  funext b j y
  by_cases hb : b = 46 ∧ j = 0
  · obtain ⟨rfl, rfl⟩ := hb
    unfold up lvM
    simp only [true_and, show ((46 : Nat) = 28) = False by simp, false_and, if_false]
    by_cases h4 : y = 5 * (σ 28 0 20 + t) + 4
    · rw [if_pos h4, if_pos (by omega), show (y - 5 * σ 28 0 20) / 5 = t by omega, show (y - 5 * σ 28 0 20) % 5 = 4 by omega]; rfl
    rw [if_neg h4]
    by_cases h3 : y = 5 * (σ 28 0 20 + t) + 3
    · rw [if_pos h3, if_pos (by omega), show (y - 5 * σ 28 0 20) / 5 = t by omega, show (y - 5 * σ 28 0 20) % 5 = 3 by omega]; rfl
    rw [if_neg h3]
    by_cases h2 : y = 5 * (σ 28 0 20 + t) + 2
    · rw [if_pos h2, if_pos (by omega), show (y - 5 * σ 28 0 20) / 5 = t by omega, show (y - 5 * σ 28 0 20) % 5 = 2 by omega]; rfl
    rw [if_neg h2]
    by_cases h1 : y = 5 * (σ 28 0 20 + t) + 1
    · rw [if_pos h1, if_pos (by omega), show (y - 5 * σ 28 0 20) / 5 = t by omega, show (y - 5 * σ 28 0 20) % 5 = 1 by omega]; rfl
    rw [if_neg h1]
    by_cases h0 : y = 5 * (σ 28 0 20 + t)
    · rw [if_pos h0, if_pos (by omega), show (y - 5 * σ 28 0 20) / 5 = t by omega, show (y - 5 * σ 28 0 20) % 5 = 0 by omega]; rfl
    rw [if_neg h0]
    by_cases hr : 5 * σ 28 0 20 ≤ y ∧ y < 5 * (σ 28 0 20 + t)
    · rw [if_pos hr, if_pos (by omega)]
    · rw [if_neg hr, if_neg (by omega)]
  · by_cases hc : b = 28 ∧ j = 0 ∧ y = 20
    · obtain ⟨rfl, rfl, rfl⟩ := hc
      unfold up lvM
      simp
      omega
    · unfold up lvM
      rw [if_neg hc, if_neg (fun q => hb ⟨q.1, q.2.1⟩), if_neg (fun q => hb ⟨q.1, q.2.1⟩), if_neg (fun q => hb ⟨q.1, q.2.1⟩), if_neg (fun q => hb ⟨q.1, q.2.1⟩), if_neg (fun q => hb ⟨q.1, q.2.1⟩), if_neg (fun q => hb ⟨q.1, q.2.1⟩), if_neg hc, if_neg (fun q => hb ⟨q.1, q.2.1⟩), if_neg hc]
def rm_live (σ : Mm) (z1 z2 : Int) : Int := if (0 ≤ z1 ∧ z1 ≤ 3) ∧ (0 ≤ z2 ∧ z2 ≤ 3) then (if σ 34 0 z1 < 0 ∨ whM σ z1 ≠ NONE then NO else if 150 < σ 28 0 20 + σ 28 0 0 then FULL else σ 28 0 20 + σ 28 0 0) else BAD
def sm_live (σ : Mm) (z1 z2 : Int) : Mm := if ((0 ≤ z1 ∧ z1 ≤ 3) ∧ (0 ≤ z2 ∧ z2 ≤ 3)) ∧ ¬ (σ 34 0 z1 < 0 ∨ whM σ z1 ≠ NONE) ∧ σ 28 0 20 + σ 28 0 0 ≤ 150 then up (lvM σ z1 z2 (σ 28 0 0)) 36 0 z1 (bhM σ z1 (σ 28 0 0 - 1)) else σ
/-- the first place of [t, t + n) at which f is not 0 -/
def fsr (f : Int → Int) : Int → Nat → Int
  | _, 0 => NONE
  | t, n + 1 => if f t = 0 then fsr f (t + 1) n else t
theorem fsr_stop {f : Int → Int} {t T : Int} (h : t < T) (hf : ¬ f t = 0) : fsr f t (T - t).toNat = t := by
  rw [show (T - t).toNat = (T - (t + 1)).toNat + 1 by omega]
  show (if f t = 0 then _ else _) = _
  rw [if_neg hf]
theorem fsr_go {f : Int → Int} {t T : Int} (h : t < T) (hf : f t = 0) : fsr f t (T - t).toNat = fsr f (t + 1) (T - (t + 1)).toNat := by
  rw [show (T - t).toNat = (T - (t + 1)).toNat + 1 by omega]
  show (if f t = 0 then _ else _) = _
  rw [if_pos hf]
theorem fsr_end {f : Int → Int} {t T : Int} (h : T ≤ t) : fsr f t (T - t).toNat = NONE := by
  rw [show (T - t).toNat = 0 by omega]
  rfl
theorem fsr_c {f g : Int → Int} : ∀ {n : Nat} {t : Int}, (∀ k : Int, t ≤ k → k < t + n → (f k = 0 ↔ g k = 0)) → fsr f t n = fsr g t n
  | 0, _, _ => rfl
  | n + 1, t, h => by
    show (if f t = 0 then fsr f (t + 1) n else t) = (if g t = 0 then fsr g (t + 1) n else t)
    rw [fsr_c (n := n) (t := t + 1) (fun k h0 h1 => h k (by omega) (by omega))]
    by_cases q : f t = 0
    · rw [if_pos q, if_pos ((h t (by omega) (by omega)).mp q)]
    · rw [if_neg q, if_neg (fun z => q ((h t (by omega) (by omega)).mpr z))]
def nbM (σ : Mm) (s k : Int) : Int := if σ 46 0 (5 * k) = s then σ 46 0 (5 * k + 3) else 0
def ahM (σ : Mm) (s i : Int) : Int := σ 36 0 s - (sm (nbM σ s) (σ 28 0 20) - sm (nbM σ s) i)
theorem nbM_b {σ : Mm} (hR : MR σ) (s k : Int) : -100 ≤ nbM σ s k ∧ nbM σ s k ≤ 100 := by
  have q := hR.2 k
  unfold nbM
  split <;> omega
theorem ahM_b {σ : Mm} (hR : MR σ) (hS : MSt σ) (s : Int) {i : Int} (h0 : 0 ≤ i) (h1 : i ≤ 150) : -40000 ≤ ahM σ s i ∧ ahM σ s i ≤ 40000 := by
  have q := hR.1
  have q2 := hS s
  have a := sm_b (f := nbM σ s) (a := -100) (b := 100) (n := σ 28 0 20) (by omega) (fun k _ _ => nbM_b hR s k)
  have b := sm_b (f := nbM σ s) (a := -100) (b := 100) (n := i) h0 (fun k _ _ => nbM_b hR s k)
  unfold ahM
  omega
/-- whether a row is not right: 1 -/
def wrM (σ : Mm) (i : Int) : Int := if σ 34 0 (σ 46 0 (5 * i)) < 0 then 0 else if σ 46 0 (5 * i + 4) = monM σ (σ 46 0 (5 * i)) (σ 46 0 (5 * i + 3)) (pM σ (σ 46 0 (5 * i + 1)) (σ 46 0 (5 * i + 2))) ∧ (0 ≤ ahM σ (σ 46 0 (5 * i)) i ∧ ahM σ (σ 46 0 (5 * i)) i ≤ σ 35 0 (σ 46 0 (5 * i))) then 0 else 1
def rm_check (σ : Mm) : Int := fsr (wrM σ) 0 (σ 28 0 20).toNat
def szM (σ : Mm) (s k : Int) : Int := if σ 46 0 (5 * k) = s then (if σ 46 0 (5 * k + 3) < 0 then -σ 46 0 (5 * k + 3) else σ 46 0 (5 * k + 3)) else 0
def vdM (σ : Mm) (s i : Int) : Int := if σ 42 0 s < sm (szM σ s) (i + 1) then 1 else 0
def rm_voided (σ : Mm) (z1 : Int) : Int := if 0 ≤ z1 ∧ z1 ≤ 3 then (if σ 34 0 z1 < 0 then NO else fsr (vdM σ z1) 0 (σ 28 0 20).toNat) else BAD
def rm_count (σ : Mm) (z1 : Int) : Int := if z1 = 0 then sm (fun k => if σ 34 0 k < 0 then 0 else 1) 4 else if z1 = 1 then σ 28 0 0 else if z1 = 2 then σ 28 0 17 else if z1 = 3 then σ 28 0 20 else if z1 = 4 then sm (fun k => if σ 31 0 k < 0 then 0 else 1) 4 else if z1 = 5 then sm (fun k => if σ 45 0 k = -1001 then 0 else 1) 36 else if z1 = 6 then sm (fun k => if σ 29 0 k = 0 then 0 else 1) (σ 28 0 0) else if z1 = 7 then sm (fun k => σ 46 0 (5 * k + 4)) (σ 28 0 20) else BAD
/-- some worlds -/
def sel (ws w : Int) : Int := band (bshr ws w) 1
def wAn (ws : Int) : Nat → Int
  | 0 => 0
  | n + 1 => if sel ws n = 1 then 1 else wAn ws n
def wLe (ws : Int) (m : Int → Int) : Nat → Int
  | 0 => 0
  | n + 1 => if sel ws n = 1 then (if wAn ws n = 0 ∨ m n < wLe ws m n then m n else wLe ws m n) else wLe ws m n
def rm_worst (σ : Mm) (z1 z2 : Int) : Int := if (0 ≤ z1 ∧ z1 ≤ 3) ∧ (1 ≤ z2 ∧ z2 ≤ 15) then (if σ 34 0 z1 < 0 then NO else wLe z2 (fun w => mnM σ z1 w) 4) else BAD
def mtM (σ : Mm) (s ws t d : Int) : Int := sm (fun w => if sel ws w = 1 then monM σ s d (pM σ w t) else 0) 4
theorem mul_b {x y A B : Int} (hA : 0 ≤ A) (hx : -A ≤ x ∧ x ≤ A) (hy : 0 ≤ y ∧ y ≤ B) : -(A * B) ≤ x * y ∧ x * y ≤ A * B := by
  have h1 : x * y ≤ A * y := Int.mul_le_mul_of_nonneg_right hx.2 hy.1
  have h2 : A * y ≤ A * B := Int.mul_le_mul_of_nonneg_left hy.2 hA
  have h3 : -A * y ≤ x * y := Int.mul_le_mul_of_nonneg_right hx.1 hy.1
  rw [Int.neg_mul] at h3
  omega
theorem mon_b {loss wear d p : Int} (hl : 0 ≤ loss ∧ loss ≤ 50) (hw : 0 ≤ wear ∧ wear ≤ 100) (hd : -100 ≤ d ∧ d ≤ 100) (hp : -40000 ≤ p ∧ p ≤ 40000) : -8000000 ≤ mon loss wear d p ∧ mon loss wear d p ≤ 8000000 := by
  unfold mon
  split
  · have q := mul_b (x := loss) (y := d) (A := 50) (B := 100) (by omega) (by omega) (by omega)
    rw [Int.mul_comm loss d] at q
    have q0 : 0 ≤ d * loss := Int.mul_nonneg (by omega) (by omega)
    have r := mul_b (x := -p) (y := d + (d * loss + 99) / 100) (A := 40000) (B := 151) (by omega) (by omega) (by omega)
    omega
  · have r := mul_b (x := p - wear) (y := -d) (A := 40100) (B := 100) (by omega) (by omega) (by omega)
    omega
theorem monM_b {σ : Mm} (hS : MSt σ) (s : Int) {d p : Int} (hd : -100 ≤ d ∧ d ≤ 100) (hp : -10000 ≤ p ∧ p ≤ 10000) : -8000000 ≤ monM σ s d p ∧ monM σ s d p ≤ 8000000 :=
  mon_b (by have := bM hS s; omega) (by have := hS s; omega) hd (by omega)
theorem mnM_b {σ : Mm} (hS : MSt σ) (hL : ML σ) (hP : MP σ) (hT : MT σ) (s w : Int) : -288000000 ≤ mnM σ s w ∧ mnM σ s w ≤ 288000000 := by
  have a1 := hT.1
  have a2 := hT.2
  have b := sm_b (f := fun t => monM σ s (σ 43 0 (36 * s + t)) (pM σ w t)) (a := -8000000) (b := 8000000) (n := σ 28 0 0) (by omega) (fun k _ _ => monM_b hS s (hL _) (pM_b hP w k))
  unfold mnM
  omega
theorem dnM_b {σ : Mm} (hS : MSt σ) (hD : MD σ) (s w t : Int) {c : Int} (h0 : floM σ s ≤ c) (h1 : c ≤ topM σ s) : floM σ s ≤ c + dnM σ s w t c ∧ c + dnM σ s w t c ≤ topM σ s ∧ -60 ≤ dnM σ s w t c ∧ dnM σ s w t c ≤ 60 := by
  have a := bM hS s
  unfold dnM
  generalize (if σ 29 0 t = 0 then btw (waM σ w t) (-outM σ s) (inM σ s) else 0) = v
  unfold btw
  (repeat' split) <;> omega
theorem fcM_b {σ : Mm} (hS : MSt σ) (hD : MD σ) (s w : Int) (h0 : floM σ s ≤ σ 36 0 s) (h1 : σ 36 0 s ≤ topM σ s) : ∀ n : Nat, floM σ s ≤ chg (dnM σ s w) (σ 36 0 s) n ∧ chg (dnM σ s w) (σ 36 0 s) n ≤ topM σ s
  | 0 => ⟨h0, h1⟩
  | n + 1 => by
    have i := fcM_b hS hD s w h0 h1 n
    have q := dnM_b hS hD s w n i.1 i.2
    exact ⟨q.1, q.2.1⟩
theorem wAn_01 (ws : Int) : ∀ n : Nat, wAn ws n = 0 ∨ wAn ws n = 1
  | 0 => Or.inl rfl
  | n + 1 => by
    unfold wAn
    split
    · exact Or.inr rfl
    · exact wAn_01 ws n
theorem wLe_b {ws : Int} {m : Int → Int} {B : Int} (hB : 0 ≤ B) (h : ∀ w, -B ≤ m w ∧ m w ≤ B) : ∀ n : Nat, -B ≤ wLe ws m n ∧ wLe ws m n ≤ B
  | 0 => by show -B ≤ 0 ∧ (0 : Int) ≤ B; omega
  | n + 1 => by
    have i := wLe_b (ws := ws) hB h n
    unfold wLe
    split
    · split
      · exact h n
      · exact i
    · exact i
theorem nbM_t {σ : Mm} {s k : Int} (h : σ 46 0 (5 * k) = s) : nbM σ s k = σ 46 0 (5 * k + 3) := by unfold nbM; rw [if_pos h]
theorem nbM_f {σ : Mm} {s k : Int} (h : ¬ σ 46 0 (5 * k) = s) : nbM σ s k = 0 := by unfold nbM; rw [if_neg h]
theorem szM_v (σ : Mm) (s k : Int) : (¬ σ 46 0 (5 * k) = s → szM σ s k = 0) ∧ (σ 46 0 (5 * k) = s → σ 46 0 (5 * k + 3) < 0 → szM σ s k = -σ 46 0 (5 * k + 3)) ∧ (σ 46 0 (5 * k) = s → ¬ σ 46 0 (5 * k + 3) < 0 → szM σ s k = σ 46 0 (5 * k + 3)) := by
  unfold szM
  refine ⟨fun h => by rw [if_neg h], fun h h2 => by rw [if_pos h, if_pos h2], fun h h2 => by rw [if_pos h, if_neg h2]⟩
