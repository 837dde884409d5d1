/-! the class's calls: what they answer, what memory they leave -/
theorem kbC_b {σ : Mm} (h : CK σ) (t : Int) : 0 ≤ kbC σ t ∧ kbC σ t ≤ 10 := by
  unfold kbC
  split
  · exact h t
  · omega
abbrev amC (σ : Mm) (s t d : Int) : Prop := d = 0 ∨ (σ 2 0 t = 0 ∧ (d ≤ σ 8 s 6 - kbC σ t ∧ kbC σ t - σ 8 s 7 ≤ d))
def ftC (σ : Mm) (s t d c : Int) : Int := if d = 0 ∨ (σ 2 0 t = 0 ∧ (d ≤ σ 8 s 6 - kbC σ t ∧ kbC σ t - σ 8 s 7 ≤ d)) then (if c < σ 8 s 4 + kbC σ t then 3 else if σ 8 s 5 - kbC σ t < c then 4 else if t = σ 1 0 0 - 1 ∧ c < σ 8 s 10 then 5 else 0) else (if σ 2 0 t = 0 then 2 else 1)
def bhC (σ : Mm) (s t : Int) : Int := σ 8 s 3 + sm (fun k => σ 9 s k) (t + 1)
theorem bhC_b {σ : Mm} (hS : CS σ) (hL : CL σ) (s : Int) {t : Int} (h0 : -1 ≤ t) (h1 : t < 36) : -3700 ≤ bhC σ s t ∧ bhC σ s t ≤ 3700 := by
  have q := hS s
  have b := sm_b (f := fun k => σ 9 s k) (a := -100) (b := 100) (n := t + 1) (by omega) (fun k _ _ => hL _ _)
  unfold bhC
  omega
def whC (σ : Mm) (s : Int) : Int := fst (fun t => ftC σ s t (σ 9 s t) (bhC σ s t)) 0 (σ 1 0 0).toNat
def mnC (σ : Mm) (s w T : Int) : Int := sm (fun t => monC σ s (σ 9 s t) (pC σ w t)) T
def tkC (σ : Mm) (b w : Int) : Int := sm (fun k => pC σ w (σ 16 0 b + k)) (σ 17 0 b - σ 16 0 b + 1)
abbrev takC (σ : Mm) (b w : Int) : Prop := (σ 18 0 b < 0 ∧ σ 19 0 b * (σ 17 0 b - σ 16 0 b + 1) ≤ tkC σ b w) ∨ (¬ σ 18 0 b < 0 ∧ tkC σ b w ≤ σ 19 0 b * (σ 17 0 b - σ 16 0 b + 1))
def waC (σ : Mm) (w t : Int) : Int := sm (fun b => if (σ 16 0 b ≤ t ∧ t ≤ σ 17 0 b) ∧ takC σ b w then σ 18 0 b else 0) (σ 15 0 0)
theorem waC_b {σ : Mm} (hD : CD σ) (w t : Int) : -240 ≤ waC σ w t ∧ waC σ w t ≤ 240 := by
  have q := hD.1
  have b := sm_b (f := fun b => if (σ 16 0 b ≤ t ∧ t ≤ σ 17 0 b) ∧ takC σ b w then σ 18 0 b else 0) (a := -20) (b := 20) (n := σ 15 0 0) (by omega) (fun k _ _ => by have d := hD.2 k; (try dsimp only); split <;> omega)
  unfold waC
  omega
def psC (σ : Mm) (s v c : Int) : Int := max (max (-σ 8 s 7) (σ 8 s 4 - c)) (min (min (σ 8 s 6) (σ 8 s 5 - c)) v)
def dnC (σ : Mm) (s w t c : Int) : Int := if σ 2 0 t = 0 then psC σ s (waC σ w t) c else 0
def fcC (σ : Mm) (s w t : Int) : Int := chI (dnC σ s w) (σ 8 s 3) t
def fdC (σ : Mm) (s w t : Int) : Int := dnC σ s w t (fcC σ s w t)
def absC (a : Int) : Int := if 0 ≤ a then a else 0 - a
def fmC (σ : Mm) (s w t : Int) : Int := sm (fun k => absC (waC σ w k - fdC σ s w k)) t
def cnC (σ : Mm) (t : Int) : Int := cnF (σ 21 0 t) (nr (fun k => σ 21 0 k) (-1) 37 (t - 1)) (nr (fun k => σ 21 0 k) 1 37 (t + 1))
def bcF1 (z : Int) : Int := z - band (bushr z 1) 1431655765
def bcF2 (z : Int) : Int := band (bcF1 z) 858993459 + band (bushr (bcF1 z) 2) 858993459
def bcF3 (z : Int) : Int := band (bcF2 z + bushr (bcF2 z) 4) 252645135
def bcF4 (z : Int) : Int := bcF3 z + bushr (bcF3 z) 8
def bcF (z : Int) : Int := band (bcF4 z + bushr (bcF4 z) 16) 63
theorem bxor2 {z : Int} (h : R32 z) : 0 ≤ bxor z 2 ↔ 0 ≤ z := by
  have key : ∀ x : Int32, x.toInt < 0 ↔ x.toBitVec.msb = true := by
    intro x
    show x.toBitVec.toInt < 0 ↔ _
    rw [BitVec.msb_eq_toInt, decide_eq_true_eq]
  have h1 := key (iI z ^^^ iI 2)
  have h2 := key (iI z)
  rw [iI_toInt h] at h2
  rw [Int32.toBitVec_xor, BitVec.msb_xor, show (iI 2).toBitVec.msb = false by decide, Bool.xor_false] at h1
  have h3 := h1.trans h2.symm
  unfold bxor
  omega
/-- public calls -/
def rc_time (σ : Mm) (z1 : Int) : Int := if 1 ≤ z1 ∧ z1 ≤ 36 then σ 15 0 0 else BAD
def sc_time (σ : Mm) (z1 : Int) : Mm := if 1 ≤ z1 ∧ z1 ≤ 36 then fillR (fillR (fillR (fillR (up (up σ 1 0 0 z1) 15 0 0 0) 9 0 0 36 0) 9 1 0 36 0) 9 2 0 36 0) 9 3 0 36 0 else σ
def rc_dark (σ : Mm) (z1 z2 : Int) : Int := if (0 ≤ z1 ∧ z1 ≤ 35) ∧ (0 ≤ z2 ∧ z2 ≤ 1) then σ 2 0 z1 else BAD
def sc_dark (σ : Mm) (z1 z2 : Int) : Mm := if (0 ≤ z1 ∧ z1 ≤ 35) ∧ (0 ≤ z2 ∧ z2 ≤ 1) then up σ 2 0 z1 z2 else σ
def rc_keep (σ : Mm) (z1 z2 : Int) : Int := if (0 ≤ z1 ∧ z1 ≤ 35) ∧ (0 ≤ z2 ∧ z2 ≤ 10) then σ 3 0 z1 else BAD
def sc_keep (σ : Mm) (z1 z2 : Int) : Mm := if (0 ≤ z1 ∧ z1 ≤ 35) ∧ (0 ≤ z2 ∧ z2 ≤ 10) then up σ 3 0 z1 z2 else σ
def nwP (σ : Mm) (i z2 z3 : Int) : Mm := fillR (up (up (up σ 6 i 0 1) 6 i 1 z2) 6 i 2 z3) 7 i 0 36 0
def rc_world (z1 z2 z3 : Int) : Int := if (0 ≤ z1 ∧ z1 ≤ 3) ∧ (0 ≤ z2 ∧ z2 ≤ 2) ∧ z3 ≤ 36 then (if z3 < 0 then SIZE else z3) else BAD
def sc_world (σ : Mm) (z1 z2 z3 : Int) : Mm := if ((0 ≤ z1 ∧ z1 ≤ 3) ∧ (0 ≤ z2 ∧ z2 ≤ 2) ∧ z3 ≤ 36) ∧ 0 ≤ z3 then nwP σ z1 z2 z3 else σ
def rc_lose (σ : Mm) (z1 : Int) : Int := if 0 ≤ z1 ∧ z1 ≤ 3 then (if σ 6 z1 0 = 0 then NOTHING else σ 6 z1 2) else BAD
def sc_lose (σ : Mm) (z1 : Int) : Mm := if (0 ≤ z1 ∧ z1 ≤ 3) ∧ ¬ σ 6 z1 0 = 0 then up σ 6 z1 0 0 else σ
def rc_price (σ : Mm) (z1 z2 z3 : Int) : Int := if 0 ≤ z1 ∧ z1 ≤ 3 then (if σ 6 z1 0 = 0 then NOTHING else if 0 ≤ z2 ∧ z2 ≤ σ 6 z1 2 - 1 then (if -limZ (σ 6 z1 1) ≤ z3 ∧ z3 ≤ limZ (σ 6 z1 1) then σ 7 z1 z2 else BAD) else INDEX) else BAD
def sc_price (σ : Mm) (z1 z2 z3 : Int) : Mm := if (0 ≤ z1 ∧ z1 ≤ 3) ∧ ¬ σ 6 z1 0 = 0 ∧ (0 ≤ z2 ∧ z2 ≤ σ 6 z1 2 - 1) ∧ (-limZ (σ 6 z1 1) ≤ z3 ∧ z3 ≤ limZ (σ 6 z1 1)) then up σ 7 z1 z2 z3 else σ
abbrev hrC (σ : Mm) (i z1 z2 : Int) : Prop := (0 ≤ z1 ∧ z1 ≤ σ 6 i 2) ∧ (0 ≤ z2 ∧ z2 ≤ σ 6 i 2 - z1)
def rc_copy (σ : Mm) (z1 z2 z3 z4 z5 : Int) : Int := if (0 ≤ z1 ∧ z1 ≤ 3) ∧ (0 ≤ z3 ∧ z3 ≤ 3) then (if σ 6 z1 0 = 0 ∨ σ 6 z3 0 = 0 then NOTHING else if σ 6 z1 1 = σ 6 z3 1 then (if ((0 ≤ z2 ∧ z2 ≤ σ 6 z1 2) ∧ (0 ≤ z5 ∧ z5 ≤ σ 6 z1 2 - z2)) ∧ ((0 ≤ z4 ∧ z4 ≤ σ 6 z3 2) ∧ (0 ≤ z5 ∧ z5 ≤ σ 6 z3 2 - z4)) then z5 else INDEX) else NO) else BAD
def sc_copy (σ : Mm) (z1 z2 z3 z4 z5 : Int) : Mm := if ((0 ≤ z1 ∧ z1 ≤ 3) ∧ (0 ≤ z3 ∧ z3 ≤ 3)) ∧ (¬ σ 6 z1 0 = 0 ∧ ¬ σ 6 z3 0 = 0) ∧ σ 6 z1 1 = σ 6 z3 1 ∧ (((0 ≤ z2 ∧ z2 ≤ σ 6 z1 2) ∧ (0 ≤ z5 ∧ z5 ≤ σ 6 z1 2 - z2)) ∧ ((0 ≤ z4 ∧ z4 ≤ σ 6 z3 2) ∧ (0 ≤ z5 ∧ z5 ≤ σ 6 z3 2 - z4))) then cpyA σ 7 z1 z2 7 z3 z4 z5 else σ
def rc_told (σ : Mm) (z1 z2 : Int) : Int := if (0 ≤ z1 ∧ z1 ≤ 3) ∧ (0 ≤ z2 ∧ z2 ≤ 35) then pC σ z1 z2 else BAD
/-- a new battery -/
def nwB (σ : Mm) (i z1 z2 : Int) : Mm := fillR (up (up (up (up (up (up (up (up σ 8 i 0 1) 8 i 1 z1) 8 i 2 z2) 8 i 4 (if z1 = 4 then z2 / 10 else 0)) 8 i 5 (if z1 = 3 ∨ z1 = 4 then z2 * 4 / 5 else z2)) 8 i 3 (if z1 = 4 then z2 / 10 else 0)) 8 i 10 0) 8 i 11 100000) 9 i 0 36 0
def nwR (σ : Mm) (i z1 z2 : Int) : Mm := up (up σ 8 i 6 ((if σ 8 i 1 = 1 ∨ σ 8 i 1 = 2 then 2 else 1) * z1)) 8 i 7 ((if σ 8 i 1 = 1 ∨ σ 8 i 1 = 2 then 2 else 1) * z2)
def nwL (σ : Mm) (i z1 z2 : Int) : Mm := up (up σ 8 i 8 (if σ 8 i 1 = 2 then z1 / 2 else z1)) 8 i 9 z2
abbrev okSc (z1 z2 z3 z4 z5 : Int) : Prop := ((0 ≤ z1 ∧ z1 ≤ 3) ∧ (0 ≤ z2 ∧ z2 ≤ 4) ∧ (1 ≤ z3 ∧ z3 ≤ 60)) ∧ ((1 ≤ z4.tdiv 21 ∧ z4.tdiv 21 ≤ 20) ∧ (1 ≤ z4.tmod 21 ∧ z4.tmod 21 ≤ 20)) ∧ (0 ≤ z5 ∧ z5 ≤ 5150)
def rc_store (z1 z2 z3 z4 z5 : Int) : Int := if okSc z1 z2 z3 z4 z5 then 0 else BAD
def sc_store (σ : Mm) (z1 z2 z3 z4 z5 : Int) : Mm := if okSc z1 z2 z3 z4 z5 then nwL (nwR (nwB σ z1 z2 z3) z1 (z4.tdiv 21) (z4.tmod 21)) z1 (z5 / 101) (z5 % 101) else σ
def rc_charge (σ : Mm) (z1 z2 : Int) : Int := if 0 ≤ z1 ∧ z1 ≤ 3 then (if σ 8 z1 0 = 0 then NO else if σ 8 z1 4 ≤ z2 ∧ z2 ≤ σ 8 z1 5 then σ 8 z1 3 else BAD) else BAD
def sc_charge (σ : Mm) (z1 z2 : Int) : Mm := if (0 ≤ z1 ∧ z1 ≤ 3) ∧ ¬ σ 8 z1 0 = 0 ∧ (σ 8 z1 4 ≤ z2 ∧ z2 ≤ σ 8 z1 5) then up σ 8 z1 3 z2 else σ
def rc_end (σ : Mm) (z1 z2 : Int) : Int := if (0 ≤ z1 ∧ z1 ≤ 3) ∧ (0 ≤ z2 ∧ z2 ≤ 60) then (if σ 8 z1 0 = 0 then NO else σ 8 z1 10) else BAD
def sc_end (σ : Mm) (z1 z2 : Int) : Mm := if ((0 ≤ z1 ∧ z1 ≤ 3) ∧ (0 ≤ z2 ∧ z2 ≤ 60)) ∧ ¬ σ 8 z1 0 = 0 then up σ 8 z1 10 z2 else σ
def abC (σ : Mm) (s w : Int) : Int := if w = 0 then σ 8 s 1 else if w = 1 then σ 8 s 2 else if w = 2 then σ 8 s 3 else if w = 3 then σ 8 s 6 else if w = 4 then σ 8 s 7 else if w = 5 then σ 8 s 8 else if w = 6 then σ 8 s 9 else if w = 7 then σ 8 s 4 else if w = 8 then σ 8 s 5 else if w = 9 then σ 8 s 10 else σ 8 s 11
def rc_about (σ : Mm) (z1 z2 : Int) : Int := if (0 ≤ z1 ∧ z1 ≤ 3) ∧ (0 ≤ z2 ∧ z2 ≤ 10) then (if σ 8 z1 0 = 0 then NO else abC σ z1 z2) else BAD
abbrev isQ (k a : Int) : Prop := a = 0 ∨ (a = 1 ∧ (k = 1 ∨ k = 2)) ∨ (a = 3 ∧ (k = 3 ∨ k = 4)) ∨ (a ≠ 0 ∧ a ≠ 1 ∧ a ≠ 3 ∧ k = a)
def rc_isOf (σ : Mm) (z1 z2 : Int) : Int := if (0 ≤ z1 ∧ z1 ≤ 3) ∧ (0 ≤ z2 ∧ z2 ≤ 4) then (if σ 8 z1 0 = 0 then NO else bI (isQ (σ 8 z1 1) z2)) else BAD
def rc_put (σ : Mm) (z1 z2 z3 : Int) : Int := if 0 ≤ z1 ∧ z1 ≤ 3 then (if σ 8 z1 0 = 0 then NO else if 0 ≤ z2 ∧ z2 ≤ σ 1 0 0 - 1 then (if -100 ≤ z3 ∧ z3 ≤ 100 then σ 9 z1 z2 else BAD) else INDEX) else BAD
def sc_put (σ : Mm) (z1 z2 z3 : Int) : Mm := if (0 ≤ z1 ∧ z1 ≤ 3) ∧ ¬ σ 8 z1 0 = 0 ∧ (0 ≤ z2 ∧ z2 ≤ σ 1 0 0 - 1) ∧ (-100 ≤ z3 ∧ z3 ≤ 100) then up σ 9 z1 z2 z3 else σ
def rc_planned (σ : Mm) (z1 z2 : Int) : Int := if 0 ≤ z1 ∧ z1 ≤ 3 then (if σ 8 z1 0 = 0 then NO else if 0 ≤ z2 ∧ z2 ≤ σ 1 0 0 - 1 then σ 9 z1 z2 else INDEX) else BAD
def rc_behind (σ : Mm) (z1 z2 : Int) : Int := if 0 ≤ z1 ∧ z1 ≤ 3 then (if σ 8 z1 0 = 0 then NO else if z2 = -1 ∨ (0 ≤ z2 ∧ z2 ≤ σ 1 0 0 - 1) then bhC σ z1 z2 else INDEX) else BAD
def rc_why (σ : Mm) (z1 : Int) : Int := if 0 ≤ z1 ∧ z1 ≤ 3 then (if σ 8 z1 0 = 0 then NO else whC σ z1) else BAD
def rc_money (σ : Mm) (z1 z2 : Int) : Int := if (0 ≤ z1 ∧ z1 ≤ 3) ∧ (0 ≤ z2 ∧ z2 ≤ 3) then (if σ 8 z1 0 = 0 then NO else mnC σ z1 z2 (σ 1 0 0)) else BAD
def cLe (ws : Int) (m : Int → Int) : Nat → Int
  | 0 => NONE
  | n + 1 => if sel ws n = 1 then (if cLe ws m n = NONE then m n else min (cLe ws m n) (m n)) else cLe ws m n
def rc_worst (σ : Mm) (z1 z2 : Int) : Int := if (0 ≤ z1 ∧ z1 ≤ 3) ∧ (1 ≤ z2 ∧ z2 ≤ 15) then (if σ 8 z1 0 = 0 then NO else cLe z2 (fun w => mnC σ z1 w (σ 1 0 0)) 4) else BAD
def rc_bid (σ : Mm) (z1 z2 z3 z4 : Int) : Int := if (0 ≤ z1 ∧ z1 ≤ σ 1 0 0 - 1) ∧ (0 ≤ z2 ∧ z2 ≤ σ 1 0 0 - 1) ∧ z1 ≤ z2 ∧ (-20 ≤ z3 ∧ z3 ≤ 20) ∧ z3 ≠ 0 ∧ (-10000 ≤ z4 ∧ z4 ≤ 10000) then (if 12 ≤ σ 15 0 0 then FULL else σ 15 0 0) else BAD
def adB (σ : Mm) (z1 z2 z3 z4 : Int) : Mm := up (up (up (up (up σ 16 0 (σ 15 0 0) z1) 17 0 (σ 15 0 0) z2) 18 0 (σ 15 0 0) z3) 19 0 (σ 15 0 0) z4) 15 0 0 (σ 15 0 0 + 1)
def sc_bid (σ : Mm) (z1 z2 z3 z4 : Int) : Mm := if ((0 ≤ z1 ∧ z1 ≤ σ 1 0 0 - 1) ∧ (0 ≤ z2 ∧ z2 ≤ σ 1 0 0 - 1) ∧ z1 ≤ z2 ∧ (-20 ≤ z3 ∧ z3 ≤ 20) ∧ z3 ≠ 0 ∧ (-10000 ≤ z4 ∧ z4 ≤ 10000)) ∧ σ 15 0 0 < 12 then adB σ z1 z2 z3 z4 else σ
def rc_unbid (σ : Mm) : Int := if σ 15 0 0 ≤ 0 then NO else σ 15 0 0 - 1
def sc_unbid (σ : Mm) : Mm := if σ 15 0 0 ≤ 0 then σ else up σ 15 0 0 (σ 15 0 0 - 1)
def rc_taken (σ : Mm) (z1 z2 : Int) : Int := if (0 ≤ z1 ∧ z1 ≤ σ 15 0 0 - 1) ∧ (0 ≤ z2 ∧ z2 ≤ 3) then bI (takC σ z1 z2) else BAD
def rc_wanted (σ : Mm) (z1 z2 : Int) : Int := if 0 ≤ z1 ∧ z1 ≤ 3 then (if 0 ≤ z2 ∧ z2 ≤ σ 1 0 0 - 1 then waC σ z1 z2 else INDEX) else BAD
def rc_fill (σ : Mm) (z1 z2 : Int) : Int := if (0 ≤ z1 ∧ z1 ≤ 3) ∧ (0 ≤ z2 ∧ z2 ≤ 3) then (if σ 8 z1 0 = 0 then NO else fmC σ z1 z2 (σ 1 0 0)) else BAD
def sc_fill (σ : Mm) (z1 z2 : Int) : Mm := if ((0 ≤ z1 ∧ z1 ≤ 3) ∧ (0 ≤ z2 ∧ z2 ≤ 3)) ∧ ¬ σ 8 z1 0 = 0 then plW σ 9 z1 0 (fdC σ z1 z2) (σ 1 0 0) else σ
def rc_meter (σ : Mm) (z1 z2 : Int) : Int := if (0 ≤ z1 ∧ z1 ≤ 35) ∧ (-1001 ≤ z2 ∧ z2 ≤ 1000) then σ 21 0 z1 else BAD
def sc_meter (σ : Mm) (z1 z2 : Int) : Mm := if (0 ≤ z1 ∧ z1 ≤ 35) ∧ (-1001 ≤ z2 ∧ z2 ≤ 1000) then up σ 21 0 z1 z2 else σ
def rc_counts (σ : Mm) (z1 : Int) : Int := if 0 ≤ z1 ∧ z1 ≤ 35 then cnC σ z1 else BAD
def bkC (σ : Mm) (i e : Int) : Int := if e = 0 then σ 23 0 i else if e = 1 then σ 24 0 i else if e = 2 then σ 25 0 i else if e = 3 then σ 26 0 i else σ 27 0 i
def rc_row (σ : Mm) (z1 z2 : Int) : Int := if (0 ≤ z1 ∧ z1 ≤ σ 22 0 0 - 1) ∧ (0 ≤ z2 ∧ z2 ≤ 4) then bkC σ z1 z2 else BAD
def rc_forge (σ : Mm) (z1 z2 z3 : Int) : Int := if (0 ≤ z1 ∧ z1 ≤ σ 22 0 0 - 1) ∧ (3 ≤ z2 ∧ z2 ≤ 4) ∧ (z2 = 3 → -100 ≤ z3 ∧ z3 ≤ 100) then bkC σ z1 z2 else BAD
def sc_forge (σ : Mm) (z1 z2 z3 : Int) : Mm := if (0 ≤ z1 ∧ z1 ≤ σ 22 0 0 - 1) ∧ (3 ≤ z2 ∧ z2 ≤ 4) ∧ (z2 = 3 → -100 ≤ z3 ∧ z3 ≤ 100) then (if z2 = 3 then up σ 26 0 z1 z3 else up σ 27 0 z1 z3) else σ
def adR (σ : Mm) (z1 z2 z3 z4 z5 : Int) : Mm := up (up (up (up (up (up σ 23 0 (σ 22 0 0) z1) 24 0 (σ 22 0 0) z2) 25 0 (σ 22 0 0) z3) 26 0 (σ 22 0 0) z4) 27 0 (σ 22 0 0) z5) 22 0 0 (σ 22 0 0 + 1)
/-- the book behind t steps -/
def lvC (σ : Mm) (s w t : Int) : Mm := fun b j y =>
  if b = 23 then (if j = 0 ∧ σ 22 0 0 ≤ y ∧ y < σ 22 0 0 + t then s else σ b j y)
  else if b = 24 then (if j = 0 ∧ σ 22 0 0 ≤ y ∧ y < σ 22 0 0 + t then w else σ b j y)
  else if b = 25 then (if j = 0 ∧ σ 22 0 0 ≤ y ∧ y < σ 22 0 0 + t then y - σ 22 0 0 else σ b j y)
  else if b = 26 then (if j = 0 ∧ σ 22 0 0 ≤ y ∧ y < σ 22 0 0 + t then σ 9 s (y - σ 22 0 0) else σ b j y)
  else if b = 27 then (if j = 0 ∧ σ 22 0 0 ≤ y ∧ y < σ 22 0 0 + t then monC σ s (σ 9 s (y - σ 22 0 0)) (pC σ w (y - σ 22 0 0)) else σ b j y)
  else if b = 22 then (if j = 0 ∧ y = 0 then σ 22 0 0 + t else σ b j y)
  else σ b j y
theorem lvC_0 (σ : Mm) (s w : Int) : lvC σ s w 0 = σ := by
  funext b j y
  unfold lvC
  (repeat' split) <;> first | rfl | (exfalso; omega) | skip
  rename_i h h2
  subst h
  obtain ⟨rfl, rfl⟩ := h2
  omega
theorem lvC_up {σ : Mm} {s w t d m : Int} (h0 : 0 ≤ t) (hd : d = σ 9 s t) (hm : m = monC σ s (σ 9 s t) (pC σ w t)) : adR (lvC σ s w t) s w t d m = lvC σ s w (t + 1) := by
  subst hd; subst hm
  have hr : lvC σ s w t 22 0 0 = σ 22 0 0 + t := rfl
  unfold adR
  rw [hr]
  funext b j y
  by_cases h22 : b = 22
  · subst h22
    rw [up_e, up_s (by decide), up_s (by decide), up_s (by decide), up_s (by decide), up_s (by decide)]
    by_cases hj : j = 0 ∧ y = 0
    · rw [if_pos hj]
      obtain ⟨rfl, rfl⟩ := hj
      show σ 22 0 0 + t + 1 = σ 22 0 0 + (t + 1)
      omega
    · rw [if_neg hj]
      show (if j = 0 ∧ y = 0 then _ else _) = (if j = 0 ∧ y = 0 then _ else _)
      rw [if_neg hj, if_neg hj]
  rw [up_s h22]
  by_cases h27 : b = 27
  · subst h27
    rw [up_e, up_s (by decide), up_s (by decide), up_s (by decide), up_s (by decide)]
    show (if _ then _ else (if j = 0 ∧ σ 22 0 0 ≤ y ∧ y < σ 22 0 0 + t then _ else _)) = (if j = 0 ∧ σ 22 0 0 ≤ y ∧ y < σ 22 0 0 + (t + 1) then _ else _)
    by_cases hj : j = 0 ∧ y = σ 22 0 0 + t
    · rw [if_pos hj, if_pos (by omega), show y - σ 22 0 0 = t by omega]
    · rw [if_neg hj]
      by_cases hk : j = 0 ∧ σ 22 0 0 ≤ y ∧ y < σ 22 0 0 + t
      · rw [if_pos hk, if_pos (by omega)]
      · rw [if_neg hk, if_neg (by omega)]
  rw [up_s h27]
  by_cases h26 : b = 26
  · subst h26
    rw [up_e, up_s (by decide), up_s (by decide), up_s (by decide)]
    show (if _ then _ else (if j = 0 ∧ σ 22 0 0 ≤ y ∧ y < σ 22 0 0 + t then _ else _)) = (if j = 0 ∧ σ 22 0 0 ≤ y ∧ y < σ 22 0 0 + (t + 1) then _ else _)
    by_cases hj : j = 0 ∧ y = σ 22 0 0 + t
    · rw [if_pos hj, if_pos (by omega), show y - σ 22 0 0 = t by omega]
    · rw [if_neg hj]
      by_cases hk : j = 0 ∧ σ 22 0 0 ≤ y ∧ y < σ 22 0 0 + t
      · rw [if_pos hk, if_pos (by omega)]
      · rw [if_neg hk, if_neg (by omega)]
  rw [up_s h26]
  by_cases h25 : b = 25
  · subst h25
    rw [up_e, up_s (by decide), up_s (by decide)]
    show (if _ then _ else (if j = 0 ∧ σ 22 0 0 ≤ y ∧ y < σ 22 0 0 + t then _ else _)) = (if j = 0 ∧ σ 22 0 0 ≤ y ∧ y < σ 22 0 0 + (t + 1) then _ else _)
    by_cases hj : j = 0 ∧ y = σ 22 0 0 + t
    · rw [if_pos hj, if_pos (by omega), show y - σ 22 0 0 = t by omega]
    · rw [if_neg hj]
      by_cases hk : j = 0 ∧ σ 22 0 0 ≤ y ∧ y < σ 22 0 0 + t
      · rw [if_pos hk, if_pos (by omega)]
      · rw [if_neg hk, if_neg (by omega)]
  rw [up_s h25]
  by_cases h24 : b = 24
  · subst h24
    rw [up_e, up_s (by decide)]
    show (if _ then _ else (if j = 0 ∧ σ 22 0 0 ≤ y ∧ y < σ 22 0 0 + t then _ else _)) = (if j = 0 ∧ σ 22 0 0 ≤ y ∧ y < σ 22 0 0 + (t + 1) then _ else _)
    by_cases hj : j = 0 ∧ y = σ 22 0 0 + t
    · rw [if_pos hj, if_pos (by omega)]
    · rw [if_neg hj]
      by_cases hk : j = 0 ∧ σ 22 0 0 ≤ y ∧ y < σ 22 0 0 + t
      · rw [if_pos hk, if_pos (by omega)]
      · rw [if_neg hk, if_neg (by omega)]
  rw [up_s h24]
  by_cases h23 : b = 23
  · subst h23
    rw [up_e]
    show (if _ then _ else (if j = 0 ∧ σ 22 0 0 ≤ y ∧ y < σ 22 0 0 + t then _ else _)) = (if j = 0 ∧ σ 22 0 0 ≤ y ∧ y < σ 22 0 0 + (t + 1) then _ else _)
    by_cases hj : j = 0 ∧ y = σ 22 0 0 + t
    · rw [if_pos hj, if_pos (by omega)]
    · rw [if_neg hj]
      by_cases hk : j = 0 ∧ σ 22 0 0 ≤ y ∧ y < σ 22 0 0 + t
      · rw [if_pos hk, if_pos (by omega)]
      · rw [if_neg hk, if_neg (by omega)]
  rw [up_s h23]
  unfold lvC
  rw [if_neg h23, if_neg h24, if_neg h25, if_neg h26, if_neg h27, if_neg h22, if_neg h23, if_neg h24, if_neg h25, if_neg h26, if_neg h27, if_neg h22]
def rc_live (σ : Mm) (z1 z2 : Int) : Int := if (0 ≤ z1 ∧ z1 ≤ 3) ∧ (0 ≤ z2 ∧ z2 ≤ 3) then (if σ 8 z1 0 = 0 ∨ whC σ z1 ≠ NONE then NO else if 150 < σ 22 0 0 + σ 1 0 0 then FULL else σ 22 0 0 + σ 1 0 0) else BAD
def sc_live (σ : Mm) (z1 z2 : Int) : Mm := if ((0 ≤ z1 ∧ z1 ≤ 3) ∧ (0 ≤ z2 ∧ z2 ≤ 3)) ∧ ¬ (σ 8 z1 0 = 0 ∨ whC σ z1 ≠ NONE) ∧ σ 22 0 0 + σ 1 0 0 ≤ 150 then up (lvC σ z1 z2 (σ 1 0 0)) 8 z1 3 (bhC σ z1 (σ 1 0 0 - 1)) else σ
def nbC (σ : Mm) (s k : Int) : Int := if σ 23 0 k = s then σ 26 0 k else 0
def ahC (σ : Mm) (s i : Int) : Int := σ 8 s 3 - (sm (nbC σ s) (σ 22 0 0) - sm (nbC σ s) i)
def wrC (σ : Mm) (s i : Int) : Int := if σ 23 0 i = s then (if σ 27 0 i = monC σ s (σ 26 0 i) (pC σ (σ 24 0 i) (σ 25 0 i)) ∧ (0 ≤ ahC σ s i ∧ ahC σ s i ≤ σ 8 s 2) then 0 else 1) else 0
def fwC (σ : Mm) (s : Int) : Int := fsr (wrC σ s) 0 (σ 22 0 0).toNat
def fxC (σ : Mm) (s : Int) : Int := if σ 8 s 0 = 0 then NONE else fwC σ s
def mcC (σ : Mm) : Nat → Int
  | 0 => NONE
  | n + 1 => if fxC σ n ≠ NONE ∧ (mcC σ n = NONE ∨ fxC σ n < mcC σ n) then fxC σ n else mcC σ n
def rc_check (σ : Mm) : Int := mcC σ 4
def rc_shut (σ : Mm) : Int := σ 22 0 0
def sc_shut (σ : Mm) : Mm := up σ 22 0 0 0
def rc_warrant (σ : Mm) (z1 z2 : Int) : Int := if (0 ≤ z1 ∧ z1 ≤ 3) ∧ (0 ≤ z2 ∧ z2 ≤ 100000) then (if σ 8 z1 0 = 0 then NO else σ 8 z1 11) else BAD
def sc_warrant (σ : Mm) (z1 z2 : Int) : Mm := if ((0 ≤ z1 ∧ z1 ≤ 3) ∧ (0 ≤ z2 ∧ z2 ≤ 100000)) ∧ ¬ σ 8 z1 0 = 0 then up σ 8 z1 11 z2 else σ
def szC (σ : Mm) (s k : Int) : Int := if σ 23 0 k = s then absC (σ 26 0 k) else 0
def vdC (σ : Mm) (s W i : Int) : Int := if σ 23 0 i = s ∧ W < sm (szC σ s) (i + 1) then 1 else 0
def rc_voided (σ : Mm) (z1 : Int) : Int := if 0 ≤ z1 ∧ z1 ≤ 3 then (if σ 8 z1 0 = 0 then NO else fsr (vdC σ z1 (σ 8 z1 11)) 0 (σ 22 0 0).toNat) else BAD
def rc_count (σ : Mm) (z1 : Int) : Int := if z1 = 0 then sm (fun k => if σ 8 k 0 = 0 then 0 else 1) 4 else if z1 = 1 then σ 1 0 0 else if z1 = 2 then σ 15 0 0 else if z1 = 3 then σ 22 0 0 else if z1 = 4 then sm (fun k => if σ 6 k 0 = 0 then 0 else 1) 4 else if z1 = 5 then sm (fun k => if σ 21 0 k = -1001 then 0 else 1) 36 else if z1 = 6 then sm (fun k => if σ 2 0 k = 0 then 0 else 1) (σ 1 0 0) else if z1 = 7 then sm (fun k => σ 27 0 k) (σ 22 0 0) else BAD
/-- bounds -/
theorem monC_b {σ : Mm} (hS : CS σ) (s : Int) {d p : Int} (hd : -100 ≤ d ∧ d ≤ 100) (hp : -40000 ≤ p ∧ p ≤ 40000) : -8000000 ≤ monC σ s d p ∧ monC σ s d p ≤ 8000000 :=
  mon_b (by have := hS s; omega) (by have := hS s; omega) hd hp
theorem mnC_b {σ : Mm} (hS : CS σ) (hL : CL σ) (hP : CP σ) (s w : Int) {T : Int} (h0 : 0 ≤ T) (h1 : T ≤ 36) : -288000000 ≤ mnC σ s w T ∧ mnC σ s w T ≤ 288000000 := by
  have b := sm_b (f := fun t => monC σ s (σ 9 s t) (pC σ w t)) (a := -8000000) (b := 8000000) (n := T) h0 (fun k _ _ => monC_b hS s (hL _ _) (by have := pC_b hP w k; omega))
  unfold mnC
  omega
theorem nbC_b {σ : Mm} (hR : CR σ) (s k : Int) : -100 ≤ nbC σ s k ∧ nbC σ s k ≤ 100 := by
  have q := hR.2 k
  unfold nbC
  split <;> omega
theorem ahC_b {σ : Mm} (hR : CR σ) (hS : CS σ) (s : Int) {i : Int} (h0 : 0 ≤ i) (h1 : i ≤ 150) : -40000 ≤ ahC σ s i ∧ ahC σ s i ≤ 40000 := by
  have q := hR.1
  have q2 := hS s
  have a := sm_b (f := nbC σ s) (a := -100) (b := 100) (n := σ 22 0 0) (by omega) (fun k _ _ => nbC_b hR s k)
  have b := sm_b (f := nbC σ s) (a := -100) (b := 100) (n := i) h0 (fun k _ _ => nbC_b hR s k)
  unfold ahC
  omega
theorem ftC_b (σ : Mm) (s t d c : Int) : 0 ≤ ftC σ s t d c ∧ ftC σ s t d c ≤ 5 := by
  unfold ftC
  (repeat' split) <;> omega
theorem whC_b {σ : Mm} (hT : CT σ) (s : Int) : whC σ s = NONE ∨ (0 ≤ whC σ s ∧ whC σ s ≤ 365) := by
  have a1 := hT.1
  have a2 := hT.2
  have q := fst_b (f := fun t => ftC σ s t (σ 9 s t) (bhC σ s t)) (fun k => ftC_b σ s k _ _) (σ 1 0 0).toNat 0 (by omega)
  unfold whC
  omega
theorem fsr_b {f : Int → Int} : ∀ (n : Nat) (t : Int), 0 ≤ t → fsr f t n = NONE ∨ (t ≤ fsr f t n ∧ fsr f t n < t + n)
  | 0, _, _ => Or.inl rfl
  | n + 1, t, h0 => by
    have i := fsr_b (f := f) n (t + 1) (by omega)
    unfold fsr
    split
    · rcases i with i | i
      · exact Or.inl i
      · exact Or.inr (by omega)
    · exact Or.inr (by omega)
