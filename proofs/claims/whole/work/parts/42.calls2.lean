section JC2
variable {σ : Mm}
theorem cLe_v {ws : Int} {m : Int → Int} (h : ∀ w, m w ≠ NONE) : ∀ n : Nat, (wAn ws n = 0 → cLe ws m n = NONE) ∧ (wAn ws n ≠ 0 → cLe ws m n = wLe ws m n ∧ wLe ws m n ≠ NONE)
  | 0 => ⟨fun _ => rfl, fun q => absurd rfl q⟩
  | n + 1 => by
    have i := cLe_v (ws := ws) h n
    have b := h n
    unfold cLe wAn wLe
    by_cases s : sel ws n = 1
    · rw [if_pos s, if_pos s, if_pos s]
      refine ⟨fun q => absurd q (by decide), fun _ => ?_⟩
      by_cases a : wAn ws n = 0
      · rw [if_pos (Or.inl a), if_pos (i.1 a)]; exact ⟨rfl, b⟩
      · have e := i.2 a
        rw [e.1, if_neg e.2]
        by_cases d : m n < wLe ws m n
        · rw [if_pos (Or.inr d)]; exact ⟨by omega, b⟩
        · rw [if_neg (show ¬ (wAn ws n = 0 ∨ m n < wLe ws m n) by omega)]; exact ⟨by omega, e.2⟩
    · rw [if_neg s, if_neg s, if_neg s]
      exact i
theorem cLe_c {ws : Int} {m m' : Int → Int} : ∀ n : Nat, (∀ w : Int, 0 ≤ w → w < n → m w = m' w) → cLe ws m n = cLe ws m' n
  | 0, _ => rfl
  | n + 1, h => by
    have i := cLe_c (ws := ws) n (fun w a b => h w a (by omega))
    unfold cLe
    rw [i, h n (by omega) (by omega)]
theorem wAn_4 : ∀ z : Int, 1 ≤ z → z ≤ 15 → wAn z 4 ≠ 0 := by
  intro z h1 h2
  rcases (show z = 1 ∨ z = 2 ∨ z = 3 ∨ z = 4 ∨ z = 5 ∨ z = 6 ∨ z = 7 ∨ z = 8 ∨ z = 9 ∨ z = 10 ∨ z = 11 ∨ z = 12 ∨ z = 13 ∨ z = 14 ∨ z = 15 by omega) with rfl | rfl | rfl | rfl | rfl | rfl | rfl | rfl | rfl | rfl | rfl | rfl | rfl | rfl | rfl <;> decide +kernel
theorem e_worst (h : JJ σ) (z1 z2 : Int) : rc_worst σ z1 z2 = rm_worst σ z1 z2 := by
  unfold rc_worst rm_worst
  split
  · rename_i c
    have t := thereS h (s := z1) (by omega) (by omega)
    by_cases d : σ 34 0 z1 < 0
    · rw [if_pos d, if_pos (t.mpr d)]
    · rw [if_neg d, if_neg (fun q => d (t.mp q)), cLe_c (m' := fun w => mnM σ z1 w) 4 (fun w a b => mnCM h (by omega) (by omega) d a b)]
      exact ((cLe_v (fun w => by have := mnM_b (jMS h) (jML h) (jMP h) (jMT h) z1 w; have hN : NONE = -9000000000000000005 := rfl; (try dsimp only); omega) 4).2 (wAn_4 z2 (by omega) (by omega))).1
  · rfl
theorem dnCM (h : JJ σ) {s w t c : Int} (s0 : 0 ≤ s) (s1 : s < 4) (k : ¬ σ 34 0 s < 0) (w0 : 0 ≤ w) (w1 : w < 4) (c0 : floM σ s ≤ c) (c1 : c ≤ topM σ s) : dnC σ s w t c = dnM σ s w t c := by
  obtain ⟨q0, q1, q2, q3, q4, q5, q6, q7, q8, q9, qa, qb, qc⟩ := atS h s0 s1 k
  have b := bM (jMS h) s
  have f := (jrK h).1 t
  unfold dnC dnM psC
  rw [waCM h w0 w1, q5, q6, q7, q8, f]
  generalize waM σ w t = v
  by_cases a : σ 29 0 t = 0
  · rw [if_pos a, if_pos a]
    unfold btw
    (repeat' split) <;> omega
  · rw [if_neg a, if_neg a]
    unfold btw
    (repeat' split) <;> omega
theorem fcCM (h : JJ σ) {s w : Int} (s0 : 0 ≤ s) (s1 : s < 4) (k : ¬ σ 34 0 s < 0) (w0 : 0 ≤ w) (w1 : w < 4) (t : Int) : fcC σ s w t = fcM σ s w t ∧ floM σ s ≤ fcM σ s w t ∧ fcM σ s w t ≤ topM σ s := by
  have mc := jMC h s s0 s1 (by omega)
  have b := fcM_b (jMS h) (jMD h) s w mc.1 mc.2.1
  have e : ∀ n : Nat, chg (dnC σ s w) (σ 8 s 3) n = chg (dnM σ s w) (σ 36 0 s) n := by
    intro n
    induction n with
    | zero => exact (atS h s0 s1 k).2.2.2.2.1
    | succ n ih =>
      show chg _ _ n + dnC σ s w n (chg _ _ n) = chg _ _ n + dnM σ s w n (chg _ _ n)
      rw [ih, dnCM h s0 s1 k w0 w1 (b n).1 (b n).2]
  exact ⟨e t.toNat, (b t.toNat).1, (b t.toNat).2⟩
theorem fdCM (h : JJ σ) {s w : Int} (s0 : 0 ≤ s) (s1 : s < 4) (k : ¬ σ 34 0 s < 0) (w0 : 0 ≤ w) (w1 : w < 4) (t : Int) : fdC σ s w t = fdM σ s w t ∧ -60 ≤ fdM σ s w t ∧ fdM σ s w t ≤ 60 := by
  have q := fcCM h s0 s1 k w0 w1 t
  have d := dnM_b (jMS h) (jMD h) s w t q.2.1 q.2.2
  unfold fdC fdM
  rw [q.1, dnCM h s0 s1 k w0 w1 q.2.1 q.2.2]
  exact ⟨rfl, d.2.2⟩
theorem e_fill (h : JJ σ) (z1 z2 : Int) : rc_fill σ z1 z2 = rm_fill σ z1 z2 := by
  unfold rc_fill rm_fill
  split
  · rename_i c
    have t := thereS h (s := z1) (by omega) (by omega)
    by_cases d : σ 34 0 z1 < 0
    · rw [if_pos d, if_pos (t.mpr d)]
    · have g := jrT h
      unfold rT at g
      rw [if_neg d, if_neg (fun q => d (t.mp q)), g]
      unfold fmC fmM
      refine sm_c (fun x a b => ?_)
      (try dsimp only)
      rw [(fdCM h (by omega) (by omega) d (by omega) (by omega) x).1, waCM h (by omega) (by omega)]
      unfold absC absd
      (repeat' split) <;> omega
  · rfl
theorem x_fill (σ : Mm) (z1 z2 : Int) : rm_fill (sc_fill σ z1 z2) z1 z2 = rm_fill σ z1 z2 := by
  unfold sc_fill
  split <;> rfl
theorem J_fill (h : JJ σ) (z1 z2 : Int) : JJ (sm_fill (sc_fill σ z1 z2) z1 z2) := by
  have g := jrT h
  unfold rT at g
  have mt := jMT h
  unfold MT at mt
  by_cases c : ((0 ≤ z1 ∧ z1 ≤ 3) ∧ (0 ≤ z2 ∧ z2 ≤ 3)) ∧ 0 ≤ σ 34 0 z1
  · have tt := thereS h (s := z1) (by omega) (by omega)
    have e : sc_fill σ z1 z2 = plW σ 9 z1 0 (fdC σ z1 z2) (σ 1 0 0) := if_pos ⟨c.1, by omega⟩
    have f : sm_fill (plW σ 9 z1 0 (fdC σ z1 z2) (σ 1 0 0)) z1 z2 = plW (plW σ 9 z1 0 (fdC σ z1 z2) (σ 1 0 0)) 43 0 (36 * z1) (fdM σ z1 z2) (σ 28 0 0) := if_pos c
    have d := fun t => fdCM h (s := z1) (w := z2) (by omega) (by omega) (by omega) (by omega) (by omega) t
    rw [e, f]
    refine mkJ (jMT (σ := σ) h) (jMK (σ := σ) h) (jMP (σ := σ) h) (jMS (σ := σ) h) ?_ (jMD (σ := σ) h) (jME (σ := σ) h) (jMR (σ := σ) h) (jMC (σ := σ) h) (jrT (σ := σ) h) (jrK (σ := σ) h) (jrW (σ := σ) h) (jCP (σ := σ) h) (jrS (σ := σ) h) (jCS (σ := σ) h) ?_ ?_ (jrD (σ := σ) h) (jCD (σ := σ) h) (jrE (σ := σ) h) (jrR (σ := σ) h) (jCR (σ := σ) h)
    · intro k
      have q := jML h k
      have r := d (k - 36 * z1)
      simp only [up, fillR, plW, cpyA, nwP, nwB, nwR, nwL, adB, Nat.reduceEqDiff, Int.reduceEq, eq_self_iff_true, eq_self, false_and, true_and, and_false, and_true, if_false, if_true, ite_false, ite_true, reduceIte]
      split <;> omega
    · intro s t s0 s1 t0 t1
      have q := jrL h s t s0 s1 t0 t1
      have r := d t
      simp only [up, fillR, plW, cpyA, nwP, nwB, nwR, nwL, adB, Nat.reduceEqDiff, Int.reduceEq, eq_self_iff_true, eq_self, false_and, true_and, and_false, and_true, if_false, if_true, ite_false, ite_true, reduceIte]
      by_cases x : s = z1 ∧ t < σ 28 0 0
      · obtain ⟨rfl, x⟩ := x
        rw [if_pos (by omega), if_pos (by omega), show 36 * s + t - 36 * s = t by omega, show t - 0 = t by omega, r.1]
      · rw [if_neg (by omega), if_neg (by omega)]; exact q
    · intro s t
      have q := jCL h s t
      have r := d (t - 0)
      simp only [up, fillR, plW, cpyA, nwP, nwB, nwR, nwL, adB, Nat.reduceEqDiff, Int.reduceEq, eq_self_iff_true, eq_self, false_and, true_and, and_false, and_true, if_false, if_true, ite_false, ite_true, reduceIte]
      split <;> omega
  · have e : sc_fill σ z1 z2 = σ := if_neg (fun q => c ⟨q.1, by have t := thereS h (s := z1) (by omega) (by omega); omega⟩)
    have f : sm_fill σ z1 z2 = σ := if_neg c
    rw [e, f]; exact h
/-- the book's rows -/
theorem ahCM (h : JJ σ) {s : Int} (s0 : 0 ≤ s) (s1 : s < 4) (k : ¬ σ 34 0 s < 0) {i : Int} (i1 : i ≤ 150) : ahC σ s i = ahM σ s i := by
  have m := (jMR h).1
  have e : ∀ n : Int, n ≤ 150 → sm (nbC σ s) n = sm (nbM σ s) n := fun n hn => sm_c (fun x a b => by
    have r := (jrR h).2 x a (by omega)
    unfold nbC nbM
    rw [r.1, r.2.2.2.1])
  unfold ahC ahM
  rw [(atS h s0 s1 k).2.2.2.2.1, (jrR h).1, e _ m.2, e _ i1]
theorem fsr_or {f g : Int → Int} : ∀ (n : Nat) (t : Int), 0 ≤ t → (if fsr f t n ≠ NONE ∧ (fsr g t n = NONE ∨ fsr f t n < fsr g t n) then fsr f t n else fsr g t n) = fsr (fun i => if g i = 0 then f i else 1) t n
  | 0, t, _ => by
    unfold fsr
    rw [if_neg (fun q => q.1 rfl)]
  | n + 1, t, h => by
    have i := fsr_or (f := f) (g := g) n (t + 1) (by omega)
    have bf := fsr_b (f := f) n (t + 1) (by omega)
    have bg := fsr_b (f := g) n (t + 1) (by omega)
    have nn : NONE < 0 := by decide
    unfold fsr
    by_cases b : g t = 0
    · by_cases a : f t = 0
      · rw [if_pos a, if_pos b, if_pos (show (if g t = 0 then f t else 1) = 0 by rw [if_pos b]; exact a)]
        exact i
      · rw [if_neg a, if_pos b, if_neg (show ¬ (if g t = 0 then f t else 1) = 0 by rw [if_pos b]; exact a), if_pos (by omega)]
    · rw [if_neg b, if_neg (show ¬ (if g t = 0 then f t else 1) = 0 by rw [if_neg b]; decide)]
      by_cases a : f t = 0
      · rw [if_pos a, if_neg (by omega)]
      · rw [if_neg a, if_neg (by omega)]
theorem fsr_z {f : Int → Int} : ∀ (n : Nat) (t : Int), (∀ i, f i = 0) → fsr f t n = NONE
  | 0, _, _ => rfl
  | n + 1, t, h => by
    unfold fsr
    rw [if_pos (h t)]
    exact fsr_z n (t + 1) h
def gC (σ : Mm) (s i : Int) : Int := if σ 8 s 0 = 0 then 0 else wrC σ s i
def orC (σ : Mm) : Nat → Int → Int
  | 0, _ => 0
  | n + 1, i => if orC σ n i = 0 then gC σ n i else 1
theorem fxC_v (σ : Mm) (s : Int) : fxC σ s = fsr (gC σ s) 0 (σ 22 0 0).toNat := by
  unfold fxC fwC
  split
  · rename_i q
    rw [fsr_z _ _ (fun i => show gC σ s i = 0 by unfold gC; rw [if_pos q])]
  · rename_i q
    congr 1
    funext i
    unfold gC
    rw [if_neg q]
theorem mcC_v (σ : Mm) : ∀ n : Nat, mcC σ n = fsr (orC σ n) 0 (σ 22 0 0).toNat
  | 0 => (fsr_z _ _ (fun _ => rfl)).symm
  | n + 1 => by
    have i := mcC_v σ n
    unfold mcC
    rw [i, fxC_v]
    exact fsr_or _ 0 (by omega)
theorem wrCM (h : JJ σ) {i : Int} (i0 : 0 ≤ i) (i1 : i < σ 28 0 20) : orC σ 4 i = 0 ↔ wrM σ i = 0 := by
  have m := (jMR h).1
  have mr := (jMR h).2 i
  obtain ⟨r0, r1, r2, r3, r4⟩ := (jrR h).2 i i0 (by omega)
  have key : ∀ s : Int, 0 ≤ s → s < 4 → (gC σ s i = 0 ↔ (σ 46 0 (5 * i) = s → wrM σ i = 0)) := by
    intro s s0 s1
    have t := thereS h s0 s1
    unfold gC wrC wrM
    rw [r0, r1, r2, r3, r4]
    by_cases e : σ 46 0 (5 * i) = s
    · subst e
      by_cases d : σ 34 0 (σ 46 0 (5 * i)) < 0
      · rw [if_pos (t.mpr d), if_pos d]; exact ⟨fun _ _ => rfl, fun _ => rfl⟩
      · have u := atS h s0 s1 d
        rw [if_neg (fun q => d (t.mp q)), if_neg d, if_pos rfl, monCM h s0 s1 d, pCM h (by omega) (by omega) (by omega) (by omega), ahCM h s0 s1 d (by omega), u.2.2.2.1]
        exact ⟨fun q _ => q, fun q => q rfl⟩
    · rw [if_neg e]
      refine ⟨fun _ q => absurd q e, fun _ => ?_⟩
      split <;> rfl
  have o : orC σ 4 i = 0 ↔ gC σ 0 i = 0 ∧ gC σ 1 i = 0 ∧ gC σ 2 i = 0 ∧ gC σ 3 i = 0 := by
    show (if (if (if (if (0 : Int) = 0 then gC σ 0 i else 1) = 0 then gC σ 1 i else 1) = 0 then gC σ 2 i else 1) = 0 then gC σ 3 i else 1) = 0 ↔ _
    rw [if_pos rfl]
    generalize gC σ 0 i = a
    generalize gC σ 1 i = b
    generalize gC σ 2 i = c
    generalize gC σ 3 i = d
    have one : ¬ (1 : Int) = 0 := by decide
    by_cases h1 : a = 0
    · rw [if_pos h1]
      by_cases h2 : b = 0
      · rw [if_pos h2]
        by_cases h3 : c = 0
        · rw [if_pos h3]; omega
        · rw [if_neg h3]; omega
      · rw [if_neg h2]; simp only [if_neg one]; omega
    · rw [if_neg h1]; simp only [if_neg one]; omega
  rw [o, key 0 (by omega) (by omega), key 1 (by omega) (by omega), key 2 (by omega) (by omega), key 3 (by omega) (by omega)]
  omega
theorem e_check (h : JJ σ) : rc_check σ  = rm_check σ  := by
  unfold rc_check rm_check
  rw [mcC_v, (jrR h).1]
  exact fsr_c (fun k a b => wrCM h a (by omega))
theorem vdCM (h : JJ σ) {s : Int} (W : Int) : ∀ (n : Nat) (t : Int), 0 ≤ t → t + n ≤ 150 → sm (szM σ s) t ≤ W → fsr (vdC σ s W) t n = fsr (fun i => if W < sm (szM σ s) (i + 1) then 1 else 0) t n
  | 0, _, _, _, _ => rfl
  | n + 1, t, t0, t1, hs => by
    have sz : ∀ k : Int, k ≤ 150 → sm (szC σ s) k = sm (szM σ s) k := fun k k1 => sm_c (fun x a b => by
      have r := (jrR h).2 x a (by omega)
      unfold szC szM absC
      rw [r.1, r.2.2.2.1]
      (repeat' split) <;> omega)
    have r := (jrR h).2 t t0 (by omega)
    have st := sm_s (f := szM σ s) t0
    have z := szM_v σ s t
    unfold fsr
    by_cases c : W < sm (szM σ s) (t + 1)
    · have e : σ 23 0 t = s := by
        rw [r.1]
        refine Classical.byContradiction (fun q => ?_)
        have := z.1 q
        omega
      rw [if_neg (show ¬ vdC σ s W t = 0 by unfold vdC; rw [sz _ (by omega), if_pos ⟨e, c⟩]; decide), if_neg (show ¬ (if W < sm (szM σ s) (t + 1) then (1 : Int) else 0) = 0 by rw [if_pos c]; decide)]
    · rw [if_pos (show vdC σ s W t = 0 by unfold vdC; rw [sz _ (by omega), if_neg (fun q => c q.2)]), if_pos (show (if W < sm (szM σ s) (t + 1) then (1 : Int) else 0) = 0 by rw [if_neg c])]
      exact vdCM h W n (t + 1) (by omega) (by omega) (by omega)
theorem e_voided (h : JJ σ) (z1 : Int) : rc_voided σ z1 = rm_voided σ z1 := by
  unfold rc_voided rm_voided
  split
  · rename_i c
    have t := thereS h (s := z1) (by omega) (by omega)
    by_cases d : σ 34 0 z1 < 0
    · rw [if_pos d, if_pos (t.mpr d)]
    · have u := atS h (s := z1) (by omega) (by omega) d
      have m := (jMR h).1
      have w := jMS h z1
      rw [if_neg d, if_neg (fun q => d (t.mp q)), u.2.2.2.2.2.2.2.2.2.2.2.2, (jrR h).1]
      exact vdCM h _ _ 0 (by omega) (by omega) (show (0 : Int) ≤ _ by omega)
  · rfl
theorem okCM (z1 z2 z3 z4 z5 : Int) : okSc z1 z2 z3 z4 z5 ↔ okSt z1 z2 z3 z4 z5 := by
  unfold okSc okSt
  by_cases n : 0 ≤ z4
  · rw [Int.tdiv_eq_ediv_of_nonneg n, Int.tmod_eq_emod_of_nonneg n]
    omega
  · have e : z4.tdiv 21 ≤ 0 := by
      rw [show z4 = -(-z4) by omega, Int.neg_tdiv, Int.tdiv_eq_ediv_of_nonneg (by omega)]
      omega
    omega
theorem tdCM {z1 z2 z3 z4 z5 : Int} (h : okSt z1 z2 z3 z4 z5) : z4.tdiv 21 = z4 / 21 ∧ z4.tmod 21 = z4 % 21 := by
  have n : 0 ≤ z4 := by unfold okSt at h; omega
  exact ⟨Int.tdiv_eq_ediv_of_nonneg n, Int.tmod_eq_emod_of_nonneg n⟩
theorem e_store (z1 z2 z3 z4 z5 : Int) : rc_store z1 z2 z3 z4 z5 = rm_store z1 z2 z3 z4 z5 := by
  unfold rc_store rm_store
  by_cases c : okSt z1 z2 z3 z4 z5
  · rw [if_pos c, if_pos ((okCM z1 z2 z3 z4 z5).mpr c)]
  · rw [if_neg c, if_neg (fun q => c ((okCM z1 z2 z3 z4 z5).mp q))]
theorem J_store (h : JJ σ) (z1 z2 z3 z4 z5 : Int) : JJ (sm_store (sc_store σ z1 z2 z3 z4 z5) z1 z2 z3 z4 z5) := by
  by_cases c : okSt z1 z2 z3 z4 z5
  · have e : sc_store σ z1 z2 z3 z4 z5 = nwL (nwR (nwB σ z1 z2 z3) z1 (z4.tdiv 21) (z4.tmod 21)) z1 (z5 / 101) (z5 % 101) := if_pos ((okCM z1 z2 z3 z4 z5).mpr c)
    rw [e, (tdCM c).1, (tdCM c).2]
    have f : ∀ τ, sm_store τ z1 z2 z3 z4 z5 = fillR (sm_store0 τ z1 z2 z3 z4 z5) 43 0 (36 * z1) (36 * z1 + 36) 0 := fun τ => if_pos c
    rw [f]
    unfold okSt at c
    generalize hA : z4 / 21 = A at c ⊢
    generalize hB : z4 % 21 = B at c ⊢
    generalize hC : z5 / 101 = C at c ⊢
    have hD0 : 0 ≤ z5 % 101 ∧ z5 % 101 ≤ 100 := by omega
    generalize hD : z5 % 101 = D at hD0 ⊢
    refine mkJ (jMT (σ := σ) h) (jMK (σ := σ) h) (jMP (σ := σ) h) ?_ ?_ (jMD (σ := σ) h) (jME (σ := σ) h) (jMR (σ := σ) h) ?_ (jrT (σ := σ) h) (jrK (σ := σ) h) (jrW (σ := σ) h) (jCP (σ := σ) h) ?_ ?_ ?_ ?_ (jrD (σ := σ) h) (jCD (σ := σ) h) (jrE (σ := σ) h) (jrR (σ := σ) h) (jCR (σ := σ) h)
    · intro s
      obtain ⟨q1, q2, q3, q4, q5, q6, q7, q8, q9⟩ := jMS h s
      refine ⟨?_, ?_, ?_, ?_, ?_, ?_, ?_, ?_, ?_⟩ <;> simp only [up, fillR, plW, cpyA, nwP, nwB, nwR, nwL, adB, sm_store0, Nat.reduceEqDiff, Int.reduceEq, eq_self_iff_true, eq_self, false_and, true_and, and_false, and_true, if_false, if_true, ite_false, ite_true, reduceIte] <;> (try simp only [hA, hB, hC, hD]) <;> (repeat' split) <;> omega
    · intro k
      have q := jML h k
      simp only [up, fillR, plW, cpyA, nwP, nwB, nwR, nwL, adB, sm_store0, Nat.reduceEqDiff, Int.reduceEq, eq_self_iff_true, eq_self, false_and, true_and, and_false, and_true, if_false, if_true, ite_false, ite_true, reduceIte]
      split <;> omega
    · intro s s0 s1 k
      by_cases x : s = z1
      · subst x
        unfold floM topM
        simp only [up, fillR, plW, cpyA, nwP, nwB, nwR, nwL, adB, sm_store0, Nat.reduceEqDiff, Int.reduceEq, eq_self_iff_true, eq_self, false_and, true_and, and_false, and_true, if_false, if_true, ite_false, ite_true, reduceIte]
        (try simp only [hA, hB, hC, hD])
        (repeat' split) <;> omega
      · have k2 : 0 ≤ σ 34 0 s := by
          revert k
          simp only [up, fillR, plW, cpyA, nwP, nwB, nwR, nwL, adB, sm_store0, Nat.reduceEqDiff, Int.reduceEq, eq_self_iff_true, eq_self, false_and, true_and, and_false, and_true, if_false, if_true, ite_false, ite_true, reduceIte]
          rw [if_neg x]
          exact id
        have q := jMC h s s0 s1 k2
        unfold floM topM at q ⊢
        simp only [up, fillR, plW, cpyA, nwP, nwB, nwR, nwL, adB, sm_store0, Nat.reduceEqDiff, Int.reduceEq, eq_self_iff_true, eq_self, false_and, true_and, and_false, and_true, if_false, if_true, ite_false, ite_true, reduceIte]
        simp only [if_neg x]
        exact q
    · intro s s0 s1
      by_cases x : s = z1
      · subst x
        refine Or.inr ?_
        unfold floM topM inM outM lossM
        rcases (show z2 = 0 ∨ z2 = 1 ∨ z2 = 2 ∨ z2 = 3 ∨ z2 = 4 by omega) with rfl | rfl | rfl | rfl | rfl <;> simp only [up, fillR, plW, cpyA, nwP, nwB, nwR, nwL, adB, sm_store0, Nat.reduceEqDiff, Int.reduceEq, eq_self_iff_true, eq_self, false_and, true_and, and_false, and_true, if_false, if_true, ite_false, ite_true, reduceIte] <;> simp only [hA, hB, hC, hD, Int.reduceEq, or_self, or_true, true_or, or_false, false_or, if_true, if_false, and_true, true_and] <;> omega
      · have q := jrS h s s0 s1
        unfold floM topM inM outM lossM at q ⊢
        simp only [up, fillR, plW, cpyA, nwP, nwB, nwR, nwL, adB, sm_store0, Nat.reduceEqDiff, Int.reduceEq, eq_self_iff_true, eq_self, false_and, true_and, and_false, and_true, if_false, if_true, ite_false, ite_true, reduceIte]
        simp only [if_neg x]
        exact q
    · intro s
      obtain ⟨q1, q2, q3, q4, q5, q6, q7, q8, q9, qa, qb⟩ := jCS h s
      refine ⟨?_, ?_, ?_, ?_, ?_, ?_, ?_, ?_, ?_, ?_, ?_⟩ <;> simp only [up, fillR, plW, cpyA, nwP, nwB, nwR, nwL, adB, sm_store0, Nat.reduceEqDiff, Int.reduceEq, eq_self_iff_true, eq_self, false_and, true_and, and_false, and_true, if_false, if_true, ite_false, ite_true, reduceIte] <;> (try simp only [hA, hB, hC, hD]) <;> (repeat' split) <;> omega
    · intro s t s0 s1 t0 t1
      have q := jrL h s t s0 s1 t0 t1
      simp only [up, fillR, plW, cpyA, nwP, nwB, nwR, nwL, adB, sm_store0, Nat.reduceEqDiff, Int.reduceEq, eq_self_iff_true, eq_self, false_and, true_and, and_false, and_true, if_false, if_true, ite_false, ite_true, reduceIte]
      (repeat' split) <;> omega
    · intro s t
      have q := jCL h s t
      simp only [up, fillR, plW, cpyA, nwP, nwB, nwR, nwL, adB, sm_store0, Nat.reduceEqDiff, Int.reduceEq, eq_self_iff_true, eq_self, false_and, true_and, and_false, and_true, if_false, if_true, ite_false, ite_true, reduceIte]
      (repeat' split) <;> omega
  · have e : sc_store σ z1 z2 z3 z4 z5 = σ := if_neg (fun q => c ((okCM z1 z2 z3 z4 z5).mp q))
    have f : sm_store σ z1 z2 z3 z4 z5 = σ := if_neg c
    rw [e, f]; exact h
theorem e_copy (h : JJ σ) (z1 z2 z3 z4 z5 : Int) : rc_copy σ z1 z2 z3 z4 z5 = rm_copy σ z1 z2 z3 z4 z5 := by
  unfold rc_copy rm_copy
  split
  · rename_i c
    have t1 := thereW h (w := z1) (by omega) (by omega)
    have t3 := thereW h (w := z3) (by omega) (by omega)
    by_cases d : σ 31 0 z1 < 0 ∨ σ 31 0 z3 < 0
    · rw [if_pos d, if_pos (by omega)]
    · have u1 := t1.2 (by omega)
      have u3 := t3.2 (by omega)
      rw [if_neg d, if_neg (by omega), u1.1, u3.1, u1.2.1, u3.2.1]
      split
      · by_cases x : 0 ≤ z5 ∧ 0 ≤ z2 ∧ 0 ≤ z4 ∧ z2 + z5 ≤ σ 32 0 z1 ∧ z4 + z5 ≤ σ 32 0 z3
        · rw [if_pos x, if_pos (by omega)]
        · rw [if_neg x, if_neg (by omega)]
      · rfl
  · rfl
theorem x_copy (σ : Mm) (z1 z2 z3 z4 z5 : Int) : rm_copy (sc_copy σ z1 z2 z3 z4 z5) z1 z2 z3 z4 z5 = rm_copy σ z1 z2 z3 z4 z5 := by
  unfold sc_copy
  split <;> rfl
theorem J_copy (h : JJ σ) (z1 z2 z3 z4 z5 : Int) : JJ (sm_copy (sc_copy σ z1 z2 z3 z4 z5) z1 z2 z3 z4 z5) := by
  by_cases c : ((0 ≤ z1 ∧ z1 ≤ 3) ∧ (0 ≤ z3 ∧ z3 ≤ 3)) ∧ (0 ≤ σ 31 0 z1 ∧ 0 ≤ σ 31 0 z3) ∧ σ 31 0 z1 = σ 31 0 z3 ∧ (0 ≤ z5 ∧ 0 ≤ z2 ∧ 0 ≤ z4 ∧ z2 + z5 ≤ σ 32 0 z1 ∧ z4 + z5 ≤ σ 32 0 z3)
  · have t1 := thereW h (w := z1) (by omega) (by omega)
    have t3 := thereW h (w := z3) (by omega) (by omega)
    have u1 := t1.2 (by omega)
    have u3 := t3.2 (by omega)
    have m1 := (jMP h).1 z1
    have m3 := (jMP h).1 z3
    have e : sc_copy σ z1 z2 z3 z4 z5 = cpyA σ 7 z1 z2 7 z3 z4 z5 := if_pos (by rw [u1.1, u3.1, u1.2.1, u3.2.1]; omega)
    have f : sm_copy (cpyA σ 7 z1 z2 7 z3 z4 z5) z1 z2 z3 z4 z5 = cpyA (cpyA (cpyA σ 7 z1 z2 7 z3 z4 z5) 33 0 (36 * z1 + z2) 47 0 0 z5) 47 0 0 33 0 (36 * z3 + z4) z5 := if_pos c
    rw [e, f]
    refine mkJ (jMT (σ := σ) h) (jMK (σ := σ) h) ?_ (jMS (σ := σ) h) (jML (σ := σ) h) (jMD (σ := σ) h) (jME (σ := σ) h) (jMR (σ := σ) h) (jMC (σ := σ) h) (jrT (σ := σ) h) (jrK (σ := σ) h) ?_ ?_ (jrS (σ := σ) h) (jCS (σ := σ) h) (jrL (σ := σ) h) (jCL (σ := σ) h) (jrD (σ := σ) h) (jCD (σ := σ) h) (jrE (σ := σ) h) (jrR (σ := σ) h) (jCR (σ := σ) h)
    · refine ⟨(jMP h).1, fun k => ?_⟩
      simp only [up, fillR, plW, cpyA, nwP, nwB, nwR, nwL, adB, Nat.reduceEqDiff, Int.reduceEq, eq_self_iff_true, eq_self, false_and, true_and, and_false, and_true, if_false, if_true, ite_false, ite_true, reduceIte]
      split
      · split
        · exact (jMP h).2 _
        · exfalso; omega
      · exact (jMP h).2 _
    · intro w w0 w1
      have q := jrW h w w0 w1
      rcases q with q | q
      · exact Or.inl q
      · refine Or.inr ⟨q.1, q.2.1, q.2.2.1, q.2.2.2.1, fun t t0 t1 => ?_⟩
        have q4 := q.2.2.2.2 t t0 t1
        simp only [up, fillR, plW, cpyA, nwP, nwB, nwR, nwL, adB, Nat.reduceEqDiff, Int.reduceEq, eq_self_iff_true, eq_self, false_and, true_and, and_false, and_true, if_false, if_true, ite_false, ite_true, reduceIte]
        by_cases x : w = z3 ∧ z4 ≤ t ∧ t < z4 + z5
        · rw [if_pos x, if_pos (by omega), if_pos (by omega), u1.2.2 _ (by omega) (by omega)]
          congr 1
          omega
        · rw [if_neg x, if_neg (by omega)]
          exact q4
    · intro w
      have q := jCP h w
      refine ⟨q.1, q.2.1, fun t => ?_⟩
      simp only [up, fillR, plW, cpyA, nwP, nwB, nwR, nwL, adB, Nat.reduceEqDiff, Int.reduceEq, eq_self_iff_true, eq_self, false_and, true_and, and_false, and_true, if_false, if_true, ite_false, ite_true, reduceIte]
      split
      · exact (jCP h z1).2.2 _
      · exact q.2.2 t
  · have e : sc_copy σ z1 z2 z3 z4 z5 = σ := if_neg (fun q => c (by
      have t1 := thereW h (w := z1) (by omega) (by omega)
      have t3 := thereW h (w := z3) (by omega) (by omega)
      have u1 := t1.2 (by omega)
      have u3 := t3.2 (by omega)
      have q2 := q.2
      rw [u1.1, u3.1, u1.2.1, u3.2.1] at q2
      omega))
    have f : sm_copy σ z1 z2 z3 z4 z5 = σ := if_neg c
    rw [e, f]; exact h
theorem e_live (h : JJ σ) (z1 z2 : Int) : rc_live σ z1 z2 = rm_live σ z1 z2 := by
  unfold rc_live rm_live
  split
  · rename_i c
    have g := jrT h
    unfold rT at g
    have t := thereS h (s := z1) (by omega) (by omega)
    by_cases d : σ 34 0 z1 < 0
    · rw [if_pos (Or.inl d), if_pos (Or.inl (t.mpr d))]
    · rw [whCM h (by omega) (by omega) d, g, (jrR h).1]
      by_cases y : whM σ z1 ≠ NONE
      · rw [if_pos (Or.inr y), if_pos (Or.inr y)]
      · rw [if_neg (fun q => q.elim (fun q => d (t.mp q)) y), if_neg (show ¬ (σ 34 0 z1 < 0 ∨ whM σ z1 ≠ NONE) from fun q => q.elim d y)]
  · rfl
theorem x_live (σ : Mm) (z1 z2 : Int) : rm_live (sc_live σ z1 z2) z1 z2 = rm_live σ z1 z2 := by
  unfold sc_live
  split <;> rfl
theorem fst_0 {f : Int → Int} (h : ∀ k, 0 ≤ f k) : ∀ (n : Nat) (t : Int), 0 ≤ t → fst f t n = NONE → ∀ k : Int, t ≤ k → k < t + n → f k = 0
  | 0, _, _, _, _, _, _ => by omega
  | n + 1, t, t0, e, k, k0, k1 => by
    unfold fst at e
    by_cases z : f t = 0
    · rw [if_pos z] at e
      by_cases x : k = t
      · rw [x]; exact z
      · exact fst_0 h n (t + 1) (by omega) e k (by omega) (by omega)
    · rw [if_neg z] at e
      have := h t
      have nn : NONE < 0 := by decide
      omega
theorem ftM_0 (σ : Mm) (s t d c : Int) : 0 ≤ ftM σ s t d c := by
  unfold ftM
  (repeat' split) <;> omega
theorem lvM_v (σ : Mm) {s w t i e : Int} (e0 : 0 ≤ e) (e1 : e < 5) : lvM σ s w t 46 0 (5 * i + e) = if σ 28 0 20 ≤ i ∧ i < σ 28 0 20 + t then bkE s w (i - σ 28 0 20) (σ 43 0 (36 * s + (i - σ 28 0 20))) (monM σ s (σ 43 0 (36 * s + (i - σ 28 0 20))) (pM σ w (i - σ 28 0 20))) e else σ 46 0 (5 * i + e) := by
  unfold lvM
  by_cases x : σ 28 0 20 ≤ i ∧ i < σ 28 0 20 + t
  · rw [if_pos x, if_pos ⟨rfl, rfl, by omega, by omega⟩, show (5 * i + e - 5 * σ 28 0 20) / 5 = i - σ 28 0 20 by omega, show (5 * i + e - 5 * σ 28 0 20) % 5 = e by omega]
  · rw [if_neg x, if_neg (by omega), if_neg (by omega)]
theorem J_live (h : JJ σ) (z1 z2 : Int) : JJ (sm_live (sc_live σ z1 z2) z1 z2) := by
  have g := jrT h
  unfold rT at g
  have mt := jMT h
  unfold MT at mt
  have rr := (jrR h).1
  have mr := (jMR h).1
  by_cases c : ((0 ≤ z1 ∧ z1 ≤ 3) ∧ (0 ≤ z2 ∧ z2 ≤ 3)) ∧ ¬ (σ 34 0 z1 < 0 ∨ whM σ z1 ≠ NONE) ∧ σ 28 0 20 + σ 28 0 0 ≤ 150
  · have t := thereS h (s := z1) (by omega) (by omega)
    have d : ¬ σ 34 0 z1 < 0 := fun q => c.2.1 (Or.inl q)
    have w : whM σ z1 = NONE := Classical.byContradiction (fun q => c.2.1 (Or.inr q))
    have e : sc_live σ z1 z2 = up (lvC σ z1 z2 (σ 28 0 0)) 8 z1 3 (bhM σ z1 (σ 28 0 0 - 1)) := by
      unfold sc_live
      rw [whCM h (by omega) (by omega) d, g, rr, bhCM h (by omega) (by omega) d (by omega)]
      exact if_pos ⟨c.1, fun q => q.elim (fun q => d (t.mp q)) (fun q => q w), c.2.2⟩
    rw [e]
    generalize hv : bhM σ z1 (σ 28 0 0 - 1) = v
    have f : sm_live (up (lvC σ z1 z2 (σ 28 0 0)) 8 z1 3 v) z1 z2 = up (lvM (up (lvC σ z1 z2 (σ 28 0 0)) 8 z1 3 v) z1 z2 (σ 28 0 0)) 36 0 z1 (bhM σ z1 (σ 28 0 0 - 1)) := if_pos c
    rw [f, hv]
    have ft := fst_0 (fun k => ftM_0 σ z1 k _ _) (σ 28 0 0).toNat 0 (by omega) w (σ 28 0 0 - 1) (by omega) (by omega)
    have rm := rmM_b (jMK h) (σ 28 0 0 - 1)
    have bm := bM (jMS h) z1
    have vb : floM σ z1 ≤ v ∧ v ≤ topM σ z1 := by
      (try dsimp only at ft)
      rw [hv] at ft
      unfold ftM at ft
      revert ft
      (repeat' split) <;> omega
    have lv : ∀ i e : Int, 0 ≤ e → e < 5 → up (lvM (up (lvC σ z1 z2 (σ 28 0 0)) 8 z1 3 v) z1 z2 (σ 28 0 0)) 36 0 z1 v 46 0 (5 * i + e) = if σ 28 0 20 ≤ i ∧ i < σ 28 0 20 + σ 28 0 0 then bkE z1 z2 (i - σ 28 0 20) (σ 43 0 (36 * z1 + (i - σ 28 0 20))) (monM σ z1 (σ 43 0 (36 * z1 + (i - σ 28 0 20))) (pM σ z2 (i - σ 28 0 20))) e else σ 46 0 (5 * i + e) := fun i e e0 e1 => lvM_v (up (lvC σ z1 z2 (σ 28 0 0)) 8 z1 3 v) e0 e1
    have lv0 : ∀ i : Int, up (lvM (up (lvC σ z1 z2 (σ 28 0 0)) 8 z1 3 v) z1 z2 (σ 28 0 0)) 36 0 z1 v 46 0 (5 * i) = if σ 28 0 20 ≤ i ∧ i < σ 28 0 20 + σ 28 0 0 then z1 else σ 46 0 (5 * i) := fun i => by
      have := lv i 0 (by omega) (by omega)
      rw [Int.add_zero] at this
      exact this
    have cv0 : ∀ i : Int, lvC σ z1 z2 (σ 28 0 0) 23 0 i = if σ 28 0 20 ≤ i ∧ i < σ 28 0 20 + σ 28 0 0 then z1 else σ 23 0 i := fun i => by
      unfold lvC; rw [if_pos rfl, rr]; (repeat' split) <;> omega
    have cv1 : ∀ i : Int, lvC σ z1 z2 (σ 28 0 0) 24 0 i = if σ 28 0 20 ≤ i ∧ i < σ 28 0 20 + σ 28 0 0 then z2 else σ 24 0 i := fun i => by
      unfold lvC; rw [if_neg (by decide), if_pos rfl, rr]; (repeat' split) <;> omega
    have cv2 : ∀ i : Int, lvC σ z1 z2 (σ 28 0 0) 25 0 i = if σ 28 0 20 ≤ i ∧ i < σ 28 0 20 + σ 28 0 0 then i - σ 28 0 20 else σ 25 0 i := fun i => by
      unfold lvC; rw [if_neg (by decide), if_neg (by decide), if_pos rfl, rr]; (repeat' split) <;> omega
    have cv3 : ∀ i : Int, lvC σ z1 z2 (σ 28 0 0) 26 0 i = if σ 28 0 20 ≤ i ∧ i < σ 28 0 20 + σ 28 0 0 then σ 43 0 (36 * z1 + (i - σ 28 0 20)) else σ 26 0 i := fun i => by
      unfold lvC; rw [if_neg (by decide), if_neg (by decide), if_neg (by decide), if_pos rfl, rr]
      by_cases x : σ 28 0 20 ≤ i ∧ i < σ 28 0 20 + σ 28 0 0
      · rw [if_pos x, if_pos ⟨rfl, x⟩, jrL h z1 _ (by omega) (by omega) (by omega) (by omega)]
      · rw [if_neg x, if_neg (fun q => x q.2)]
    have cv4 : ∀ i : Int, lvC σ z1 z2 (σ 28 0 0) 27 0 i = if σ 28 0 20 ≤ i ∧ i < σ 28 0 20 + σ 28 0 0 then monM σ z1 (σ 43 0 (36 * z1 + (i - σ 28 0 20))) (pM σ z2 (i - σ 28 0 20)) else σ 27 0 i := fun i => by
      unfold lvC; rw [if_neg (by decide), if_neg (by decide), if_neg (by decide), if_neg (by decide), if_pos rfl, rr]
      by_cases x : σ 28 0 20 ≤ i ∧ i < σ 28 0 20 + σ 28 0 0
      · rw [if_pos x, if_pos ⟨rfl, x⟩, jrL h z1 _ (by omega) (by omega) (by omega) (by omega), monCM h (by omega) (by omega) d, pCM h (by omega) (by omega) (by omega) (by omega)]
      · rw [if_neg x, if_neg (fun q => x q.2)]
    refine mkJ (jMT (σ := σ) h) (jMK (σ := σ) h) (jMP (σ := σ) h) ?_ (jML (σ := σ) h) (jMD (σ := σ) h) (jME (σ := σ) h) ?_ ?_ (jrT (σ := σ) h) (jrK (σ := σ) h) (jrW (σ := σ) h) (jCP (σ := σ) h) ?_ ?_ (jrL (σ := σ) h) (jCL (σ := σ) h) (jrD (σ := σ) h) (jCD (σ := σ) h) (jrE (σ := σ) h) ?_ ?_
    · intro s
      have q := jMS h s
      refine ⟨q.1, q.2.1, ?_, q.2.2.2⟩
      show 0 ≤ up _ 36 0 z1 v 36 0 s ∧ up _ 36 0 z1 v 36 0 s ≤ 60
      rw [up_e]
      split
      · omega
      · exact q.2.2.1
    · refine ⟨?_, fun i => ?_⟩
      · show 0 ≤ σ 28 0 20 + σ 28 0 0 ∧ σ 28 0 20 + σ 28 0 0 ≤ 150
        omega
      · have q := (jMR h).2 i
        rw [lv0, lv i 1 (by omega) (by omega), lv i 2 (by omega) (by omega), lv i 3 (by omega) (by omega)]
        have l := jML h (36 * z1 + (i - σ 28 0 20))
        by_cases x : σ 28 0 20 ≤ i ∧ i < σ 28 0 20 + σ 28 0 0
        · rw [if_pos x, if_pos x, if_pos x, if_pos x]
          exact ⟨c.1.1, c.1.2, by show 0 ≤ i - σ 28 0 20 ∧ i - σ 28 0 20 ≤ 35; omega, l⟩
        · rw [if_neg x, if_neg x, if_neg x, if_neg x]
          exact q
    · intro s s0 s1 k
      have q := jMC h s s0 s1 k
      show floM σ s ≤ up _ 36 0 z1 v 36 0 s ∧ up _ 36 0 z1 v 36 0 s ≤ topM σ s ∧ _
      rw [up_e]
      split
      · rename_i x; rw [x.2]; exact ⟨vb.1, vb.2, by rw [x.2] at q; exact q.2.2⟩
      · exact q
    · intro s s0 s1
      have q := jrS h s s0 s1
      by_cases x : s = z1
      · subst x
        rcases q with q | q
        · exact absurd q.2 (by omega)
        · obtain ⟨q0, q1, q2, q3, q4, q5, q6, q7, q8, q9, qa, qb, qc⟩ := q
          refine Or.inr ⟨?_, q1, ?_, ?_, ?_, ?_, ?_, ?_, ?_, ?_, ?_, ?_, ?_⟩
          all_goals first | exact Eq.trans (show up (lvC σ s z2 (σ 28 0 0)) 8 s 3 v 8 s _ = _ by rw [up_e, if_neg (by omega)]; rfl) q0 | exact Eq.trans (show up (lvC σ s z2 (σ 28 0 0)) 8 s 3 v 8 s _ = _ by rw [up_e, if_neg (by omega)]; rfl) q2 | exact Eq.trans (show up (lvC σ s z2 (σ 28 0 0)) 8 s 3 v 8 s _ = _ by rw [up_e, if_neg (by omega)]; rfl) q3 | exact Eq.trans (show up (lvC σ s z2 (σ 28 0 0)) 8 s 3 v 8 s _ = _ by rw [up_e, if_neg (by omega)]; rfl) q5 | exact Eq.trans (show up (lvC σ s z2 (σ 28 0 0)) 8 s 3 v 8 s _ = _ by rw [up_e, if_neg (by omega)]; rfl) q6 | exact Eq.trans (show up (lvC σ s z2 (σ 28 0 0)) 8 s 3 v 8 s _ = _ by rw [up_e, if_neg (by omega)]; rfl) q7 | exact Eq.trans (show up (lvC σ s z2 (σ 28 0 0)) 8 s 3 v 8 s _ = _ by rw [up_e, if_neg (by omega)]; rfl) q8 | exact Eq.trans (show up (lvC σ s z2 (σ 28 0 0)) 8 s 3 v 8 s _ = _ by rw [up_e, if_neg (by omega)]; rfl) q9 | exact Eq.trans (show up (lvC σ s z2 (σ 28 0 0)) 8 s 3 v 8 s _ = _ by rw [up_e, if_neg (by omega)]; rfl) qa | exact Eq.trans (show up (lvC σ s z2 (σ 28 0 0)) 8 s 3 v 8 s _ = _ by rw [up_e, if_neg (by omega)]; rfl) qb | exact Eq.trans (show up (lvC σ s z2 (σ 28 0 0)) 8 s 3 v 8 s _ = _ by rw [up_e, if_neg (by omega)]; rfl) qc | skip
          show up (lvC σ s z2 (σ 28 0 0)) 8 s 3 v 8 s 3 = up _ 36 0 s v 36 0 s
          rw [up_e, up_e, if_pos ⟨rfl, rfl⟩, if_pos ⟨rfl, rfl⟩]
      · have y : ∀ k, up (lvM (up (lvC σ z1 z2 (σ 28 0 0)) 8 z1 3 v) z1 z2 (σ 28 0 0)) 36 0 z1 v 8 s k = σ 8 s k := fun k => by
          show up (lvC σ z1 z2 (σ 28 0 0)) 8 z1 3 v 8 s k = _
          rw [up_e, if_neg (fun q => x q.1)]
          rfl
        have y2 : up (lvM (up (lvC σ z1 z2 (σ 28 0 0)) 8 z1 3 v) z1 z2 (σ 28 0 0)) 36 0 z1 v 36 0 s = σ 36 0 s := by
          rw [up_e, if_neg (fun q => x q.2)]
          rfl
        rw [y, y, y, y, y, y, y, y, y, y, y, y, y2]
        exact q
    · intro s
      have q := jCS h s
      have y : ∀ k, k ≠ 3 → up (lvM (up (lvC σ z1 z2 (σ 28 0 0)) 8 z1 3 v) z1 z2 (σ 28 0 0)) 36 0 z1 v 8 s k = σ 8 s k := fun k hk => by
          show up (lvC σ z1 z2 (σ 28 0 0)) 8 z1 3 v 8 s k = _
          rw [up_e, if_neg (fun q => hk q.2)]
          rfl
      rw [y 1 (by decide), y 2 (by decide), y 4 (by decide), y 5 (by decide), y 6 (by decide), y 7 (by decide), y 8 (by decide), y 9 (by decide), y 10 (by decide), y 11 (by decide)]
      refine ⟨q.1, q.2.1, ?_, q.2.2.2⟩
      show 0 ≤ up (lvC σ z1 z2 (σ 28 0 0)) 8 z1 3 v 8 s 3 ∧ up (lvC σ z1 z2 (σ 28 0 0)) 8 z1 3 v 8 s 3 ≤ 60
      rw [up_e]
      split
      · omega
      · exact q.2.2.1
    · refine ⟨?_, fun i i0 i1 => ?_⟩
      · show σ 22 0 0 + σ 28 0 0 = σ 28 0 20 + σ 28 0 0
        omega
      · obtain ⟨q0, q1, q2, q3, q4⟩ := (jrR h).2 i i0 i1
        rw [lv0, lv i 1 (by omega) (by omega), lv i 2 (by omega) (by omega), lv i 3 (by omega) (by omega), lv i 4 (by omega) (by omega)]
        refine ⟨Eq.trans (cv0 i) ?_, Eq.trans (cv1 i) ?_, Eq.trans (cv2 i) ?_, Eq.trans (cv3 i) ?_, Eq.trans (cv4 i) ?_⟩
        · rw [q0]
        · rw [q1]; rfl
        · rw [q2]; rfl
        · rw [q3]; rfl
        · rw [q4]; rfl
    · refine ⟨?_, fun i => ?_⟩
      · show 0 ≤ σ 22 0 0 + σ 28 0 0 ∧ σ 22 0 0 + σ 28 0 0 ≤ 150
        omega
      · have q := (jCR h).2 i
        have l := jML h (36 * z1 + (i - σ 28 0 20))
        show (0 ≤ lvC σ z1 z2 (σ 28 0 0) 23 0 i ∧ lvC σ z1 z2 (σ 28 0 0) 23 0 i ≤ 3) ∧ (0 ≤ lvC σ z1 z2 (σ 28 0 0) 24 0 i ∧ lvC σ z1 z2 (σ 28 0 0) 24 0 i ≤ 3) ∧ (0 ≤ lvC σ z1 z2 (σ 28 0 0) 25 0 i ∧ lvC σ z1 z2 (σ 28 0 0) 25 0 i ≤ 35) ∧ (-100 ≤ lvC σ z1 z2 (σ 28 0 0) 26 0 i ∧ lvC σ z1 z2 (σ 28 0 0) 26 0 i ≤ 100)
        rw [cv0, cv1, cv2, cv3]
        by_cases x : σ 28 0 20 ≤ i ∧ i < σ 28 0 20 + σ 28 0 0
        · rw [if_pos x, if_pos x, if_pos x, if_pos x]
          exact ⟨c.1.1, c.1.2, by omega, l⟩
        · rw [if_neg x, if_neg x, if_neg x, if_neg x]
          exact q
  · have e : sc_live σ z1 z2 = σ := if_neg (fun q => c (by
      have t := thereS h (s := z1) (by omega) (by omega)
      have d : ¬ σ 34 0 z1 < 0 := fun x => q.2.1 (Or.inl (t.mpr x))
      have q2 := q.2
      rw [whCM h (by omega) (by omega) d] at q2
      exact ⟨q.1, fun x => q2.1 (x.elim (fun x => absurd x d) Or.inr), by omega⟩))
    have f : sm_live σ z1 z2 = σ := if_neg c
    rw [e, f]; exact h
end JC2
