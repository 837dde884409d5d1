/-! the best plan: the two tables are one -/
def conv (x : Int) : Int := if x = LOW then NONE else x
theorem mon_add (l a b d p q : Int) : mon l (a + b) d (p + q) = mon l a d p + mon l b d q := by
  unfold mon
  split
  · rw [Int.neg_add, Int.add_mul]
  · rw [show p + q - (a + b) = (p - a) + (q - b) by omega, Int.add_mul]
theorem mon_z (l d : Int) : mon l 0 d 0 = 0 := by
  unfold mon
  split <;> simp
theorem mon_sum {l wr d ws : Int} {p p' : Int → Int} : ∀ n : Nat, (∀ w : Int, 0 ≤ w → w < n → p w = p' w) → sumN (fun w => if sel ws w = 1 then mon l wr d (p' w) else 0) n = mon l (sumN (fun w => if sel ws w = 1 then 1 else 0) n * wr) d (sumN (fun w => if sel ws w = 1 then p w else 0) n)
  | 0, _ => by
    show (0 : Int) = mon l (0 * wr) d 0
    rw [Int.zero_mul, mon_z]
  | n + 1, h => by
    have i := mon_sum (l := l) (wr := wr) (d := d) (ws := ws) n (fun w a b => h w a (by omega))
    show sumN _ n + (if sel ws n = 1 then mon l wr d (p' n) else 0) = mon l ((sumN _ n + (if sel ws n = 1 then 1 else 0)) * wr) d (sumN _ n + (if sel ws n = 1 then p n else 0))
    rw [i]
    by_cases s : sel ws n = 1
    · rw [if_pos s, if_pos s, if_pos s, Int.add_mul, Int.one_mul, mon_add, h n (by omega) (by omega)]
    · rw [if_neg s, if_neg s, if_neg s, Int.add_zero, Int.add_zero, Int.add_zero]
theorem gF_sp {w : Int → Int} {lo B : Int} (hB : B < 8000000000000000000) : ∀ n : Nat, (∀ d : Int, lo ≤ d → d < lo + n → w d = NONE ∨ -B ≤ w d) → ((gF w lo n = NONE ∧ ∀ d : Int, lo ≤ d → d < lo + n → w d = NONE) ∨ (-B ≤ gF w lo n ∧ (∃ d : Int, lo ≤ d ∧ d < lo + n ∧ w d = gF w lo n) ∧ ∀ d : Int, lo ≤ d → d < lo + n → w d ≤ gF w lo n))
  | 0, _ => Or.inl ⟨rfl, fun d a b => by omega⟩
  | n + 1, h => by
    have i := gF_sp hB n (fun d a b => h d a (by omega))
    have q := h (lo + n) (by omega) (by omega)
    have nn : NONE = -9000000000000000005 := rfl
    unfold gF
    by_cases c : gF w lo n < w (lo + n)
    · rw [if_pos c]
      refine Or.inr ⟨?_, ⟨lo + n, by omega, by omega, rfl⟩, fun d a b => ?_⟩
      · rcases i with i | i <;> omega
      · by_cases e : d = lo + n
        · rw [e]; omega
        · rcases i with i | i
          · have := i.2 d a (by omega); omega
          · have := i.2.2 d a (by omega); omega
    · rw [if_neg c]
      rcases i with i | i
      · refine Or.inl ⟨i.1, fun d a b => ?_⟩
        by_cases e : d = lo + n
        · rw [e]; omega
        · exact i.2 d a (by omega)
      · obtain ⟨i1, ⟨d, d0, d1, d2⟩, i3⟩ := i
        refine Or.inr ⟨i1, ⟨d, d0, by omega, d2⟩, fun d a b => ?_⟩
        by_cases e : d = lo + n
        · rw [e]; omega
        · exact i3 d a (by omega)
theorem bF_sp {w : Int → Int} {lo B : Int} (hB : B < 8000000000000000000) : ∀ n : Nat, (∀ d : Int, lo ≤ d → d < lo + n → w d = LOW ∨ -B ≤ w d) → ((bF w lo n = LOW ∧ ∀ d : Int, lo ≤ d → d < lo + n → w d = LOW) ∨ (-B ≤ bF w lo n ∧ (∃ d : Int, lo ≤ d ∧ d < lo + n ∧ w d = bF w lo n) ∧ ∀ d : Int, lo ≤ d → d < lo + n → w d ≤ bF w lo n))
  | 0, _ => Or.inl ⟨rfl, fun d a b => by omega⟩
  | n + 1, h => by
    have i := bF_sp hB n (fun d a b => h d a (by omega))
    have q := h (lo + n) (by omega) (by omega)
    have nn : LOW = -8000000000000000000 := rfl
    unfold bF
    by_cases c : w (lo + n) ≠ LOW ∧ bF w lo n ≤ w (lo + n)
    · rw [if_pos c]
      refine Or.inr ⟨?_, ⟨lo + n, by omega, by omega, rfl⟩, fun d a b => ?_⟩
      · rcases i with i | i <;> omega
      · by_cases e : d = lo + n
        · rw [e]; omega
        · rcases i with i | i
          · have := i.2 d a (by omega); omega
          · have := i.2.2 d a (by omega); omega
    · rw [if_neg c]
      rcases i with i | i
      · refine Or.inl ⟨i.1, fun d a b => ?_⟩
        by_cases e : d = lo + n
        · rw [e]; omega
        · exact i.2 d a (by omega)
      · obtain ⟨i1, ⟨d, d0, d1, d2⟩, i3⟩ := i
        refine Or.inr ⟨i1, ⟨d, d0, by omega, d2⟩, fun d a b => ?_⟩
        by_cases e : d = lo + n
        · rw [e]; omega
        · exact i3 d a (by omega)
theorem conv_v (x : Int) : (x = LOW → conv x = NONE) ∧ (x ≠ LOW → conv x = x) := ⟨fun h => if_pos h, fun h => if_neg h⟩
theorem mx_eq {w v : Int → Int} {lo lo' B : Int} {n n' : Nat} (hB : B < 8000000000000000000) (hw : ∀ d : Int, lo ≤ d → d < lo + n → w d = NONE ∨ -B ≤ w d) (hv : ∀ d : Int, lo' ≤ d → d < lo' + n' → v d = LOW ∨ -B ≤ v d)
    (hA : ∀ d : Int, lo ≤ d → d < lo + n → w d ≠ NONE → (lo' ≤ d ∧ d < lo' + n') ∧ v d = w d) (hC : ∀ d : Int, lo' ≤ d → d < lo' + n' → v d ≠ LOW → (lo ≤ d ∧ d < lo + n) ∧ w d = v d) : gF w lo n = conv (bF v lo' n') := by
  have nn : NONE = -9000000000000000005 := rfl
  have ll : LOW = -8000000000000000000 := rfl
  have cv := conv_v (bF v lo' n')
  rcases gF_sp hB n hw with a | a
  · rcases bF_sp hB n' hv with b | b
    · rw [a.1, cv.1 b.1]
    · obtain ⟨b1, ⟨d, d0, d1, d2⟩, b3⟩ := b
      have c := hC d d0 d1 (by omega)
      have e := a.2 d c.1.1 c.1.2
      omega
  · obtain ⟨a1, ⟨d, d0, d1, d2⟩, a3⟩ := a
    have c := hA d d0 d1 (by omega)
    rcases bF_sp hB n' hv with b | b
    · have e := b.2 d c.1.1 c.1.2
      omega
    · obtain ⟨b1, ⟨f, f0, f1, f2⟩, b3⟩ := b
      have e := hC f f0 f1 (by omega)
      have x1 := b3 d c.1.1 c.1.2
      have x2 := a3 f e.1.1 e.1.2
      rw [cv.2 (by omega)]
      omega
theorem lbF_q {w : Int → Int} {v : Int} : ∀ (n : Nat) (lo : Int), (∃ d : Int, lo ≤ d ∧ d < lo + n ∧ w d = v) → (lo ≤ lbF w v n lo ∧ lbF w v n lo < lo + n) ∧ w (lbF w v n lo) = v ∧ ∀ d : Int, lo ≤ d → d < lbF w v n lo → w d ≠ v
  | 0, lo, h => by obtain ⟨d, a, b, _⟩ := h; omega
  | n + 1, lo, h => by
    unfold lbF
    by_cases c : w lo = v
    · rw [if_pos c]; exact ⟨by omega, c, fun d a b => by omega⟩
    · rw [if_neg c]
      have i := lbF_q (w := w) (v := v) n (lo + 1) (by
        obtain ⟨d, a, b, e⟩ := h
        exact ⟨d, by (by_cases x : d = lo); (· rw [x] at e; exact absurd e c); (· omega), by omega, e⟩)
      refine ⟨by omega, i.2.1, fun d a b => ?_⟩
      by_cases x : d = lo
      · rw [x]; exact c
      · exact i.2.2 d (by omega) b
theorem lsF_q {w : Int → Int} {v : Int} : ∀ (n : Nat) (lo : Int), (∃ d : Int, lo ≤ d ∧ d < lo + n ∧ w d = v) → (lo ≤ lsF w v n lo ∧ lsF w v n lo < lo + n) ∧ w (lsF w v n lo) = v ∧ ∀ d : Int, lo ≤ d → d < lsF w v n lo → w d ≠ v
  | 0, lo, h => by obtain ⟨d, a, b, _⟩ := h; omega
  | n + 1, lo, h => by
    unfold lsF
    by_cases c : w lo = v
    · rw [if_pos c]; exact ⟨by omega, c, fun d a b => by omega⟩
    · rw [if_neg c]
      have i := lsF_q (w := w) (v := v) n (lo + 1) (by
        obtain ⟨d, a, b, e⟩ := h
        exact ⟨d, by (by_cases x : d = lo); (· rw [x] at e; exact absurd e c); (· omega), by omega, e⟩)
      refine ⟨by omega, i.2.1, fun d a b => ?_⟩
      by_cases x : d = lo
      · rw [x]; exact c
      · exact i.2.2 d (by omega) b
section VAL
variable {σ : Mm}
theorem gnCM (h : JJ σ) {s ws t d : Int} (s0 : 0 ≤ s) (s1 : s < 4) (k : ¬ σ 34 0 s < 0) (hw : 1 ≤ ws ∧ ws ≤ 15) (t0 : 0 ≤ t) (t1 : t < 36) : mon (σ 8 s 8) (bcF ws * σ 8 s 9) d (spC σ ws t) = mtM σ s ws t d := by
  obtain ⟨q0, q1, q2, q3, q4, q5, q6, q7, q8, q9, qa, qb, qc⟩ := atS h s0 s1 k
  rw [q9, qa, (bcF_b ws hw.1 hw.2).2]
  unfold spC mtM monM
  exact (mon_sum (p := fun w => pC σ w t) (p' := fun w => pM σ w t) 4 (fun w a b => pCM h a b t0 t1)).symm
/-- what is allowed -/
theorem alM (σ : Mm) (s t d c : Int) (hk : 0 ≤ rmM σ t) : ftM σ s t d c = 0 ↔ (d = 0 ∨ (σ 29 0 t = 0 ∧ (d ≤ inM σ s - rmM σ t ∧ rmM σ t - outM σ s ≤ d))) ∧ floM σ s + rmM σ t ≤ c ∧ c ≤ topM σ s - rmM σ t ∧ ¬ (t = σ 28 0 0 - 1 ∧ c < σ 41 0 s) := by
  unfold ftM
  (repeat' split) <;> omega
theorem topsz (h : JJ σ) (s : Int) : topM σ s ≤ σ 35 0 s := by
  have q := jMS h s
  unfold topM
  split <;> omega
/-- the numbers that both sides look at -/
theorem rgCM (h : JJ σ) {s : Int} (s0 : 0 ≤ s) (s1 : s < 4) (k : ¬ σ 34 0 s < 0) (t c : Int) : fiC σ s t c = max (if σ 29 0 t = 0 then min 0 (rmM σ t - outM σ s) else 0) (floM σ s + rmM σ t - c) ∧ laC σ s t c = min (if σ 29 0 t = 0 then max 0 (inM σ s - rmM σ t) else 0) (topM σ s - rmM σ t - c) := by
  obtain ⟨q0, q1, q2, q3, q4, q5, q6, q7, q8, q9, qa, qb, qc⟩ := atS h s0 s1 k
  unfold fiC laC lmC mmC
  rw [q5, q6, q7, q8, kbrm h, (jrK h).1 t]
  exact ⟨rfl, rfl⟩
theorem stA (h : JJ σ) {s ws t c d x : Int} {f : Int → Int} (s0 : 0 ≤ s) (s1 : s < 4) (k : ¬ σ 34 0 s < 0) (hw : 1 ≤ ws ∧ ws ≤ 15) (t0 : 0 ≤ t) (t1 : t < σ 28 0 0) (hf : f (c + d) = conv x) (hx : t = σ 28 0 0 - 1 → x ≠ LOW → σ 41 0 s ≤ c + d) (hl : fiC σ s t c ≤ d) (hr : d ≤ laC σ s t c) (hn : wqF σ s ws t c f d ≠ NONE) :
    (-outM σ s ≤ d ∧ d ≤ inM σ s) ∧ wtM σ s ws t c d x = wqF σ s ws t c f d := by
  have mt := jMT h
  unfold MT at mt
  have bm := bM (jMS h) s
  have rb := rmM_b (jMK h) t
  have ts := topsz h s
  have rg := rgCM h s0 s1 k t c
  obtain ⟨q0, q1, q2, q3, q4, q5, q6, q7, q8, q9, qa, qb, qc⟩ := atS h s0 s1 k
  have n1 : ¬ (gnC σ s ws t d = NONE ∨ f (c + d) = NONE) := fun q => hn (if_pos q)
  have al : d = 0 ∨ (σ 29 0 t = 0 ∧ (d ≤ inM σ s - rmM σ t ∧ rmM σ t - outM σ s ≤ d)) := by
    refine Classical.byContradiction (fun q => n1 (Or.inl ?_))
    unfold gnC
    rw [q7, q8, kbrm h, (jrK h).1 t, if_neg q]
  have xl : x ≠ LOW := fun q => n1 (Or.inr (by rw [hf, (conv_v x).1 q]))
  have ge : gnC σ s ws t d = mtM σ s ws t d := by
    unfold gnC
    rw [gnCM h s0 s1 k hw t0 (by omega), q7, q8, kbrm h, (jrK h).1 t, if_pos al]
  have al2 : ftM σ s t d (c + d) = 0 := (alM σ s t d (c + d) rb.1).mpr ⟨al, by omega, by omega, fun q => by have := hx q.1 xl; omega⟩
  refine ⟨by omega, ?_⟩
  unfold wqF wtM
  rw [if_neg n1, ge, hf, (conv_v x).2 xl, if_pos ⟨by omega, al2, xl⟩, Int.add_comm]
theorem stB (h : JJ σ) {s ws t c d x : Int} {f : Int → Int} (s0 : 0 ≤ s) (s1 : s < 4) (k : ¬ σ 34 0 s < 0) (hw : 1 ≤ ws ∧ ws ≤ 15) (t0 : 0 ≤ t) (t1 : t < σ 28 0 0) (hf : f (c + d) = conv x) (hb : x = LOW ∨ -2000000000 ≤ x) (hl : -outM σ s ≤ d) (hr : d ≤ inM σ s) (hn : wtM σ s ws t c d x ≠ LOW) :
    (fiC σ s t c ≤ d ∧ d ≤ laC σ s t c) ∧ wqF σ s ws t c f d = wtM σ s ws t c d x := by
  have mt := jMT h
  unfold MT at mt
  have nn : NONE = -9000000000000000005 := rfl
  have bm := bM (jMS h) s
  have rb := rmM_b (jMK h) t
  have rg := rgCM h s0 s1 k t c
  obtain ⟨q0, q1, q2, q3, q4, q5, q6, q7, q8, q9, qa, qb, qc⟩ := atS h s0 s1 k
  have n1 : (0 ≤ c + d ∧ c + d ≤ σ 35 0 s) ∧ ftM σ s t d (c + d) = 0 ∧ x ≠ LOW := Classical.byContradiction (fun q => hn (if_neg q))
  have al := (alM σ s t d (c + d) rb.1).mp n1.2.1
  have ge : gnC σ s ws t d = mtM σ s ws t d := by
    unfold gnC
    rw [gnCM h s0 s1 k hw t0 (by omega), q7, q8, kbrm h, (jrK h).1 t, if_pos al.1]
  have mb := mtM_b (jMS h) (jMP h) s ws t (d := d) (by omega)
  have xl := n1.2.2
  refine ⟨?_, ?_⟩
  · rw [rg.1, rg.2]
    (repeat' split) <;> omega
  · unfold wqF wtM
    rw [if_pos n1, hf, (conv_v x).2 xl, ge, if_neg (by omega), Int.add_comm]
theorem WCVM (h : JJ σ) {s ws : Int} (s0 : 0 ≤ s) (s1 : s < 4) (k : ¬ σ 34 0 s < 0) (hw : 1 ≤ ws ∧ ws ≤ 15) : ∀ (n : Nat) (c : Int), (n : Int) ≤ σ 28 0 0 → WC σ s ws n c = conv (VM σ s ws n c)
  | 0, c, _ => by
    have q := (atS h s0 s1 k).2.2.2.2.2.2.2.2.2.2.2.1
    unfold WC VM
    rw [q]
    by_cases e : c < σ 41 0 s
    · rw [if_pos e, if_pos e]; rfl
    · rw [if_neg e, if_neg e]; rfl
  | n + 1, c, hn => by
    have mt := jMT h
    unfold MT at mt
    have g := jrT h
    unfold rT at g
    have bm := bM (jMS h) s
    have i := WCVM h s0 s1 k hw n
    have nc : ((n + 1 : Nat) : Int) = (n : Int) + 1 := by omega
    have vb := VM_b (jMS h) (jMP h) s ws n
    have last : ∀ x : Int, σ 28 0 0 - ((n : Int) + 1) = σ 28 0 0 - 1 → VM σ s ws n x ≠ LOW → σ 41 0 s ≤ x := by
      intro x hx hl
      have n0 : n = 0 := by omega
      subst n0
      refine Classical.byContradiction (fun q => hl ?_)
      unfold VM
      rw [if_pos (by omega)]
    unfold WC VM
    rw [g]
    refine mx_eq (B := 2000000000) (by omega) ?_ ?_ ?_ ?_
    · intro d d0 d1
      have a := lmC_b (jCS h) (jCK h) s (σ 28 0 0 - ((n : Int) + 1))
      have v := WC_b (jCS h) (jCP h) (jCK h) (i := s) hw n (c + d)
      have m := gnC_b (jCS h) (jCP h) (i := s) (ws := ws) (t := σ 28 0 0 - ((n : Int) + 1)) (d := d) hw (by unfold fiC at d0; unfold fiC laC at d1; omega)
      unfold wqF
      split
      · exact Or.inl rfl
      · refine Or.inr ?_
        omega
    · intro d d0 d1
      have m := mtM_b (jMS h) (jMP h) s ws (σ 28 0 0 - ((n : Int) + 1)) (d := d) (by omega)
      have v := vb (c + d)
      (try dsimp only)
      unfold wtM
      split
      · refine Or.inr ?_
        omega
      · exact Or.inl rfl
    · intro d d0 d1 hne
      have r := stA h (t := σ 28 0 0 - ((n : Int) + 1)) (x := VM σ s ws n (c + d)) s0 s1 k hw (by omega) (by omega) (i (c + d) (by omega)) (last (c + d)) d0 (by omega) hne
      exact ⟨by omega, r.2⟩
    · intro d d0 d1 hne
      have r := stB h (t := σ 28 0 0 - ((n : Int) + 1)) (x := VM σ s ws n (c + d)) (f := WC σ s ws n) s0 s1 k hw (by omega) (by omega) (i (c + d) (by omega)) (by have v := vb (c + d); omega) (by omega) (by omega) hne
      exact ⟨by omega, r.2⟩
theorem bdCM (h : JJ σ) {s ws : Int} (s0 : 0 ≤ s) (s1 : s < 4) (k : ¬ σ 34 0 s < 0) (hw : 1 ≤ ws ∧ ws ≤ 15) {t c : Int} (t0 : 0 ≤ t) (t1 : t < σ 28 0 0) (hne : WC σ s ws (σ 28 0 0 - t).toNat c ≠ NONE) :
    bdC σ s ws t c = bdM σ s ws t c ∧ WC σ s ws (σ 28 0 0 - (t + 1)).toNat (c + bdC σ s ws t c) ≠ NONE ∧ (-40 ≤ bdC σ s ws t c ∧ bdC σ s ws t c ≤ 40) := by
  have mt := jMT h
  unfold MT at mt
  have g := jrT h
  unfold rT at g
  have bm := bM (jMS h) s
  have nn : NONE = -9000000000000000005 := rfl
  have ll : LOW = -8000000000000000000 := rfl
  have i := WCVM h s0 s1 k hw (σ 28 0 0 - (t + 1)).toNat
  have vb := VM_b (jMS h) (jMP h) s ws (σ 28 0 0 - (t + 1)).toNat
  have e1 := WC_s (σ := σ) (i := s) (ws := ws) (t := t) (c := c) t0 (by omega)
  rw [g] at e1
  have e2 := WCVM h s0 s1 k hw (σ 28 0 0 - t).toNat c (by omega)
  have hV : VM σ s ws (σ 28 0 0 - t).toNat c ≠ LOW := fun q => hne (by rw [e2, (conv_v _).1 q])
  have e3 : WC σ s ws (σ 28 0 0 - t).toNat c = VM σ s ws (σ 28 0 0 - t).toNat c := by rw [e2, (conv_v _).2 hV]
  have last : ∀ x : Int, t = σ 28 0 0 - 1 → VM σ s ws (σ 28 0 0 - (t + 1)).toNat x ≠ LOW → σ 41 0 s ≤ x := by
    intro x hx hl
    have n0 : (σ 28 0 0 - (t + 1)).toNat = 0 := by omega
    rw [n0] at hl
    refine Classical.byContradiction (fun q => hl ?_)
    unfold VM
    rw [if_pos (by omega)]
  have wb : ∀ d : Int, fiC σ s t c ≤ d → d < fiC σ s t c + (laC σ s t c + 1 - fiC σ s t c).toNat → wqC σ s ws t c d = NONE ∨ -2000000000 ≤ wqC σ s ws t c d := by
    intro d d0 d1
    have a := lmC_b (jCS h) (jCK h) s t
    have q := wqC_b (jCS h) (jCP h) (jCK h) (i := s) (ws := ws) (t := t) (c := c) (d := d) hw t0 (by omega) (by unfold fiC at d0; unfold fiC laC at d1; omega)
    unfold bN at q
    omega
  have A : ∀ d : Int, fiC σ s t c ≤ d → d ≤ laC σ s t c → wqC σ s ws t c d ≠ NONE → (-outM σ s ≤ d ∧ d ≤ inM σ s) ∧ wtM σ s ws t c d (VM σ s ws (σ 28 0 0 - (t + 1)).toNat (c + d)) = wqC σ s ws t c d := by
    intro d d0 d1 hq
    unfold wqC at hq ⊢
    rw [g] at hq ⊢
    exact stA h s0 s1 k hw t0 t1 (i (c + d) (by omega)) (last (c + d)) d0 d1 hq
  have B : ∀ d : Int, -outM σ s ≤ d → d ≤ inM σ s → wtM σ s ws t c d (VM σ s ws (σ 28 0 0 - (t + 1)).toNat (c + d)) ≠ LOW → (fiC σ s t c ≤ d ∧ d ≤ laC σ s t c) ∧ wqC σ s ws t c d = wtM σ s ws t c d (VM σ s ws (σ 28 0 0 - (t + 1)).toNat (c + d)) := by
    intro d d0 d1 hq
    unfold wqC
    rw [g]
    exact stB h s0 s1 k hw t0 t1 (i (c + d) (by omega)) (by have v := vb (c + d); omega) d0 d1 hq
  have ex : ∃ d : Int, fiC σ s t c ≤ d ∧ d < fiC σ s t c + (laC σ s t c + 1 - fiC σ s t c).toNat ∧ wqC σ s ws t c d = WC σ s ws (σ 28 0 0 - t).toNat c := by
    rcases gF_sp (B := 2000000000) (by omega) _ wb with q | q
    · rw [← e1] at q; exact absurd q.1 hne
    · rw [← e1] at q; exact q.2.1
  have L := lbF_q _ _ ex
  have ex2 : ∃ d : Int, -outM σ s ≤ d ∧ d < -outM σ s + (outM σ s + inM σ s + 1).toNat ∧ wtM σ s ws t c d (VM σ s ws (σ 28 0 0 - (t + 1)).toNat (c + d)) = VM σ s ws (σ 28 0 0 - t).toNat c := by
    obtain ⟨d, d0, d1, d2⟩ := ex
    have r := A d d0 (by omega) (by rw [d2]; exact hne)
    exact ⟨d, r.1.1, by omega, by rw [r.2, d2, e3]⟩
  have M := lsF_q (w := fun d => wtM σ s ws t c d (VM σ s ws (σ 28 0 0 - (t + 1)).toNat (c + d))) (v := VM σ s ws (σ 28 0 0 - t).toNat c) _ _ ex2
  have eC : bdC σ s ws t c = lbF (wqC σ s ws t c) (WC σ s ws (σ 28 0 0 - t).toNat c) (laC σ s t c + 1 - fiC σ s t c).toNat (fiC σ s t c) := by unfold bdC; rw [g]
  have eM : bdM σ s ws t c = lsF (fun d => wtM σ s ws t c d (VM σ s ws (σ 28 0 0 - (t + 1)).toNat (c + d))) (VM σ s ws (σ 28 0 0 - t).toNat c) (outM σ s + inM σ s + 1).toNat (-outM σ s) := rfl
  rw [← eC] at L
  rw [← eM] at M
  obtain ⟨l1, l2, l3⟩ := L
  obtain ⟨m1, m2, m3⟩ := M
  have x1 := A _ l1.1 (by omega) (by rw [l2]; exact hne)
  have x2 := B (bdM σ s ws t c) m1.1 (by omega) (by (try dsimp only at m2); rw [m2]; exact hV)
  (try dsimp only at m2)
  have y1 : ¬ bdC σ s ws t c < bdM σ s ws t c := fun q => m3 _ x1.1.1 q (by (try dsimp only); rw [x1.2, l2, e3])
  have y2 : ¬ bdM σ s ws t c < bdC σ s ws t c := fun q => l3 _ x2.1.1 q (by rw [x2.2, m2, e3])
  refine ⟨by omega, fun q => ?_, by omega⟩
  have z : wqC σ s ws t c (bdC σ s ws t c) = NONE := by
    unfold wqC wqF
    rw [g]
    exact if_pos (Or.inr q)
  rw [z] at l2
  exact hne l2.symm
theorem bcCM (h : JJ σ) {s ws : Int} (s0 : 0 ≤ s) (s1 : s < 4) (k : ¬ σ 34 0 s < 0) (hw : 1 ≤ ws ∧ ws ≤ 15) (hne : WC σ s ws (σ 28 0 0).toNat (σ 36 0 s) ≠ NONE) : ∀ n : Nat, (n : Int) ≤ σ 28 0 0 → bcC σ s ws n = bcM σ s ws n ∧ WC σ s ws (σ 28 0 0 - n).toNat (bcC σ s ws n) ≠ NONE
  | 0, _ => by
    have q := (atS h s0 s1 k).2.2.2.2.1
    refine ⟨q, ?_⟩
    have e : bcC σ s ws (0 : Nat) = σ 36 0 s := q
    rw [e, show (σ 28 0 0 - ((0 : Nat) : Int)).toNat = (σ 28 0 0).toNat by omega]
    exact hne
  | n + 1, hn => by
    have i := bcCM h s0 s1 k hw hne n (by omega)
    have b := bdCM h s0 s1 k hw (t := n) (c := bcC σ s ws n) (by omega) (by omega) i.2
    have e1 : bcC σ s ws ((n + 1 : Nat) : Int) = bcC σ s ws n + bdC σ s ws n (bcC σ s ws n) := chI_s (g := bdC σ s ws) (t := (n : Int)) (by omega)
    have e2 : bcM σ s ws ((n + 1 : Nat) : Int) = bcM σ s ws n + bdM σ s ws n (bcM σ s ws n) := chI_s (g := bdM σ s ws) (t := (n : Int)) (by omega)
    rw [e1, e2, ← i.1, ← b.1]
    exact ⟨rfl, b.2.1⟩
theorem bpCM (h : JJ σ) {s ws : Int} (s0 : 0 ≤ s) (s1 : s < 4) (k : ¬ σ 34 0 s < 0) (hw : 1 ≤ ws ∧ ws ≤ 15) (hne : WC σ s ws (σ 28 0 0).toNat (σ 36 0 s) ≠ NONE) {t : Int} (t0 : 0 ≤ t) (t1 : t < σ 28 0 0) : bpC σ s ws t = bpM σ s ws t ∧ (-40 ≤ bpM σ s ws t ∧ bpM σ s ws t ≤ 40) := by
  have i := bcCM h s0 s1 k hw hne t.toNat (by omega)
  rw [Int.toNat_of_nonneg t0] at i
  have b := bdCM h s0 s1 k hw (c := bcC σ s ws t) t0 t1 i.2
  unfold bpC bpM
  rw [← i.1]
  exact ⟨b.1, by rw [← b.1]; exact b.2.2⟩
theorem e_value (h : JJ σ) (z1 z2 z3 z4 : Int) : rc_value σ z1 z2 z3 z4 = rm_value σ z1 z2 z3 z4 := by
  have g := jrT h
  unfold rT at g
  unfold rc_value rm_value
  split
  · rename_i c
    have t := thereS h (s := z1) (by omega) (by omega)
    by_cases d : σ 34 0 z1 < 0
    · rw [if_pos d, if_pos (t.mpr d)]
    · have u := atS h (s := z1) (by omega) (by omega) d
      rw [if_neg d, if_neg (fun q => d (t.mp q)), g, u.2.2.2.1]
      split
      · exact WCVM h (by omega) (by omega) d c.2 _ _ (by omega)
      · rfl
  · rfl
theorem e_best (h : JJ σ) (z1 z2 : Int) : rc_best σ z1 z2 = rm_best σ z1 z2 := by
  have g := jrT h
  unfold rT at g
  have mt := jMT h
  unfold MT at mt
  unfold rc_best rm_best
  split
  · rename_i c
    have t := thereS h (s := z1) (by omega) (by omega)
    by_cases d : σ 34 0 z1 < 0
    · rw [if_pos d, if_pos (t.mpr d)]
    · have u := atS h (s := z1) (by omega) (by omega) d
      rw [if_neg d, if_neg (fun q => d (t.mp q)), g, u.2.2.2.2.1]
      exact WCVM h (by omega) (by omega) d c.2 _ _ (by omega)
  · rfl
/-- the reference's part of a memory -/
def mo (σ : Mm) : Mm := fun a => if 28 ≤ a ∧ a ≤ 46 then σ a else fun _ _ => 0
theorem VM_mo (σ : Mm) (s ws : Int) : ∀ (k : Nat) (c : Int), VM σ s ws k c = VM (mo σ) s ws k c
  | 0, c => rfl
  | k + 1, c => by
    have ih : VM σ s ws k = VM (mo σ) s ws k := funext (VM_mo σ s ws k)
    show bF (fun d => wtM σ s ws (σ 28 0 0 - ((k : Int) + 1)) c d (VM σ s ws k (c + d))) (-outM σ s) (outM σ s + inM σ s + 1).toNat = _
    rw [ih]
    rfl
theorem NM_mo (σ : Mm) (s ws : Int) : ∀ (k : Nat) (c : Int), NM σ s ws k c = NM (mo σ) s ws k c
  | 0, c => rfl
  | k + 1, c => by
    have ih : VM σ s ws k = VM (mo σ) s ws k := funext (VM_mo σ s ws k)
    have ih2 : NM σ s ws k = NM (mo σ) s ws k := funext (NM_mo σ s ws k)
    show nF (fun d => wtM σ s ws (σ 28 0 0 - ((k : Int) + 1)) c d (VM σ s ws k (c + d))) (fun d => NM σ s ws k (c + d)) (-outM σ s) (outM σ s + inM σ s + 1).toNat = _
    rw [ih, ih2]
    rfl
theorem VM_mo2 (σ : Mm) (s ws : Int) : VM σ s ws = VM (mo σ) s ws := funext fun k => funext fun c => VM_mo σ s ws k c
theorem bdM_mo (σ : Mm) (s ws : Int) : bdM σ s ws = bdM (mo σ) s ws := by
  funext t c
  unfold bdM
  rw [VM_mo2 σ s ws]
  rfl
theorem bcM_mo (σ : Mm) (s ws : Int) : bcM σ s ws = bcM (mo σ) s ws := by
  funext t
  unfold bcM
  rw [bdM_mo σ s ws]
  rfl
theorem bpM_mo (σ : Mm) (s ws : Int) : bpM σ s ws = bpM (mo σ) s ws := by
  funext t
  unfold bpM
  rw [bdM_mo σ s ws, bcM_mo σ s ws]
theorem mo_best {τ : Mm} {z1 z2 : Int} (ha : Ag τ (sc_best σ z1 z2)) : mo τ = mo σ := by
  have e : mo (sc_best σ z1 z2) = mo σ := by
    unfold sc_best
    split
    · funext a
      unfold mo
      split
      · rename_i q
        funext j y
        unfold plW
        rw [if_neg (by omega)]
      · rfl
    · rfl
  have e2 : ∀ s : Mm, mo s = mo (cut s) := by
    intro s
    funext a
    unfold mo cut
    split
    · rw [if_neg (by omega)]
    · rfl
  rw [e2 τ, show cut τ = cut (sc_best σ z1 z2) from ha, ← e2, e]
theorem x_best {τ : Mm} {z1 z2 : Int} (ha : Ag τ (sc_best σ z1 z2)) (y1 y2 : Int) : rm_best τ y1 y2 = rm_best σ y1 y2 := by
  have e := mo_best ha
  have e1 : ∀ a j y, 28 ≤ a → a ≤ 46 → τ a j y = σ a j y := fun a j y a0 a1 => by
    have x := congrFun (congrFun (congrFun e a) j) y
    unfold mo at x
    rw [if_pos ⟨a0, a1⟩, if_pos ⟨a0, a1⟩] at x
    exact x
  unfold rm_best
  rw [VM_mo2 τ y1 y2, VM_mo2 σ y1 y2, e, e1 34 0 y1 (by decide) (by decide), e1 28 0 0 (by decide) (by decide), e1 36 0 y1 (by decide) (by decide)]
theorem J_best (h : JJ σ) {τ : Mm} {z1 z2 : Int} (ha : Ag τ (sc_best σ z1 z2)) : JJ (sm_best τ z1 z2) := by
  have g := jrT h
  unfold rT at g
  have mt := jMT h
  unfold MT at mt
  have em := mo_best ha
  have e1 : ∀ a j y, 28 ≤ a → a ≤ 46 → τ a j y = σ a j y := fun a j y a0 a1 => by
    have x := congrFun (congrFun (congrFun em a) j) y
    unfold mo at x
    rw [if_pos ⟨a0, a1⟩, if_pos ⟨a0, a1⟩] at x
    exact x
  have e34 : τ 34 0 z1 = σ 34 0 z1 := e1 34 0 z1 (by decide) (by decide)
  have e28 : τ 28 0 0 = σ 28 0 0 := e1 28 0 0 (by decide) (by decide)
  have eV : VM τ z1 z2 (τ 28 0 0).toNat (τ 36 0 z1) = VM σ z1 z2 (σ 28 0 0).toNat (σ 36 0 z1) := by
    rw [VM_mo2 τ z1 z2, VM_mo2 σ z1 z2, em, e28, e1 36 0 z1 (by decide) (by decide)]
  by_cases c : ((0 ≤ z1 ∧ z1 ≤ 3) ∧ (1 ≤ z2 ∧ z2 ≤ 15)) ∧ 0 ≤ σ 34 0 z1 ∧ VM σ z1 z2 (σ 28 0 0).toNat (σ 36 0 z1) ≠ LOW
  · have tt := thereS h (s := z1) (by omega) (by omega)
    have d : ¬ σ 34 0 z1 < 0 := by omega
    have u := atS h (s := z1) (by omega) (by omega) d
    have w := WCVM h (s := z1) (ws := z2) (by omega) (by omega) d c.1.2 (σ 28 0 0).toNat (σ 36 0 z1) (by omega)
    have vb := VM_b (jMS h) (jMP h) z1 z2 (σ 28 0 0).toNat (σ 36 0 z1)
    have nn : NONE = -9000000000000000005 := rfl
    rw [(conv_v _).2 c.2.2] at w
    have hne : WC σ z1 z2 (σ 28 0 0).toNat (σ 36 0 z1) ≠ NONE := by
      rw [w]
      have := c.2.2
      omega
    have e : sc_best σ z1 z2 = plW σ 9 z1 0 (bpC σ z1 z2) (σ 28 0 0) := by
      unfold sc_best
      rw [g, u.2.2.2.2.1]
      exact if_pos ⟨c.1, by omega, hne⟩
    rw [e] at ha
    have f : sm_best τ z1 z2 = plW τ 43 0 (36 * z1) (bpM τ z1 z2) (τ 28 0 0) := if_pos (by rw [e34, eV]; exact c)
    rw [f, bpM_mo τ, em, ← bpM_mo σ, e28]
    refine agP (F := fun s => JJ (plW s 43 0 (36 * z1) (bpM σ z1 z2) (σ 28 0 0))) (fun _ => rfl) ha ?_
    have r := fun (t : Int) (t0 : 0 ≤ t) (t1 : t < σ 28 0 0) => bpCM h (s := z1) (ws := z2) (by omega) (by omega) d c.1.2 hne t0 t1
    refine mkJ (jMT (σ := σ) h) (jMK (σ := σ) h) (jMP (σ := σ) h) (jMS (σ := σ) h) ?_ (jMD (σ := σ) h) (jME (σ := σ) h) (jMR (σ := σ) h) (jMC (σ := σ) h) (jrT (σ := σ) h) (jrK (σ := σ) h) (jrW (σ := σ) h) (jCP (σ := σ) h) (jrS (σ := σ) h) (jCS (σ := σ) h) ?_ ?_ (jrD (σ := σ) h) (jCD (σ := σ) h) (jrE (σ := σ) h) (jrR (σ := σ) h) (jCR (σ := σ) h)
    · intro k
      have q := jML h k
      simp only [up, fillR, plW, cpyA, Nat.reduceEqDiff, Int.reduceEq, eq_self_iff_true, eq_self, false_and, true_and, and_false, and_true, if_false, if_true, ite_false, ite_true, reduceIte]
      split
      · have x := r (k - 36 * z1) (by omega) (by omega)
        omega
      · exact q
    · intro s t s0 s1 t0 t1
      have q := jrL h s t s0 s1 t0 t1
      simp only [up, fillR, plW, cpyA, Nat.reduceEqDiff, Int.reduceEq, eq_self_iff_true, eq_self, false_and, true_and, and_false, and_true, if_false, if_true, ite_false, ite_true, reduceIte]
      by_cases x : s = z1 ∧ t < σ 28 0 0
      · obtain ⟨rfl, x⟩ := x
        have y := r t t0 x
        rw [if_pos (by omega), if_pos (by omega), show 36 * s + t - 36 * s = t by omega, show t - 0 = t by omega, y.1]
      · rw [if_neg (by omega), if_neg (by omega)]; exact q
    · intro s t
      have q := jCL h s t
      simp only [up, fillR, plW, cpyA, Nat.reduceEqDiff, Int.reduceEq, eq_self_iff_true, eq_self, false_and, true_and, and_false, and_true, if_false, if_true, ite_false, ite_true, reduceIte]
      split
      · have x := r (t - 0) (by omega) (by omega)
        omega
      · exact q
  · have f : sm_best τ z1 z2 = τ := if_neg (by rw [e34, eV]; exact c)
    rw [f]
    refine agP (F := JJ) (fun _ => rfl) ha ?_
    have e : sc_best σ z1 z2 = σ := by
      refine if_neg (fun q => c ?_)
      have t := thereS h (s := z1) (by omega) (by omega)
      have d : ¬ σ 34 0 z1 < 0 := fun x => q.2.1 (t.mpr x)
      have u := atS h (s := z1) (by omega) (by omega) d
      refine ⟨q.1, by omega, fun v => q.2.2 ?_⟩
      rw [g, u.2.2.2.2.1, WCVM h (by omega) (by omega) d q.1.2 _ _ (by omega), (conv_v _).1 v]
    rw [e]; exact h
end VAL
