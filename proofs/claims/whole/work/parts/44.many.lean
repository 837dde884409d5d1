/-! how many best plans: counted forwards, counted backwards -/
theorem sumN_add {f g : Int → Int} : ∀ n : Nat, sumN (fun k => f k + g k) n = sumN f n + sumN g n
  | 0 => rfl
  | n + 1 => by
    have i := sumN_add (f := f) (g := g) n
    show sumN (fun k => f k + g k) n + (f n + g n) = sumN f n + f n + (sumN g n + g n)
    omega
theorem sumN_mul {f : Int → Int} (a : Int) : ∀ n : Nat, sumN (fun k => f k * a) n = sumN f n * a
  | 0 => (Int.zero_mul a).symm
  | n + 1 => by
    have i := sumN_mul (f := f) a n
    show sumN (fun k => f k * a) n + f n * a = (sumN f n + f n) * a
    rw [i, Int.add_mul]
theorem sumN_z {f : Int → Int} : ∀ n : Nat, (∀ k : Int, 0 ≤ k → k < n → f k = 0) → sumN f n = 0
  | 0, _ => rfl
  | n + 1, h => by
    have i := sumN_z n (fun k a b => h k a (by omega))
    show sumN f n + f n = 0
    rw [i, h n (by omega) (by omega)]
    rfl
theorem sumN_sp {f : Int → Int} (a : Nat) : ∀ n : Nat, sumN f (a + n) = sumN f a + sumN (fun j => f (a + j)) n
  | 0 => by show sumN f a = sumN f a + 0; omega
  | n + 1 => by
    have i := sumN_sp (f := f) a n
    show sumN f (a + n) + f ((a + n : Nat) : Int) = sumN f a + (sumN (fun j => f (a + j)) n + f (a + n))
    rw [i, show ((a + n : Nat) : Int) = (a : Int) + n by omega]
    omega
theorem sumN_nn {f : Int → Int} : ∀ n : Nat, (∀ k : Int, 0 ≤ k → k < n → 0 ≤ f k) → 0 ≤ sumN f n
  | 0, _ => Int.le_refl 0
  | n + 1, h => by
    have i := sumN_nn n (fun k a b => h k a (by omega))
    have j := h n (by omega) (by omega)
    show 0 ≤ sumN f n + f n
    omega
/-- sums over two ranges of what is 0 outside of both -/
theorem sumN_w {g : Int → Int} {lo : Int} {n : Nat} (h0 : -200 ≤ lo) (h1 : lo + n ≤ 300) (hz : ∀ y : Int, ¬ (lo ≤ y ∧ y < lo + n) → g y = 0) : sumN (fun j => g (lo + j)) n = sumN (fun j => g (j - 200)) 500 := by
  have e : (500 : Nat) = (lo + 200).toNat + (n + (500 - (lo + 200).toNat - n)) := by omega
  rw [e, sumN_sp, sumN_sp]
  rw [sumN_z (f := fun j => g (j - 200)) (lo + 200).toNat (fun k a b => hz _ (by omega)), sumN_z (500 - (lo + 200).toNat - n) (fun k a b => hz _ (by omega))]
  rw [Int.zero_add, Int.add_zero]
  refine sumN_c (fun k a b => ?_)
  (try dsimp only)
  rw [show ((lo + 200).toNat : Int) + k - 200 = lo + k by omega]
theorem sumN_sw {a b : Int → Int} {e : Int → Int → Int} (N : Nat) : ∀ M : Nat, sumN (fun y => sumN (fun m => a m * e m y) N * b y) M = sumN (fun m => a m * sumN (fun y => e m y * b y) M) N
  | 0 => by
    show (0 : Int) = _
    rw [sumN_z N (fun k _ _ => show a k * sumN (fun y => e k y * b y) 0 = 0 from Int.mul_zero _)]
  | M + 1 => by
    have i := sumN_sw (a := a) (b := b) (e := e) N M
    show sumN (fun y => sumN (fun m => a m * e m y) N * b y) M + sumN (fun m => a m * e m M) N * b M = sumN (fun m => a m * (sumN (fun y => e m y * b y) M + e m M * b M)) N
    rw [i, ← sumN_mul, ← sumN_add]
    refine sumN_c (fun k _ _ => ?_)
    (try dsimp only)
    rw [Int.mul_add, Int.mul_assoc]
theorem sumN_1 {f : Int → Int} {c : Int} : ∀ n : Nat, 0 ≤ c → c < n → sumN (fun k => (if k = c then 1 else 0) * f k) n = f c
  | 0, h0, h1 => by omega
  | n + 1, h0, h1 => by
    show sumN (fun k => (if k = c then 1 else 0) * f k) n + (if (n : Int) = c then 1 else 0) * f n = f c
    by_cases e : (n : Int) = c
    · rw [if_pos e, sumN_z n (fun k a b => show (if k = c then 1 else 0) * f k = 0 by rw [if_neg (by omega), Int.zero_mul]), e]
      omega
    · rw [if_neg e, sumN_1 n h0 (by omega)]
      omega
theorem sumN_min {f F : Int → Int} : ∀ n : Nat, (∀ k : Int, 0 ≤ k → k < n → f k = min 1000000000 (F k) ∧ 0 ≤ F k) → min 1000000000 (sumN f n) = min 1000000000 (sumN F n) ∧ 0 ≤ sumN F n ∧ 0 ≤ sumN f n
  | 0, _ => by show min 1000000000 0 = min 1000000000 0 ∧ (0 : Int) ≤ 0 ∧ (0 : Int) ≤ 0; omega
  | n + 1, h => by
    have i := sumN_min n (fun k a b => h k a (by omega))
    have j := h n (by omega) (by omega)
    show min 1000000000 (sumN f n + f n) = min 1000000000 (sumN F n + F n) ∧ 0 ≤ sumN F n + F n ∧ 0 ≤ sumN f n + f n
    omega
/-- the reference's count -/
theorem nF_v {w u U : Int → Int} {lo : Int} : ∀ n : Nat, (∀ d : Int, lo ≤ d → d < lo + n → LOW ≤ w d ∧ u d = cap (U d) ∧ 0 ≤ U d) → (∀ d : Int, lo ≤ d → d < lo + n → w d ≤ bF w lo n) ∧ LOW ≤ bF w lo n ∧ nF w u lo n = cap (sumN (fun j => if w (lo + j) = bF w lo n ∧ bF w lo n ≠ LOW then U (lo + j) else 0) n) ∧ 0 ≤ sumN (fun j => if w (lo + j) = bF w lo n ∧ bF w lo n ≠ LOW then U (lo + j) else 0) n
  | 0, _ => ⟨fun d a b => by omega, Int.le_refl _, rfl, Int.le_refl 0⟩
  | n + 1, h => by
    obtain ⟨i1, i2, i3, i4⟩ := nF_v (w := w) (u := u) (U := U) (lo := lo) n (fun d a b => h d a (by omega))
    obtain ⟨j1, j2, j3⟩ := h (lo + n) (by omega) (by omega)
    have P : ∀ b : Int, sumN (fun j => if w (lo + j) = b ∧ b ≠ LOW then U (lo + j) else 0) (n + 1) = sumN (fun j => if w (lo + j) = b ∧ b ≠ LOW then U (lo + j) else 0) n + (if w (lo + n) = b ∧ b ≠ LOW then U (lo + n) else 0) := fun b => rfl
    rw [P]
    unfold bF nF
    by_cases c : w (lo + n) ≠ LOW ∧ bF w lo n ≤ w (lo + n)
    · rw [if_pos c, if_pos c, if_pos (show w (lo + n) = w (lo + n) ∧ w (lo + n) ≠ LOW from ⟨rfl, c.1⟩)]
      refine ⟨fun d a b => ?_, j1, ?_, ?_⟩
      · by_cases e : d = lo + n
        · rw [e]; omega
        · have := i1 d a (by omega); omega
      · by_cases e : bF w lo n < w (lo + n)
        · have z : sumN (fun j => if w (lo + j) = w (lo + n) ∧ w (lo + n) ≠ LOW then U (lo + j) else 0) n = 0 := sumN_z n (fun k a b => by
            (try dsimp only)
            rw [if_neg (fun q => by have := i1 (lo + k) (by omega) (by omega); omega)])
          rw [if_pos e, z, j2]
          unfold cap
          (repeat' split) <;> omega
        · have e2 : bF w lo n = w (lo + n) := by omega
          rw [if_neg e, i3, j2, ← e2]
          unfold cap
          (repeat' split) <;> omega
      · have z : 0 ≤ sumN (fun j => if w (lo + j) = w (lo + n) ∧ w (lo + n) ≠ LOW then U (lo + j) else 0) n := sumN_nn n (fun k a b => by
          (try dsimp only)
          have := (h (lo + k) (by omega) (by omega)).2.2
          split <;> omega)
        omega
    · rw [if_neg c, if_neg c]
      have z : ¬ (w (lo + n) = bF w lo n ∧ bF w lo n ≠ LOW) := fun q => c ⟨by rw [q.1]; exact q.2, by omega⟩
      rw [if_neg z, Int.add_zero]
      refine ⟨fun d a b => ?_, i2, i3, i4⟩
      by_cases e : d = lo + n
      · rw [e]
        by_cases x : w (lo + n) = LOW <;> omega
      · exact i1 d a (by omega)
section MANY
variable {σ : Mm}
/-- whether a best plan may go from the charge m to the charge y at step t -/
def edC (σ : Mm) (s ws t m y : Int) : Int := if (fiC σ s t m ≤ y - m ∧ y - m ≤ laC σ s t m) ∧ wqC σ s ws t m (y - m) = WC σ s ws (σ 1 0 0 - t).toNat m ∧ WC σ s ws (σ 1 0 0 - t).toNat m ≠ NONE then 1 else 0
def Bk (σ : Mm) (s ws : Int) : Nat → Int → Int
  | 0, c => if c < σ 8 s 10 then 0 else 1
  | k + 1, c => sumN (fun y => edC σ s ws (σ 1 0 0 - ((k : Int) + 1)) c y * Bk σ s ws k y) (σ 8 s 2 + 1).toNat
def Fw (σ : Mm) (s ws : Int) : Nat → Int → Int
  | 0, c => if c = σ 8 s 3 then 1 else 0
  | t + 1, y => sumN (fun m => Fw σ s ws t m * edC σ s ws t m y) (σ 8 s 2 + 1).toNat
theorem edC_01 (σ : Mm) (s ws t m y : Int) : edC σ s ws t m y = 0 ∨ edC σ s ws t m y = 1 := by
  unfold edC
  split
  · exact Or.inr rfl
  · exact Or.inl rfl
theorem Bk_nn (σ : Mm) (s ws : Int) : ∀ (k : Nat) (c : Int), 0 ≤ Bk σ s ws k c
  | 0, c => by unfold Bk; split <;> omega
  | k + 1, c => by
    unfold Bk
    refine sumN_nn _ (fun y _ _ => ?_)
    have i := Bk_nn σ s ws k y
    (try dsimp only)
    rcases edC_01 σ s ws (σ 1 0 0 - ((k : Int) + 1)) c y with e | e <;> rw [e] <;> omega
theorem Fw_nn (σ : Mm) (s ws : Int) : ∀ (k : Nat) (c : Int), 0 ≤ Fw σ s ws k c
  | 0, c => by unfold Fw; split <;> omega
  | k + 1, c => by
    unfold Fw
    refine sumN_nn _ (fun y _ _ => ?_)
    have i := Fw_nn σ s ws k y
    (try dsimp only)
    rcases edC_01 σ s ws k y c with e | e <;> rw [e] <;> omega
theorem Bk_0 {s ws c : Int} {k : Nat} (hk : (k : Int) + 1 ≤ σ 1 0 0) (h : WC σ s ws (k + 1) c = NONE) : Bk σ s ws (k + 1) c = 0 := by
  unfold Bk
  refine sumN_z _ (fun y _ _ => ?_)
  (try dsimp only)
  have e : edC σ s ws (σ 1 0 0 - ((k : Int) + 1)) c y = 0 := by
    unfold edC
    rw [if_neg (fun q => q.2.2 (by rw [show (σ 1 0 0 - (σ 1 0 0 - ((k : Int) + 1))).toNat = k + 1 by omega]; exact h))]
  rw [e, Int.zero_mul]
/-- the class's tables of ways -/
theorem Fw_0 {s ws : Int} {t : Nat} {y : Int} (h : WC σ s ws (σ 1 0 0 - ((t : Int) + 1)).toNat y = NONE) : Fw σ s ws (t + 1) y = 0 := by
  unfold Fw
  refine sumN_z _ (fun m _ _ => ?_)
  (try dsimp only)
  have e : edC σ s ws t m y = 0 := by
    unfold edC
    rw [if_neg (fun q => q.2.2 (by
      rw [← q.2.1]
      unfold wqC wqF
      exact if_pos (Or.inr (by rw [show m + (y - m) = y by omega]; exact h))))]
  rw [e, Int.mul_zero]
theorem nxW_v {s ws t : Int} {f F : Int → Int} {y : Int} : ∀ n : Nat, (∀ m : Int, 0 ≤ m → m < n → f m = min 1000000000 (F m) ∧ 0 ≤ F m ∧ (F m ≠ 0 → WC σ s ws (σ 1 0 0 - t).toNat m ≠ NONE)) → nxW σ s ws t f n y = min 1000000000 (sumN (fun m => F m * edC σ s ws t m y) n) ∧ 0 ≤ sumN (fun m => F m * edC σ s ws t m y) n
  | 0, _ => by show (0 : Int) = min 1000000000 0 ∧ (0 : Int) ≤ 0; omega
  | n + 1, h => by
    obtain ⟨i1, i2⟩ := nxW_v (f := f) (F := F) (y := y) n (fun m a b => h m a (by omega))
    obtain ⟨j1, j2, j3⟩ := h n (by omega) (by omega)
    have P : sumN (fun m => F m * edC σ s ws t m y) (n + 1) = sumN (fun m => F m * edC σ s ws t m y) n + F n * edC σ s ws t n y := rfl
    rw [P]
    unfold nxW
    by_cases z : F n = 0
    · rw [if_neg (fun q => q.1 (by omega)), z, Int.zero_mul, Int.add_zero]
      exact ⟨i1, i2⟩
    · have w := j3 z
      by_cases c : (fiC σ s t n ≤ y - n ∧ y - n ≤ laC σ s t n) ∧ wqC σ s ws t n (y - n) = WC σ s ws (σ 1 0 0 - t).toNat n
      · have e : edC σ s ws t n y = 1 := if_pos ⟨c.1, c.2, w⟩
        rw [if_pos ⟨by omega, c⟩, e, Int.mul_one]
        omega
      · have e : edC σ s ws t n y = 0 := if_neg (fun q => c ⟨q.1, q.2.1⟩)
        rw [if_neg (fun q => c q.2), e, Int.mul_zero, Int.add_zero]
        exact ⟨i1, i2⟩
theorem fW_v {s ws : Int} (hne : WC σ s ws (σ 1 0 0).toNat (σ 8 s 3) ≠ NONE) : ∀ (t : Nat) (y : Int), fW σ s ws t y = min 1000000000 (Fw σ s ws t y) ∧ (Fw σ s ws t y ≠ 0 → WC σ s ws (σ 1 0 0 - t).toNat y ≠ NONE)
  | 0, y => by
    refine ⟨?_, fun q => ?_⟩
    · unfold fW Fw
      split <;> omega
    · have e : y = σ 8 s 3 := Classical.byContradiction (fun x => q (if_neg x))
      rw [e, show (σ 1 0 0 - ((0 : Nat) : Int)).toNat = (σ 1 0 0).toNat by omega]
      exact hne
  | t + 1, y => by
    have i := fW_v hne t
    refine ⟨?_, fun q w => q (Fw_0 w)⟩
    show nxW σ s ws t (fW σ s ws t) (σ 8 s 2 + 1).toNat y = _
    exact (nxW_v _ (fun m _ _ => ⟨(i m).1, Fw_nn σ s ws t m, (i m).2⟩)).1
theorem Fw_hi (h : JJ σ) {s ws : Int} (s0 : 0 ≤ s) (s1 : s < 4) (k : ¬ σ 34 0 s < 0) : ∀ (t : Nat) (y : Int), ¬ (0 ≤ y ∧ y ≤ σ 8 s 2) → Fw σ s ws t y = 0
  | 0, y, hy => by
    obtain ⟨q0, q1, q2, q3, q4, q5, q6, q7, q8, q9, qa, qb, qc⟩ := atS h s0 s1 k
    have m := jMC h s s0 s1 (by omega)
    have b := bM (jMS h) s
    have ts := topsz h s
    exact if_neg (by omega)
  | t + 1, y, hy => by
    obtain ⟨q0, q1, q2, q3, q4, q5, q6, q7, q8, q9, qa, qb, qc⟩ := atS h s0 s1 k
    have b := bM (jMS h) s
    have ts := topsz h s
    have kb := kbC_b (jCK h) (t : Int)
    unfold Fw
    refine sumN_z _ (fun m _ _ => ?_)
    (try dsimp only)
    have e : edC σ s ws t m y = 0 := if_neg (fun q => by
      have := q.1
      unfold fiC laC at this
      omega)
    rw [e, Int.mul_zero]
theorem FB (h : JJ σ) {s ws : Int} (s0 : 0 ≤ s) (s1 : s < 4) (k : ¬ σ 34 0 s < 0) : ∀ t : Nat, (t : Int) ≤ σ 1 0 0 → sumN (fun c => Fw σ s ws t c * Bk σ s ws (σ 1 0 0 - t).toNat c) (σ 8 s 2 + 1).toNat = Bk σ s ws (σ 1 0 0).toNat (σ 8 s 3)
  | 0, _ => by
    obtain ⟨q0, q1, q2, q3, q4, q5, q6, q7, q8, q9, qa, qb, qc⟩ := atS h s0 s1 k
    have m := jMC h s s0 s1 (by omega)
    have b := bM (jMS h) s
    have ts := topsz h s
    rw [show (σ 1 0 0 - ((0 : Nat) : Int)).toNat = (σ 1 0 0).toNat by omega]
    exact sumN_1 _ (by omega) (by omega)
  | t + 1, ht => by
    have i := FB h (ws := ws) s0 s1 k t (by omega)
    rw [← i]
    have sw := sumN_sw (a := Fw σ s ws t) (b := Bk σ s ws (σ 1 0 0 - ((t + 1 : Nat) : Int)).toNat) (e := edC σ s ws t) (σ 8 s 2 + 1).toNat (σ 8 s 2 + 1).toNat
    refine Eq.trans sw (sumN_c (fun m _ _ => ?_))
    (try dsimp only)
    have e : (σ 1 0 0 - (t : Int)).toNat = (σ 1 0 0 - ((t + 1 : Nat) : Int)).toNat + 1 := by omega
    rw [e]
    show _ = Fw σ s ws t m * sumN (fun y => edC σ s ws (σ 1 0 0 - (((σ 1 0 0 - ((t + 1 : Nat) : Int)).toNat : Int) + 1)) m y * Bk σ s ws (σ 1 0 0 - ((t + 1 : Nat) : Int)).toNat y) (σ 8 s 2 + 1).toNat
    rw [show σ 1 0 0 - (((σ 1 0 0 - ((t + 1 : Nat) : Int)).toNat : Int) + 1) = (t : Int) by omega]
theorem wbB (h : JJ σ) {s ws : Int} (s0 : 0 ≤ s) (s1 : s < 4) (k : ¬ σ 34 0 s < 0) (hne : WC σ s ws (σ 1 0 0).toNat (σ 8 s 3) ≠ NONE) : wbC σ s ws = min 1000000000 (Bk σ s ws (σ 1 0 0).toNat (σ 8 s 3)) := by
  obtain ⟨q0, q1, q2, q3, q4, q5, q6, q7, q8, q9, qa, qb, qc⟩ := atS h s0 s1 k
  have ms := jMS h s
  have ct := jCT h
  unfold CT at ct
  have v := fW_v (σ := σ) (s := s) (ws := ws) hne (σ 1 0 0).toNat
  have mn := sumN_min (f := fW σ s ws (σ 1 0 0).toNat) (F := Fw σ s ws (σ 1 0 0).toNat) 61 (fun c _ _ => ⟨(v c).1, Fw_nn σ s ws _ c⟩)
  have fb := FB h (ws := ws) s0 s1 k (σ 1 0 0).toNat (by omega)
  have e : sumN (Fw σ s ws (σ 1 0 0).toNat) 61 = Bk σ s ws (σ 1 0 0).toNat (σ 8 s 3) := by
    rw [← fb]
    have sp := sumN_sp (f := Fw σ s ws (σ 1 0 0).toNat) (σ 8 s 2 + 1).toNat (61 - (σ 8 s 2 + 1).toNat)
    rw [show (σ 8 s 2 + 1).toNat + (61 - (σ 8 s 2 + 1).toNat) = 61 by omega] at sp
    rw [sp, sumN_z (61 - (σ 8 s 2 + 1).toNat) (fun c a b => Fw_hi h s0 s1 k _ _ (by omega)), Int.add_zero]
    refine sumN_c (fun c a b => ?_)
    (try dsimp only)
    rw [show (σ 1 0 0 - ((σ 1 0 0).toNat : Int)).toNat = 0 by omega]
    by_cases z : Fw σ s ws (σ 1 0 0).toNat c = 0
    · rw [z, Int.zero_mul]
    · have w := (v c).2 z
      rw [show (σ 1 0 0 - ((σ 1 0 0).toNat : Int)).toNat = 0 by omega] at w
      unfold WC at w
      have x : ¬ c < σ 8 s 10 := fun x => w (if_pos x)
      unfold Bk
      rw [if_neg x, Int.mul_one]
  unfold wbC sm
  rw [show (61 : Int).toNat = 61 from rfl, mn.1, e]
theorem NMB (h : JJ σ) {s ws : Int} (s0 : 0 ≤ s) (s1 : s < 4) (k : ¬ σ 34 0 s < 0) (hw : 1 ≤ ws ∧ ws ≤ 15) : ∀ (n : Nat) (c : Int), (n : Int) ≤ σ 28 0 0 → 0 ≤ c → c ≤ σ 35 0 s → NM σ s ws n c = cap (Bk σ s ws n c)
  | 0, c, _, _, _ => by
    have q := (atS h s0 s1 k).2.2.2.2.2.2.2.2.2.2.2.1
    unfold NM Bk
    rw [q]
    split <;> rfl
  | n + 1, c, hn, c0, c1 => by
    have mt := jMT h
    unfold MT at mt
    have g := jrT h
    unfold rT at g
    have bm := bM (jMS h) s
    have ms := jMS h s
    have nn : NONE = -9000000000000000005 := rfl
    have ll : LOW = -8000000000000000000 := rfl
    obtain ⟨q0, q1, q2, q3, q4, q5, q6, q7, q8, q9, qa, qb, qc⟩ := atS h s0 s1 k
    have i := WCVM h s0 s1 k hw n
    have vb := VM_b (jMS h) (jMP h) s ws n
    have e2 := WCVM h s0 s1 k hw (n + 1) c hn
    have last : ∀ x : Int, σ 28 0 0 - ((n : Int) + 1) = σ 28 0 0 - 1 → VM σ s ws n x ≠ LOW → σ 41 0 s ≤ x := by
      intro x hx hl
      have n0 : n = 0 := by omega
      subst n0
      refine Classical.byContradiction (fun q => hl ?_)
      unfold VM
      rw [if_pos (by omega)]
    have A : ∀ d : Int, fiC σ s (σ 28 0 0 - ((n : Int) + 1)) c ≤ d → d ≤ laC σ s (σ 28 0 0 - ((n : Int) + 1)) c → wqC σ s ws (σ 28 0 0 - ((n : Int) + 1)) c d ≠ NONE → (-outM σ s ≤ d ∧ d ≤ inM σ s) ∧ wtM σ s ws (σ 28 0 0 - ((n : Int) + 1)) c d (VM σ s ws n (c + d)) = wqC σ s ws (σ 28 0 0 - ((n : Int) + 1)) c d := by
      intro d d0 d1 hq
      unfold wqC at hq ⊢
      rw [g, show (σ 28 0 0 - (σ 28 0 0 - ((n : Int) + 1) + 1)).toNat = n by omega] at hq ⊢
      exact stA h s0 s1 k hw (by omega) (by omega) (i (c + d) (by omega)) (last (c + d)) d0 d1 hq
    have B : ∀ d : Int, -outM σ s ≤ d → d ≤ inM σ s → wtM σ s ws (σ 28 0 0 - ((n : Int) + 1)) c d (VM σ s ws n (c + d)) ≠ LOW → (fiC σ s (σ 28 0 0 - ((n : Int) + 1)) c ≤ d ∧ d ≤ laC σ s (σ 28 0 0 - ((n : Int) + 1)) c) ∧ wqC σ s ws (σ 28 0 0 - ((n : Int) + 1)) c d = wtM σ s ws (σ 28 0 0 - ((n : Int) + 1)) c d (VM σ s ws n (c + d)) := by
      intro d d0 d1 hq
      unfold wqC
      rw [g, show (σ 28 0 0 - (σ 28 0 0 - ((n : Int) + 1) + 1)).toNat = n by omega]
      exact stB h s0 s1 k hw (by omega) (by omega) (i (c + d) (by omega)) (by have v := vb (c + d); omega) d0 d1 hq
    -- the reference's sum, over charges
    have hV : VM σ s ws (n + 1) c = bF (fun d => wtM σ s ws (σ 28 0 0 - ((n : Int) + 1)) c d (VM σ s ws n (c + d))) (-outM σ s) (outM σ s + inM σ s + 1).toNat := rfl
    have wl : ∀ d : Int, LOW ≤ wtM σ s ws (σ 28 0 0 - ((n : Int) + 1)) c d (VM σ s ws n (c + d)) ∨ ¬ (-outM σ s ≤ d ∧ d ≤ inM σ s) := by
      intro d
      by_cases r : -outM σ s ≤ d ∧ d ≤ inM σ s
      · have m := mtM_b (jMS h) (jMP h) s ws (σ 28 0 0 - ((n : Int) + 1)) (d := d) (by omega)
        have v := vb (c + d)
        refine Or.inl ?_
        unfold wtM
        split
        · omega
        · omega
      · exact Or.inr r
    have ok : ∀ d : Int, wtM σ s ws (σ 28 0 0 - ((n : Int) + 1)) c d (VM σ s ws n (c + d)) ≠ LOW → 0 ≤ c + d ∧ c + d ≤ σ 35 0 s := fun d hq => (Classical.byContradiction (fun (q : ¬ ((0 ≤ c + d ∧ c + d ≤ σ 35 0 s) ∧ ftM σ s (σ 28 0 0 - ((n : Int) + 1)) d (c + d) = 0 ∧ VM σ s ws n (c + d) ≠ LOW)) => hq (if_neg q))).1
    have U := nF_v (w := fun d => wtM σ s ws (σ 28 0 0 - ((n : Int) + 1)) c d (VM σ s ws n (c + d))) (u := fun d => if 0 ≤ c + d ∧ c + d ≤ σ 35 0 s then NM σ s ws n (c + d) else cap (Bk σ s ws n (c + d))) (U := fun d => Bk σ s ws n (c + d)) (lo := -outM σ s) (outM σ s + inM σ s + 1).toNat (fun d d0 d1 => ⟨by
      rcases wl d with q | q
      · exact q
      · exact absurd (show -outM σ s ≤ d ∧ d ≤ inM σ s by omega) q, by
      (try dsimp only)
      split
      · rename_i q
        exact NMB h s0 s1 k hw n (c + d) (by omega) q.1 q.2
      · rfl, Bk_nn σ s ws n (c + d)⟩)
    have hN : NM σ s ws (n + 1) c = nF (fun d => wtM σ s ws (σ 28 0 0 - ((n : Int) + 1)) c d (VM σ s ws n (c + d))) (fun d => if 0 ≤ c + d ∧ c + d ≤ σ 35 0 s then NM σ s ws n (c + d) else cap (Bk σ s ws n (c + d))) (-outM σ s) (outM σ s + inM σ s + 1).toNat := by
      show nF _ (fun d => NM σ s ws n (c + d)) _ _ = _
      have key : ∀ m : Nat, nF (fun d => wtM σ s ws (σ 28 0 0 - ((n : Int) + 1)) c d (VM σ s ws n (c + d))) (fun d => NM σ s ws n (c + d)) (-outM σ s) m = nF (fun d => wtM σ s ws (σ 28 0 0 - ((n : Int) + 1)) c d (VM σ s ws n (c + d))) (fun d => if 0 ≤ c + d ∧ c + d ≤ σ 35 0 s then NM σ s ws n (c + d) else cap (Bk σ s ws n (c + d))) (-outM σ s) m := by
        intro m
        induction m with
        | zero => rfl
        | succ m ih =>
          unfold nF
          rw [ih]
          split
          · rename_i q
            rw [if_pos (ok _ q.1)]
          · rfl
      exact key _
    rw [hN, U.2.2.1]
    congr 1
    show sumN _ _ = sumN (fun y => edC σ s ws (σ 1 0 0 - ((n : Int) + 1)) c y * Bk σ s ws n y) (σ 8 s 2 + 1).toNat
    -- both sums over charges
    let gS : Int → Int := fun y => if (-outM σ s ≤ y - c ∧ y - c ≤ inM σ s) ∧ wtM σ s ws (σ 28 0 0 - ((n : Int) + 1)) c (y - c) (VM σ s ws n (c + (y - c))) = VM σ s ws (n + 1) c ∧ VM σ s ws (n + 1) c ≠ LOW then Bk σ s ws n y else 0
    have s1' : sumN (fun j => gS (c - outM σ s + j)) (outM σ s + inM σ s + 1).toNat = sumN (fun j => gS (j - 200)) 500 := sumN_w (by omega) (by omega) (fun y hy => if_neg (fun q => hy (by omega)))
    have s2' : sumN (fun j => gS (0 + j)) (σ 8 s 2 + 1).toNat = sumN (fun j => gS (j - 200)) 500 := sumN_w (by omega) (by omega) (fun y hy => if_neg (fun q => hy (by
      have := ok (y - c) (by rw [q.2.1]; exact q.2.2)
      omega)))
    refine Eq.trans (sumN_c (fun j j0 j1 => ?_)) (Eq.trans (s1'.trans s2'.symm) (sumN_c (fun y y0 y1 => ?_)))
    · show (if wtM σ s ws (σ 28 0 0 - ((n : Int) + 1)) c (-outM σ s + j) (VM σ s ws n (c + (-outM σ s + j))) = bF (fun d => wtM σ s ws (σ 28 0 0 - ((n : Int) + 1)) c d (VM σ s ws n (c + d))) (-outM σ s) (outM σ s + inM σ s + 1).toNat ∧ bF (fun d => wtM σ s ws (σ 28 0 0 - ((n : Int) + 1)) c d (VM σ s ws n (c + d))) (-outM σ s) (outM σ s + inM σ s + 1).toNat ≠ LOW then Bk σ s ws n (c + (-outM σ s + j)) else 0) = gS (c - outM σ s + j)
      rw [← hV]
      show _ = (if (-outM σ s ≤ c - outM σ s + j - c ∧ c - outM σ s + j - c ≤ inM σ s) ∧ wtM σ s ws (σ 28 0 0 - ((n : Int) + 1)) c (c - outM σ s + j - c) (VM σ s ws n (c + (c - outM σ s + j - c))) = VM σ s ws (n + 1) c ∧ VM σ s ws (n + 1) c ≠ LOW then Bk σ s ws n (c - outM σ s + j) else 0)
      rw [show c - outM σ s + j - c = -outM σ s + j by omega, show c - outM σ s + j = c + (-outM σ s + j) by omega]
      by_cases q : wtM σ s ws (σ 28 0 0 - ((n : Int) + 1)) c (-outM σ s + j) (VM σ s ws n (c + (-outM σ s + j))) = VM σ s ws (n + 1) c ∧ VM σ s ws (n + 1) c ≠ LOW
      · rw [if_pos q, if_pos ⟨by omega, q⟩]
      · rw [if_neg q, if_neg (fun x => q x.2)]
    · show gS (0 + y) = edC σ s ws (σ 1 0 0 - ((n : Int) + 1)) c y * Bk σ s ws n y
      rw [Int.zero_add, g]
      show (if (-outM σ s ≤ y - c ∧ y - c ≤ inM σ s) ∧ wtM σ s ws (σ 28 0 0 - ((n : Int) + 1)) c (y - c) (VM σ s ws n (c + (y - c))) = VM σ s ws (n + 1) c ∧ VM σ s ws (n + 1) c ≠ LOW then Bk σ s ws n y else 0) = _
      have eW : (σ 1 0 0 - (σ 28 0 0 - ((n : Int) + 1))).toNat = n + 1 := by omega
      by_cases q : (-outM σ s ≤ y - c ∧ y - c ≤ inM σ s) ∧ wtM σ s ws (σ 28 0 0 - ((n : Int) + 1)) c (y - c) (VM σ s ws n (c + (y - c))) = VM σ s ws (n + 1) c ∧ VM σ s ws (n + 1) c ≠ LOW
      · have r := B (y - c) q.1.1 q.1.2 (by rw [q.2.1]; exact q.2.2)
        have v2 := VM_b (jMS h) (jMP h) s ws (n + 1) c
        have e : edC σ s ws (σ 28 0 0 - ((n : Int) + 1)) c y = 1 := by
          refine if_pos ⟨r.1, ?_, ?_⟩
          · rw [eW, r.2, q.2.1, e2, (conv_v _).2 q.2.2]
          · rw [eW, e2, (conv_v _).2 q.2.2]
            have := q.2.2
            omega
        rw [if_pos q, e, Int.one_mul]
      · have e : edC σ s ws (σ 28 0 0 - ((n : Int) + 1)) c y = 0 := by
          refine if_neg (fun x => q ?_)
          rw [eW] at x
          have r := A (y - c) x.1.1 x.1.2 (by rw [x.2.1]; exact x.2.2)
          have hl : VM σ s ws (n + 1) c ≠ LOW := fun z => x.2.2 (by rw [e2, (conv_v _).1 z])
          exact ⟨r.1, by rw [r.2, x.2.1, e2, (conv_v _).2 hl], hl⟩
        rw [if_neg q, e, Int.zero_mul]
theorem e_many (h : JJ σ) (z1 z2 : Int) : rc_many σ z1 z2 = rm_many σ z1 z2 := by
  have g := jrT h
  unfold rT at g
  have mt := jMT h
  unfold MT at mt
  unfold rc_many rm_many
  split
  · rename_i c
    have t := thereS h (s := z1) (by omega) (by omega)
    by_cases d : σ 34 0 z1 < 0
    · rw [if_pos d, if_pos (t.mpr d)]
    · have u := atS h (s := z1) (by omega) (by omega) d
      have mc := jMC h z1 (by omega) (by omega) (by omega)
      have bm := bM (jMS h) z1
      have ts := topsz h z1
      have nb := NMB h (s := z1) (ws := z2) (by omega) (by omega) d c.2 (σ 28 0 0).toNat (σ 36 0 z1) (by omega) (by omega) (by omega)
      have bn := Bk_nn σ z1 z2 (σ 28 0 0).toNat (σ 36 0 z1)
      rw [if_neg d, if_neg (fun q => d (t.mp q)), nb]
      by_cases x : WC σ z1 z2 (σ 1 0 0).toNat (σ 8 z1 3) = NONE
      · rw [if_pos x]
        rw [g, u.2.2.2.2.1] at x
        have e : (σ 28 0 0).toNat = ((σ 28 0 0).toNat - 1) + 1 := by omega
        rw [e] at x ⊢
        rw [Bk_0 (by omega) x]
        rfl
      · rw [if_neg x, wbB h (by omega) (by omega) d x, g, u.2.2.2.2.1]
        unfold cap
        (repeat' split) <;> omega
  · rfl
end MANY
