/-! the class's tables -/
def fmS (s : Mm) (c : Int) : Int := max (s 10 0 6) (s 10 0 8 - c)
def lmS (s : Mm) (c : Int) : Int := min (s 10 0 7) (s 10 0 9 - c)
def wqS (s : Mm) (t c d : Int) : Int := if s 12 0 (d + 40) = NONE ∨ s 11 0 ((t + 1) * 61 + c + d) = NONE then NONE else s 12 0 (d + 40) + s 11 0 ((t + 1) * 61 + c + d)
def PB (s : Mm) : Prop := (-40 ≤ s 10 0 6 ∧ s 10 0 6 ≤ 0) ∧ (0 ≤ s 10 0 7 ∧ s 10 0 7 ≤ 40) ∧ (0 ≤ s 10 0 8 ∧ s 10 0 8 ≤ 16) ∧ (-10 ≤ s 10 0 9 ∧ s 10 0 9 ≤ 60)
/-- the greatest of w over n numbers from lo on, NONE: none -/
def gF (w : Int → Int) (lo : Int) : Nat → Int
  | 0 => NONE
  | j + 1 => if gF w lo j < w (lo + j) then w (lo + j) else gF w lo j
theorem gF_st {w : Int → Int} {lo d : Int} (h : lo ≤ d) : gF w lo (d + 1 - lo).toNat = if gF w lo (d - lo).toNat < w d then w d else gF w lo (d - lo).toNat := by
  rw [show (d + 1 - lo).toNat = (d - lo).toNat + 1 by omega]
  show (if _ < w (lo + ((d - lo).toNat : Int)) then _ else _) = _
  rw [show lo + ((d - lo).toNat : Int) = d by omega]
def grS (s : Mm) (t c : Int) : Int := gF (wqS s t c) (fmS s c) (lmS s c + 1 - fmS s c).toNat
def lbF (w : Int → Int) (v : Int) : Nat → Int → Int
  | 0, _ => 0
  | n + 1, d => if w d = v then d else lbF w v n (d + 1)
theorem lbF_hit {w : Int → Int} {v hi d : Int} (h : d < hi) (hw : w d = v) : lbF w v (hi - d).toNat d = d := by
  rw [show (hi - d).toNat = (hi - (d + 1)).toNat + 1 by omega]
  show (if _ then _ else _) = _
  rw [if_pos hw]
theorem lbF_go {w : Int → Int} {v hi d : Int} (h : d < hi) (hw : ¬ w d = v) : lbF w v (hi - d).toNat d = lbF w v (hi - (d + 1)).toNat (d + 1) := by
  rw [show (hi - d).toNat = (hi - (d + 1)).toNat + 1 by omega]
  show (if _ then _ else _) = _
  rw [if_neg hw]
theorem lbF_end {w : Int → Int} {v hi d : Int} (h : hi ≤ d) : lbF w v (hi - d).toNat d = 0 := by
  rw [show (hi - d).toNat = 0 by omega]
  rfl
def lbS (s : Mm) (t c : Int) : Int := lbF (wqS s t c) (s 11 0 (t * 61 + c)) (lmS s c + 1 - fmS s c).toNat (fmS s c)
/-- bounded, or none -/
def bN (x : Int) : Prop := x = NONE ∨ (-2000000000 ≤ x ∧ x ≤ 2000000000)
def QB (s : Mm) (t c : Int) : Prop := ∀ d, fmS s c ≤ d → d ≤ lmS s c → bN (wqS s t c d)
/-- ways spread from a charge c, the numbers below e looked at -/
def spW (s : Mm) (t c e : Int) : Mm := fun b j y => if b = 14 ∧ j = 0 ∧ (fmS s c ≤ y - c ∧ y - c < e) ∧ wqS s t c (y - c) = s 11 0 (t * 61 + c) then min 1000000000 (s 14 0 y + s 13 0 c) else s b j y
def lmC (σ : Mm) (i t : Int) : Int := if σ 2 0 t = 0 then min 0 (kbC σ t - σ 8 i 7) else 0
def mmC (σ : Mm) (i t : Int) : Int := if σ 2 0 t = 0 then max 0 (σ 8 i 6 - kbC σ t) else 0
def spC (σ : Mm) (ws t : Int) : Int := sm (fun w => if sel ws w = 1 then pC σ w t else 0) 4
def gnC (σ : Mm) (i ws t d : Int) : Int := if d = 0 ∨ (σ 2 0 t = 0 ∧ (d ≤ σ 8 i 6 - kbC σ t ∧ kbC σ t - σ 8 i 7 ≤ d)) then mon (σ 8 i 8) (bcF ws * σ 8 i 9) d (spC σ ws t) else NONE
def fiC (σ : Mm) (i t c : Int) : Int := max (lmC σ i t) (σ 8 i 4 + kbC σ t - c)
def laC (σ : Mm) (i t c : Int) : Int := min (mmC σ i t) (σ 8 i 5 - kbC σ t - c)
def wqF (σ : Mm) (i ws t c : Int) (f : Int → Int) (d : Int) : Int := if gnC σ i ws t d = NONE ∨ f (c + d) = NONE then NONE else gnC σ i ws t d + f (c + d)
def WC (σ : Mm) (i ws : Int) : Nat → Int → Int
  | 0, c => if c < σ 8 i 10 then NONE else 0
  | k + 1, c => gF (wqF σ i ws (σ 1 0 0 - ((k : Int) + 1)) c (WC σ i ws k)) (fiC σ i (σ 1 0 0 - ((k : Int) + 1)) c) (laC σ i (σ 1 0 0 - ((k : Int) + 1)) c + 1 - fiC σ i (σ 1 0 0 - ((k : Int) + 1)) c).toNat
/-- the same by steps -/
def wqC (σ : Mm) (i ws t c d : Int) : Int := wqF σ i ws t c (WC σ i ws (σ 1 0 0 - (t + 1)).toNat) d
theorem WC_s {σ : Mm} {i ws t c : Int} (h0 : 0 ≤ t) (h1 : t < σ 1 0 0) : WC σ i ws (σ 1 0 0 - t).toNat c = gF (wqC σ i ws t c) (fiC σ i t c) (laC σ i t c + 1 - fiC σ i t c).toNat := by
  rw [show (σ 1 0 0 - t).toNat = (σ 1 0 0 - (t + 1)).toNat + 1 by omega]
  show gF (wqF σ i ws (σ 1 0 0 - (((σ 1 0 0 - (t + 1)).toNat : Int) + 1)) c (WC σ i ws (σ 1 0 0 - (t + 1)).toNat)) (fiC σ i (σ 1 0 0 - (((σ 1 0 0 - (t + 1)).toNat : Int) + 1)) c) (laC σ i (σ 1 0 0 - (((σ 1 0 0 - (t + 1)).toNat : Int) + 1)) c + 1 - fiC σ i (σ 1 0 0 - (((σ 1 0 0 - (t + 1)).toNat : Int) + 1)) c).toNat = _
  rw [show σ 1 0 0 - (((σ 1 0 0 - (t + 1)).toNat : Int) + 1) = t by omega]
  rfl
/-- the step that is open -/
def OS (s σ : Mm) (i ws t : Int) : Prop := s 10 0 6 = lmC σ i t ∧ s 10 0 7 = mmC σ i t ∧ s 10 0 8 = σ 8 i 4 + kbC σ t ∧ s 10 0 9 = σ 8 i 5 - kbC σ t ∧ ∀ d, lmC σ i t ≤ d → d ≤ mmC σ i t → s 12 0 (d + 40) = gnC σ i ws t d
def TW (s σ : Mm) (i ws lo : Int) : Prop := ∀ t c : Int, lo ≤ t → t ≤ σ 1 0 0 → 0 ≤ c → c ≤ σ 8 i 2 → s 11 0 (t * 61 + c) = WC σ i ws (σ 1 0 0 - t).toNat c
/-- the prices' sums and the number of worlds, as sumPrices leaves them -/
def PS (s σ : Mm) (ws : Int) : Prop := s 10 0 1 = bcF ws ∧ ∀ t : Int, 0 ≤ t → t < 36 → s 50 0 t = spC σ ws t
theorem PS_ag {s σ τ : Mm} {ws : Int} (hA : Ag τ σ) (h : PS s σ ws) : PS s τ ws := ⟨h.1, fun t h0 h1 => (h.2 t h0 h1).trans (ag (F := fun m => spC m ws t) (fun _ => rfl) hA).symm⟩
theorem PS_mv {s σ : Mm} {ws : Int} (hA : Ag s σ) (h50 : s 50 = σ 50) (h1 : s 10 0 1 = σ 10 0 1) (h : PS σ σ ws) : PS s s ws := PS_ag hA ⟨h1.trans h.1, fun t a b => by rw [h50]; exact h.2 t a b⟩
theorem lmC_b {σ : Mm} (hS : CS σ) (hK : CK σ) (i t : Int) : (-40 ≤ lmC σ i t ∧ lmC σ i t ≤ 0) ∧ (0 ≤ mmC σ i t ∧ mmC σ i t ≤ 40) := by
  have a := hS i
  have k := kbC_b hK t
  unfold lmC mmC
  split <;> omega
theorem OS_PB {s σ : Mm} {i ws t : Int} (hS : CS σ) (hK : CK σ) (h : OS s σ i ws t) : PB s := by
  have a := hS i
  have k := kbC_b hK t
  have q := lmC_b hS hK i t
  obtain ⟨h1, h2, h3, h4, -⟩ := h
  refine ⟨?_, ?_, ?_, ?_⟩
  · rw [h1]; exact q.1
  · rw [h2]; exact q.2
  · rw [h3]; omega
  · rw [h4]; omega
theorem bcF_b : ∀ z : Int, 1 ≤ z → z ≤ 15 → (1 ≤ bcF z ∧ bcF z ≤ 4) ∧ bcF z = sm (fun w => if sel z w = 1 then 1 else 0) 4 := by
  intro z h1 h2
  rcases (show z = 1 ∨ z = 2 ∨ z = 3 ∨ z = 4 ∨ z = 5 ∨ z = 6 ∨ z = 7 ∨ z = 8 ∨ z = 9 ∨ z = 10 ∨ z = 11 ∨ z = 12 ∨ z = 13 ∨ z = 14 ∨ z = 15 by omega) with rfl | rfl | rfl | rfl | rfl | rfl | rfl | rfl | rfl | rfl | rfl | rfl | rfl | rfl | rfl <;> decide +kernel
theorem spC_b {σ : Mm} (hP : CP σ) (ws t : Int) : -40000 ≤ spC σ ws t ∧ spC σ ws t ≤ 40000 := by
  have b := sm_b (f := fun w => if sel ws w = 1 then pC σ w t else 0) (a := -10000) (b := 10000) (n := 4) (by omega) (fun k _ _ => by have q := pC_b hP k t; (try dsimp only); split <;> omega)
  unfold spC
  omega
theorem gnC_b {σ : Mm} (hS : CS σ) (hP : CP σ) {i ws t d : Int} (hw : 1 ≤ ws ∧ ws ≤ 15) (hd : -100 ≤ d ∧ d ≤ 100) : gnC σ i ws t d = NONE ∨ (-32000000 ≤ gnC σ i ws t d ∧ gnC σ i ws t d ≤ 32000000) := by
  unfold gnC
  split
  · have a := hS i
    have b := (bcF_b ws hw.1 hw.2).1
    have p := spC_b hP ws t
    have m : 0 ≤ bcF ws * σ 8 i 9 ∧ bcF ws * σ 8 i 9 ≤ 400 := ⟨Int.mul_nonneg (by omega) (by omega), by have := Int.mul_le_mul (a := bcF ws) (b := σ 8 i 9) (c := 4) (d := 100) (by omega) (by omega) (by omega) (by omega); omega⟩
    refine Or.inr ?_
    unfold mon
    split
    · have q := mul_b (x := σ 8 i 8) (y := d) (A := 50) (B := 100) (by omega) (by omega) (by omega)
      rw [Int.mul_comm (σ 8 i 8) d] at q
      have q0 : 0 ≤ d * σ 8 i 8 := Int.mul_nonneg (by omega) (by omega)
      have r := mul_b (x := -spC σ ws t) (y := d + (d * σ 8 i 8 + 99) / 100) (A := 40000) (B := 151) (by omega) (by omega) (by omega)
      omega
    · have r := mul_b (x := spC σ ws t - bcF ws * σ 8 i 9) (y := -d) (A := 40400) (B := 100) (by omega) (by omega) (by omega)
      omega
  · exact Or.inl rfl
theorem gF_b {w : Int → Int} {lo B : Int} : ∀ (n : Nat), (∀ j : Nat, j < n → w (lo + j) = NONE ∨ (-B ≤ w (lo + j) ∧ w (lo + j) ≤ B)) → gF w lo n = NONE ∨ (-B ≤ gF w lo n ∧ gF w lo n ≤ B)
  | 0, _ => Or.inl rfl
  | n + 1, h => by
    have i := gF_b n (fun j hj => h j (by omega))
    have q := h n (by omega)
    unfold gF
    split
    · exact q
    · exact i
theorem WC_b {σ : Mm} (hS : CS σ) (hP : CP σ) (hK : CK σ) {i ws : Int} (hw : 1 ≤ ws ∧ ws ≤ 15) : ∀ (k : Nat) (c : Int), WC σ i ws k c = NONE ∨ (-(32000000 * (k : Int)) ≤ WC σ i ws k c ∧ WC σ i ws k c ≤ 32000000 * (k : Int))
  | 0, c => by
    unfold WC
    split
    · exact Or.inl rfl
    · exact Or.inr (by omega)
  | k + 1, c => by
    have a := lmC_b hS hK i (σ 1 0 0 - ((k : Int) + 1))
    unfold WC
    refine gF_b _ (fun j hj => ?_)
    generalize hd : fiC σ i (σ 1 0 0 - ((k : Int) + 1)) c + (j : Int) = d
    have hd2 : -100 ≤ d ∧ d ≤ 100 := by
      unfold fiC at hj hd
      unfold laC at hj
      omega
    have v := WC_b hS hP hK (i := i) hw k (c + d)
    have m := gnC_b hS hP (i := i) (ws := ws) (t := σ 1 0 0 - ((k : Int) + 1)) hw hd2
    have e : (((k + 1 : Nat) : Int)) = (k : Int) + 1 := by omega
    rw [e]
    unfold wqF
    split
    · exact Or.inl rfl
    · rename_i q
      rcases v with v | v
      · exact absurd (Or.inr v) q
      · rcases m with m | m
        · exact absurd (Or.inl m) q
        · exact Or.inr (by omega)
/-- at an open step, with the table of the next one, what the methods see is what is meant -/
theorem wq_cv {s σ : Mm} {i ws t c d : Int} (hO : OS s σ i ws t) (hW : TW s σ i ws (t + 1)) (h1 : t < σ 1 0 0) (hd : lmC σ i t ≤ d ∧ d ≤ mmC σ i t) (hc : 0 ≤ c + d ∧ c + d ≤ σ 8 i 2) : wqS s t c d = wqC σ i ws t c d := by
  unfold wqS wqC wqF
  rw [hO.2.2.2.2 d hd.1 hd.2, show (t + 1) * 61 + c + d = (t + 1) * 61 + (c + d) by omega, hW (t + 1) (c + d) (by omega) (by omega) hc.1 hc.2]
theorem fm_cv {s σ : Mm} {i ws t : Int} (hO : OS s σ i ws t) (c : Int) : fmS s c = fiC σ i t c ∧ lmS s c = laC σ i t c := by
  unfold fmS lmS fiC laC
  rw [hO.1, hO.2.1, hO.2.2.1, hO.2.2.2.1]
  exact ⟨rfl, rfl⟩
theorem gF_c {w v : Int → Int} {lo : Int} : ∀ {n : Nat}, (∀ d, lo ≤ d → d < lo + n → w d = v d) → gF w lo n = gF v lo n
  | 0, _ => rfl
  | n + 1, h => by
    have i := gF_c (n := n) (fun d h0 h1 => h d h0 (by omega))
    show (if gF w lo n < w (lo + n) then w (lo + n) else gF w lo n) = (if gF v lo n < v (lo + n) then v (lo + n) else gF v lo n)
    rw [i, h (lo + n) (by omega) (by omega)]
theorem inr_b {σ : Mm} (hS : CS σ) (hK : CK σ) {i t c d : Int} (hz : σ 8 i 5 ≤ σ 8 i 2) (h0 : fiC σ i t c ≤ d) (h1 : d ≤ laC σ i t c) : (lmC σ i t ≤ d ∧ d ≤ mmC σ i t) ∧ (0 ≤ c + d ∧ c + d ≤ σ 8 i 2) ∧ (-40 ≤ d ∧ d ≤ 40) := by
  have a := hS i
  have k := kbC_b hK t
  have q := lmC_b hS hK i t
  unfold fiC at h0
  unfold laC at h1
  omega
theorem wqC_b {σ : Mm} (hS : CS σ) (hP : CP σ) (hK : CK σ) {i ws t c d : Int} (hw : 1 ≤ ws ∧ ws ≤ 15) (h0 : 0 ≤ t) (h1 : σ 1 0 0 ≤ 36) (hd : -100 ≤ d ∧ d ≤ 100) : bN (wqC σ i ws t c d) := by
  have v := WC_b hS hP hK (i := i) hw (σ 1 0 0 - (t + 1)).toNat (c + d)
  have m := gnC_b hS hP (i := i) (ws := ws) (t := t) hw hd
  unfold bN wqC wqF
  split
  · exact Or.inl rfl
  · rename_i q
    rcases v with v | v
    · exact absurd (Or.inr v) q
    · rcases m with m | m
      · exact absurd (Or.inl m) q
      · exact Or.inr (by omega)
theorem QB_of {s σ : Mm} (hS : CS σ) (hP : CP σ) (hK : CK σ) {i ws t : Int} (hw : 1 ≤ ws ∧ ws ≤ 15) (h0 : 0 ≤ t) (h1 : t < σ 1 0 0) (h2 : σ 1 0 0 ≤ 36) (hz : σ 8 i 5 ≤ σ 8 i 2) (hO : OS s σ i ws t) (hW : TW s σ i ws (t + 1)) (c : Int) : QB s t c := by
  intro d h3 h4
  rw [(fm_cv hO c).1] at h3
  rw [(fm_cv hO c).2] at h4
  have q := inr_b hS hK hz h3 h4
  rw [wq_cv hO hW h1 q.1 q.2.1]
  exact wqC_b hS hP hK hw h0 h2 (by omega)
theorem gr_cv {s σ : Mm} (hS : CS σ) (hK : CK σ) {i ws t : Int} (h0 : 0 ≤ t) (h1 : t < σ 1 0 0) (hz : σ 8 i 5 ≤ σ 8 i 2) (hO : OS s σ i ws t) (hW : TW s σ i ws (t + 1)) (c : Int) : grS s t c = WC σ i ws (σ 1 0 0 - t).toNat c := by
  rw [WC_s h0 h1]
  unfold grS
  rw [(fm_cv hO c).1, (fm_cv hO c).2]
  refine gF_c (fun d h3 h4 => ?_)
  have q := inr_b hS hK hz h3 (show d ≤ laC σ i t c by omega)
  exact wq_cv hO hW h1 q.1 q.2.1
def bdC (σ : Mm) (i ws t c : Int) : Int := lbF (wqC σ i ws t c) (WC σ i ws (σ 1 0 0 - t).toNat c) (laC σ i t c + 1 - fiC σ i t c).toNat (fiC σ i t c)
def bcC (σ : Mm) (i ws t : Int) : Int := chI (bdC σ i ws) (σ 8 i 3) t
def bpC (σ : Mm) (i ws t : Int) : Int := bdC σ i ws t (bcC σ i ws t)
/-- how many ways to a charge, forwards -/
def nxW (σ : Mm) (i ws t : Int) (f : Int → Int) : Nat → Int → Int
  | 0, _ => 0
  | m + 1, y => if f m ≠ 0 ∧ (fiC σ i t m ≤ y - m ∧ y - m ≤ laC σ i t m) ∧ wqC σ i ws t m (y - m) = WC σ i ws (σ 1 0 0 - t).toNat m then min 1000000000 (nxW σ i ws t f m y + f m) else nxW σ i ws t f m y
def fW (σ : Mm) (i ws : Int) : Nat → Int → Int
  | 0, c => if c = σ 8 i 3 then 1 else 0
  | t + 1, c => nxW σ i ws t (fW σ i ws t) (σ 8 i 2 + 1).toNat c
def wbC (σ : Mm) (i ws : Int) : Int := min 1000000000 (sm (fW σ i ws (σ 1 0 0).toNat) 61)
def rc_best (σ : Mm) (z1 z2 : Int) : Int := if (0 ≤ z1 ∧ z1 ≤ 3) ∧ (1 ≤ z2 ∧ z2 ≤ 15) then (if σ 8 z1 0 = 0 then NO else WC σ z1 z2 (σ 1 0 0).toNat (σ 8 z1 3)) else BAD
def sc_best (σ : Mm) (z1 z2 : Int) : Mm := if ((0 ≤ z1 ∧ z1 ≤ 3) ∧ (1 ≤ z2 ∧ z2 ≤ 15)) ∧ ¬ σ 8 z1 0 = 0 ∧ WC σ z1 z2 (σ 1 0 0).toNat (σ 8 z1 3) ≠ NONE then plW σ 9 z1 0 (bpC σ z1 z2) (σ 1 0 0) else σ
def rc_many (σ : Mm) (z1 z2 : Int) : Int := if (0 ≤ z1 ∧ z1 ≤ 3) ∧ (1 ≤ z2 ∧ z2 ≤ 15) then (if σ 8 z1 0 = 0 then NO else if WC σ z1 z2 (σ 1 0 0).toNat (σ 8 z1 3) = NONE then 0 else wbC σ z1 z2) else BAD
def rc_value (σ : Mm) (z1 z2 z3 z4 : Int) : Int := if (0 ≤ z1 ∧ z1 ≤ 3) ∧ (1 ≤ z2 ∧ z2 ≤ 15) then (if σ 8 z1 0 = 0 then NO else if (0 ≤ z3 ∧ z3 ≤ σ 1 0 0) ∧ (0 ≤ z4 ∧ z4 ≤ σ 8 z1 2) then WC σ z1 z2 (σ 1 0 0 - z3).toNat z4 else BAD) else BAD
