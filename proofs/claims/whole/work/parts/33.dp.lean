/-! the best plan's tables -/
/-- what both sides keep: all but the scratch rows -/
def cut (σ : Mm) : Mm := fun a => if (10 ≤ a ∧ a ≤ 14) ∨ 47 ≤ a then (fun _ _ => 0) else σ a
def Ag (s σ : Mm) : Prop := cut s = cut σ
theorem ag {α : Sort _} {F : Mm → α} {s σ : Mm} (hF : ∀ s, F s = F (cut s)) (h : Ag s σ) : F s = F σ := (hF s).trans ((congrArg F h).trans (hF σ).symm)
theorem agP {F : Mm → Prop} {s σ : Mm} (hF : ∀ s, F s = F (cut s)) (h : Ag s σ) (x : F σ) : F s := Eq.mpr (ag hF h) x
theorem Ag.rf (σ : Mm) : Ag σ σ := rfl
theorem Ag.tr {a b c : Mm} (h1 : Ag a b) (h2 : Ag b c) : Ag a c := Eq.trans h1 h2
theorem Ag.sy {a b : Mm} (h1 : Ag a b) : Ag b a := Eq.symm h1
theorem Ag_up {s σ : Mm} {a : Nat} {i z v : Int} (ha : (10 ≤ a ∧ a ≤ 14) ∨ 47 ≤ a) (h : Ag s σ) : Ag (up s a i z v) σ := by
  refine Eq.trans ?_ h
  funext b
  unfold cut
  by_cases hb : (10 ≤ b ∧ b ≤ 14) ∨ 47 ≤ b
  · rw [if_pos hb, if_pos hb]
  · rw [if_neg hb, if_neg hb]
    exact up_s (fun q => hb (q ▸ ha))
def LOW : Int := -8000000000000000000
/-- the greatest of w over n numbers from lo on, LOW: none -/
def bF (w : Int → Int) (lo : Int) : Nat → Int
  | 0 => LOW
  | j + 1 => if w (lo + j) ≠ LOW ∧ bF w lo j ≤ w (lo + j) then w (lo + j) else bF w lo j
def cap (n : Int) : Int := if 1000000000 < n then 1000000001 else n
def nF (w u : Int → Int) (lo : Int) : Nat → Int
  | 0 => 0
  | j + 1 => if w (lo + j) ≠ LOW ∧ bF w lo j ≤ w (lo + j) then cap ((if bF w lo j < w (lo + j) then 0 else nF w u lo j) + u (lo + j)) else nF w u lo j
def wtM (σ : Mm) (s ws t c d x : Int) : Int := if (0 ≤ c + d ∧ c + d ≤ σ 35 0 s) ∧ ftM σ s t d (c + d) = 0 ∧ x ≠ LOW then x + mtM σ s ws t d else LOW
def VM (σ : Mm) (s ws : Int) : Nat → Int → Int
  | 0, c => if c < σ 41 0 s then LOW else 0
  | k + 1, c => bF (fun d => wtM σ s ws (σ 28 0 0 - ((k : Int) + 1)) c d (VM σ s ws k (c + d))) (-outM σ s) (outM σ s + inM σ s + 1).toNat
def NM (σ : Mm) (s ws : Int) : Nat → Int → Int
  | 0, c => if c < σ 41 0 s then 0 else 1
  | k + 1, c => nF (fun d => wtM σ s ws (σ 28 0 0 - ((k : Int) + 1)) c d (VM σ s ws k (c + d))) (fun d => NM σ s ws k (c + d)) (-outM σ s) (outM σ s + inM σ s + 1).toNat
theorem mtM_b {σ : Mm} (hS : MSt σ) (hP : MP σ) (s ws t : Int) {d : Int} (hd : -100 ≤ d ∧ d ≤ 100) : -32000000 ≤ mtM σ s ws t d ∧ mtM σ s ws t d ≤ 32000000 := by
  have b := sm_b (f := fun w => if sel ws w = 1 then monM σ s d (pM σ w t) else 0) (a := -8000000) (b := 8000000) (n := 4) (by omega) (fun k _ _ => by have q := monM_b hS s hd (pM_b hP k t); (try dsimp only); split <;> omega)
  unfold mtM
  omega
theorem bF_b {w : Int → Int} {lo B : Int} (hB : 0 ≤ B) : ∀ (n : Nat), (∀ j : Nat, j < n → w (lo + j) = LOW ∨ (-B ≤ w (lo + j) ∧ w (lo + j) ≤ B)) → bF w lo n = LOW ∨ (-B ≤ bF w lo n ∧ bF w lo n ≤ B)
  | 0, _ => Or.inl rfl
  | n + 1, h => by
    have i := bF_b hB n (fun j hj => h j (by omega))
    have q := h n (by omega)
    unfold bF
    split
    · rename_i c
      rcases q with q | q
      · exact absurd q c.1
      · exact Or.inr q
    · exact i
theorem VM_b {σ : Mm} (hS : MSt σ) (hP : MP σ) (s ws : Int) : ∀ (k : Nat) (c : Int), VM σ s ws k c = LOW ∨ (-(32000000 * (k : Int)) ≤ VM σ s ws k c ∧ VM σ s ws k c ≤ 32000000 * (k : Int))
  | 0, c => by
    unfold VM
    split
    · exact Or.inl rfl
    · exact Or.inr (by omega)
  | k + 1, c => by
    have aM := bM hS s
    unfold VM
    refine bF_b (by omega) _ (fun j hj => ?_)
    have i := VM_b hS hP s ws k (c + (-outM σ s + j))
    have m := mtM_b hS hP s ws (σ 28 0 0 - ((k : Int) + 1)) (d := -outM σ s + j) (by omega)
    have e : (((k + 1 : Nat) : Int)) = (k : Int) + 1 := by omega
    rw [e]
    (try dsimp only)
    unfold wtM
    split
    · rename_i q
      rcases i with i | i
      · exact absurd i q.2.2
      · exact Or.inr (by omega)
    · exact Or.inl rfl
theorem NM_b {σ : Mm} (s ws : Int) : ∀ (k : Nat) (c : Int), 0 ≤ NM σ s ws k c ∧ NM σ s ws k c ≤ 1000000001 := by
  have key : ∀ (w u : Int → Int) (lo : Int), (∀ d, 0 ≤ u d ∧ u d ≤ 1000000001) → ∀ n : Nat, 0 ≤ nF w u lo n ∧ nF w u lo n ≤ 1000000001 := by
    intro w u lo hu n
    induction n with
    | zero => show 0 ≤ (0 : Int) ∧ (0 : Int) ≤ 1000000001; omega
    | succ n ih =>
      have q := hu (lo + n)
      unfold nF cap
      (repeat' split) <;> omega
  intro k
  induction k with
  | zero => intro c; unfold NM; split <;> omega
  | succ k ih => intro c; unfold NM; exact key _ _ _ (fun d => ih _) _
/-- the tables from step lo on -/
def TB (s σ : Mm) (z ws lo : Int) : Prop := ∀ t c : Int, lo ≤ t → t ≤ σ 28 0 0 → 0 ≤ c → c ≤ σ 35 0 z → s 48 0 (61 * t + c) = VM σ z ws (σ 28 0 0 - t).toNat c ∧ s 49 0 (61 * t + c) = NM σ z ws (σ 28 0 0 - t).toNat c
/-- of one row the places below c -/
def TR (s σ : Mm) (z ws t m : Int) : Prop := ∀ c : Int, 0 ≤ c → c < m → s 48 0 (61 * t + c) = VM σ z ws (σ 28 0 0 - t).toNat c ∧ s 49 0 (61 * t + c) = NM σ z ws (σ 28 0 0 - t).toNat c
theorem TR_up {s σ : Mm} {z ws t c v n : Int} (h : TR s σ z ws t c) (hv : v = VM σ z ws (σ 28 0 0 - t).toNat c) (hn : n = NM σ z ws (σ 28 0 0 - t).toNat c) : TR (up (up s 48 0 (61 * t + c) v) 49 0 (61 * t + c) n) σ z ws t (c + 1) := by
  intro c' h0 h1
  rw [up_s (show (48 : Nat) ≠ 49 by decide), up_e, up_e, up_s (show (49 : Nat) ≠ 48 by decide)]
  by_cases q : c' = c
  · subst q
    rw [if_pos ⟨rfl, rfl⟩, if_pos ⟨rfl, rfl⟩]
    exact ⟨hv, hn⟩
  · rw [if_neg (by omega), if_neg (by omega)]
    exact h c' h0 (by omega)
theorem TB_up {s σ : Mm} {z ws t c v n : Int} (hz : 0 ≤ σ 35 0 z ∧ σ 35 0 z ≤ 60) (h : TB s σ z ws (t + 1)) (hc : 0 ≤ c ∧ c ≤ 60) : TB (up (up s 48 0 (61 * t + c) v) 49 0 (61 * t + c) n) σ z ws (t + 1) := by
  intro t' c' h0 h1 h2 h3
  rw [up_s (show (48 : Nat) ≠ 49 by decide), up_e, up_e, up_s (show (49 : Nat) ≠ 48 by decide), if_neg (by omega), if_neg (by omega)]
  exact h t' c' h0 h1 h2 h3
theorem TB_row {s σ : Mm} {z ws t m : Int} (h : TB s σ z ws (t + 1)) (h2 : TR s σ z ws t m) (hm : σ 35 0 z < m) : TB s σ z ws t := by
  intro t' c h0 h1 h2' h3
  by_cases q : t' = t
  · subst q
    exact h2 c h2' (by omega)
  · exact h t' c (by omega) h1 h2' h3
/-- the least number from lo on at which w is v, n tries -/
def lsF (w : Int → Int) (v : Int) : Nat → Int → Int
  | 0, d => d
  | n + 1, d => if w d = v then d else lsF w v n (d + 1)
def bdM (σ : Mm) (s ws t c : Int) : Int := lsF (fun d => wtM σ s ws t c d (VM σ s ws (σ 28 0 0 - (t + 1)).toNat (c + d))) (VM σ s ws (σ 28 0 0 - t).toNat c) (outM σ s + inM σ s + 1).toNat (-outM σ s)
def bcM (σ : Mm) (s ws t : Int) : Int := chI (bdM σ s ws) (σ 36 0 s) t
def bpM (σ : Mm) (s ws t : Int) : Int := bdM σ s ws t (bcM σ s ws t)
def rm_best (σ : Mm) (z1 z2 : Int) : Int := if (0 ≤ z1 ∧ z1 ≤ 3) ∧ (1 ≤ z2 ∧ z2 ≤ 15) then (if σ 34 0 z1 < 0 then NO else if VM σ z1 z2 (σ 28 0 0).toNat (σ 36 0 z1) = LOW then NONE else VM σ z1 z2 (σ 28 0 0).toNat (σ 36 0 z1)) else BAD
def sm_best (σ : Mm) (z1 z2 : Int) : Mm := if ((0 ≤ z1 ∧ z1 ≤ 3) ∧ (1 ≤ z2 ∧ z2 ≤ 15)) ∧ 0 ≤ σ 34 0 z1 ∧ VM σ z1 z2 (σ 28 0 0).toNat (σ 36 0 z1) ≠ LOW then plW σ 43 0 (36 * z1) (bpM σ z1 z2) (σ 28 0 0) else σ
def rm_many (σ : Mm) (z1 z2 : Int) : Int := if (0 ≤ z1 ∧ z1 ≤ 3) ∧ (1 ≤ z2 ∧ z2 ≤ 15) then (if σ 34 0 z1 < 0 then NO else if 1000000000 < NM σ z1 z2 (σ 28 0 0).toNat (σ 36 0 z1) then 1000000000 else NM σ z1 z2 (σ 28 0 0).toNat (σ 36 0 z1)) else BAD
def rm_value (σ : Mm) (z1 z2 z3 z4 : Int) : Int := if (0 ≤ z1 ∧ z1 ≤ 3) ∧ (1 ≤ z2 ∧ z2 ≤ 15) then (if σ 34 0 z1 < 0 then NO else if (0 ≤ z3 ∧ z3 ≤ σ 28 0 0) ∧ (0 ≤ z4 ∧ z4 ≤ σ 35 0 z1) then (if VM σ z1 z2 (σ 28 0 0 - z3).toNat z4 = LOW then NONE else VM σ z1 z2 (σ 28 0 0 - z3).toNat z4) else BAD) else BAD
/-- an answer, and a memory but for scratch -/
def AnsA (r : Option AV) (σ : Mm) : Option AV → Mm → Prop := fun r' σ' => r' = r ∧ Ag σ' σ
theorem ansA {v v' : Int} {σ σ' : Mm} (h : v = v') (hs : Ag σ σ') : AnsA (some (.inr (.inl v'))) σ' (some (.inr (.inl v))) σ := by subst h; exact ⟨rfl, hs⟩
