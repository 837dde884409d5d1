/-! what ties the class's cells to the reference's -/
def MC (σ : Mm) : Prop := ∀ s, 0 ≤ s → s < 4 → 0 ≤ σ 34 0 s → floM σ s ≤ σ 36 0 s ∧ σ 36 0 s ≤ topM σ s ∧ 1 ≤ σ 35 0 s
def rT (σ : Mm) : Prop := σ 1 0 0 = σ 28 0 0
def rK (σ : Mm) : Prop := (∀ t, σ 2 0 t = σ 29 0 t) ∧ ∀ t, σ 3 0 t = σ 30 0 t
def rW (σ : Mm) : Prop := ∀ w, 0 ≤ w → w < 4 → (σ 6 w 0 = 0 ∧ σ 31 0 w = -1) ∨ (σ 6 w 0 = 1 ∧ 0 ≤ σ 31 0 w ∧ σ 6 w 1 = σ 31 0 w ∧ σ 6 w 2 = σ 32 0 w ∧ ∀ t, 0 ≤ t → t < 36 → σ 7 w t = σ 33 0 (36 * w + t))
def rS (σ : Mm) : Prop := ∀ s, 0 ≤ s → s < 4 → (σ 8 s 0 = 0 ∧ σ 34 0 s = -1) ∨ (σ 8 s 0 = 1 ∧ 0 ≤ σ 34 0 s ∧ σ 8 s 1 = σ 34 0 s ∧ σ 8 s 2 = σ 35 0 s ∧ σ 8 s 3 = σ 36 0 s ∧ σ 8 s 4 = floM σ s ∧ σ 8 s 5 = topM σ s ∧ σ 8 s 6 = inM σ s ∧ σ 8 s 7 = outM σ s ∧ σ 8 s 8 = lossM σ s ∧ σ 8 s 9 = σ 40 0 s ∧ σ 8 s 10 = σ 41 0 s ∧ σ 8 s 11 = σ 42 0 s)
def rL (σ : Mm) : Prop := ∀ s t, 0 ≤ s → s < 4 → 0 ≤ t → t < 36 → σ 9 s t = σ 43 0 (36 * s + t)
def rD (σ : Mm) : Prop := σ 15 0 0 = σ 28 0 17 ∧ ∀ b, 0 ≤ b → b < 12 → σ 16 0 b = σ 44 0 (4 * b) ∧ σ 17 0 b = σ 44 0 (4 * b + 1) ∧ σ 18 0 b = σ 44 0 (4 * b + 2) ∧ σ 19 0 b = σ 44 0 (4 * b + 3)
def rE (σ : Mm) : Prop := ∀ t, σ 21 0 t = σ 45 0 t
def rR (σ : Mm) : Prop := σ 22 0 0 = σ 28 0 20 ∧ ∀ i, 0 ≤ i → i < 150 → σ 23 0 i = σ 46 0 (5 * i) ∧ σ 24 0 i = σ 46 0 (5 * i + 1) ∧ σ 25 0 i = σ 46 0 (5 * i + 2) ∧ σ 26 0 i = σ 46 0 (5 * i + 3) ∧ σ 27 0 i = σ 46 0 (5 * i + 4)
def JJ (σ : Mm) : Prop := MT σ ∧ MK σ ∧ MP σ ∧ MSt σ ∧ ML σ ∧ MD σ ∧ ME σ ∧ MR σ ∧ MC σ ∧ rT σ ∧ rK σ ∧ rW σ ∧ CP σ ∧ rS σ ∧ CS σ ∧ rL σ ∧ CL σ ∧ rD σ ∧ CD σ ∧ rE σ ∧ rR σ ∧ CR σ
section JP
variable {σ : Mm}
theorem jMT (h : JJ σ) : MT σ := h.1
theorem jMK (h : JJ σ) : MK σ := h.2.1
theorem jMP (h : JJ σ) : MP σ := h.2.2.1
theorem jMS (h : JJ σ) : MSt σ := h.2.2.2.1
theorem jML (h : JJ σ) : ML σ := h.2.2.2.2.1
theorem jMD (h : JJ σ) : MD σ := h.2.2.2.2.2.1
theorem jME (h : JJ σ) : ME σ := h.2.2.2.2.2.2.1
theorem jMR (h : JJ σ) : MR σ := h.2.2.2.2.2.2.2.1
theorem jMC (h : JJ σ) : MC σ := h.2.2.2.2.2.2.2.2.1
theorem jrT (h : JJ σ) : rT σ := h.2.2.2.2.2.2.2.2.2.1
theorem jrK (h : JJ σ) : rK σ := h.2.2.2.2.2.2.2.2.2.2.1
theorem jrW (h : JJ σ) : rW σ := h.2.2.2.2.2.2.2.2.2.2.2.1
theorem jCP (h : JJ σ) : CP σ := h.2.2.2.2.2.2.2.2.2.2.2.2.1
theorem jrS (h : JJ σ) : rS σ := h.2.2.2.2.2.2.2.2.2.2.2.2.2.1
theorem jCS (h : JJ σ) : CS σ := h.2.2.2.2.2.2.2.2.2.2.2.2.2.2.1
theorem jrL (h : JJ σ) : rL σ := h.2.2.2.2.2.2.2.2.2.2.2.2.2.2.2.1
theorem jCL (h : JJ σ) : CL σ := h.2.2.2.2.2.2.2.2.2.2.2.2.2.2.2.2.1
theorem jrD (h : JJ σ) : rD σ := h.2.2.2.2.2.2.2.2.2.2.2.2.2.2.2.2.2.1
theorem jCD (h : JJ σ) : CD σ := h.2.2.2.2.2.2.2.2.2.2.2.2.2.2.2.2.2.2.1
theorem jrE (h : JJ σ) : rE σ := h.2.2.2.2.2.2.2.2.2.2.2.2.2.2.2.2.2.2.2.1
theorem jrR (h : JJ σ) : rR σ := h.2.2.2.2.2.2.2.2.2.2.2.2.2.2.2.2.2.2.2.2.1
theorem jCR (h : JJ σ) : CR σ := h.2.2.2.2.2.2.2.2.2.2.2.2.2.2.2.2.2.2.2.2.2
theorem jCT (h : JJ σ) : CT σ := by have a := jMT h; have b := jrT h; unfold CT; unfold rT at b; unfold MT at a; rw [b]; exact a
theorem jCK (h : JJ σ) : CK σ := fun t => by rw [(jrK h).2 t]; exact jMK h t
theorem jCE (h : JJ σ) : CE σ := fun t => by rw [jrE h t]; exact jME h t
/-- prices, stores as both sides see them -/
theorem pCM (h : JJ σ) {w t : Int} (w0 : 0 ≤ w) (w1 : w < 4) (t0 : 0 ≤ t) (t1 : t < 36) : pC σ w t = pM σ w t := by
  unfold pC pM
  rcases jrW h w w0 w1 with q | q
  · rw [if_neg (by omega), if_neg (by omega)]
  · obtain ⟨q0, q1, q2, q3, q4⟩ := q
    by_cases c : t < σ 32 0 w
    · rw [if_pos (by omega), if_pos (by omega), q4 t t0 t1]
    · rw [if_neg (by omega), if_neg (by omega)]
theorem thereW (h : JJ σ) {w : Int} (w0 : 0 ≤ w) (w1 : w < 4) : (σ 6 w 0 = 0 ↔ σ 31 0 w < 0) ∧ (¬ σ 31 0 w < 0 → σ 6 w 1 = σ 31 0 w ∧ σ 6 w 2 = σ 32 0 w ∧ ∀ t, 0 ≤ t → t < 36 → σ 7 w t = σ 33 0 (36 * w + t)) := by
  rcases jrW h w w0 w1 with q | q
  · exact ⟨by omega, fun n => absurd q.2 (by omega)⟩
  · exact ⟨by omega, fun _ => q.2.2⟩
theorem thereS (h : JJ σ) {s : Int} (s0 : 0 ≤ s) (s1 : s < 4) : σ 8 s 0 = 0 ↔ σ 34 0 s < 0 := by
  rcases jrS h s s0 s1 with q | q <;> omega
theorem atS (h : JJ σ) {s : Int} (s0 : 0 ≤ s) (s1 : s < 4) (k : ¬ σ 34 0 s < 0) : σ 8 s 0 = 1 ∧ 0 ≤ σ 34 0 s ∧ σ 8 s 1 = σ 34 0 s ∧ σ 8 s 2 = σ 35 0 s ∧ σ 8 s 3 = σ 36 0 s ∧ σ 8 s 4 = floM σ s ∧ σ 8 s 5 = topM σ s ∧ σ 8 s 6 = inM σ s ∧ σ 8 s 7 = outM σ s ∧ σ 8 s 8 = lossM σ s ∧ σ 8 s 9 = σ 40 0 s ∧ σ 8 s 10 = σ 41 0 s ∧ σ 8 s 11 = σ 42 0 s := by
  rcases jrS h s s0 s1 with q | q
  · exact absurd q.2 (by omega)
  · exact q
theorem monCM (h : JJ σ) {s : Int} (s0 : 0 ≤ s) (s1 : s < 4) (k : ¬ σ 34 0 s < 0) (d p : Int) : monC σ s d p = monM σ s d p := by
  have q := atS h s0 s1 k
  unfold monC monM
  rw [q.2.2.2.2.2.2.2.2.2.1, q.2.2.2.2.2.2.2.2.2.2.1]
theorem kbrm (h : JJ σ) (t : Int) : kbC σ t = rmM σ t := by
  unfold kbC rmM
  rw [(jrK h).1, (jrK h).2]
theorem bhCM (h : JJ σ) {s t : Int} (s0 : 0 ≤ s) (s1 : s < 4) (k : ¬ σ 34 0 s < 0) (t1 : t < 36) : bhC σ s t = bhM σ s t := by
  unfold bhC bhM
  rw [(atS h s0 s1 k).2.2.2.2.1, sm_c (fun x a b => jrL h s x s0 s1 a (by omega))]
theorem ftCM (h : JJ σ) {s t d c : Int} (s0 : 0 ≤ s) (s1 : s < 4) (k : ¬ σ 34 0 s < 0) : ftC σ s t d c = ftM σ s t d c := by
  have q := atS h s0 s1 k
  have e := kbrm h t
  have f := (jrK h).1 t
  have g := jrT h
  unfold rT at g
  unfold ftC ftM
  rw [q.2.2.2.2.2.1, q.2.2.2.2.2.2.1, q.2.2.2.2.2.2.2.1, q.2.2.2.2.2.2.2.2.1, q.2.2.2.2.2.2.2.2.2.2.2.1, e, f, g]
  by_cases a : d = 0 ∨ (σ 29 0 t = 0 ∧ (d ≤ inM σ s - rmM σ t ∧ rmM σ t - outM σ s ≤ d))
  · rw [if_pos a, if_neg (show ¬ (σ 29 0 t ≠ 0 ∧ d ≠ 0) by omega), if_neg (show ¬ (d ≠ 0 ∧ (inM σ s - rmM σ t < d ∨ d < rmM σ t - outM σ s)) by omega)]
  · rw [if_neg a]
    by_cases b : σ 29 0 t = 0
    · rw [if_pos b, if_neg (show ¬ (σ 29 0 t ≠ 0 ∧ d ≠ 0) by omega), if_pos (show (d ≠ 0 ∧ (inM σ s - rmM σ t < d ∨ d < rmM σ t - outM σ s)) by omega)]
    · rw [if_neg b, if_pos (show (σ 29 0 t ≠ 0 ∧ d ≠ 0) by omega)]
theorem whCM (h : JJ σ) {s : Int} (s0 : 0 ≤ s) (s1 : s < 4) (k : ¬ σ 34 0 s < 0) : whC σ s = whM σ s := by
  have g := jrT h
  have b := jMT h
  unfold rT at g
  unfold MT at b
  unfold whC whM
  rw [g]
  refine fst_c (fun x a c => ?_)
  (try dsimp only)
  rw [ftCM h s0 s1 k, bhCM h s0 s1 k (by omega), jrL h s x s0 s1 a (by omega)]
theorem mnCM (h : JJ σ) {s w : Int} (s0 : 0 ≤ s) (s1 : s < 4) (k : ¬ σ 34 0 s < 0) (w0 : 0 ≤ w) (w1 : w < 4) : mnC σ s w (σ 1 0 0) = mnM σ s w := by
  have g := jrT h
  have b := jMT h
  unfold rT at g
  unfold MT at b
  unfold mnC mnM
  rw [g]
  refine sm_c (fun x a c => ?_)
  (try dsimp only)
  rw [monCM h s0 s1 k, jrL h s x s0 s1 a (by omega), pCM h w0 w1 a (by omega)]
theorem takCM (h : JJ σ) {b w : Int} (b0 : 0 ≤ b) (b1 : b < 12) (w0 : 0 ≤ w) (w1 : w < 4) : takC σ b w ↔ takM σ b w := by
  have q := (jrD h).2 b b0 b1
  have r := (jMD h).2 b
  have e : tkM σ b w = tkC σ b w - σ 44 0 (4 * b + 3) * (σ 44 0 (4 * b + 1) - σ 44 0 (4 * b) + 1) := by
    unfold tkM tkC
    rw [q.1, q.2.1]
    have key : ∀ n : Nat, (n : Int) ≤ σ 44 0 (4 * b + 1) - σ 44 0 (4 * b) + 1 → sumN (fun k => pM σ w (σ 44 0 (4 * b) + k) - σ 44 0 (4 * b + 3)) n = sumN (fun k => pC σ w (σ 44 0 (4 * b) + k)) n - σ 44 0 (4 * b + 3) * n := by
      intro n
      induction n with
      | zero => intro _; show (0 : Int) = 0 - σ 44 0 (4 * b + 3) * ((0 : Nat) : Int); simp
      | succ n ih =>
        intro hn
        have i := ih (by omega)
        show sumN _ n + (pM σ w (σ 44 0 (4 * b) + n) - σ 44 0 (4 * b + 3)) = sumN _ n + pC σ w (σ 44 0 (4 * b) + n) - σ 44 0 (4 * b + 3) * ((n + 1 : Nat) : Int)
        rw [i, pCM h w0 w1 (show 0 ≤ σ 44 0 (4 * b) + (n : Int) by omega) (by omega), show ((n + 1 : Nat) : Int) = (n : Int) + 1 by omega, Int.mul_add, Int.mul_one]
        omega
    have k := key (σ 44 0 (4 * b + 1) - σ 44 0 (4 * b) + 1).toNat (by omega)
    unfold sm
    rw [k, Int.toNat_of_nonneg (by omega)]
  unfold takC takM
  rw [e, q.1, q.2.1, q.2.2.1, q.2.2.2]
  omega
theorem waCM (h : JJ σ) {w t : Int} (w0 : 0 ≤ w) (w1 : w < 4) : waC σ w t = waM σ w t := by
  have q := jrD h
  have r := (jMD h).1
  unfold waC waM
  rw [q.1]
  refine sm_c (fun b a c => ?_)
  have u := q.2 b a (by omega)
  have v := takCM h (b := b) (w := w) a (by omega) w0 w1
  (try dsimp only)
  by_cases x : (σ 44 0 (4 * b) ≤ t ∧ t ≤ σ 44 0 (4 * b + 1)) ∧ takM σ b w
  · rw [if_pos x, if_pos ⟨⟨by omega, by omega⟩, v.mpr x.2⟩]; exact u.2.2.1
  · rw [if_neg x, if_neg (fun y => x ⟨⟨by omega, by omega⟩, v.mp y.2⟩)]
end JP
