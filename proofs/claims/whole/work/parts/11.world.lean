/-! the world: every cell of class and reference has a sort and a number; what it holds is a function of whole numbers -/
abbrev AV : Type := Int ⊕ Int ⊕ (Nat × Int)
abbrev Mm : Type := Nat → Int → Int → Int
/-- addresses by sort and number (sort 99: the static row of limits), numbers of classes and slots, classes of arrays (0 int, 1 long, 2 boolean, 3 Battery, 4 Prices) -/
abbrev XW : Type := (Nat → Int → Nat) × va_G × (Nat → ClassId)
def tv (X : XW) : AV → Value
  | .inl z => .int (iI z)
  | .inr (.inl z) => .long (lI z)
  | .inr (.inr p) => .ref (X.1 p.1 p.2)
def cA : AV → Nat
  | .inr (.inl _) => 2
  | _ => 1
theorem tv_cat (X : XW) (v : AV) : (tv X v).category = cA v := by
  rcases v with z | z | p <;> rfl
def u1 (g : Int → Int) (z v : Int) : Int → Int := fun y => if y = z then v else g y
def up (σ : Mm) (a : Nat) (i z v : Int) : Mm := fun b j y => if b = a ∧ j = i ∧ y = z then v else σ b j y
theorem up_same (σ : Mm) (a : Nat) (i z v : Int) : up σ a i z v a i = u1 (σ a i) z v := by
  funext y; simp [up, u1]
theorem up_other (σ : Mm) {a b : Nat} {i j : Int} (z v : Int) (h : ¬ (b = a ∧ j = i)) : up σ a i z v b j = σ b j := by
  funext y
  unfold up
  rw [if_neg (fun q => h ⟨q.1, q.2.1⟩)]
def cntN : Nat → Nat
  | 6 => 4
  | 7 => 4
  | 8 => 4
  | 9 => 4
  | a => if a < 51 then 1 else 0
def Vd (a : Nat) (i : Int) : Prop := 0 ≤ i ∧ i < (cntN a : Int)
def PL : List (Nat × Int) := (List.range 51).flatMap (fun a => (List.range (cntN a)).map (fun (i : Nat) => (a, (i : Int))))
theorem PL_nd : PL.Nodup := by decide +kernel
theorem cntN_big {a : Nat} (h : 51 ≤ a) : cntN a = 0 := by
  unfold cntN
  split
  · omega
  · omega
  · omega
  · omega
  · rw [if_neg (by omega)]
theorem PL_mem {a : Nat} {i : Int} : (a, i) ∈ PL ↔ Vd a i := by
  unfold PL Vd
  simp only [List.mem_flatMap, List.mem_map, List.mem_range, Prod.mk.injEq]
  constructor
  · rintro ⟨b, hb, j, hj, rfl, rfl⟩
    omega
  · rintro ⟨h0, h1⟩
    refine ⟨a, ?_, i.toNat, by omega, rfl, by omega⟩
    rcases Nat.lt_or_ge a 51 with h | h
    · exact h
    · rw [cntN_big h] at h1
      omega
/-- what stands at a place, by what its whole numbers are -/
def aI (X : XW) (n : Nat) (g : Int → Int) : va_E := .inl (X.2.2 0, n, .inl (fun j : Nat => iI (g j)))
def aJ (X : XW) (n : Nat) (g : Int → Int) : va_E := .inl (X.2.2 1, n, .inr (.inl (fun j : Nat => lI (g j))))
def aZ (X : XW) (n : Nat) (g : Int → Int) : va_E := .inl (X.2.2 2, n, .inl (fun j : Nat => iI (g j)))
def aQ (X : XW) (t : Nat) (b : Nat) : va_E := .inl (X.2.2 t, 4, .inr (.inr (.inr (.inr (fun j : Nat => some (X.1 b j))))))
def encF (X : XW) (a : Nat) (i : Int) (g : Int → Int) : va_E := match a with
  | 0 => .inr (7, [.ref (X.1 1 0), .ref (X.1 4 0), .ref (X.1 5 0), .ref (X.1 10 0), .ref (X.1 15 0), .ref (X.1 20 0), .ref (X.1 22 0)])
  | 1 => .inr (3, [.int (iI (g 0)), .ref (X.1 2 0), .ref (X.1 3 0)])
  | 2 => aZ X 36 g
  | 3 => aI X 36 g
  | 4 => aQ X 4 6
  | 5 => aQ X 3 8
  | 6 => .inr (6, [.int (iI (g 0)), .int (iI (g 1)), .int (iI (g 2)), .ref (X.1 7 i)])
  | 7 => aI X 36 g
  | 8 => .inr (0, [.int (iI (g 0)), .int (iI (g 1)), .int (iI (g 2)), .int (iI (g 3)), .int (iI (g 4)), .int (iI (g 5)), .int (iI (g 6)), .int (iI (g 7)), .int (iI (g 8)), .int (iI (g 9)), .int (iI (g 10)), .int (iI (g 11)), .ref (X.1 9 i)])
  | 9 => aI X 36 g
  | 10 => .inr (5, [.ref (X.1 50 0), .int (iI (g 1)), .ref (X.1 11 0), .ref (X.1 12 0), .ref (X.1 13 0), .ref (X.1 14 0), .int (iI (g 6)), .int (iI (g 7)), .int (iI (g 8)), .int (iI (g 9))])
  | 11 => aJ X 2257 g
  | 12 => aJ X 81 g
  | 13 => aJ X 61 g
  | 14 => aJ X 61 g
  | 15 => .inr (1, [.int (iI (g 0)), .ref (X.1 16 0), .ref (X.1 17 0), .ref (X.1 18 0), .ref (X.1 19 0)])
  | 16 => aI X 12 g
  | 17 => aI X 12 g
  | 18 => aI X 12 g
  | 19 => aI X 12 g
  | 20 => .inr (4, [.ref (X.1 21 0)])
  | 21 => aI X 36 g
  | 22 => .inr (2, [.int (iI (g 0)), .ref (X.1 23 0), .ref (X.1 24 0), .ref (X.1 25 0), .ref (X.1 26 0), .ref (X.1 27 0)])
  | 23 => aI X 150 g
  | 24 => aI X 150 g
  | 25 => aI X 150 g
  | 26 => aI X 150 g
  | 27 => aJ X 150 g
  | 28 => .inr (8, [.int (iI (g 0)), .ref (X.1 29 0), .ref (X.1 30 0), .ref (X.1 31 0), .ref (X.1 32 0), .ref (X.1 33 0), .ref (X.1 34 0), .ref (X.1 35 0), .ref (X.1 36 0), .ref (X.1 37 0), .ref (X.1 38 0), .ref (X.1 39 0), .ref (X.1 40 0), .ref (X.1 41 0), .ref (X.1 42 0), .ref (X.1 43 0), .ref (X.1 44 0), .int (iI (g 17)), .ref (X.1 45 0), .ref (X.1 46 0), .int (iI (g 20)), .ref (X.1 47 0), .ref (X.1 48 0), .ref (X.1 49 0)])
  | 29 => aZ X 36 g
  | 30 => aI X 36 g
  | 31 => aI X 4 g
  | 32 => aI X 4 g
  | 33 => aI X 144 g
  | 34 => aI X 4 g
  | 35 => aI X 4 g
  | 36 => aI X 4 g
  | 37 => aI X 4 g
  | 38 => aI X 4 g
  | 39 => aI X 4 g
  | 40 => aI X 4 g
  | 41 => aI X 4 g
  | 42 => aI X 4 g
  | 43 => aI X 144 g
  | 44 => aI X 48 g
  | 45 => aI X 36 g
  | 46 => aJ X 750 g
  | 47 => aI X 36 g
  | 48 => aJ X 2257 g
  | 49 => aJ X 2257 g
  | _ => aJ X 36 g
/-- 0 int, 1 long, 2 boolean -/
def tyk : Nat → Int → Nat
  | 11, _ => 1
  | 12, _ => 1
  | 13, _ => 1
  | 14, _ => 1
  | 27, _ => 1
  | 46, _ => 1
  | 48, _ => 1
  | 49, _ => 1
  | 50, _ => 1
  | 2, _ => 2
  | 29, _ => 2
  | 6, z => if z = 0 then 2 else 0
  | 8, z => if z = 0 then 2 else 0
  | _, _ => 0
def inT : Nat → Int → Prop
  | 0, v => R32 v
  | 1, v => R64 v
  | _, v => 0 ≤ v ∧ v ≤ 1
def Rg (σ : Mm) : Prop := ∀ (a : Nat) (i z : Int), inT (tyk a z) (σ a i z)
theorem Rg_up {σ : Mm} (h : Rg σ) {a : Nat} {i z v : Int} (hv : inT (tyk a z) v) : Rg (up σ a i z v) := by
  intro b j y
  unfold up
  split
  · rename_i q
    obtain ⟨rfl, rfl, rfl⟩ := q
    exact hv
  · exact h b j y
def Apl (X : XW) : Nat → Prop := fun q => ∃ (a : Nat) (i : Int), Vd a i ∧ q = X.1 a i
def Inj (X : XW) : Prop := ∀ (a b : Nat) (i j : Int), Vd a i → Vd b j → X.1 a i = X.1 b j → a = b ∧ i = j
def Mem (X : XW) (σ : Mm) (H : Heap) : Prop := ∀ (a : Nat) (i : Int), Vd a i → va_at X.2.1 vwCl (X.1 a i, encF X a i (σ a i)) H
def wl (X : XW) (σ : Mm) : va_W := PL.map (fun p => (X.1 p.1 p.2, encF X p.1 p.2 (σ p.1 p.2)))
theorem wl_at {X : XW} {σ : Mm} {k : Nat} {q : Nat × va_E} (h : (wl X σ)[k]? = some q) : ∃ (a : Nat) (i : Int), PL[k]? = some (a, i) ∧ Vd a i ∧ q = (X.1 a i, encF X a i (σ a i)) := by
  unfold wl at h
  rw [List.getElem?_map] at h
  cases hp : PL[k]? with
  | none => rw [hp] at h; cases h
  | some p =>
    rw [hp] at h
    exact ⟨p.1, p.2, rfl, PL_mem.mp (List.mem_of_getElem? hp), (Option.some.inj h).symm⟩
theorem wl_get {X : XW} {σ : Mm} {a : Nat} {i : Int} (h : Vd a i) : ∃ k : Nat, PL[k]? = some (a, i) ∧ (wl X σ)[k]? = some (X.1 a i, encF X a i (σ a i)) := by
  obtain ⟨k, hk⟩ := List.getElem?_of_mem (PL_mem.mpr h)
  exact ⟨k, hk, by unfold wl; rw [List.getElem?_map, hk]; rfl⟩
theorem Mem.P {X : XW} {σ : Mm} {H : Heap} (h : Mem X σ H) : va_P X.2.1 vwCl (wl X σ) H := by
  intro k q hk
  obtain ⟨a, i, -, hv, rfl⟩ := wl_at hk
  exact h a i hv
theorem Inj.D {X : XW} {σ : Mm} (h : Inj X) : va_D (Apl X) (wl X σ) := by
  refine ⟨fun i j p q hp hq e => ?_, fun k q hk => ?_⟩
  · obtain ⟨a, x, h1, h2, rfl⟩ := wl_at hp
    obtain ⟨b, y, h3, h4, rfl⟩ := wl_at hq
    obtain ⟨rfl, rfl⟩ := h a b x y h2 h4 e
    exact (List.getElem?_inj (List.getElem?_eq_some_iff.mp h1).1 PL_nd).mp (h1.trans h3.symm)
  · obtain ⟨a, x, -, h2, rfl⟩ := wl_at hk
    exact ⟨a, x, h2, rfl⟩
/-- one cell of it, alone -/
theorem Mem.one {X : XW} {σ : Mm} {H : Heap} (h : Mem X σ H) {a : Nat} {i : Int} (hv : Vd a i) : va_P X.2.1 vwCl [(X.1 a i, encF X a i (σ a i))] H := by
  intro k q hk
  cases k with
  | zero => cases hk; exact h a i hv
  | succ k => simp at hk
/-- behind a write into a place -/
theorem Mem.put {X : XW} {σ : Mm} {H1 : Heap} {k a : Nat} {i : Int} {g : Int → Int} {e : va_E} (hk : PL[k]? = some (a, i)) (he : e = encF X a i g) (h : va_P X.2.1 vwCl ((wl X σ).set k (X.1 a i, e)) H1) {σ' : Mm} (h1 : σ' a i = g) (h2 : ∀ (b : Nat) (j : Int), ¬ (b = a ∧ j = i) → σ' b j = σ b j) : Mem X σ' H1 := by
  have hl : k < (wl X σ).length := by
    obtain ⟨l1, -⟩ := List.getElem?_eq_some_iff.mp hk
    unfold wl
    rw [List.length_map]
    exact l1
  intro b j hv
  by_cases hb : b = a ∧ j = i
  · obtain ⟨rfl, rfl⟩ := hb
    have := h k (X.1 b j, e) (List.getElem?_set_self hl)
    rw [he] at this
    rw [h1]
    exact this
  · obtain ⟨k2, p1, p2⟩ := wl_get (X := X) (σ := σ) hv
    have hne : k2 ≠ k := by
      intro q
      subst q
      cases hk.symm.trans p1
      exact hb ⟨rfl, rfl⟩
    rw [h2 b j hb]
    exact h k2 _ (by rw [List.getElem?_set_ne (Ne.symm hne)]; exact p2)
/-- locals: the last store stands first -/
def nf (X : XW) : List (Nat × AV) → List (Nat × Value)
  | [] => []
  | (i, v) :: r => match v with
    | .inr (.inl z) => (i, .long (lI z)) :: (nf X r).filter (fun q => !(q.1 == i) && (!(q.1 == i + 1) && !(q.1 + 1 == i && q.2.category == 2)))
    | .inl z => (i, .int (iI z)) :: (nf X r).filter (fun q => !(q.1 == i) && !(q.1 + 1 == i && q.2.category == 2))
    | .inr (.inr p) => (i, .ref (X.1 p.1 p.2)) :: (nf X r).filter (fun q => !(q.1 == i) && !(q.1 + 1 == i && q.2.category == 2))
def lk : List (Nat × AV) → Nat → Option AV
  | [], _ => none
  | (i, v) :: r, j => bif Nat.beq j i then some v else bif (Nat.beq (cA v) 2 && Nat.beq j (i + 1)) then none else match lk r j with
    | none => none
    | some w => bif (Nat.beq (cA w) 2 && Nat.beq (j + 1) i) then none else some w
theorem beq_t {a b : Nat} : Nat.beq a b = true ↔ a = b := by rw [Nat.beq_eq]
theorem lk_mem {X : XW} : ∀ {ls : List (Nat × AV)} {j : Nat} {v : AV}, lk ls j = some v → (j, tv X v) ∈ nf X ls
  | [], j, v, h => by cases h
  | (i, w) :: r, j, v, h => by
    unfold lk at h
    cases h1 : Nat.beq j i with
    | true =>
      rw [h1] at h
      have e := beq_t.mp h1
      subst e
      cases h
      rcases w with z | z | p <;> exact List.mem_cons_self
    | false =>
      rw [h1] at h
      have e : j ≠ i := fun q => by rw [beq_t.mpr q] at h1; cases h1
      simp only [cond_false] at h
      cases h2 : (Nat.beq (cA w) 2 && Nat.beq j (i + 1)) with
      | true => rw [h2] at h; cases h
      | false =>
        rw [h2] at h
        simp only [cond_false] at h
        cases h3 : lk r j with
        | none => rw [h3] at h; cases h
        | some y =>
          rw [h3] at h
          simp only at h
          cases h4 : (Nat.beq (cA y) 2 && Nat.beq (j + 1) i) with
          | true => rw [h4] at h; cases h
          | false =>
            rw [h4] at h
            cases h
            have ih := lk_mem (X := X) h3
            have c1 : ¬ (cA v = 2 ∧ j + 1 = i) := by
              rintro ⟨q1, q2⟩
              rw [beq_t.mpr q1, beq_t.mpr q2] at h4
              cases h4
            have c2 : ¬ (cA w = 2 ∧ j = i + 1) := by
              rintro ⟨q1, q2⟩
              rw [beq_t.mpr q1, beq_t.mpr q2] at h2
              cases h2
            have k1 : (!(j == i) && !(j + 1 == i && (tv X v).category == 2)) = true := by
              rw [tv_cat]
              by_cases q : j + 1 = i
              · have : ¬ cA v = 2 := fun z => c1 ⟨z, q⟩
                simp [e, this]
              · simp [e, q]
            have k2 : cA w = 2 → (!(j == i) && (!(j == i + 1) && !(j + 1 == i && (tv X v).category == 2))) = true := by
              intro hw
              have : ¬ j = i + 1 := fun z => c2 ⟨hw, z⟩
              simp only [Bool.and_eq_true] at k1 ⊢
              exact ⟨k1.1, by simp [this], k1.2⟩
            rcases w with z | z | p
            · exact List.mem_cons_of_mem _ (List.mem_filter.mpr ⟨ih, k1⟩)
            · exact List.mem_cons_of_mem _ (List.mem_filter.mpr ⟨ih, k2 rfl⟩)
            · exact List.mem_cons_of_mem _ (List.mem_filter.mpr ⟨ih, k1⟩)
theorem nf_mem {X : XW} : ∀ {ls : List (Nat × AV)} {q : Nat × Value}, q ∈ nf X ls → ∃ v, (q.1, v) ∈ ls ∧ q.2 = tv X v
  | [], q, h => by cases h
  | (i, w) :: r, q, h => by
    rcases w with z | z | p
    · rcases List.mem_cons.mp h with rfl | h
      · exact ⟨.inl z, List.mem_cons_self, rfl⟩
      · obtain ⟨v, h1, h2⟩ := nf_mem (List.mem_filter.mp h).1
        exact ⟨v, List.mem_cons_of_mem _ h1, h2⟩
    · rcases List.mem_cons.mp h with rfl | h
      · exact ⟨.inr (.inl z), List.mem_cons_self, rfl⟩
      · obtain ⟨v, h1, h2⟩ := nf_mem (List.mem_filter.mp h).1
        exact ⟨v, List.mem_cons_of_mem _ h1, h2⟩
    · rcases List.mem_cons.mp h with rfl | h
      · exact ⟨.inr (.inr p), List.mem_cons_self, rfl⟩
      · obtain ⟨v, h1, h2⟩ := nf_mem (List.mem_filter.mp h).1
        exact ⟨v, List.mem_cons_of_mem _ h1, h2⟩
/-- every entry of the second list is found in the first -/
def Lin (ls : List (Nat × AV)) : List (Nat × AV) → Prop
  | [] => True
  | x :: r => lk ls x.1 = some x.2 ∧ Lin ls r
theorem Lin.get {ls : List (Nat × AV)} : ∀ {l2 : List (Nat × AV)}, Lin ls l2 → ∀ x ∈ l2, lk ls x.1 = some x.2
  | [], _, x, h => by cases h
  | y :: r, hl, x, h => by
    rcases List.mem_cons.mp h with rfl | h
    · exact hl.1
    · exact hl.2.get x h
theorem Lin.has {X : XW} {la : Array Slot} {nL : Nat} {ls l2 : List (Nat × AV)} (h : Lin ls l2) (hl : lv_has la nL (nf X ls)) : lv_has la nL (nf X l2) := by
  refine ⟨hl.1, hl.2.1, fun q hq => ?_⟩
  obtain ⟨v, h1, h2⟩ := nf_mem hq
  have := hl.2.2 _ (lk_mem (X := X) (h.get _ h1))
  rw [h2]
  exact this
