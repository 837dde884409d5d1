/-- in which order the cells are made -/
def ordP (a : Nat) (i : Int) : Nat := match a with
  | 0 => 0
  | 1 => 1
  | 2 => 2
  | 3 => 3
  | 4 => 4
  | 5 => 13
  | 6 => 5 + 2 * i.toNat
  | 7 => 6 + 2 * i.toNat
  | 8 => 14 + 2 * i.toNat
  | 9 => 15 + 2 * i.toNat
  | 10 => 22
  | 50 => 23
  | a => a + 13
def OL : List (Nat × Int) := [(0, 0), (1, 0), (2, 0), (3, 0), (4, 0), (6, 0), (7, 0), (6, 1), (7, 1), (6, 2), (7, 2), (6, 3), (7, 3), (5, 0), (8, 0), (9, 0), (8, 1), (9, 1), (8, 2), (9, 2), (8, 3), (9, 3), (10, 0), (50, 0), (11, 0), (12, 0), (13, 0), (14, 0), (15, 0), (16, 0), (17, 0), (18, 0), (19, 0), (20, 0), (21, 0), (22, 0), (23, 0), (24, 0), (25, 0), (26, 0), (27, 0), (28, 0), (29, 0), (30, 0), (31, 0), (32, 0), (33, 0), (34, 0), (35, 0), (36, 0), (37, 0), (38, 0), (39, 0), (40, 0), (41, 0), (42, 0), (43, 0), (44, 0), (45, 0), (46, 0), (47, 0), (48, 0), (49, 0)]
theorem OL_in : ∀ p ∈ PL, p ∈ OL := by decide +kernel
theorem OL_ord : ∀ p ∈ PL, OL[ordP p.1 p.2]? = some p := by decide +kernel
def adX (f : Nat → Nat) (t : Nat) : Nat → Int → Nat := fun a i => if a = 99 then t else f (ordP a i)
def ws7 (cA : Nat → ClassId) (f : Nat → Nat) : va_W := [((f 0), .inr (7, [.ref (f 1), .ref (f 4), .ref (f 13), .ref (f 22), .ref (f 28), .ref (f 33), .ref (f 35)])), ((f 1), .inr (3, [.int (iI 24), .ref (f 2), .ref (f 3)])), ((f 2), .inl (cA 2, 36, .inl (fun _ => iI 0))), ((f 3), .inl (cA 0, 36, .inl (fun _ => iI 0))), ((f 4), .inl (cA 4, 4, .inr (.inr (.inr (.inr (va_up (va_up (va_up (va_up (fun _ => none) 0 (some (f 5))) 1 (some (f 7))) 2 (some (f 9))) 3 (some (f 11)))))))), ((f 5), .inr (6, [.int (iI 0), .int (iI 0), .int (iI 0), .ref (f 6)])), ((f 6), .inl (cA 0, 36, .inl (fun _ => iI 0))), ((f 7), .inr (6, [.int (iI 0), .int (iI 0), .int (iI 0), .ref (f 8)])), ((f 8), .inl (cA 0, 36, .inl (fun _ => iI 0))), ((f 9), .inr (6, [.int (iI 0), .int (iI 0), .int (iI 0), .ref (f 10)])), ((f 10), .inl (cA 0, 36, .inl (fun _ => iI 0))), ((f 11), .inr (6, [.int (iI 0), .int (iI 0), .int (iI 0), .ref (f 12)])), ((f 12), .inl (cA 0, 36, .inl (fun _ => iI 0))), ((f 13), .inl (cA 3, 4, .inr (.inr (.inr (.inr (va_up (va_up (va_up (va_up (fun _ => none) 0 (some (f 14))) 1 (some (f 16))) 2 (some (f 18))) 3 (some (f 20)))))))), ((f 14), .inr (0, [.int (iI 0), .int (iI 0), .int (iI 0), .int (iI 0), .int (iI 0), .int (iI 0), .int (iI 0), .int (iI 0), .int (iI 0), .int (iI 0), .int (iI 0), .int (iI 0), .ref (f 15)])), ((f 15), .inl (cA 0, 36, .inl (fun _ => iI 0))), ((f 16), .inr (0, [.int (iI 0), .int (iI 0), .int (iI 0), .int (iI 0), .int (iI 0), .int (iI 0), .int (iI 0), .int (iI 0), .int (iI 0), .int (iI 0), .int (iI 0), .int (iI 0), .ref (f 17)])), ((f 17), .inl (cA 0, 36, .inl (fun _ => iI 0))), ((f 18), .inr (0, [.int (iI 0), .int (iI 0), .int (iI 0), .int (iI 0), .int (iI 0), .int (iI 0), .int (iI 0), .int (iI 0), .int (iI 0), .int (iI 0), .int (iI 0), .int (iI 0), .ref (f 19)])), ((f 19), .inl (cA 0, 36, .inl (fun _ => iI 0))), ((f 20), .inr (0, [.int (iI 0), .int (iI 0), .int (iI 0), .int (iI 0), .int (iI 0), .int (iI 0), .int (iI 0), .int (iI 0), .int (iI 0), .int (iI 0), .int (iI 0), .int (iI 0), .ref (f 21)])), ((f 21), .inl (cA 0, 36, .inl (fun _ => iI 0))), ((f 22), .inr (5, [.ref (f 23), .int (iI 0), .ref (f 24), .ref (f 25), .ref (f 26), .ref (f 27), .int (iI 0), .int (iI 0), .int (iI 0), .int (iI 0)])), ((f 23), .inl (cA 1, 36, .inr (.inl (fun _ => lI 0)))), ((f 24), .inl (cA 1, 2257, .inr (.inl (fun _ => lI 0)))), ((f 25), .inl (cA 1, 81, .inr (.inl (fun _ => lI 0)))), ((f 26), .inl (cA 1, 61, .inr (.inl (fun _ => lI 0)))), ((f 27), .inl (cA 1, 61, .inr (.inl (fun _ => lI 0)))), ((f 28), .inr (1, [.int (iI 0), .ref (f 29), .ref (f 30), .ref (f 31), .ref (f 32)])), ((f 29), .inl (cA 0, 12, .inl (fun _ => iI 0))), ((f 30), .inl (cA 0, 12, .inl (fun _ => iI 0))), ((f 31), .inl (cA 0, 12, .inl (fun _ => iI 0))), ((f 32), .inl (cA 0, 12, .inl (fun _ => iI 0))), ((f 33), .inr (4, [.ref (f 34)])), ((f 34), .inl (cA 0, 36, .inl (flF (-1001) (fun _ => iI 0) 36))), ((f 35), .inr (2, [.int (iI 0), .ref (f 36), .ref (f 37), .ref (f 38), .ref (f 39), .ref (f 40)])), ((f 36), .inl (cA 0, 150, .inl (fun _ => iI 0))), ((f 37), .inl (cA 0, 150, .inl (fun _ => iI 0))), ((f 38), .inl (cA 0, 150, .inl (fun _ => iI 0))), ((f 39), .inl (cA 0, 150, .inl (fun _ => iI 0))), ((f 40), .inl (cA 1, 150, .inr (.inl (fun _ => lI 0))))]
def ws8 (cA : Nat → ClassId) (f : Nat → Nat) : va_W := [((f 41), .inr (8, [.int (iI 24), .ref (f 42), .ref (f 43), .ref (f 44), .ref (f 45), .ref (f 46), .ref (f 47), .ref (f 48), .ref (f 49), .ref (f 50), .ref (f 51), .ref (f 52), .ref (f 53), .ref (f 54), .ref (f 55), .ref (f 56), .ref (f 57), .int (iI 0), .ref (f 58), .ref (f 59), .int (iI 0), .ref (f 60), .ref (f 61), .ref (f 62)])), ((f 42), .inl (cA 2, 36, .inl (fun _ => iI 0))), ((f 43), .inl (cA 0, 36, .inl (fun _ => iI 0))), ((f 44), .inl (cA 0, 4, .inl (upd (upd (upd (upd (fun _ => iI 0) 0 (iI (-1))) 1 (iI (-1))) 2 (iI (-1))) 3 (iI (-1))))), ((f 45), .inl (cA 0, 4, .inl (fun _ => iI 0))), ((f 46), .inl (cA 0, 144, .inl (fun _ => iI 0))), ((f 47), .inl (cA 0, 4, .inl (upd (upd (upd (upd (fun _ => iI 0) 0 (iI (-1))) 1 (iI (-1))) 2 (iI (-1))) 3 (iI (-1))))), ((f 48), .inl (cA 0, 4, .inl (fun _ => iI 0))), ((f 49), .inl (cA 0, 4, .inl (fun _ => iI 0))), ((f 50), .inl (cA 0, 4, .inl (fun _ => iI 0))), ((f 51), .inl (cA 0, 4, .inl (fun _ => iI 0))), ((f 52), .inl (cA 0, 4, .inl (fun _ => iI 0))), ((f 53), .inl (cA 0, 4, .inl (fun _ => iI 0))), ((f 54), .inl (cA 0, 4, .inl (fun _ => iI 0))), ((f 55), .inl (cA 0, 4, .inl (fun _ => iI 0))), ((f 56), .inl (cA 0, 144, .inl (fun _ => iI 0))), ((f 57), .inl (cA 0, 48, .inl (fun _ => iI 0))), ((f 58), .inl (cA 0, 36, .inl (flF (-1001) (fun _ => iI 0) 36))), ((f 59), .inl (cA 1, 750, .inr (.inl (fun _ => lI 0)))), ((f 60), .inl (cA 0, 36, .inl (fun _ => iI 0))), ((f 61), .inl (cA 1, 2257, .inr (.inl (fun _ => lI 0)))), ((f 62), .inl (cA 1, 2257, .inr (.inl (fun _ => lI 0))))]
set_option maxRecDepth 100000 in
set_option maxHeartbeats 4000000 in
theorem mem_start {D : va_G} {cA : Nat → ClassId} {H : Heap} {t : Nat} {f : Nat → Nat} (hP : va_P D vwCl (ws7 cA f ++ ws8 cA f) H) : Mem (adX f t, D, cA) sg0 H := by
  intro a i hv
  have hp := OL_in _ (PL_mem.mpr hv)
  unfold OL at hp
  simp only [List.mem_cons, List.not_mem_nil, or_false, Prod.mk.injEq] at hp
  rcases hp with ⟨rfl, rfl⟩ | ⟨rfl, rfl⟩ | ⟨rfl, rfl⟩ | ⟨rfl, rfl⟩ | ⟨rfl, rfl⟩ | ⟨rfl, rfl⟩ | ⟨rfl, rfl⟩ | ⟨rfl, rfl⟩ | ⟨rfl, rfl⟩ | ⟨rfl, rfl⟩ | ⟨rfl, rfl⟩ | ⟨rfl, rfl⟩ | ⟨rfl, rfl⟩ | ⟨rfl, rfl⟩ | ⟨rfl, rfl⟩ | ⟨rfl, rfl⟩ | ⟨rfl, rfl⟩ | ⟨rfl, rfl⟩ | ⟨rfl, rfl⟩ | ⟨rfl, rfl⟩ | ⟨rfl, rfl⟩ | ⟨rfl, rfl⟩ | ⟨rfl, rfl⟩ | ⟨rfl, rfl⟩ | ⟨rfl, rfl⟩ | ⟨rfl, rfl⟩ | ⟨rfl, rfl⟩ | ⟨rfl, rfl⟩ | ⟨rfl, rfl⟩ | ⟨rfl, rfl⟩ | ⟨rfl, rfl⟩ | ⟨rfl, rfl⟩ | ⟨rfl, rfl⟩ | ⟨rfl, rfl⟩ | ⟨rfl, rfl⟩ | ⟨rfl, rfl⟩ | ⟨rfl, rfl⟩ | ⟨rfl, rfl⟩ | ⟨rfl, rfl⟩ | ⟨rfl, rfl⟩ | ⟨rfl, rfl⟩ | ⟨rfl, rfl⟩ | ⟨rfl, rfl⟩ | ⟨rfl, rfl⟩ | ⟨rfl, rfl⟩ | ⟨rfl, rfl⟩ | ⟨rfl, rfl⟩ | ⟨rfl, rfl⟩ | ⟨rfl, rfl⟩ | ⟨rfl, rfl⟩ | ⟨rfl, rfl⟩ | ⟨rfl, rfl⟩ | ⟨rfl, rfl⟩ | ⟨rfl, rfl⟩ | ⟨rfl, rfl⟩ | ⟨rfl, rfl⟩ | ⟨rfl, rfl⟩ | ⟨rfl, rfl⟩ | ⟨rfl, rfl⟩ | ⟨rfl, rfl⟩ | ⟨rfl, rfl⟩ | ⟨rfl, rfl⟩ | ⟨rfl, rfl⟩
  · exact hP 0 _ rfl
  · exact hP 1 _ rfl
  · exact hP 2 _ rfl
  · exact hP 3 _ rfl
  · have h := hP 4 _ rfl
    have e : vp_cell (cA 4) (4, .inr (.inr (.inr (.inr (va_up (va_up (va_up (va_up (fun _ => none) 0 (some (f 5))) 1 (some (f 7))) 2 (some (f 9))) 3 (some (f 11))))))) = vp_cell (cA 4) (4, .inr (.inr (.inr (.inr (fun j : Nat => some (adX f t 6 j)))))) := by
      rw [vp_cell_q, vp_cell_q]
      refine arrV_c (fun j hj => ?_)
      match j, hj with
      | 0, _ => rfl
      | 1, _ => rfl
      | 2, _ => rfl
      | 3, _ => rfl
      | j + 4, h => exact absurd h (by omega)
    exact h.trans (congrArg some e)
  · exact hP 5 _ rfl
  · exact hP 6 _ rfl
  · exact hP 7 _ rfl
  · exact hP 8 _ rfl
  · exact hP 9 _ rfl
  · exact hP 10 _ rfl
  · exact hP 11 _ rfl
  · exact hP 12 _ rfl
  · have h := hP 13 _ rfl
    have e : vp_cell (cA 3) (4, .inr (.inr (.inr (.inr (va_up (va_up (va_up (va_up (fun _ => none) 0 (some (f 14))) 1 (some (f 16))) 2 (some (f 18))) 3 (some (f 20))))))) = vp_cell (cA 3) (4, .inr (.inr (.inr (.inr (fun j : Nat => some (adX f t 8 j)))))) := by
      rw [vp_cell_q, vp_cell_q]
      refine arrV_c (fun j hj => ?_)
      match j, hj with
      | 0, _ => rfl
      | 1, _ => rfl
      | 2, _ => rfl
      | 3, _ => rfl
      | j + 4, h => exact absurd h (by omega)
    exact h.trans (congrArg some e)
  · exact hP 14 _ rfl
  · exact hP 15 _ rfl
  · exact hP 16 _ rfl
  · exact hP 17 _ rfl
  · exact hP 18 _ rfl
  · exact hP 19 _ rfl
  · exact hP 20 _ rfl
  · exact hP 21 _ rfl
  · exact hP 22 _ rfl
  · exact hP 23 _ rfl
  · exact hP 24 _ rfl
  · exact hP 25 _ rfl
  · exact hP 26 _ rfl
  · exact hP 27 _ rfl
  · exact hP 28 _ rfl
  · exact hP 29 _ rfl
  · exact hP 30 _ rfl
  · exact hP 31 _ rfl
  · exact hP 32 _ rfl
  · exact hP 33 _ rfl
  · have h := hP 34 _ rfl
    have e : vp_cell (cA 0) (36, .inl (flF (-1001) (fun _ => iI 0) 36)) = vp_cell (cA 0) (36, .inl (fun j : Nat => iI (sg0 21 0 j))) := by
      rw [vp_cell_i, vp_cell_i]
      refine arrV_c (fun j hj => ?_)
      show Value.int (flF (-1001) (fun _ => iI 0) 36 j) = Value.int (iI (if 0 ≤ (j : Int) ∧ (j : Int) < 36 then -1001 else 0))
      unfold flF
      rw [if_pos hj, if_pos ⟨by omega, by omega⟩]
    exact h.trans (congrArg some e)
  · exact hP 35 _ rfl
  · exact hP 36 _ rfl
  · exact hP 37 _ rfl
  · exact hP 38 _ rfl
  · exact hP 39 _ rfl
  · exact hP 40 _ rfl
  · exact hP 41 _ rfl
  · exact hP 42 _ rfl
  · exact hP 43 _ rfl
  · have h := hP 44 _ rfl
    have e : vp_cell (cA 0) (4, .inl (upd (upd (upd (upd (fun _ => iI 0) 0 (iI (-1))) 1 (iI (-1))) 2 (iI (-1))) 3 (iI (-1)))) = vp_cell (cA 0) (4, .inl (fun j : Nat => iI (sg0 31 0 j))) := by
      rw [vp_cell_i, vp_cell_i]
      refine arrV_c (fun j hj => ?_)
      match j, hj with
      | 0, _ => rfl
      | 1, _ => rfl
      | 2, _ => rfl
      | 3, _ => rfl
      | j + 4, h => exact absurd h (by omega)
    exact h.trans (congrArg some e)
  · exact hP 45 _ rfl
  · exact hP 46 _ rfl
  · have h := hP 47 _ rfl
    have e : vp_cell (cA 0) (4, .inl (upd (upd (upd (upd (fun _ => iI 0) 0 (iI (-1))) 1 (iI (-1))) 2 (iI (-1))) 3 (iI (-1)))) = vp_cell (cA 0) (4, .inl (fun j : Nat => iI (sg0 34 0 j))) := by
      rw [vp_cell_i, vp_cell_i]
      refine arrV_c (fun j hj => ?_)
      match j, hj with
      | 0, _ => rfl
      | 1, _ => rfl
      | 2, _ => rfl
      | 3, _ => rfl
      | j + 4, h => exact absurd h (by omega)
    exact h.trans (congrArg some e)
  · exact hP 48 _ rfl
  · exact hP 49 _ rfl
  · exact hP 50 _ rfl
  · exact hP 51 _ rfl
  · exact hP 52 _ rfl
  · exact hP 53 _ rfl
  · exact hP 54 _ rfl
  · exact hP 55 _ rfl
  · exact hP 56 _ rfl
  · exact hP 57 _ rfl
  · have h := hP 58 _ rfl
    have e : vp_cell (cA 0) (36, .inl (flF (-1001) (fun _ => iI 0) 36)) = vp_cell (cA 0) (36, .inl (fun j : Nat => iI (sg0 45 0 j))) := by
      rw [vp_cell_i, vp_cell_i]
      refine arrV_c (fun j hj => ?_)
      show Value.int (flF (-1001) (fun _ => iI 0) 36 j) = Value.int (iI (if 0 ≤ (j : Int) ∧ (j : Int) < 36 then -1001 else 0))
      unfold flF
      rw [if_pos hj, if_pos ⟨by omega, by omega⟩]
    exact h.trans (congrArg some e)
  · exact hP 59 _ rfl
  · exact hP 60 _ rfl
  · exact hP 61 _ rfl
  · exact hP 62 _ rfl
theorem ws_at (cA : Nat → ClassId) (f : Nat → Nat) {k : Nat} (hk : k < 63) : ∃ p : Nat × va_E, (ws7 cA f ++ ws8 cA f)[k]? = some p ∧ p.1 = f k := by
  have h2 : (ws7 cA f ++ ws8 cA f).map (fun p => p.1) = (List.range 63).map f := rfl
  have h3 : ((ws7 cA f ++ ws8 cA f).map (fun p => p.1))[k]? = some (f k) := by
    rw [h2, List.getElem?_map, List.getElem?_range hk]
    rfl
  rw [List.getElem?_map] at h3
  cases h5 : (ws7 cA f ++ ws8 cA f)[k]? with
  | none => rw [h5] at h3; cases h3
  | some p =>
    rw [h5] at h3
    exact ⟨p, rfl, Option.some.inj h3⟩
theorem inj_start {A : Nat → Prop} {D : va_G} {cA : Nat → ClassId} {t : Nat} {f : Nat → Nat} (hD : va_D A (ws7 cA f ++ ws8 cA f)) : Inj (adX f t, D, cA) ∧ ∀ q, Apl (adX f t, D, cA) q → A q := by
  have key : ∀ (a : Nat) (i : Int), Vd a i → ∃ p : Nat × va_E, (ws7 cA f ++ ws8 cA f)[ordP a i]? = some p ∧ p.1 = adX f t a i := by
    intro a i hv
    have h1 := OL_ord _ (PL_mem.mpr hv)
    have hl : ordP a i < 63 := (List.getElem?_eq_some_iff.mp h1).1
    have h4 : adX f t a i = f (ordP a i) := by
      unfold adX
      rw [if_neg]
      intro e
      subst e
      have h8 := hv.2
      have e2 : cntN 99 = 0 := rfl
      rw [e2] at h8
      have h9 := hv.1
      omega
    rw [h4]
    exact ws_at cA f hl
  refine ⟨fun a b i j ha hb e => ?_, fun q hq => ?_⟩
  · obtain ⟨p, h1, h2⟩ := key a i ha
    obtain ⟨r, h3, h4⟩ := key b j hb
    have e1 := hD.1 _ _ p r h1 h3 (by rw [h2, h4]; exact e)
    have o1 := OL_ord _ (PL_mem.mpr ha)
    have o2 := OL_ord _ (PL_mem.mpr hb)
    dsimp only at o1 o2
    rw [e1, o2] at o1
    cases o1
    exact ⟨rfl, rfl⟩
  · obtain ⟨a, i, hv, rfl⟩ := hq
    obtain ⟨p, h1, h2⟩ := key a i hv
    have h9 := hD.2 _ p h1
    rw [h2] at h9
    exact h9
