/-! rows that read and write the world, calls, ends -/
theorem Vd.one {a : Nat} (h : cntN a = 1) : Vd a 0 := ⟨by omega, by rw [h]; decide⟩
theorem Vd.four {a : Nat} {i : Int} (h : cntN a = 4) (h0 : 0 ≤ i) (h1 : i < 4) : Vd a i := ⟨h0, by rw [h]; exact h1⟩
/-- the field of number k of class ci, under a number of own's pool -/
def FL (own : String) (idx ci k : Nat) : Prop := ∃ (C : String) (T : u_T) (N : Nat), vwCl[ci]? = some (C, T, N) ∧ k < N ∧ Cond.fieldLink own idx C (T k).2.1 (T k).2.2.1 ∈ Wds ∧ (T k).1 = C ∧ ∀ w ∈ u_ws C T N, w ∈ Wds
def FW (own : String) (idx ci k : Nat) (ty : FieldType) : Prop := ∃ (C : String) (T : u_T) (N : Nat) (ty0 : Nat → FieldType), vwCl[ci]? = some (C, T, N) ∧ k < N ∧ Cond.fieldLink own idx C (T k).2.1 (T k).2.2.1 ∈ Wds ∧ (T k).1 = C ∧ (∀ w ∈ u_ws C T N, w ∈ Wds) ∧ (∀ k, k < N → parseFieldDescriptor (T k).2.2.1 = some (ty0 k)) ∧ (∀ a, a < N → ∀ b, b < N → a ≠ b → (T a).2.1 ≠ (T b).2.1) ∧ (T k).2.2.2 = false ∧ parseFieldDescriptor (T k).2.2.1 = some ty
section HEAP
variable {X : XW} {M : MX} {cc : ByteArray} {nL fr lo : Nat} {own : String} {σ : Mm} {pc : Nat} {ls : List (Nat × AV)} {st : List AV}
theorem g_getv {idx ci k a : Nat} {i : Int} {fs : List Value} {v : AV} (ok : MOk X M cc nL fr lo own) (hd : decode cc pc = .ok (.getfield idx, 3)) (hf : FL own idx ci k) (hv : Vd a i) (he : encF X a i (σ a i) = .inr (ci, fs)) (hk : fs[k]? = some (tv X v))
    (kk : G X M cc nL σ (pc + 3) ls (v :: st)) : G X M cc nL σ pc ls (.inr (.inr (a, i)) :: st) := by
  obtain ⟨p, l, e, R, s, m, args, below, meth, c, Q⟩ := M
  obtain ⟨hx, hb, hml, hown, hts, hK, hfr, hlo⟩ := ok
  intro H locs la hM hR hS hl
  obtain ⟨C, T, N, hc, hkN, hlink, hC, hin⟩ := hf
  exact va_get hx hb hts hin hown hK.1 (hM.one hv) 0 (by rw [he]; rfl) hc k hkN (hts _ hlink) (fun x h => by rw [hC] at h; exact h) hk hd (kk H locs la hM hR hS hl)
theorem g_getr {idx ci k a b : Nat} {i j : Int} {fs : List Value} (ok : MOk X M cc nL fr lo own) (hd : decode cc pc = .ok (.getfield idx, 3)) (hf : FL own idx ci k) (hv : Vd a i) (he : encF X a i (σ a i) = .inr (ci, fs)) (hk : fs[k]? = some (.ref (X.1 b j)))
    (kk : G X M cc nL σ (pc + 3) ls (.inr (.inr (b, j)) :: st)) : G X M cc nL σ pc ls (.inr (.inr (a, i)) :: st) := g_getv (v := .inr (.inr (b, j))) ok hd hf hv he hk kk
theorem g_geti {idx ci k a : Nat} {i z : Int} {fs : List Value} (ok : MOk X M cc nL fr lo own) (hd : decode cc pc = .ok (.getfield idx, 3)) (hf : FL own idx ci k) (hv : Vd a i) (he : encF X a i (σ a i) = .inr (ci, fs)) (hk : fs[k]? = some (.int (iI (σ a i z)))) (ht : tyk a z = 0)
    (kk : -2147483648 ≤ σ a i z → σ a i z ≤ 2147483647 → G X M cc nL σ (pc + 3) ls (.inl (σ a i z) :: st)) : G X M cc nL σ pc ls (.inr (.inr (a, i)) :: st) := by
  refine G.rg (fun hR => ?_)
  have h := hR a i z
  rw [ht] at h
  exact g_getv (v := .inl (σ a i z)) ok hd hf hv he hk (kk h.1 h.2)
theorem g_getz {idx ci k a : Nat} {i z : Int} {fs : List Value} (ok : MOk X M cc nL fr lo own) (hd : decode cc pc = .ok (.getfield idx, 3)) (hf : FL own idx ci k) (hv : Vd a i) (he : encF X a i (σ a i) = .inr (ci, fs)) (hk : fs[k]? = some (.int (iI (σ a i z)))) (ht : tyk a z = 2)
    (kk : 0 ≤ σ a i z → σ a i z ≤ 1 → G X M cc nL σ (pc + 3) ls (.inl (σ a i z) :: st)) : G X M cc nL σ pc ls (.inr (.inr (a, i)) :: st) := by
  refine G.rg (fun hR => ?_)
  have h := hR a i z
  rw [ht] at h
  exact g_getv (v := .inl (σ a i z)) ok hd hf hv he hk (kk h.1 h.2)
theorem g_putv {idx ci k a : Nat} {i z v : Int} {fs : List Value} {ty : FieldType} (ok : MOk X M cc nL fr lo own) (hd : decode cc pc = .ok (.putfield idx, 3)) (hf : FW own idx ci k ty) (hv : Vd a i) (he : encF X a i (σ a i) = .inr (ci, fs)) (hs : encF X a i (u1 (σ a i) z v) = .inr (ci, fs.set k (.int (iI v)))) (hl2 : k < fs.length) (hn : narrow ty (.int (iI v)) = .int (iI v)) (hfit : fits ty (.int (iI v)) = true) (rv : inT (tyk a z) v)
    (kk : G X M cc nL (up σ a i z v) (pc + 3) ls st) : G X M cc nL σ pc ls (.inl v :: .inr (.inr (a, i)) :: st) := by
  obtain ⟨p, l, e, R, s, m, args, below, meth, c, Q⟩ := M
  obtain ⟨hx, hb, hml, hown, hts, hK, hfr, hlo⟩ := ok
  intro H locs la hM hR hS hl
  obtain ⟨C, T, N, ty0, hc, hkN, hlink, hC, hin, hty, hnm, hfin, hpd⟩ := hf
  obtain ⟨k2, hp, hw⟩ := wl_get (X := X) (σ := σ) hv
  rw [he] at hw
  refine va_put hx hb hts hin ty0 hty hnm hown hK.1 hM.P hK.2.1.D hS k2 hw hc k hkN (hts _ hlink) (fun x h => by rw [hC] at h; exact h) hfin hpd hn hfit hl2 hd (fun H1 locs1 hP1 _ hS1 => ?_)
  exact kk H1 locs1 la (hP1 |> fun q => Mem.put hp hs.symm q (up_same σ a i z v) (fun b j h => up_other σ z v h)) (Rg_up hR rv) hS1 hl
theorem g_puti {idx ci k a : Nat} {i z v : Int} {fs : List Value} (ok : MOk X M cc nL fr lo own) (hd : decode cc pc = .ok (.putfield idx, 3)) (hf : FW own idx ci k .int) (hv : Vd a i) (he : encF X a i (σ a i) = .inr (ci, fs)) (hs : encF X a i (u1 (σ a i) z v) = .inr (ci, fs.set k (.int (iI v)))) (hl2 : k < fs.length) (ht : tyk a z = 0) (rv : R32 v)
    (kk : G X M cc nL (up σ a i z v) (pc + 3) ls st) : G X M cc nL σ pc ls (.inl v :: .inr (.inr (a, i)) :: st) := g_putv ok hd hf hv he hs hl2 rfl rfl (by rw [ht]; exact rv) kk
theorem nar_b {v : Int} (h0 : 0 ≤ v) (h1 : v ≤ 1) : narrow .boolean (.int (iI v)) = .int (iI v) ∧ fits .boolean (.int (iI v)) = true ∧ vp_nar .boolean (iI v) = iI v := by
  rcases (show v = 0 ∨ v = 1 by omega) with rfl | rfl
  · decide +kernel
  · decide +kernel
theorem g_putz {idx ci k a : Nat} {i z v : Int} {fs : List Value} (ok : MOk X M cc nL fr lo own) (hd : decode cc pc = .ok (.putfield idx, 3)) (hf : FW own idx ci k .boolean) (hv : Vd a i) (he : encF X a i (σ a i) = .inr (ci, fs)) (hs : encF X a i (u1 (σ a i) z v) = .inr (ci, fs.set k (.int (iI v)))) (hl2 : k < fs.length) (ht : tyk a z = 2) (h0 : 0 ≤ v) (h1 : v ≤ 1)
    (kk : G X M cc nL (up σ a i z v) (pc + 3) ls st) : G X M cc nL σ pc ls (.inl v :: .inr (.inr (a, i)) :: st) := g_putv ok hd hf hv he hs hl2 (nar_b h0 h1).1 (nar_b h0 h1).2.1 (by rw [ht]; exact ⟨h0, h1⟩) kk
/-- arrays -/
theorem g_iald {a n : Nat} {i z : Int} (ok : MOk X M cc nL fr lo own) (hd : decode cc pc = .ok (.iaload, 1)) (hv : Vd a i) (he : ∀ g, encF X a i g = aI X n g) (hz : 0 ≤ z ∧ z < n) (hn : n < 2147483648) (ht : tyk a z = 0)
    (kk : -2147483648 ≤ σ a i z → σ a i z ≤ 2147483647 → G X M cc nL σ (pc + 1) ls (.inl (σ a i z) :: st)) : G X M cc nL σ pc ls (.inl z :: .inr (.inr (a, i)) :: st) := by
  obtain ⟨p, l, e, R, s, m, args, below, meth, c, Q⟩ := M
  obtain ⟨hx, hb, hml, hown, hts, hK, hfr, hlo⟩ := ok
  intro H locs la hM hR hS hl
  have h := hR a i z
  rw [ht] at h
  have k := kk h.1 h.2 H locs la hM hR hS hl
  refine va_iald (i := iI z) (f := fun j : Nat => iI (σ a i j)) hx hb hK.1 (hM.one hv) 0 0 (by rw [he]; rfl) rfl (iI_in hz.1 hz.2 hn) hd ?_
  rw [iI_clamp hz.1 ⟨by omega, by omega⟩, Int.toNat_of_nonneg hz.1]
  exact k
theorem g_lald {a n : Nat} {i z : Int} (ok : MOk X M cc nL fr lo own) (hd : decode cc pc = .ok (.laload, 1)) (hv : Vd a i) (he : ∀ g, encF X a i g = aJ X n g) (hz : 0 ≤ z ∧ z < n) (hn : n < 2147483648) (ht : tyk a z = 1)
    (kk : -9223372036854775808 ≤ σ a i z → σ a i z ≤ 9223372036854775807 → G X M cc nL σ (pc + 1) ls (.inr (.inl (σ a i z)) :: st)) : G X M cc nL σ pc ls (.inl z :: .inr (.inr (a, i)) :: st) := by
  obtain ⟨p, l, e, R, s, m, args, below, meth, c, Q⟩ := M
  obtain ⟨hx, hb, hml, hown, hts, hK, hfr, hlo⟩ := ok
  intro H locs la hM hR hS hl
  have h := hR a i z
  rw [ht] at h
  have k := kk h.1 h.2 H locs la hM hR hS hl
  refine va_lald (i := iI z) (f := fun j : Nat => lI (σ a i j)) hx hb hK.1 (hM.one hv) 0 1 (by rw [he]; rfl) rfl (iI_in hz.1 hz.2 hn) hd ?_
  rw [iI_clamp hz.1 ⟨by omega, by omega⟩, Int.toNat_of_nonneg hz.1]
  exact k
theorem g_zald {a n : Nat} {i z : Int} (ok : MOk X M cc nL fr lo own) (hd : decode cc pc = .ok (.baload, 1)) (hv : Vd a i) (he : ∀ g, encF X a i g = aZ X n g) (hz : 0 ≤ z ∧ z < n) (hn : n < 2147483648) (ht : tyk a z = 2)
    (kk : 0 ≤ σ a i z → σ a i z ≤ 1 → G X M cc nL σ (pc + 1) ls (.inl (σ a i z) :: st)) : G X M cc nL σ pc ls (.inl z :: .inr (.inr (a, i)) :: st) := by
  obtain ⟨p, l, e, R, s, m, args, below, meth, c, Q⟩ := M
  obtain ⟨hx, hb, hml, hown, hts, hK, hfr, hlo⟩ := ok
  intro H locs la hM hR hS hl
  have h := hR a i z
  rw [ht] at h
  have k := kk h.1 h.2 H locs la hM hR hS hl
  refine va_zald (i := iI z) (f := fun j : Nat => iI (σ a i j)) hx hb hK.1 (hM.one hv) 0 2 (by rw [he]; rfl) rfl (iI_in hz.1 hz.2 hn) hd ?_
  rw [iI_clamp hz.1 ⟨by omega, by omega⟩, Int.toNat_of_nonneg hz.1]
  exact k
theorem g_aald {a b t : Nat} {i z : Int} {C : String} (ok : MOk X M cc nL fr lo own) (hd : decode cc pc = .ok (.aaload, 1)) (hv : Vd a i) (he : ∀ g, encF X a i g = aQ X t b) (hz : 0 ≤ z ∧ z < 4) (ht : (tyA X)[t]? = some (X.2.2 t, .object C))
    (kk : G X M cc nL σ (pc + 1) ls (.inr (.inr (b, z)) :: st)) : G X M cc nL σ pc ls (.inl z :: .inr (.inr (a, i)) :: st) := by
  obtain ⟨p, l, e, R, s, m, args, below, meth, c, Q⟩ := M
  obtain ⟨hx, hb, hml, hown, hts, hK, hfr, hlo⟩ := ok
  intro H locs la hM hR hS hl
  have k := kk H locs la hM hR hS hl
  refine va_aldq (i := iI z) (f := fun j : Nat => some (X.1 b j)) hx hb hK.1 (hM.one hv) 0 t (by rw [he]; rfl) ht (iI_in hz.1 hz.2 (by decide)) hd ?_
  rw [iI_clamp hz.1 ⟨by omega, by omega⟩, Int.toNat_of_nonneg hz.1]
  exact k
theorem upd_i {g : Int → Int} {z v : Int} (h0 : 0 ≤ z) : upd (fun j : Nat => iI (g j)) z.toNat (iI v) = fun j : Nat => iI (u1 g z v j) := by
  funext j
  unfold upd u1
  by_cases h : j = z.toNat
  · rw [if_pos h, if_pos (by omega)]
  · rw [if_neg h, if_neg (by omega)]
theorem updL_i {g : Int → Int} {z v : Int} (h0 : 0 ≤ z) : vp_updL (fun j : Nat => lI (g j)) z.toNat (lI v) = fun j : Nat => lI (u1 g z v j) := by
  funext j
  unfold vp_updL u1
  by_cases h : j = z.toNat
  · rw [if_pos h, if_pos (by omega)]
  · rw [if_neg h, if_neg (by omega)]
theorem g_iast {a n : Nat} {i z v : Int} (ok : MOk X M cc nL fr lo own) (hd : decode cc pc = .ok (.iastore, 1)) (hv : Vd a i) (he : ∀ g, encF X a i g = aI X n g) (hz : 0 ≤ z ∧ z < n) (hn : n < 2147483648) (ht : tyk a z = 0) (rv : R32 v)
    (kk : G X M cc nL (up σ a i z v) (pc + 1) ls st) : G X M cc nL σ pc ls (.inl v :: .inl z :: .inr (.inr (a, i)) :: st) := by
  obtain ⟨p, l, e, R, s, m, args, below, meth, c, Q⟩ := M
  obtain ⟨hx, hb, hml, hown, hts, hK, hfr, hlo⟩ := ok
  intro H locs la hM hR hS hl
  obtain ⟨k2, hp, hw⟩ := wl_get (X := X) (σ := σ) hv
  rw [he] at hw
  refine va_iast (i := iI z) (x := iI v) (f := fun j : Nat => iI (σ a i j)) hx hb hK.1 hM.P hK.2.1.D hS k2 0 hw rfl (iI_in hz.1 hz.2 hn) hd (fun H1 locs1 hP1 _ hS1 => ?_)
  refine kk H1 locs1 la (Mem.put (g := u1 (σ a i) z v) hp ?_ hP1 (up_same σ a i z v) (fun b j h => up_other σ z v h)) (Rg_up hR (by rw [ht]; exact rv)) hS1 hl
  rw [he, iI_clamp hz.1 ⟨by omega, by omega⟩, upd_i hz.1]
  rfl
theorem g_zast {a n : Nat} {i z v : Int} (ok : MOk X M cc nL fr lo own) (hd : decode cc pc = .ok (.bastore, 1)) (hv : Vd a i) (he : ∀ g, encF X a i g = aZ X n g) (hz : 0 ≤ z ∧ z < n) (hn : n < 2147483648) (ht : tyk a z = 2) (h0 : 0 ≤ v) (h1 : v ≤ 1)
    (kk : G X M cc nL (up σ a i z v) (pc + 1) ls st) : G X M cc nL σ pc ls (.inl v :: .inl z :: .inr (.inr (a, i)) :: st) := by
  obtain ⟨p, l, e, R, s, m, args, below, meth, c, Q⟩ := M
  obtain ⟨hx, hb, hml, hown, hts, hK, hfr, hlo⟩ := ok
  intro H locs la hM hR hS hl
  obtain ⟨k2, hp, hw⟩ := wl_get (X := X) (σ := σ) hv
  rw [he] at hw
  refine va_zast (i := iI z) (x := iI v) (f := fun j : Nat => iI (σ a i j)) hx hb hK.1 hM.P hK.2.1.D hS k2 2 hw rfl (iI_in hz.1 hz.2 hn) hd (fun H1 locs1 hP1 _ hS1 => ?_)
  refine kk H1 locs1 la (Mem.put (g := u1 (σ a i) z v) hp ?_ hP1 (up_same σ a i z v) (fun b j h => up_other σ z v h)) (Rg_up hR (by rw [ht]; exact ⟨h0, h1⟩)) hS1 hl
  rw [he, iI_clamp hz.1 ⟨by omega, by omega⟩, (nar_b h0 h1).2.2, upd_i hz.1]
  rfl
theorem g_last {a n : Nat} {i z v : Int} (ok : MOk X M cc nL fr lo own) (hd : decode cc pc = .ok (.lastore, 1)) (hv : Vd a i) (he : ∀ g, encF X a i g = aJ X n g) (hz : 0 ≤ z ∧ z < n) (hn : n < 2147483648) (ht : tyk a z = 1) (rv : R64 v)
    (kk : G X M cc nL (up σ a i z v) (pc + 1) ls st) : G X M cc nL σ pc ls (.inr (.inl v) :: .inl z :: .inr (.inr (a, i)) :: st) := by
  obtain ⟨p, l, e, R, s, m, args, below, meth, c, Q⟩ := M
  obtain ⟨hx, hb, hml, hown, hts, hK, hfr, hlo⟩ := ok
  intro H locs la hM hR hS hl
  obtain ⟨k2, hp, hw⟩ := wl_get (X := X) (σ := σ) hv
  rw [he] at hw
  refine va_last (i := iI z) (x := lI v) (f := fun j : Nat => lI (σ a i j)) hx hb hK.1 hM.P hK.2.1.D hS k2 1 hw rfl (iI_in hz.1 hz.2 hn) hd (fun H1 locs1 hP1 _ hS1 => ?_)
  refine kk H1 locs1 la (Mem.put (g := u1 (σ a i) z v) hp ?_ hP1 (up_same σ a i z v) (fun b j h => up_other σ z v h)) (Rg_up hR (by rw [ht]; exact rv)) hS1 hl
  rw [he, iI_clamp hz.1 ⟨by omega, by omega⟩, updL_i hz.1]
  rfl
theorem g_alenI {a n : Nat} {i : Int} (ok : MOk X M cc nL fr lo own) (hd : decode cc pc = .ok (.arraylength, 1)) (hv : Vd a i) (he : ∀ g, encF X a i g = aI X n g)
    (kk : G X M cc nL σ (pc + 1) ls (.inl n :: st)) : G X M cc nL σ pc ls (.inr (.inr (a, i)) :: st) := by
  obtain ⟨p, l, e, R, s, m, args, below, meth, c, Q⟩ := M
  obtain ⟨hx, hb, hml, hown, hts, hK, hfr, hlo⟩ := ok
  intro H locs la hM hR hS hl
  exact va_alen hx hb hK.1 (hM.one hv) 0 0 (x := (n, .inl (fun j : Nat => iI (σ a i j)))) (by rw [he]; rfl) (ty := .int) rfl (v := iI n) (iI_nat n) hd (kk H locs la hM hR hS hl)
theorem g_alenJ {a n : Nat} {i : Int} (ok : MOk X M cc nL fr lo own) (hd : decode cc pc = .ok (.arraylength, 1)) (hv : Vd a i) (he : ∀ g, encF X a i g = aJ X n g)
    (kk : G X M cc nL σ (pc + 1) ls (.inl n :: st)) : G X M cc nL σ pc ls (.inr (.inr (a, i)) :: st) := by
  obtain ⟨p, l, e, R, s, m, args, below, meth, c, Q⟩ := M
  obtain ⟨hx, hb, hml, hown, hts, hK, hfr, hlo⟩ := ok
  intro H locs la hM hR hS hl
  exact va_alen hx hb hK.1 (hM.one hv) 0 1 (x := (n, .inr (.inl (fun j : Nat => lI (σ a i j))))) (by rw [he]; rfl) (ty := .long) rfl (v := iI n) (iI_nat n) hd (kk H locs la hM hR hS hl)
theorem g_alenQ {a b t : Nat} {i : Int} {C : String} (ok : MOk X M cc nL fr lo own) (hd : decode cc pc = .ok (.arraylength, 1)) (hv : Vd a i) (he : ∀ g, encF X a i g = aQ X t b) (ht : (tyA X)[t]? = some (X.2.2 t, .object C))
    (kk : G X M cc nL σ (pc + 1) ls (.inl 4 :: st)) : G X M cc nL σ pc ls (.inr (.inr (a, i)) :: st) := by
  obtain ⟨p, l, e, R, s, m, args, below, meth, c, Q⟩ := M
  obtain ⟨hx, hb, hml, hown, hts, hK, hfr, hlo⟩ := ok
  intro H locs la hM hR hS hl
  exact va_alen hx hb hK.1 (hM.one hv) 0 t (x := (4, .inr (.inr (.inr (.inr (fun j : Nat => some (X.1 b j))))))) (by rw [he]; rfl) (ty := .object C) ht (v := iI 4) (iI_nat 4) hd (kk H locs la hM hR hS hl)
/-- the static row of limits: sort 99 -/
theorem g_lim {idx : Nat} (ok : MOk X M cc nL fr lo own) (hd : decode cc pc = .ok (.getstatic idx, 3)) (hw : Cond.fieldLink own idx RX7 "PRICE_LIMITS" "[I" ∈ Wds)
    (kk : G X M cc nL σ (pc + 3) ls (.inr (.inr (99, 0)) :: st)) : G X M cc nL σ pc ls st := by
  obtain ⟨p, l, e, R, s, m, args, below, meth, c, Q⟩ := M
  obtain ⟨hx, hb, hml, hown, hts, hK, hfr, hlo⟩ := ok
  intro H locs la hM hR hS hl
  exact va_gets hx hb hK.2.2.1 hS hown (hts _ hw) (fun _ h => h) hd (kk H locs la hM hR hS hl)
theorem g_limN (ok : MOk X M cc nL fr lo RX6) (hd : decode cc pc = .ok (.getstatic 32, 3))
    (kk : G X M cc nL σ (pc + 3) ls (.inr (.inr (99, 0)) :: st)) : G X M cc nL σ pc ls st := by
  obtain ⟨p, l, e, R, s, m, args, below, meth, c, Q⟩ := M
  obtain ⟨hx, hb, hml, hown, hts, hK, hfr, hlo⟩ := ok
  intro H locs la hM hR hS hl
  exact va_getsN hx hb hK.2.2.1 hS hown (va_Nw.use (w := nestF) rfl hK.2.2.2.2.2) (fun _ h => h) hd (kk H locs la hM hR hS hl)
theorem g_limLen (ok : MOk X M cc nL fr lo own) (hd : decode cc pc = .ok (.arraylength, 1))
    (kk : G X M cc nL σ (pc + 1) ls (.inl 3 :: st)) : G X M cc nL σ pc ls (.inr (.inr (99, 0)) :: st) := by
  obtain ⟨p, l, e, R, s, m, args, below, meth, c, Q⟩ := M
  obtain ⟨hx, hb, hml, hown, hts, hK, hfr, hlo⟩ := ok
  intro H locs la hM hR hS hl
  exact va_tlen hx hb hK.2.2.2.1 hS (v := iI 3) (by decide +kernel) hd (kk H locs la hM hR hS hl)
def limZ (w : Int) : Int := if w = 0 then 100 else if w = 1 then 1000 else 10000
theorem g_limAt {z : Int} (ok : MOk X M cc nL fr lo own) (hd : decode cc pc = .ok (.iaload, 1)) (hz : 0 ≤ z ∧ z < 3)
    (kk : G X M cc nL σ (pc + 1) ls (.inl (limZ z) :: st)) : G X M cc nL σ pc ls (.inl z :: .inr (.inr (99, 0)) :: st) := by
  obtain ⟨p, l, e, R, s, m, args, below, meth, c, Q⟩ := M
  obtain ⟨hx, hb, hml, hown, hts, hK, hfr, hlo⟩ := ok
  intro H locs la hM hR hS hl
  refine va_ti (i := iI z) hx hb hK.2.2.2.1 hS (iI_in hz.1 hz.2 (by decide)) ?_ hd (kk H locs la hM hR hS hl)
  rcases (show z = 0 ∨ z = 1 ∨ z = 2 by omega) with rfl | rfl | rfl
  · exact (by decide +kernel : limF (iI 0).toNatClampNeg = Value.int (iI (limZ 0)))
  · exact (by decide +kernel : limF (iI 1).toNatClampNeg = Value.int (iI (limZ 1)))
  · exact (by decide +kernel : limF (iI 2).toNatClampNeg = Value.int (iI (limZ 2)))
/-- ends -/
theorem g_iret {v : Int} {post : Option AV → Mm → Prop} (ok : MOk X M cc nL fr lo own) (hq : RQ X M post (some .int)) (hd : decode cc pc = .ok (.ireturn, 1)) (hp : post (some (.inl v)) σ) : G X M cc nL σ pc ls [.inl v] := by
  obtain ⟨p, l, e, R, s, m, args, below, meth, c, Q⟩ := M
  obtain ⟨hx, hb, hml, hown, hts, hK, hfr, hlo⟩ := ok
  obtain ⟨rfl, hr, hlk⟩ := hq
  intro H locs la hM hR hS hl
  exact W.iret (v := iI v) hx hb hr (fun t ht hW => ⟨some (.inl v), σ, rfl, hp, by rw [ht]; exact hM, hR, hS.F ht⟩) hS.2.2 hd hlk
theorem g_zret {v : Int} {post : Option AV → Mm → Prop} (ok : MOk X M cc nL fr lo own) (hq : RQ X M post (some .boolean)) (hd : decode cc pc = .ok (.ireturn, 1)) (h0 : 0 ≤ v) (h1 : v ≤ 1) (hp : post (some (.inl v)) σ) : G X M cc nL σ pc ls [.inl v] := by
  obtain ⟨p, l, e, R, s, m, args, below, meth, c, Q⟩ := M
  obtain ⟨hx, hb, hml, hown, hts, hK, hfr, hlo⟩ := ok
  obtain ⟨rfl, hr, hlk⟩ := hq
  intro H locs la hM hR hS hl
  exact W.zret (v := iI v) hx hb hr (nar_b h0 h1).1 (fun t ht hW => ⟨some (.inl v), σ, rfl, hp, by rw [ht]; exact hM, hR, hS.F ht⟩) hS.2.2 hd hlk
theorem g_lret {v : Int} {post : Option AV → Mm → Prop} (ok : MOk X M cc nL fr lo own) (hq : RQ X M post (some .long)) (hd : decode cc pc = .ok (.lreturn, 1)) (hp : post (some (.inr (.inl v))) σ) : G X M cc nL σ pc ls [.inr (.inl v)] := by
  obtain ⟨p, l, e, R, s, m, args, below, meth, c, Q⟩ := M
  obtain ⟨hx, hb, hml, hown, hts, hK, hfr, hlo⟩ := ok
  obtain ⟨rfl, hr, hlk⟩ := hq
  intro H locs la hM hR hS hl
  exact W.lret (v := lI v) hx hb hr (fun t ht hW => ⟨some (.inr (.inl v)), σ, rfl, hp, by rw [ht]; exact hM, hR, hS.F ht⟩) hS.2.2 hd hlk
theorem g_vret {post : Option AV → Mm → Prop} (ok : MOk X M cc nL fr lo own) (hq : RQ X M post none) (hd : decode cc pc = .ok (.return_, 1)) (hp : post none σ) : G X M cc nL σ pc ls [] := by
  obtain ⟨p, l, e, R, s, m, args, below, meth, c, Q⟩ := M
  obtain ⟨hx, hb, hml, hown, hts, hK, hfr, hlo⟩ := ok
  obtain ⟨rfl, hr, hlk⟩ := hq
  intro H locs la hM hR hS hl
  exact W.vret hx hb hr (fun t ht hW => ⟨none, σ, rfl, hp, by rw [ht]; exact hM, hR, hS.F ht⟩) hS.2.2 hd hlk
end HEAP
