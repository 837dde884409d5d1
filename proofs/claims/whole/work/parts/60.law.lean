/-! the law's own rows -/
theorem mo_ag {τ σ : Mm} (ha : Ag τ σ) : mo τ = mo σ := by
  have e2 : ∀ s : Mm, mo s = mo (cut s) := by
    intro s
    funext a
    unfold mo cut
    split
    · rw [if_neg (by omega)]
    · rfl
  rw [e2 τ, show cut τ = cut σ from ha, ← e2]
theorem mo_rd {τ σ : Mm} (e : mo τ = mo σ) (a : Nat) (j y : Int) (a0 : 28 ≤ a) (a1 : a ≤ 46) : τ a j y = σ a j y := by
  have x := congrFun (congrFun (congrFun e a) j) y
  unfold mo at x
  rw [if_pos ⟨a0, a1⟩, if_pos ⟨a0, a1⟩] at x
  exact x
theorem NM_mo2 (σ : Mm) (s ws : Int) : NM σ s ws = NM (mo σ) s ws := funext fun k => funext fun c => NM_mo σ s ws k c
theorem x_many {τ σ : Mm} (ha : Ag τ σ) (y1 y2 : Int) : rm_many τ y1 y2 = rm_many σ y1 y2 := by
  have e := mo_ag ha
  have r := mo_rd e
  unfold rm_many
  rw [NM_mo2 τ y1 y2, NM_mo2 σ y1 y2, e, r 34 0 y1 (by decide) (by decide), r 28 0 0 (by decide) (by decide), r 36 0 y1 (by decide) (by decide)]
theorem x_value {τ σ : Mm} (ha : Ag τ σ) (y1 y2 y3 y4 : Int) : rm_value τ y1 y2 y3 y4 = rm_value σ y1 y2 y3 y4 := by
  have e := mo_ag ha
  have r := mo_rd e
  unfold rm_value
  rw [VM_mo2 τ y1 y2, VM_mo2 σ y1 y2, e, r 34 0 y1 (by decide) (by decide), r 28 0 0 (by decide) (by decide), r 35 0 y1 (by decide) (by decide)]
/-- a number of the script -/
def sv (xs : Nat → Int32) (j : Int) : Int := (xs j.toNat).toInt
theorem sv_r (xs : Nat → Int32) (j : Int) : R32 (sv xs j) := R32_of _
def LW (X : XW) (b : Nat) (M : MX) (kc sl : Nat) (σ : Mm) (pc : Nat) (i : Int) (st : List Value) : Prop := match M with
  | (p, l, e, R, s, m, args, below, meth, c, Q) => ∀ (H : Heap) (locs : List Loc) (la : Array Slot), Mem X σ H → Rg σ → va_S (fun q => s.heap.size ≤ q) s.heap H locs → lv_has la 4 [(0, .ref b), (1, .ref (X.1 0 0)), (2, .ref (X.1 28 0)), (3, .int (iI i))] → W p l e R s m args below meth c H locs kc sl Q (F0 m pc la st)
def LOk (X : XW) (b L : Nat) (xs : Nat → Int32) (M : MX) (kc sl : Nat) : Prop := match M with
  | (p, _, _, R, s, m, args, _, _, c, _) => p.tables.exec = Jvm.exec ∧ c.code = cL_law ∧ c.maxLocals = 4 ∧ s.vm.findClass RL = some m.cls ∧ (∀ w ∈ Wds, w.before args s = true) ∧ Kn X s ∧ (∀ q, Apl X q → s.heap.size ≤ q) ∧ R.frames = 8 ∧ R.locals = 312 ∧ kc ≤ R.cells ∧ sl ≤ R.slots ∧ va_X b L xs s s.heap ∧ b < s.heap.size ∧ L ≤ 3072
theorem Kn.at {X : XW} {s U : State} {H : Heap} (h : Kn X s) (hW : s.WarmedH U.vm) (hU : U.heap = H) (hS : ∀ q : Nat, q < s.heap.size → ¬ Apl X q → H[q]? = s.heap[q]?) : Kn X U := by
  obtain ⟨h1, h2, h3, h4, h5, h6⟩ := h
  refine ⟨va_K.moved hW.alike h1, h2, ?_, ?_, ?_, va_Nw.warmF hW h6⟩
  · rw [hU]
    exact (h3.moved hW.alike).kept hS
  · rw [hU]
    exact (h4.moved hW.alike).kept hS
  · intro w hw
    have hz := h5 w hw
    simp only [nestW, List.mem_cons, List.not_mem_nil, or_false] at hw
    rcases hw with rfl | rfl | rfl | rfl <;> exact va_Nw.warmM hW hz
section LAW
variable {X : XW} {b L : Nat} {xs : Nat → Int32} {M : MX} {kc sl : Nat} {σ : Mm} {pc : Nat} {i : Int} {st : List Value}
theorem l_x (ok : LOk X b L xs M kc sl) (hd : decode cL_law pc = .ok (.aload_n 1, 1)) (kk : LW X b M kc sl σ (pc + 1) i (.ref (X.1 0 0) :: st)) : LW X b M kc sl σ pc i st := by
  obtain ⟨p, l, e, R, s, m, args, below, meth, c, Q⟩ := M
  obtain ⟨hx, hb, hml, hown, hts, hK, hA, hfr, hlo, hkc, hsl, hX, hbl, hL⟩ := ok
  intro H locs la hM hR hS hl
  exact lv_aload_n hx hb hd rfl (lv_at hl 1 rfl) (kk H locs la hM hR hS hl)
theorem l_m (ok : LOk X b L xs M kc sl) (hd : decode cL_law pc = .ok (.aload_n 2, 1)) (kk : LW X b M kc sl σ (pc + 1) i (.ref (X.1 28 0) :: st)) : LW X b M kc sl σ pc i st := by
  obtain ⟨p, l, e, R, s, m, args, below, meth, c, Q⟩ := M
  obtain ⟨hx, hb, hml, hown, hts, hK, hA, hfr, hlo, hkc, hsl, hX, hbl, hL⟩ := ok
  intro H locs la hM hR hS hl
  exact lv_aload_n hx hb hd rfl (lv_at hl 2 rfl) (kk H locs la hM hR hS hl)
/-- script[i + k] -/
theorem l_arg (k : Int) (ok : LOk X b L xs M kc sl) (d0 : decode cL_law pc = .ok (.aload_n 0, 1)) (d1 : decode cL_law (pc + 1) = .ok (.iload_n 3, 1)) (d2 : decode cL_law (pc + 2) = .ok (.iconst k, 1)) (d3 : decode cL_law (pc + 3) = .ok (.iadd, 1)) (d4 : decode cL_law (pc + 4) = .ok (.iaload, 1)) (hk : 0 ≤ k) (h0 : 0 ≤ i) (h1 : i + k < L)
    (kk : LW X b M kc sl σ (pc + 5) i (.int (iI (sv xs (i + k))) :: st)) : LW X b M kc sl σ pc i st := by
  obtain ⟨p, l, e, R, s, m, args, below, meth, c, Q⟩ := M
  obtain ⟨hx, hb, hml, hown, hts, hK, hA, hfr, hlo, hkc, hsl, hX, hbl, hL⟩ := ok
  intro H locs la hM hR hS hl
  refine lv_aload_n hx hb d0 rfl (lv_at hl 0 rfl) ?_
  refine lv_iload_n hx hb d1 rfl (lv_at hl 3 rfl) ?_
  refine lv_iconst (v := iI k) hx hb d2 rfl ?_
  refine lv_iadd hx hb d3 ?_
  rw [iI_add]
  refine va_sld hx hb hX hbl (Nat.not_le.mpr hbl) hS (iI_in (by omega) (by omega) (by omega)) d4 ?_
  have e : xs (iI (i + k)).toNatClampNeg = iI (sv xs (i + k)) := by
    rw [iI_clamp (by omega) ⟨by omega, by omega⟩]
    unfold sv
    rw [iI_of]
  rw [e]
  exact kk H locs la hM hR hS hl
theorem run_L {p : Program} {l : Launch} {e : Env} {R : Room} {s : State} {m : MethodId} {args : Array Value} {below : List Frame} {meth : Method} {c : Code} {H : Heap} {locs : List Loc} {Q : State → Prop} {la : Array Slot} {st0 rest : List Value} {post : Option AV → Mm → Prop} {a : Array Value}
    (hr : va_Run p l e R s m args below meth c H locs kc sl 0 0 (F0 m pc la st0) rest (Qo X post a) (Apl X)) (hA : ∀ q, Apl X q → s.heap.size ≤ q) (hS : va_S (fun q => s.heap.size ≤ q) s.heap H locs)
    (kk : ∀ (r : Option AV) (σ' : Mm) (H1 : Heap) (locs1 : List Loc), post r σ' → Mem X σ' H1 → Rg σ' → va_S (fun q => s.heap.size ≤ q) s.heap H1 locs1 → W p l e R s m args below meth c H1 locs1 kc sl Q (F0 m (pc + 3) la ((r.map (tv X)).toList ++ rest))) : W p l e R s m args below meth c H locs kc sl Q (F0 m pc la st0) := by
  intro T hT X0
  obtain ⟨v, st₀, t, T', L, h0, X', hL, e1, e2, ⟨r, σ', hv, hp, hM1, hR1, hz, hk⟩, st⟩ := hr T hT X0
  have hv' : v = r.map (tv X) := by cases hv; rfl
  subst hv'
  rw [h0] at hz hk
  obtain ⟨t2, a1, b1⟩ := kk r σ' T'.heap (locs ++ L) hp (by rw [e1]; exact hM1) hR1
    ⟨Nat.le_trans hS.1 (by rw [e1]; exact hz), fun q h1 h2 => by rw [e1, hk q (Nat.lt_of_lt_of_le h1 hS.1) (fun z => h2 (hA q z))]; exact hS.2.1 q h1 h2, fun q hq => by
      rcases List.mem_append.mp hq with h | h
      · exact hS.2.2 q h
      · exact hA _ (hL q h)⟩ T' rfl X'
  exact ⟨t2, st t2 a1, b1⟩
theorem l_call {idx : Nat} {y : MethodName} {cb : ByteArray} {mL n fr2 lo2 a ci N : Nat} {ret : Option FieldType} {av : List AV} {rest : List Value} {fs : List Value} {T : u_T} {post : Option AV → Mm → Prop} (ok : LOk X b L xs M kc sl) (hd : decode cL_law pc = .ok (.invokevirtual idx, 3)) (hw : MV RL idx y cb mL ret n) (ct : Ct X M.2.1 y cb mL ret fr2 lo2 σ (.inr (.inr (a, 0)) :: av) post)
    (hv : Vd a 0) (he : encF X a 0 (σ a 0) = .inr (ci, fs)) (hc : vwCl[ci]? = some (y.cls, T, N)) (hf : fr2 + 1 ≤ 8 ∧ 8 + (mL + 11) + lo2 ≤ 312) (hn : av.length = n) (hst : st = (av.map (tv X)).reverse ++ .ref (X.1 a 0) :: rest) (h8 : (rest.map fun v => v.category).sum ≤ 8)
    (kk : ∀ (r : Option AV) (σ' : Mm), post r σ' → LW X b M kc sl σ' (pc + 3) i ((r.map (tv X)).toList ++ rest)) : LW X b M kc sl σ pc i st := by
  obtain ⟨p, l, e, R, s, m, args, below, meth, c, Q⟩ := M
  obtain ⟨hx, hb, hml, hown, hts, hK, hA, hfr, hlo, hkc, hsl, hX, hbl, hL⟩ := ok
  intro H locs la hM hR hS hl
  refine run_L (rest := rest) (va_runV (C := y.cls) (b := X.1 a 0) (As := av.map (tv X)) (rest := rest) ⟨hx, hb, hml, hown, hts⟩ ct ⟨hw.1.callB hts (by rw [hfr, hlo]; exact hf), hts _ hw.2.1, hts _ hw.2.2⟩ ⟨Wo_blind X σ _, ?_, fun U hU hW => ⟨rfl, by rw [hU]; exact hM, hR, hK.at hW hU (fun q h1 h2 => hS.2.1 q h1 (Nat.not_le.mpr h1))⟩⟩ rfl (by rw [List.length_map]; exact hn) hl.1 hst (lv_room h8) hd ⟨hkc, hsl⟩) hA hS ?_
  · exact va_recv hK.1 (hM.one hv) hc (q0 := 0) (by rw [he]; rfl)
  · intro r σ' H1 locs1 hp hM1 hR1 hS1
    exact kk r σ' hp H1 locs1 la hM1 hR1 hS1 hl
theorem l_eq {v : Int64} {off : Int} (ok : LOk X b L xs M kc sl) (d0 : decode cL_law pc = .ok (.lcmp, 1)) (d1 : decode cL_law (pc + 1) = .ok (.ifCond .eq off, 3)) (ht : ((pc + 1 : Nat) : Int) + off = ((1474 : Nat) : Int))
    (kk : LW X b M kc sl σ 1474 i st) : LW X b M kc sl σ pc i (.long v :: .long v :: st) := by
  obtain ⟨p, l, e, R, s, m, args, below, meth, c, Q⟩ := M
  obtain ⟨hx, hb, hml, hown, hts, hK, hA, hfr, hlo, hkc, hsl, hX, hbl, hL⟩ := ok
  intro H locs la hM hR hS hl
  refine W.lcmp (x := v) (y := v) hx hb d0 ?_
  exact lv_if_eq hx hb d1 ht (fun _ => kk H locs la hM hR hS hl) (fun q => absurd ((lg_cmp_eq v v).mpr rfl) q)
/-- class and reference side by side: a call, with one answer and a memory of which the tie holds -/
theorem l_next (ok : LOk X b L xs M kc sl) (kk : LW X b M kc sl σ 18 (i + 6) []) : LW X b M kc sl σ 1474 i [] := by
  obtain ⟨p, l, e, R, s, m, args, below, meth, c, Q⟩ := M
  obtain ⟨hx, hb, hml, hown, hts, hK, hA, hfr, hlo, hkc, hsl, hX, hbl, hL⟩ := ok
  intro H locs la hM hR hS hl
  refine lv_iinc (v := iI (i + 6)) (lv' := [(3, .int (iI (i + 6))), (0, .ref b), (1, .ref (X.1 0 0)), (2, .ref (X.1 28 0))]) hx hb dL_law_1474 hl (k := 3) rfl (by rw [← iI_add]; rfl) (by decide) rfl (fun la2 h2 => ?_)
  refine lv_goto (tgt := 18) hx hb dL_law_1477 (by decide) ?_
  exact kk H locs la2 hM hR hS (lv_sub h2 [1, 2, 3, 0] rfl)
end LAW
