/-! calls -/
theorem Kn.same {X : XW} {U V : State} (hv : V.vm = U.vm) (hh : V.heap = U.heap) (h : Kn X U) : Kn X V := by
  obtain ⟨h1, h2, h3, h4, h5, h6⟩ := h
  have ha : U.vm.Alike V.vm := by rw [hv]; exact Vm.Alike.refl _
  refine ⟨va_K.moved ha h1, h2, ?_, ?_, ?_, va_Nw.same rfl hv.symm h6⟩
  · rw [hh]; exact h3.moved ha
  · rw [hh]; exact h4.moved ha
  · intro w hw
    have hz := h5 w hw
    simp only [nestW, List.mem_cons, List.not_mem_nil, or_false] at hw
    rcases hw with rfl | rfl | rfl | rfl <;> exact va_Nw.same rfl hv.symm hz
theorem Wo_blind (X : XW) (σ : Mm) (av : List Value) : FrameBlind (va_Pc av (Wo X σ)) := by
  intro a U g mk h
  obtain ⟨h1, h2, h3, h4⟩ := h
  exact ⟨h1, h2, h3, Kn.same (U := U) (V := U.calling g mk a) rfl rfl h4⟩
/-- the words of a call: its link, its code -/
def MB (own : String) (idx : Nat) (y : MethodName) (cb : ByteArray) (mL : Nat) (ret : Option FieldType) (n : Nat) : Prop := Cond.methodLink own idx y ∈ Wds ∧ Cond.code y cb mL ret ∈ Wds ∧ Cond.initialized y.cls ∈ Wds ∧ y.cls ≠ "java/lang/invoke/MethodHandle" ∧ y.cls ≠ "java/lang/invoke/VarHandle" ∧ (parseMethodDescriptor y.desc).map (fun d => d.parameters.length) = some n
def MV (own : String) (idx : Nat) (y : MethodName) (cb : ByteArray) (mL : Nat) (ret : Option FieldType) (n : Nat) : Prop := MB own idx y cb mL ret n ∧ Cond.instanceMethod y ∈ Wds ∧ Cond.selects y.cls y y ∈ Wds
def MS (own : String) (idx : Nat) (y : MethodName) (cb : ByteArray) (mL : Nat) (ret : Option FieldType) (n : Nat) : Prop := MB own idx y cb mL ret n ∧ Cond.static y ∈ Wds
def MN (own : String) (idx : Nat) (y : MethodName) (cb : ByteArray) (mL : Nat) (ret : Option FieldType) (n : Nat) : Prop := Cond.methodLinkNest own idx y RX7 ∈ nestW ∧ Cond.code y cb mL ret ∈ Wds ∧ Cond.initialized y.cls ∈ Wds ∧ (y.cls ≠ "java/lang/invoke/MethodHandle" ∧ y.cls ≠ "java/lang/invoke/VarHandle" ∧ (parseMethodDescriptor y.desc).map (fun d => d.parameters.length) = some n) ∧ Cond.static y ∈ Wds
theorem good_cons {y : MethodName} {cb : ByteArray} {mL : Nat} {ret : Option FieldType} (h : Cond.code y cb mL ret ∈ Wds) : GoodIn Wds (.code y cb mL ret :: Wds) := by
  intro w hw
  rcases List.mem_cons.mp hw with rfl | hw
  · exact ⟨h, Wds_good h⟩
  · exact ⟨hw, Wds_good hw⟩
theorem MB.callB {own : String} {idx : Nat} {y : MethodName} {cb : ByteArray} {mL : Nat} {ret : Option FieldType} {n : Nat} (h : MB own idx y cb mL ret n) {R : Room} {s : State} {args : Array Value} (hts : ∀ w ∈ Wds, w.before args s = true) {fr lo : Nat} (hR : fr + 1 ≤ R.frames ∧ 8 + (mL + 11) + lo ≤ R.locals) :
    CallB R s args own idx y cb mL ret (.code y cb mL ret :: Wds) ({ frames := fr, cells := 0, slots := 0, locals := lo }) 0 0 n :=
  callB_of n hts (good_cons h.2.1) rfl rfl rfl (hts _ h.2.2.1) (hts _ h.1) h.2.2.2 hR
def catS : List AV → Nat
  | [] => 0
  | v :: r => cA v + catS r
theorem catS_eq (X : XW) : ∀ st : List AV, ((st.map (tv X)).map fun v => v.category).sum = catS st
  | [] => rfl
  | v :: r => by
    rw [List.map_cons, List.map_cons, List.sum_cons, catS_eq X r, tv_cat]
    rfl
section CALLS
variable {X : XW} {M : MX} {cc : ByteArray} {nL fr lo : Nat} {own : String} {σ : Mm} {pc : Nat} {ls : List (Nat × AV)} {st : List AV}
theorem run_W {p : Program} {l : Launch} {e : Env} {R : Room} {s : State} {m : MethodId} {args : Array Value} {below : List Frame} {meth : Method} {c : Code} {H : Heap} {locs : List Loc} {Q : State → Prop} {la : Array Slot} {st0 rest : List Value} {post : Option AV → Mm → Prop} {a : Array Value}
    (hr : va_Run p l e R s m args below meth c H locs 0 0 0 0 (F0 m pc la st0) rest (Qo X post a) (Apl X)) (hS : va_S (Apl X) s.heap H locs)
    (kk : ∀ (r : Option AV) (σ' : Mm) (H1 : Heap) (locs1 : List Loc), post r σ' → Mem X σ' H1 → Rg σ' → va_S (Apl X) s.heap H1 locs1 → W p l e R s m args below meth c H1 locs1 0 0 Q (F0 m (pc + 3) la ((r.map (tv X)).toList ++ rest))) : W p l e R s m args below meth c H locs 0 0 Q (F0 m pc la st0) := by
  intro T hT X0
  obtain ⟨v, st₀, t, T', L, h0, X', hL, e1, e2, ⟨r, σ', hv, hp, hM1, hR1, hz, hk⟩, st⟩ := hr T hT X0
  have hv' : v = r.map (tv X) := by cases hv; rfl
  subst hv'
  rw [h0] at hz hk
  obtain ⟨t2, a1, b1⟩ := kk r σ' T'.heap (locs ++ L) hp (by rw [e1]; exact hM1) hR1
    ⟨Nat.le_trans hS.1 (by rw [e1]; exact hz), fun q h1 h2 => by rw [e1, hk q (Nat.lt_of_lt_of_le h1 hS.1) h2]; exact hS.2.1 q h1 h2, fun q hq => by
      rcases List.mem_append.mp hq with h | h
      · exact hS.2.2 q h
      · exact hL q h⟩ T' rfl X'
  exact ⟨t2, st t2 a1, b1⟩
theorem map_opt (X : XW) (r : Option AV) (rest : List AV) : (r.toList ++ rest).map (tv X) = (r.map (tv X)).toList ++ rest.map (tv X) := by
  cases r <;> simp
theorem map_stk (X : XW) {st av rest : List AV} (h : st = av.reverse ++ rest) : st.map (tv X) = (av.map (tv X)).reverse ++ rest.map (tv X) := by
  rw [h, List.map_append, List.map_reverse]
theorem g_callV {idx : Nat} {y : MethodName} {cb : ByteArray} {mL n fr2 lo2 a ci N : Nat} {ret : Option FieldType} {i : Int} {av rest : List AV} {fs : List Value} {T : u_T} {post : Option AV → Mm → Prop} (ok : MOk X M cc nL fr lo own) (hd : decode cc pc = .ok (.invokevirtual idx, 3)) (hw : MV own idx y cb mL ret n) (ct : Ct X M.2.1 y cb mL ret fr2 lo2 σ (.inr (.inr (a, i)) :: av) post)
    (hv : Vd a i) (he : encF X a i (σ a i) = .inr (ci, fs)) (hc : vwCl[ci]? = some (y.cls, T, N)) (hf : fr2 + 1 ≤ fr ∧ 8 + (mL + 11) + lo2 ≤ lo) (hn : av.length = n) (hst : st = av.reverse ++ .inr (.inr (a, i)) :: rest) (h8 : catS rest ≤ 8)
    (kk : ∀ (r : Option AV) (σ' : Mm), post r σ' → G X M cc nL σ' (pc + 3) ls (r.toList ++ rest)) : G X M cc nL σ pc ls st := by
  obtain ⟨p, l, e, R, s, m, args, below, meth, c, Q⟩ := M
  obtain ⟨hx, hb, hml, hown, hts, hK, hfr, hlo⟩ := ok
  intro H locs la hM hR hS hl
  refine run_W (rest := rest.map (tv X)) (va_runV (C := y.cls) (b := X.1 a i) (As := av.map (tv X)) (rest := rest.map (tv X)) ⟨hx, hb, hml, hown, hts⟩ ct ⟨hw.1.callB hts (by rw [hfr, hlo]; exact hf), hts _ hw.2.1, hts _ hw.2.2⟩ ⟨Wo_blind X σ _, ?_, fun U hU hW => ⟨rfl, by rw [hU]; exact hM, hR, hK.moved hW hU hS⟩⟩ rfl (by rw [List.length_map]; exact hn) hl.1 ?_ ?_ hd ⟨Nat.zero_le _, Nat.zero_le _⟩) hS ?_
  · have := va_recv hK.1 (hM.one hv) hc (q0 := 0) (by rw [he]; rfl)
    exact this
  · have := map_stk X hst
    rw [List.map_cons] at this
    exact this
  · refine lv_room ?_
    rw [catS_eq]
    exact h8
  · intro r σ' H1 locs1 hp hM1 hR1 hS1
    rw [← map_opt]
    exact kk r σ' hp H1 locs1 la hM1 hR1 hS1 hl
theorem g_callS {idx : Nat} {y : MethodName} {cb : ByteArray} {mL n fr2 lo2 : Nat} {ret : Option FieldType} {av rest : List AV} {post : Option AV → Mm → Prop} (ok : MOk X M cc nL fr lo own) (hd : decode cc pc = .ok (.invokestatic idx, 3)) (hw : MS own idx y cb mL ret n) (ct : Ct X M.2.1 y cb mL ret fr2 lo2 σ av post)
    (hf : fr2 + 1 ≤ fr ∧ 8 + (mL + 11) + lo2 ≤ lo) (hn : av.length = n) (hst : st = av.reverse ++ rest) (h8 : catS rest ≤ 8)
    (kk : ∀ (r : Option AV) (σ' : Mm), post r σ' → G X M cc nL σ' (pc + 3) ls (r.toList ++ rest)) : G X M cc nL σ pc ls st := by
  obtain ⟨p, l, e, R, s, m, args, below, meth, c, Q⟩ := M
  obtain ⟨hx, hb, hml, hown, hts, hK, hfr, hlo⟩ := ok
  intro H locs la hM hR hS hl
  refine run_W (rest := rest.map (tv X)) (va_runS (As := av.map (tv X)) (rest := rest.map (tv X)) ⟨hx, hb, hml, hown, hts⟩ ct ⟨hw.1.callB hts (by rw [hfr, hlo]; exact hf), hts _ hw.2⟩ ⟨Wo_blind X σ _, fun U hU hW => ⟨rfl, by rw [hU]; exact hM, hR, hK.moved hW hU hS⟩⟩ rfl (by rw [List.length_map]; exact hn) hl.1 (map_stk X hst) ?_ hd ⟨Nat.zero_le _, Nat.zero_le _⟩) hS ?_
  · refine lv_room ?_
    rw [catS_eq]
    exact h8
  · intro r σ' H1 locs1 hp hM1 hR1 hS1
    rw [← map_opt]
    exact kk r σ' hp H1 locs1 la hM1 hR1 hS1 hl
theorem g_callN {idx : Nat} {y : MethodName} {cb : ByteArray} {mL n fr2 lo2 : Nat} {ret : Option FieldType} {av rest : List AV} {post : Option AV → Mm → Prop} (ok : MOk X M cc nL fr lo own) (hd : decode cc pc = .ok (.invokestatic idx, 3)) (hw : MN own idx y cb mL ret n) (ct : Ct X M.2.1 y cb mL ret fr2 lo2 σ av post)
    (hf : fr2 + 1 ≤ fr ∧ 8 + (mL + 11) + lo2 ≤ lo) (hn : av.length = n) (hst : st = av.reverse ++ rest) (h8 : catS rest ≤ 8)
    (kk : ∀ (r : Option AV) (σ' : Mm), post r σ' → G X M cc nL σ' (pc + 3) ls (r.toList ++ rest)) : G X M cc nL σ pc ls st := by
  obtain ⟨p, l, e, R, s, m, args, below, meth, c, Q⟩ := M
  obtain ⟨hx, hb, hml, hown, hts, hK, hfr, hlo⟩ := ok
  intro H locs la hM hR hS hl
  refine run_W (rest := rest.map (tv X)) (va_runSN (As := av.map (tv X)) (rest := rest.map (tv X)) ⟨hx, hb, hml, hown, hts⟩ ct ⟨va_cnB n hts (good_cons hw.2.1) rfl rfl rfl (hK.2.2.2.2.1 _ hw.1) (hts _ hw.2.2.1) hw.2.2.2.1 (by rw [hfr, hlo]; exact hf), hts _ hw.2.2.2.2, trivial⟩ ⟨Wo_blind X σ _, fun U hU hW => ⟨rfl, by rw [hU]; exact hM, hR, hK.moved hW hU hS⟩⟩ rfl (by rw [List.length_map]; exact hn) hl.1 (map_stk X hst) ?_ hd ⟨Nat.zero_le _, Nat.zero_le _⟩) hS ?_
  · refine lv_room ?_
    rw [catS_eq]
    exact h8
  · intro r σ' H1 locs1 hp hM1 hR1 hS1
    rw [← map_opt]
    exact kk r σ' hp H1 locs1 la hM1 hR1 hS1 hl
/-- an answer and a memory as functions say -/
def Ans (r : Option AV) (σ : Mm) : Option AV → Mm → Prop := fun r' σ' => r' = r ∧ σ' = σ
/-- Math's -/
theorem g_max {idx : Nat} {a b : Int} (ok : MOk X M cc nL fr lo own) (hd : decode cc pc = .ok (.invokestatic idx, 3)) (hw : Cond.methodLink own idx Lib.Math.max.name ∈ Wds) (w1 : Cond.static Lib.Math.max.name ∈ Wds) (w2 : Cond.initialized "java/lang/Math" ∈ Wds) (w3 : Cond.code Lib.Math.max.name Lib.Math.max.code 2 (some .int) ∈ Wds) (hf : 1 ≤ fr ∧ catS st + 13 ≤ lo) (ra : R32 a) (rb : R32 b)
    (kk : G X M cc nL σ (pc + 3) ls (.inl (max a b) :: st)) : G X M cc nL σ pc ls (.inl b :: .inl a :: st) := by
  obtain ⟨p, l, e, R, s, m, args, below, meth, c, Q⟩ := M
  obtain ⟨hx, hb, hml, hown, hts, hK, hfr, hlo⟩ := ok
  intro H locs la hM hR hS hl
  have k := kk H locs la hM hR hS hl
  refine va_mmax (x := iI a) (y := iI b) hx hb (hml.trans hl.1.symm) hown (hts _ hw) (hts _ w1) (hts _ w2) (hts _ w3) (by rw [hfr]; exact hf.1) (by rw [hlo, catS_eq]; exact hf.2) (Nat.zero_le _) (Nat.zero_le _) hd ?_
  have e1 : (if iI a < iI b then iI b else iI a) = iI (max a b) := by
    by_cases h : a < b
    · rw [if_pos ((iI_lt ra rb).mpr h), Int.max_eq_right (by omega)]
    · rw [if_neg (fun z => h ((iI_lt ra rb).mp z)), Int.max_eq_left (by omega)]
  rw [e1]
  exact k
theorem g_min {idx : Nat} {a b : Int} (ok : MOk X M cc nL fr lo own) (hd : decode cc pc = .ok (.invokestatic idx, 3)) (hw : Cond.methodLink own idx Lib.Math.min.name ∈ Wds) (w1 : Cond.static Lib.Math.min.name ∈ Wds) (w2 : Cond.initialized "java/lang/Math" ∈ Wds) (w3 : Cond.code Lib.Math.min.name Lib.Math.min.code 2 (some .int) ∈ Wds) (hf : 1 ≤ fr ∧ catS st + 13 ≤ lo) (ra : R32 a) (rb : R32 b)
    (kk : G X M cc nL σ (pc + 3) ls (.inl (min a b) :: st)) : G X M cc nL σ pc ls (.inl b :: .inl a :: st) := by
  obtain ⟨p, l, e, R, s, m, args, below, meth, c, Q⟩ := M
  obtain ⟨hx, hb, hml, hown, hts, hK, hfr, hlo⟩ := ok
  intro H locs la hM hR hS hl
  have k := kk H locs la hM hR hS hl
  have e1 : iI (min a b) = (if iI a < iI b then iI a else iI b) := by
    by_cases h : a < b
    · rw [if_pos ((iI_lt ra rb).mpr h), Int.min_eq_left (by omega)]
    · rw [if_neg (fun z => h ((iI_lt ra rb).mp z)), Int.min_eq_right (by omega)]
  have e2 : iI (min a b) = (if iI b < iI a then iI b else iI a) := by
    by_cases h : b < a
    · rw [if_pos ((iI_lt rb ra).mpr h), Int.min_eq_right (by omega)]
    · rw [if_neg (fun z => h ((iI_lt rb ra).mp z)), Int.min_eq_left (by omega)]
  have e3 : iI (min a b) = (if iI a ≤ iI b then iI a else iI b) := by
    by_cases h : a ≤ b
    · rw [if_pos ((iI_le ra rb).mpr h), Int.min_eq_left (by omega)]
    · rw [if_neg (fun z => h ((iI_le ra rb).mp z)), Int.min_eq_right (by omega)]
  refine va_mmin (x := iI a) (y := iI b) hx hb (hml.trans hl.1.symm) hown (hts _ hw) (hts _ w1) (hts _ w2) (hts _ w3) (by rw [hfr]; exact hf.1) (by rw [hlo, catS_eq]; exact hf.2) (Nat.zero_le _) (Nat.zero_le _) hd ?_
  first | (rw [← e1]; exact k) | (rw [← e2]; exact k) | (rw [← e3]; exact k)
theorem g_abs {idx : Nat} {a : Int} (ok : MOk X M cc nL fr lo own) (hd : decode cc pc = .ok (.invokestatic idx, 3)) (hw : Cond.methodLink own idx Lib.Math.abs.name ∈ Wds) (w1 : Cond.static Lib.Math.abs.name ∈ Wds) (w2 : Cond.initialized "java/lang/Math" ∈ Wds) (w3 : Cond.code Lib.Math.abs.name Lib.Math.abs.code 1 (some .int) ∈ Wds) (hf : 1 ≤ fr ∧ catS st + 13 ≤ lo) (ra : R32 a)
    (kk : G X M cc nL σ (pc + 3) ls (.inl (if 0 ≤ a then a else 0 - a) :: st)) : G X M cc nL σ pc ls (.inl a :: st) := by
  obtain ⟨p, l, e, R, s, m, args, below, meth, c, Q⟩ := M
  obtain ⟨hx, hb, hml, hown, hts, hK, hfr, hlo⟩ := ok
  intro H locs la hM hR hS hl
  have k := kk H locs la hM hR hS hl
  refine va_mabs (x := iI a) hx hb (hml.trans hl.1.symm) hown (hts _ hw) (hts _ w1) (hts _ w2) (hts _ w3) (by rw [hfr]; exact hf.1) (by rw [hlo, catS_eq]; exact hf.2) (Nat.zero_le _) (Nat.zero_le _) hd ?_
  have e1 : (if 0 ≤ iI a then iI a else 0 - iI a) = iI (if 0 ≤ a then a else 0 - a) := by
    by_cases h : 0 ≤ a
    · rw [if_pos (by rw [← iI_0]; exact (iI_le r0 ra).mpr h), if_pos h]
    · rw [if_neg (fun z => h ((iI_le r0 ra).mp (by rw [iI_0]; exact z))), if_neg h, ← iI_0, iI_sub]
  rw [e1]
  exact k
theorem g_minL {idx : Nat} {a b : Int} (ok : MOk X M cc nL fr lo own) (hd : decode cc pc = .ok (.invokestatic idx, 3)) (hw : Cond.methodLink own idx Lib.MathLoose.min_long.x ∈ Wds) (w1 : Cond.static Lib.MathLoose.min_long.x ∈ Wds) (w2 : Cond.initialized "java/lang/Math" ∈ Wds) (w3 : Cond.code Lib.MathLoose.min_long.x Lib.MathLoose.min_long.code 4 (some .long) ∈ Wds) (hf : 1 ≤ fr ∧ catS st + 15 ≤ lo) (ra : R64 a) (rb : R64 b)
    (kk : G X M cc nL σ (pc + 3) ls (.inr (.inl (min a b)) :: st)) : G X M cc nL σ pc ls (.inr (.inl b) :: .inr (.inl a) :: st) := by
  obtain ⟨p, l, e, R, s, m, args, below, meth, c, Q⟩ := M
  obtain ⟨hx, hb, hml, hown, hts, hK, hfr, hlo⟩ := ok
  intro H locs la hM hR hS hl
  have k := kk H locs la hM hR hS hl
  have e1 : lI (min a b) = (if lI a < lI b then lI a else lI b) := by
    by_cases h : a < b
    · rw [if_pos ((lI_lt ra rb).mpr h), Int.min_eq_left (by omega)]
    · rw [if_neg (fun z => h ((lI_lt ra rb).mp z)), Int.min_eq_right (by omega)]
  have e2 : lI (min a b) = (if lI b < lI a then lI b else lI a) := by
    by_cases h : b < a
    · rw [if_pos ((lI_lt rb ra).mpr h), Int.min_eq_right (by omega)]
    · rw [if_neg (fun z => h ((lI_lt rb ra).mp z)), Int.min_eq_left (by omega)]
  have e3 : lI (min a b) = (if lI a ≤ lI b then lI a else lI b) := by
    by_cases h : a ≤ b
    · rw [if_pos ((lI_le ra rb).mpr h), Int.min_eq_left (by omega)]
    · rw [if_neg (fun z => h ((lI_le ra rb).mp z)), Int.min_eq_right (by omega)]
  refine va_mmin_long (x := lI a) (y := lI b) hx hb (hml.trans hl.1.symm) hown (hts _ hw) (hts _ w1) (hts _ w2) (hts _ w3) (by rw [hfr]; exact hf.1) (by rw [hlo, catS_eq]; exact hf.2) (Nat.zero_le _) (Nat.zero_le _) hd ?_
  first | (rw [← e1]; exact k) | (rw [← e2]; exact k) | (rw [← e3]; exact k)
end CALLS
/-! calls with an answer and a memory as functions say -/
theorem ansI {v v' : Int} {σ σ' : Mm} (h : v = v') (hs : σ = σ') : Ans (some (.inl v')) σ' (some (.inl v)) σ := by subst h; subst hs; exact ⟨rfl, rfl⟩
theorem ansL {v v' : Int} {σ σ' : Mm} (h : v = v') (hs : σ = σ') : Ans (some (.inr (.inl v'))) σ' (some (.inr (.inl v))) σ := by subst h; subst hs; exact ⟨rfl, rfl⟩
theorem ansV {σ σ' : Mm} (hs : σ = σ') : Ans none σ' none σ := by subst hs; exact ⟨rfl, rfl⟩
section CALLF
variable {X : XW} {M : MX} {cc : ByteArray} {nL fr lo : Nat} {own : String} {σ σ' : Mm} {pc : Nat} {ls : List (Nat × AV)} {st : List AV}
theorem g_cV {idx : Nat} {y : MethodName} {cb : ByteArray} {mL n fr2 lo2 a ci N : Nat} {ret : Option FieldType} {i : Int} {av rest : List AV} {fs : List Value} {T : u_T} {v : AV} (ok : MOk X M cc nL fr lo own) (hd : decode cc pc = .ok (.invokevirtual idx, 3)) (hw : MV own idx y cb mL ret n) (ct : Ct X M.2.1 y cb mL ret fr2 lo2 σ (.inr (.inr (a, i)) :: av) (Ans (some v) σ'))
    (hst : st = av.reverse ++ .inr (.inr (a, i)) :: rest) (hv : Vd a i) (he : encF X a i (σ a i) = .inr (ci, fs)) (hc : vwCl[ci]? = some (y.cls, T, N)) (hf : fr2 + 1 ≤ fr ∧ 8 + (mL + 11) + lo2 ≤ lo) (hn : av.length = n) (h8 : catS rest ≤ 8)
    (kk : G X M cc nL σ' (pc + 3) ls (v :: rest)) : G X M cc nL σ pc ls st :=
  g_callV ok hd hw ct hv he hc hf hn hst h8 (fun r s h => by obtain ⟨rfl, rfl⟩ := h; exact kk)
theorem g_cV0 {idx : Nat} {y : MethodName} {cb : ByteArray} {mL n fr2 lo2 a ci N : Nat} {ret : Option FieldType} {i : Int} {av rest : List AV} {fs : List Value} {T : u_T} (ok : MOk X M cc nL fr lo own) (hd : decode cc pc = .ok (.invokevirtual idx, 3)) (hw : MV own idx y cb mL ret n) (ct : Ct X M.2.1 y cb mL ret fr2 lo2 σ (.inr (.inr (a, i)) :: av) (Ans none σ'))
    (hst : st = av.reverse ++ .inr (.inr (a, i)) :: rest) (hv : Vd a i) (he : encF X a i (σ a i) = .inr (ci, fs)) (hc : vwCl[ci]? = some (y.cls, T, N)) (hf : fr2 + 1 ≤ fr ∧ 8 + (mL + 11) + lo2 ≤ lo) (hn : av.length = n) (h8 : catS rest ≤ 8)
    (kk : G X M cc nL σ' (pc + 3) ls rest) : G X M cc nL σ pc ls st :=
  g_callV ok hd hw ct hv he hc hf hn hst h8 (fun r s h => by obtain ⟨rfl, rfl⟩ := h; exact kk)
theorem g_cS {idx : Nat} {y : MethodName} {cb : ByteArray} {mL n fr2 lo2 : Nat} {ret : Option FieldType} {av rest : List AV} {v : AV} (ok : MOk X M cc nL fr lo own) (hd : decode cc pc = .ok (.invokestatic idx, 3)) (hw : MS own idx y cb mL ret n) (ct : Ct X M.2.1 y cb mL ret fr2 lo2 σ av (Ans (some v) σ'))
    (hst : st = av.reverse ++ rest) (hf : fr2 + 1 ≤ fr ∧ 8 + (mL + 11) + lo2 ≤ lo) (hn : av.length = n) (h8 : catS rest ≤ 8)
    (kk : G X M cc nL σ' (pc + 3) ls (v :: rest)) : G X M cc nL σ pc ls st :=
  g_callS ok hd hw ct hf hn hst h8 (fun r s h => by obtain ⟨rfl, rfl⟩ := h; exact kk)
theorem g_cS0 {idx : Nat} {y : MethodName} {cb : ByteArray} {mL n fr2 lo2 : Nat} {ret : Option FieldType} {av rest : List AV} (ok : MOk X M cc nL fr lo own) (hd : decode cc pc = .ok (.invokestatic idx, 3)) (hw : MS own idx y cb mL ret n) (ct : Ct X M.2.1 y cb mL ret fr2 lo2 σ av (Ans none σ'))
    (hst : st = av.reverse ++ rest) (hf : fr2 + 1 ≤ fr ∧ 8 + (mL + 11) + lo2 ≤ lo) (hn : av.length = n) (h8 : catS rest ≤ 8)
    (kk : G X M cc nL σ' (pc + 3) ls rest) : G X M cc nL σ pc ls st :=
  g_callS ok hd hw ct hf hn hst h8 (fun r s h => by obtain ⟨rfl, rfl⟩ := h; exact kk)
theorem g_cN {idx : Nat} {y : MethodName} {cb : ByteArray} {mL n fr2 lo2 : Nat} {ret : Option FieldType} {av rest : List AV} {v : AV} (ok : MOk X M cc nL fr lo own) (hd : decode cc pc = .ok (.invokestatic idx, 3)) (hw : MN own idx y cb mL ret n) (ct : Ct X M.2.1 y cb mL ret fr2 lo2 σ av (Ans (some v) σ'))
    (hst : st = av.reverse ++ rest) (hf : fr2 + 1 ≤ fr ∧ 8 + (mL + 11) + lo2 ≤ lo) (hn : av.length = n) (h8 : catS rest ≤ 8)
    (kk : G X M cc nL σ' (pc + 3) ls (v :: rest)) : G X M cc nL σ pc ls st :=
  g_callN ok hd hw ct hf hn hst h8 (fun r s h => by obtain ⟨rfl, rfl⟩ := h; exact kk)
end CALLF
