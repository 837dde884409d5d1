/-! making the world: a list of cells, new ones at its end -/
def tyC (cA : Nat → ClassId) : List (ClassId × FieldType) := [(cA 0, .int), (cA 1, .long), (cA 2, .boolean), (cA 3, .object RX0), (cA 4, .object RX6)]
def nestI : List Cond := [.methodLinkNest RX7 11 yX3_init RX7, .methodLinkNest RX7 22 yX6_init RX7, .methodLinkNest RX7 29 yX0_init RX7, .methodLinkNest RX7 32 yX5_init RX7, .methodLinkNest RX7 39 yX1_init RX7, .methodLinkNest RX7 53 yX2_init RX7]
def KnK (D : va_G) (cA : Nat → ClassId) (U : State) : Prop := va_K D vwCl (tyC cA) U ∧ (∀ w ∈ nestI, va_Nw w U) ∧ va_AO RX0 U ∧ va_AO RX6 U
theorem KnK.moved {D : va_G} {cA : Nat → ClassId} {s U : State} (h : KnK D cA s) (hW : s.WarmedH U.vm) : KnK D cA U := by
  obtain ⟨h1, h2, h3, h4⟩ := h
  refine ⟨va_K.moved hW.alike h1, ?_, h3.moved hW.alike, h4.moved hW.alike⟩
  intro w hw
  have hz := h2 w hw
  simp only [nestI, List.mem_cons, List.not_mem_nil, or_false] at hw
  rcases hw with rfl | rfl | rfl | rfl | rfl | rfl <;> exact va_Nw.warmM hW hz
theorem KnK.same {D : va_G} {cA : Nat → ClassId} {U V : State} (hv : V.vm = U.vm) (h : KnK D cA U) : KnK D cA V := by
  obtain ⟨h1, h2, h3, h4⟩ := h
  have ha : U.vm.Alike V.vm := by rw [hv]; exact Vm.Alike.refl _
  refine ⟨va_K.moved ha h1, ?_, h3.moved ha, h4.moved ha⟩
  intro w hw
  have hz := h2 w hw
  simp only [nestI, List.mem_cons, List.not_mem_nil, or_false] at hw
  rcases hw with rfl | rfl | rfl | rfl | rfl | rfl <;> exact va_Nw.same rfl hv.symm hz
def KG (D : va_G) (A : Nat → Prop) (M : MX) (nL : Nat) (pre lw : va_W) (kc sl pc : Nat) (ls : List (Nat × Value)) (st : List Value) : Prop := match M with
  | (p, l, e, R, s, m, args, below, meth, c, Q) => ∀ (H : Heap) (locs : List Loc) (la : Array Slot), va_P D vwCl (pre ++ lw) H → va_D A (pre ++ lw) → va_S A s.heap H locs → lv_has la nL ls → W p l e R s m args below meth c H locs kc sl Q (F0 m pc la st)
def KOk (D : va_G) (cA : Nat → ClassId) (A : Nat → Prop) (M : MX) (cc : ByteArray) (nL fr lo kM sM : Nat) (own : String) : Prop := match M with
  | (p, _, _, R, s, m, args, _, _, c, _) => p.tables.exec = Jvm.exec ∧ c.code = cc ∧ c.maxLocals = nL ∧ s.vm.findClass own = some m.cls ∧ (∀ w ∈ Wds, w.before args s = true) ∧ KnK D cA s ∧ (∀ q, s.heap.size ≤ q → A q) ∧ R.frames = fr ∧ R.locals = lo ∧ R.cells = kM ∧ R.slots = sM
def KNm (M : MX) : Prop := match M with
  | (_, _, _, _, _, _, _, _, meth, _, _) => meth.name = "<init>"
def PreK (D : va_G) (cA : Nat → ClassId) (A : Nat → Prop) (ws : va_W) : State → Prop := fun U => va_P D vwCl ws U.heap ∧ va_D A ws ∧ KnK D cA U ∧ ∀ q, U.heap.size ≤ q → A q
def PosK (D : va_G) (A : Nat → Prop) (S : va_W → Prop) : Array Value → State → Outcome → State → Prop := fun _ st oc t => oc = .returned none ∧ (∃ ws, S ws ∧ va_P D vwCl ws t.heap ∧ va_D A ws) ∧ va_F A st t
def CMk (D : va_G) (cA : Nat → ClassId) (A : Nat → Prop) (l : Launch) (y : MethodName) (cc : ByteArray) (maxL fr lo kc sl : Nat) (ws : va_W) (av : List Value) (S : va_W → Prop) : Prop :=
  Met l y (.code y cc maxL none :: Wds) ({ frames := fr, cells := kc, slots := sl, locals := lo }) (va_Pc av (PreK D cA A ws)) (PosK D A S) kc sl A
def KQ (D : va_G) (A : Nat → Prop) (M : MX) (S : va_W → Prop) (kM sM : Nat) : Prop := match M with
  | (_, _, _, _, s, _, args, below, meth, _, Q) => Q = MQ below (PosK D A S) args s kM sM A ∧ meth.sig.returnType = none ∧ meth.locks = false
theorem CMk.intro {D : va_G} {cA : Nat → ClassId} {A : Nat → Prop} {l : Launch} {y : MethodName} {cc : ByteArray} {maxL fr lo kc sl : Nat} {pre lw : va_W} {av : List Value} {S : va_W → Prop} {own : String} (hy : plainName y.cls = true) (hown : y.cls = own) (hlen : (lg_sl av).length ≤ maxL)
    (body : ∀ M : MX, M.2.1 = l → KOk D cA A M cc maxL fr lo kc sl own → KQ D A M S kc sl → (y.name = "<init>" → KNm M) → KG D A M maxL pre lw 0 0 0 (lv_args 0 av) []) : CMk D cA A l y cc maxL fr lo kc sl (pre ++ lw) av S := by
  refine Met.ofW (cc := cc) (maxL := maxL) (ret := none) hy rfl ?_
  intro p e s m args below meth c s₁ B hml hv
  obtain ⟨rfl, hP, hD, hK, hA⟩ := hv
  have hts := atoms_spec (ws := .code y cc maxL none :: Wds) B.pre
  have ho : s.vm.findClass own = some m.cls := hown ▸ findClass_of_methodNamed B.named
  have hnm := (name_of_methodNamed B.named B.method).1
  have b := body (p, l, e, (headSpec (.code y cc maxL none :: Wds) { frames := fr, cells := kc, slots := sl, locals := lo }).room, s, m, av.toArray, below, meth, c, MQ below (PosK D A S) av.toArray s kc sl A) rfl ⟨B.exec, B.bytes, hml, ho, fun w hw => hts w (List.mem_cons_of_mem _ hw), hK, hA, rfl, rfl, rfl, rfl⟩ ⟨rfl, B.returns, B.notSynchronized⟩ (fun h => hnm.trans h)
  rw [lg_entry_eq]
  exact b s.heap [] _ hP hD va_S.rf (lv_entry av hlen)
theorem at_app {α : Type} (pre lw : List α) (i : Nat) : (pre ++ lw)[pre.length + i]? = lw[i]? := by
  rw [List.getElem?_append_right (by omega)]
  congr 1
  omega
theorem set_app {α : Type} (pre lw : List α) (i : Nat) (x : α) : (pre ++ lw).set (pre.length + i) x = pre ++ lw.set i x := by
  induction pre with
  | nil => simp
  | cons a p ih =>
    rw [List.length_cons, show p.length + 1 + i = (p.length + i) + 1 by omega, List.cons_append, List.set_cons_succ, ih, List.cons_append]
/-- a final field, put by its own constructor -/
def FP (own : String) (idx ci k : Nat) (ty : FieldType) : Prop := ∃ (T : u_T) (N : Nat) (ty0 : Nat → FieldType), vwCl[ci]? = some (own, T, N) ∧ k < N ∧ Cond.fieldLink own idx own (T k).2.1 (T k).2.2.1 ∈ Wds ∧ (T k).1 = own ∧ (∀ w ∈ u_ws own T N, w ∈ Wds) ∧ (∀ k, k < N → parseFieldDescriptor (T k).2.2.1 = some (ty0 k)) ∧ (∀ a, a < N → ∀ b, b < N → a ≠ b → (T a).2.1 ≠ (T b).2.1) ∧ (T k).2.2.2 = true ∧ parseFieldDescriptor (T k).2.2.1 = some ty
/-- an object that can be made -/
def NW (own : String) (idx ci : Nat) (C : String) (N : Nat) (fs : List Value) : Prop := ∃ (T : u_T) (ty0 : Nat → FieldType), vwCl[ci]? = some (C, T, N) ∧ Cond.classLink own idx C ∈ Wds ∧ Cond.instantiable C N ∈ Wds ∧ Cond.initialized C ∈ Wds ∧ (∀ w ∈ u_ws C T N, w ∈ Wds) ∧ (∀ k, k < N → parseFieldDescriptor (T k).2.2.1 = some (ty0 k)) ∧ ∀ j, j < N → defaultValue (ty0 j) = vp_V fs j
/-- words of a constructor's call -/
def MI (own : String) (idx : Nat) (y : MethodName) (cb : ByteArray) (mL n : Nat) : Prop := y.name = "<init>" ∧ Cond.instanceMethod y ∈ Wds ∧ Cond.code y cb mL none ∈ Wds ∧ Cond.initialized y.cls ∈ Wds ∧ (y.cls ≠ "java/lang/invoke/MethodHandle" ∧ y.cls ≠ "java/lang/invoke/VarHandle" ∧ (parseMethodDescriptor y.desc).map (fun d => d.parameters.length) = some n)
section MAKE
variable {D : va_G} {cA : Nat → ClassId} {A : Nat → Prop} {M : MX} {cc : ByteArray} {nL fr lo kM sM kc sl pc : Nat} {own : String} {pre lw : va_W} {ls : List (Nat × Value)} {st : List Value}
theorem KG.re {pre2 lw2 : va_W} (h : pre ++ lw = pre2 ++ lw2) (k : KG D A M nL pre2 lw2 kc sl pc ls st) : KG D A M nL pre lw kc sl pc ls st := by
  obtain ⟨p, l, e, R, s, m, args, below, meth, c, Q⟩ := M
  intro H locs la hP hD hS hl
  rw [h] at hP hD
  exact k H locs la hP hD hS hl
theorem KG.pk {ls2 : List (Nat × Value)} (ks : List Nat) (h : lv_pick ls ks = ls2) (k : KG D A M nL pre lw kc sl pc ls2 st) : KG D A M nL pre lw kc sl pc ls st := by
  obtain ⟨p, l, e, R, s, m, args, below, meth, c, Q⟩ := M
  intro H locs la hP hD hS hl
  exact k H locs la hP hD hS (lv_sub hl ks h)
theorem k_aload {k : Fin 4} {i j q : Nat} (ok : KOk D cA A M cc nL fr lo kM sM own) (hd : decode cc pc = .ok (.aload_n k, 1)) (hi : (k : Nat) = i) (hk : ls[j]? = some (i, .ref q))
    (kk : KG D A M nL pre lw kc sl (pc + 1) ls (.ref q :: st)) : KG D A M nL pre lw kc sl pc ls st := by
  obtain ⟨p, l, e, R, s, m, args, below, meth, c, Q⟩ := M
  obtain ⟨hx, hb, hml, hown, hts, hK, hA, hfr, hlo, hkM, hsM⟩ := ok
  intro H locs la hP hD hS hl
  exact lv_aload_n hx hb hd hi (lv_at hl j hk) (kk H locs la hP hD hS hl)
theorem k_iload {k : Fin 4} {i j : Nat} {z : Int} (ok : KOk D cA A M cc nL fr lo kM sM own) (hd : decode cc pc = .ok (.iload_n k, 1)) (hi : (k : Nat) = i) (hk : ls[j]? = some (i, .int (iI z)))
    (kk : KG D A M nL pre lw kc sl (pc + 1) ls (.int (iI z) :: st)) : KG D A M nL pre lw kc sl pc ls st := by
  obtain ⟨p, l, e, R, s, m, args, below, meth, c, Q⟩ := M
  obtain ⟨hx, hb, hml, hown, hts, hK, hA, hfr, hlo, hkM, hsM⟩ := ok
  intro H locs la hP hD hS hl
  exact lv_iload_n hx hb hd hi (lv_at hl j hk) (kk H locs la hP hD hS hl)
theorem k_istore {k : Fin 4} {i : Nat} {z : Int} {ls2 : List (Nat × Value)} (ok : KOk D cA A M cc nL fr lo kM sM own) (hd : decode cc pc = .ok (.istore_n k, 1)) (hi : (k : Nat) = i) (hn : i < nL) (hl2 : (i, Value.int (iI z)) :: ls.filter (fun q => !(q.1 == i) && !(q.1 + 1 == i && q.2.category == 2)) = ls2)
    (kk : KG D A M nL pre lw kc sl (pc + 1) ls2 st) : KG D A M nL pre lw kc sl pc ls (.int (iI z) :: st) := by
  obtain ⟨p, l, e, R, s, m, args, below, meth, c, Q⟩ := M
  obtain ⟨hx, hb, hml, hown, hts, hK, hA, hfr, hlo, hkM, hsM⟩ := ok
  intro H locs la hP hD hS hl
  exact lv_istore_n hx hb hd hi hl hn hl2 (fun la2 h2 => kk H locs la2 hP hD hS h2)
theorem k_astore {k : Fin 4} {i q : Nat} {ls2 : List (Nat × Value)} (ok : KOk D cA A M cc nL fr lo kM sM own) (hd : decode cc pc = .ok (.astore_n k, 1)) (hi : (k : Nat) = i) (hn : i < nL) (hl2 : (i, Value.ref q) :: ls.filter (fun q => !(q.1 == i) && !(q.1 + 1 == i && q.2.category == 2)) = ls2)
    (kk : KG D A M nL pre lw kc sl (pc + 1) ls2 st) : KG D A M nL pre lw kc sl pc ls (.ref q :: st) := by
  obtain ⟨p, l, e, R, s, m, args, below, meth, c, Q⟩ := M
  obtain ⟨hx, hb, hml, hown, hts, hK, hA, hfr, hlo, hkM, hsM⟩ := ok
  intro H locs la hP hD hS hl
  exact lv_astore_n hx hb hd hi hl hn hl2 (fun la2 h2 => kk H locs la2 hP hD hS h2)
theorem k_iinc {i j : Nat} {n z v : Int} {ls2 : List (Nat × Value)} (ok : KOk D cA A M cc nL fr lo kM sM own) (hd : decode cc pc = .ok (.iinc i n, 3)) (hk : ls[j]? = some (i, .int (iI z))) (hv : z + n = v) (hn : i < nL) (hl2 : (i, Value.int (iI v)) :: ls.filter (fun q => !(q.1 == i) && !(q.1 + 1 == i && q.2.category == 2)) = ls2)
    (kk : KG D A M nL pre lw kc sl (pc + 3) ls2 st) : KG D A M nL pre lw kc sl pc ls st := by
  obtain ⟨p, l, e, R, s, m, args, below, meth, c, Q⟩ := M
  obtain ⟨hx, hb, hml, hown, hts, hK, hA, hfr, hlo, hkM, hsM⟩ := ok
  intro H locs la hP hD hS hl
  refine lv_iinc (v := iI v) hx hb hd hl (k := j) hk ?_ hn hl2 (fun la2 h2 => kk H locs la2 hP hD hS h2)
  rw [← hv, ← iI_add]
  rfl
theorem k_iconst {n v : Int} (ok : KOk D cA A M cc nL fr lo kM sM own) (hd : decode cc pc = .ok (.iconst n, 1)) (hv : Int32.ofInt n = iI v)
    (kk : KG D A M nL pre lw kc sl (pc + 1) ls (.int (iI v) :: st)) : KG D A M nL pre lw kc sl pc ls st := by
  obtain ⟨p, l, e, R, s, m, args, below, meth, c, Q⟩ := M
  obtain ⟨hx, hb, hml, hown, hts, hK, hA, hfr, hlo, hkM, hsM⟩ := ok
  intro H locs la hP hD hS hl
  exact lv_iconst hx hb hd hv (kk H locs la hP hD hS hl)
theorem k_bipush {n v : Int} (ok : KOk D cA A M cc nL fr lo kM sM own) (hd : decode cc pc = .ok (.bipush n, 2)) (hv : (Int8.ofInt n).toInt32 = iI v)
    (kk : KG D A M nL pre lw kc sl (pc + 2) ls (.int (iI v) :: st)) : KG D A M nL pre lw kc sl pc ls st := by
  obtain ⟨p, l, e, R, s, m, args, below, meth, c, Q⟩ := M
  obtain ⟨hx, hb, hml, hown, hts, hK, hA, hfr, hlo, hkM, hsM⟩ := ok
  intro H locs la hP hD hS hl
  exact lv_bipush hx hb hd hv (kk H locs la hP hD hS hl)
theorem k_sipush {n v : Int} (ok : KOk D cA A M cc nL fr lo kM sM own) (hd : decode cc pc = .ok (.sipush n, 3)) (hv : (Int16.ofInt n).toInt32 = iI v)
    (kk : KG D A M nL pre lw kc sl (pc + 3) ls (.int (iI v) :: st)) : KG D A M nL pre lw kc sl pc ls st := by
  obtain ⟨p, l, e, R, s, m, args, below, meth, c, Q⟩ := M
  obtain ⟨hx, hb, hml, hown, hts, hK, hA, hfr, hlo, hkM, hsM⟩ := ok
  intro H locs la hP hD hS hl
  exact lv_sipush hx hb hd hv (kk H locs la hP hD hS hl)
theorem k_dup {v : Value} (ok : KOk D cA A M cc nL fr lo kM sM own) (hd : decode cc pc = .ok (.dup, 1)) (hv : v.category = 1)
    (kk : KG D A M nL pre lw kc sl (pc + 1) ls (v :: v :: st)) : KG D A M nL pre lw kc sl pc ls (v :: st) := by
  obtain ⟨p, l, e, R, s, m, args, below, meth, c, Q⟩ := M
  obtain ⟨hx, hb, hml, hown, hts, hK, hA, hfr, hlo, hkM, hsM⟩ := ok
  intro H locs la hP hD hS hl
  exact lv_dup hx hb hd hv (kk H locs la hP hD hS hl)
theorem k_goto {off : Int} (tgt : Nat) (ok : KOk D cA A M cc nL fr lo kM sM own) (hd : decode cc pc = .ok (.goto off, 3)) (ht : (pc : Int) + off = (tgt : Int))
    (kk : KG D A M nL pre lw kc sl tgt ls st) : KG D A M nL pre lw kc sl pc ls st := by
  obtain ⟨p, l, e, R, s, m, args, below, meth, c, Q⟩ := M
  obtain ⟨hx, hb, hml, hown, hts, hK, hA, hfr, hlo, hkM, hsM⟩ := ok
  intro H locs la hP hD hS hl
  exact lv_goto hx hb hd ht (kk H locs la hP hD hS hl)
theorem k_ge {x y off : Int} (tgt : Nat) (ok : KOk D cA A M cc nL fr lo kM sM own) (hd : decode cc pc = .ok (.if_icmp .ge off, 3)) (ht : (pc : Int) + off = (tgt : Int)) (rx : R32 x) (ry : R32 y)
    (kt : y ≤ x → KG D A M nL pre lw kc sl tgt ls st) (kf : x < y → KG D A M nL pre lw kc sl (pc + 3) ls st) : KG D A M nL pre lw kc sl pc ls (.int (iI y) :: .int (iI x) :: st) := by
  obtain ⟨p, l, e, R, s, m, args, below, meth, c, Q⟩ := M
  obtain ⟨hx, hb, hml, hown, hts, hK, hA, hfr, hlo, hkM, hsM⟩ := ok
  intro H locs la hP hD hS hl
  exact lv_icmp_ge hx hb hd ht (fun q => kt ((iI_le ry rx).mp q) H locs la hP hD hS hl) (fun q => kf (by have h9 : ¬ y ≤ x := fun z => q ((iI_le ry rx).mpr z); omega) H locs la hP hD hS hl)
theorem k_obj {idx q : Nat} (ok : KOk D cA A M cc nL fr lo kM sM own) (hd : decode cc pc = .ok (.invokespecial idx, 3)) (hw : Cond.methodLink own idx Lib.objectInit ∈ Wds) (hf : 1 ≤ fr ∧ 12 ≤ lo)
    (kk : KG D A M nL pre lw kc sl (pc + 3) ls []) : KG D A M nL pre lw kc sl pc ls [.ref q] := by
  obtain ⟨p, l, e, R, s, m, args, below, meth, c, Q⟩ := M
  obtain ⟨hx, hb, hml, hown, hts, hK, hA, hfr, hlo, hkM, hsM⟩ := ok
  intro H locs la hP hD hS hl
  exact W.objInit hx hb hown (hts _ hw) (hts _ wd1_20) (hts _ wd1_21) rfl (by rw [hml]; exact hl.1) rfl hd (by rw [hfr]; exact hf.1) (by rw [hlo]; exact hf.2) (kk H locs la hP hD hS hl)
theorem k_newa {atype : ArrayType} {ty : FieldType} (t : Nat) {n : Int} {N : Nat} {a0 : vp_A} (ok : KOk D cA A M cc nL fr lo kM sM own) (hd : decode cc pc = .ok (.newarray atype, 2)) (hw : Cond.arrayClass (newarray.typeOf atype) ∈ Wds) (hty : newarray.typeOf atype = ty) (ht : (tyC cA)[t]? = some (cA t, ty)) (hra : ∀ (U : State) (c : ClassId), va_RA U c ty → U.vm.findClass ("[" ++ ty.toString) = some c)
    (ha : ∀ cA : ClassId, vp_cell cA a0 = arrV cA N (fun _ => defaultValue ty)) (hn : ¬ iI n < 0) (hN : (iI n).toNatClampNeg = N) (hbytes : N * componentBytes ty ≤ 536870912) (hc : kc + 1 ≤ kM ∧ sl + N ≤ sM)
    (kk : ∀ q : Nat, KG D A M nL pre (lw ++ [(q, .inl (cA t, a0))]) (kc + 1) (sl + N) (pc + 2) ls (.ref q :: st)) : KG D A M nL pre lw kc sl pc ls (.int (iI n) :: st) := by
  obtain ⟨p, l, e, R, s, m, args, below, meth, c, Q⟩ := M
  obtain ⟨hx, hb, hml, hown, hts, hK, hA, hfr, hlo, hkM, hsM⟩ := ok
  intro H locs la hP hD hS hl
  refine va_newa hx hb (hts _ hw) hty hK.1 hP hD hS hA ha hn hN hbytes (by rw [hkM]; exact hc.1) (by rw [hsM]; exact hc.2) hd (fun q c1 H1 hK1 hP1 hD1 hS1 => ?_)
  have e1 := hra _ _ (hK.1.2 t _ ht).2
  have e2 := hra _ _ (hK1.2 (tyC cA).length (c1, ty) (by rw [List.getElem?_append_right (Nat.le_refl _)]; simp)).2
  have e3 : c1 = cA t := Option.some.inj (e2.symm.trans e1)
  subst e3
  rw [List.append_assoc] at hP1 hD1
  exact kk q H1 locs la hP1 hD1 hS1 hl
theorem k_anew {idx : Nat} {C : String} (t : Nat) {n : Int} {N : Nat} (ok : KOk D cA A M cc nL fr lo kM sM own) (hd : decode cc pc = .ok (.anewarray idx, 3)) (hw : Cond.classLink own idx C ∈ Wds) (ht : (tyC cA)[t]? = some (cA t, .object C)) (hao : ∀ U, KnK D cA U → va_AO C U)
    (hn : ¬ iI n < 0) (hN : (iI n).toNatClampNeg = N) (hbytes : N * 4 ≤ 536870912) (hc : kc + 1 ≤ kM ∧ sl + N ≤ sM)
    (kk : ∀ q : Nat, KG D A M nL pre (lw ++ [(q, .inl (cA t, N, .inr (.inr (.inr (.inr (fun _ => none))))))]) (kc + 1) (sl + N) (pc + 3) ls (.ref q :: st)) : KG D A M nL pre lw kc sl pc ls (.int (iI n) :: st) := by
  obtain ⟨p, l, e, R, s, m, args, below, meth, c, Q⟩ := M
  obtain ⟨hx, hb, hml, hown, hts, hK, hA, hfr, hlo, hkM, hsM⟩ := ok
  intro H locs la hP hD hS hl
  refine va_newq hx hb hown (hts _ hw) (hao _ hK) hK.1 hP hD hS hA hn hN hbytes (by rw [hkM]; exact hc.1) (by rw [hsM]; exact hc.2) hd (fun q c1 H1 hK1 hP1 hD1 hS1 => ?_)
  obtain ⟨_, _, -, -, -, e1⟩ := (hK.1.2 t _ ht).2
  obtain ⟨_, _, -, -, -, e2⟩ := (hK1.2 (tyC cA).length (c1, .object C) (by rw [List.getElem?_append_right (Nat.le_refl _)]; simp)).2
  have e3 : c1 = cA t := Option.some.inj (e2.symm.trans e1)
  subst e3
  rw [List.append_assoc] at hP1 hD1
  exact kk q H1 locs la hP1 hD1 hS1 hl
theorem k_new {idx ci N : Nat} {C : String} {fs : List Value} (ok : KOk D cA A M cc nL fr lo kM sM own) (hd : decode cc pc = .ok (.new idx, 3)) (hw : NW own idx ci C N fs) (hc : kc + 1 ≤ kM ∧ sl + N ≤ sM)
    (kk : ∀ q : Nat, KG D A M nL pre (lw ++ [(q, .inr (ci, fs))]) (kc + 1) (sl + N) (pc + 3) ls (.ref q :: st)) : KG D A M nL pre lw kc sl pc ls st := by
  obtain ⟨p, l, e, R, s, m, args, below, meth, c, Q⟩ := M
  obtain ⟨hx, hb, hml, hown, hts, hK, hA, hfr, hlo, hkM, hsM⟩ := ok
  intro H locs la hP hD hS hl
  obtain ⟨T, ty0, h1, h2, h3, h4, h5, h6, h7⟩ := hw
  refine va_new hx hb hts h5 ty0 h6 hown (hts _ h2) (hts _ h3) (hts _ h4) hK.1 hP hD hS hA h1 h7 (by rw [hkM]; exact hc.1) (by rw [hsM]; exact hc.2) hd (fun q H1 hP1 hD1 hS1 => ?_)
  rw [List.append_assoc] at hP1 hD1
  exact kk q H1 locs la hP1 hD1 hS1 hl
theorem k_putF {idx ci k i a : Nat} {fs : List Value} {ty : FieldType} {v : Value} (ok : KOk D cA A M cc nL fr lo kM sM own) (hnm : KNm M) (hd : decode cc pc = .ok (.putfield idx, 3)) (hw : FP own idx ci k ty) (hi : lw[i]? = some (a, .inr (ci, fs))) (hn : narrow ty v = v) (hfit : fits ty v = true) (hk : k < fs.length)
    (kk : KG D A M nL pre (lw.set i (a, .inr (ci, fs.set k v))) kc sl (pc + 3) ls st) : KG D A M nL pre lw kc sl pc ls (v :: .ref a :: st) := by
  obtain ⟨p, l, e, R, s, m, args, below, meth, c, Q⟩ := M
  obtain ⟨hx, hb, hml, hown, hts, hK, hA, hfr, hlo, hkM, hsM⟩ := ok
  intro H locs la hP hD hS hl
  obtain ⟨T, N, ty0, h1, h2, h3, h4, h5, h6, h7, h8, h9⟩ := hw
  refine va_putF hx hb hts h5 ty0 h6 h7 hown hK.1 hP hD hS (pre.length + i) ((at_app pre lw i).trans hi) h1 k h2 (hts _ h3) (fun x h => by rw [h4] at h; exact h) h8 hnm h4 h9 hn hfit hk hd (fun H1 locs1 hP1 hD1 hS1 => ?_)
  rw [set_app] at hP1 hD1
  exact kk H1 locs1 la hP1 hD1 hS1 hl
theorem k_puti {idx ci k i a : Nat} {fs : List Value} {v : Int} (ok : KOk D cA A M cc nL fr lo kM sM own) (hd : decode cc pc = .ok (.putfield idx, 3)) (hw : FW own idx ci k .int) (hi : lw[i]? = some (a, .inr (ci, fs))) (hk : k < fs.length)
    (kk : KG D A M nL pre (lw.set i (a, .inr (ci, fs.set k (.int (iI v))))) kc sl (pc + 3) ls st) : KG D A M nL pre lw kc sl pc ls (.int (iI v) :: .ref a :: st) := by
  obtain ⟨p, l, e, R, s, m, args, below, meth, c, Q⟩ := M
  obtain ⟨hx, hb, hml, hown, hts, hK, hA, hfr, hlo, hkM, hsM⟩ := ok
  intro H locs la hP hD hS hl
  obtain ⟨C, T, N, ty0, hc, hkN, hlink, hC, hin, hty, hnm, hfin, hpd⟩ := hw
  refine va_put hx hb hts hin ty0 hty hnm hown hK.1 hP hD hS (pre.length + i) ((at_app pre lw i).trans hi) hc k hkN (hts _ hlink) (fun x h => by rw [hC] at h; exact h) hfin hpd rfl rfl hk hd (fun H1 locs1 hP1 hD1 hS1 => ?_)
  rw [set_app] at hP1 hD1
  exact kk H1 locs1 la hP1 hD1 hS1 hl
theorem k_getf {idx ci k i a : Nat} {fs : List Value} {v : Value} (ok : KOk D cA A M cc nL fr lo kM sM own) (hd : decode cc pc = .ok (.getfield idx, 3)) (hw : FL own idx ci k) (hi : lw[i]? = some (a, .inr (ci, fs))) (hk : fs[k]? = some v)
    (kk : KG D A M nL pre lw kc sl (pc + 3) ls (v :: st)) : KG D A M nL pre lw kc sl pc ls (.ref a :: st) := by
  obtain ⟨p, l, e, R, s, m, args, below, meth, c, Q⟩ := M
  obtain ⟨hx, hb, hml, hown, hts, hK, hA, hfr, hlo, hkM, hsM⟩ := ok
  intro H locs la hP hD hS hl
  obtain ⟨C, T, N, hc, hkN, hlink, hC, hin⟩ := hw
  exact va_get hx hb hts hin hown hK.1 hP (pre.length + i) ((at_app pre lw i).trans hi) hc k hkN (hts _ hlink) (fun x h => by rw [hC] at h; exact h) hk hd (kk H locs la hP hD hS hl)
theorem k_iast {i a n : Nat} {z x : Int} {f : Nat → Int32} (ok : KOk D cA A M cc nL fr lo kM sM own) (hd : decode cc pc = .ok (.iastore, 1)) (hi : lw[i]? = some (a, .inl (cA 0, n, .inl f))) (hz : 0 ≤ z ∧ z < n) (hn : n < 2147483648)
    (kk : KG D A M nL pre (lw.set i (a, .inl (cA 0, n, .inl (upd f z.toNat (iI x))))) kc sl (pc + 1) ls st) : KG D A M nL pre lw kc sl pc ls (.int (iI x) :: .int (iI z) :: .ref a :: st) := by
  obtain ⟨p, l, e, R, s, m, args, below, meth, c, Q⟩ := M
  obtain ⟨hx, hb, hml, hown, hts, hK, hA, hfr, hlo, hkM, hsM⟩ := ok
  intro H locs la hP hD hS hl
  refine va_iast hx hb hK.1 hP hD hS (pre.length + i) 0 ((at_app pre lw i).trans hi) rfl (iI_in hz.1 hz.2 hn) hd (fun H1 locs1 hP1 hD1 hS1 => ?_)
  rw [set_app, iI_clamp hz.1 ⟨by omega, by omega⟩] at hP1 hD1
  exact kk H1 locs1 la hP1 hD1 hS1 hl
theorem k_aast {i j t a n v ci : Nat} {z : Int} {r : vw_C} {vs : List Value} {f : Nat → Option Nat} (ok : KOk D cA A M cc nL fr lo kM sM own) (hd : decode cc pc = .ok (.aastore, 1)) (hi : lw[i]? = some (a, .inl (cA t, n, .inr (.inr (.inr (.inr f)))))) (ht : (tyC cA)[t]? = some (cA t, .object r.1)) (hj : lw[j]? = some (v, .inr (ci, vs))) (hc : vwCl[ci]? = some r) (hz : 0 ≤ z ∧ z < n) (hn : n < 2147483648)
    (kk : KG D A M nL pre (lw.set i (a, .inl (cA t, n, .inr (.inr (.inr (.inr (va_up f z.toNat (some v)))))))) kc sl (pc + 1) ls st) : KG D A M nL pre lw kc sl pc ls (.ref v :: .int (iI z) :: .ref a :: st) := by
  obtain ⟨p, l, e, R, s, m, args, below, meth, c, Q⟩ := M
  obtain ⟨hx, hb, hml, hown, hts, hK, hA, hfr, hlo, hkM, hsM⟩ := ok
  intro H locs la hP hD hS hl
  refine va_astq hx hb hK.1 hP hD hS (pre.length + i) t (pre.length + j) ci ((at_app pre lw i).trans hi) ht ((at_app pre lw j).trans hj) hc (iI_in hz.1 hz.2 hn) hd (fun H1 locs1 hP1 hD1 hS1 => ?_)
  rw [set_app, iI_clamp hz.1 ⟨by omega, by omega⟩] at hP1 hD1
  exact kk H1 locs1 la hP1 hD1 hS1 hl
theorem k_alen {i a n t : Nat} {x : vp_A} {ty : FieldType} (ok : KOk D cA A M cc nL fr lo kM sM own) (hd : decode cc pc = .ok (.arraylength, 1)) (hi : lw[i]? = some (a, .inl (cA t, x))) (ht : (tyC cA)[t]? = some (cA t, ty)) (hx1 : x.1 = n)
    (kk : KG D A M nL pre lw kc sl (pc + 1) ls (.int (iI n) :: st)) : KG D A M nL pre lw kc sl pc ls (.ref a :: st) := by
  obtain ⟨p, l, e, R, s, m, args, below, meth, c, Q⟩ := M
  obtain ⟨hx, hb, hml, hown, hts, hK, hA, hfr, hlo, hkM, hsM⟩ := ok
  intro H locs la hP hD hS hl
  exact va_alen hx hb hK.1 hP (pre.length + i) t ((at_app pre lw i).trans hi) ht (by rw [hx1]; exact iI_nat n) hd (kk H locs la hP hD hS hl)
theorem k_vret {S : va_W → Prop} (ok : KOk D cA A M cc nL fr lo kM sM own) (hq : KQ D A M S kM sM) (hd : decode cc pc = .ok (.return_, 1)) (hc : kc ≤ kM ∧ sl ≤ sM) (hp : S (pre ++ lw)) : KG D A M nL pre lw kc sl pc ls [] := by
  obtain ⟨p, l, e, R, s, m, args, below, meth, c, Q⟩ := M
  obtain ⟨hx, hb, hml, hown, hts, hK, hA, hfr, hlo, hkM, hsM⟩ := ok
  obtain ⟨rfl, hr, hlk⟩ := hq
  intro H locs la hP hD hS hl
  refine W.widen (k := kM) (n := sM) hc.1 hc.2 ?_
  exact W.vret hx hb hr (fun t ht hW => ⟨rfl, ⟨pre ++ lw, hp, by rw [ht]; exact hP, hD⟩, hS.F ht⟩) hS.2.2 hd hlk
theorem PreK_blind (ws : va_W) (av : List Value) : FrameBlind (va_Pc av (PreK D cA A ws)) := by
  intro a U g mk h
  obtain ⟨h1, h2, h3, h4, h5⟩ := h
  exact ⟨h1, h2, h3, KnK.same (U := U) (V := U.calling g mk a) rfl h4, h5⟩
theorem run_K {p : Program} {l : Launch} {e : Env} {R : Room} {s : State} {m : MethodId} {args : Array Value} {below : List Frame} {meth : Method} {c : Code} {H : Heap} {locs : List Loc} {Q : State → Prop} {la : Array Slot} {st0 rest : List Value} {S : va_W → Prop} {a : Array Value} {mc ms : Nat}
    (hr : va_Run p l e R s m args below meth c H locs kc sl mc ms (F0 m pc la st0) rest (PosK D A S a) A) (hS : va_S A s.heap H locs)
    (kk : ∀ (ws : va_W) (H1 : Heap) (locs1 : List Loc), S ws → va_P D vwCl ws H1 → va_D A ws → va_S A s.heap H1 locs1 → W p l e R s m args below meth c H1 locs1 (kc + mc) (sl + ms) Q (F0 m (pc + 3) la rest)) : W p l e R s m args below meth c H locs kc sl Q (F0 m pc la st0) := by
  intro T hT X0
  obtain ⟨v, st₀, t, T', L, h0, X', hL, e1, e2, ⟨hv, ⟨ws, hp, hP1, hD1⟩, hz, hk⟩, st⟩ := hr T hT X0
  cases hv
  rw [h0] at hz hk
  obtain ⟨t2, a1, b1⟩ := kk ws T'.heap (locs ++ L) hp (by rw [e1]; exact hP1) hD1
    ⟨Nat.le_trans hS.1 (by rw [e1]; exact hz), fun q h1 h2 => by rw [e1, hk q (Nat.lt_of_lt_of_le h1 hS.1) h2]; exact hS.2.1 q h1 h2, fun q hq => by
      rcases List.mem_append.mp hq with h | h
      · exact hS.2.2 q h
      · exact hL q h⟩ T' rfl X'
  exact ⟨t2, st t2 a1, b1⟩
theorem k_callI {idx b mL n fr2 lo2 mc ms : Nat} {y : MethodName} {cb : ByteArray} {As rest : List Value} {S : va_W → Prop} (ok : KOk D cA A M cc nL fr lo kM sM own) (hd : decode cc pc = .ok (.invokespecial idx, 3)) (hl1 : Cond.methodLink own idx y ∈ Wds) (hw : MI own idx y cb mL n) (ct : CMk D cA A M.2.1 y cb mL fr2 lo2 mc ms (pre ++ lw) (.ref b :: As) S)
    (hst : st = As.reverse ++ .ref b :: rest) (hf : fr2 + 1 ≤ fr ∧ 8 + (mL + 11) + lo2 ≤ lo) (hc : kc + mc ≤ kM ∧ sl + ms ≤ sM) (hn : As.length = n) (h8 : (rest.map fun v => v.category).sum ≤ 8)
    (kk : ∀ ws, S ws → KG D A M nL [] ws (kc + mc) (sl + ms) (pc + 3) ls rest) : KG D A M nL pre lw kc sl pc ls st := by
  obtain ⟨p, l, e, R, s, m, args, below, meth, c, Q⟩ := M
  obtain ⟨hx, hb, hml, hown, hts, hK, hA, hfr, hlo, hkM, hsM⟩ := ok
  intro H locs la hP hD hS hl
  refine run_K (va_runI (As := As) (rest := rest) ⟨hx, hb, hml, hown, hts⟩ ct (cwI n hts (good_cons hw.2.2.1) rfl rfl rfl (hts _ hw.2.2.2.1) (hts _ hl1) (hts _ hw.2.1) hw.1 hw.2.2.2.2 (by rw [hfr, hlo]; exact hf)) ⟨PreK_blind _ _, fun U hU hW => ⟨rfl, by rw [hU]; exact hP, hD, hK.moved hW, fun q h => hA q (Nat.le_trans hS.1 (by rw [hU] at h; exact h))⟩⟩ rfl hn hl.1 hst (lv_room h8) hd (by rw [hkM, hsM]; exact hc)) hS ?_
  intro ws H1 locs1 hp hP1 hD1 hS1
  exact kk ws hp H1 locs1 la hP1 hD1 hS1 hl
theorem k_callN {idx b mL n fr2 lo2 mc ms : Nat} {y : MethodName} {cb : ByteArray} {As rest : List Value} {S : va_W → Prop} (ok : KOk D cA A M cc nL fr lo kM sM own) (hd : decode cc pc = .ok (.invokespecial idx, 3)) (hl1 : Cond.methodLinkNest own idx y RX7 ∈ nestI) (hw : MI own idx y cb mL n) (ct : CMk D cA A M.2.1 y cb mL fr2 lo2 mc ms (pre ++ lw) (.ref b :: As) S)
    (hst : st = As.reverse ++ .ref b :: rest) (hf : fr2 + 1 ≤ fr ∧ 8 + (mL + 11) + lo2 ≤ lo) (hc : kc + mc ≤ kM ∧ sl + ms ≤ sM) (hn : As.length = n) (h8 : (rest.map fun v => v.category).sum ≤ 8)
    (kk : ∀ ws, S ws → KG D A M nL [] ws (kc + mc) (sl + ms) (pc + 3) ls rest) : KG D A M nL pre lw kc sl pc ls st := by
  obtain ⟨p, l, e, R, s, m, args, below, meth, c, Q⟩ := M
  obtain ⟨hx, hb, hml, hown, hts, hK, hA, hfr, hlo, hkM, hsM⟩ := ok
  intro H locs la hP hD hS hl
  refine run_K (va_runIN (As := As) (rest := rest) ⟨hx, hb, hml, hown, hts⟩ ct ⟨va_cnB n hts (good_cons hw.2.2.1) rfl rfl rfl (hK.2.1 _ hl1) (hts _ hw.2.2.2.1) hw.2.2.2.2 (by rw [hfr, hlo]; exact hf), hw.1, hts _ hw.2.1⟩ ⟨PreK_blind _ _, fun U hU hW => ⟨rfl, by rw [hU]; exact hP, hD, hK.moved hW, fun q h => hA q (Nat.le_trans hS.1 (by rw [hU] at h; exact h))⟩⟩ rfl hn hl.1 hst (lv_room h8) hd (by rw [hkM, hsM]; exact hc)) hS ?_
  intro ws H1 locs1 hp hP1 hD1 hS1
  exact kk ws hp H1 locs1 la hP1 hD1 hS1 hl
theorem k_callS {idx mL n fr2 lo2 mc ms : Nat} {y : MethodName} {cb : ByteArray} {As rest : List Value} {S : va_W → Prop} (ok : KOk D cA A M cc nL fr lo kM sM own) (hd : decode cc pc = .ok (.invokestatic idx, 3)) (hw : MS own idx y cb mL none n) (ct : CMk D cA A M.2.1 y cb mL fr2 lo2 mc ms (pre ++ lw) As S)
    (hst : st = As.reverse ++ rest) (hf : fr2 + 1 ≤ fr ∧ 8 + (mL + 11) + lo2 ≤ lo) (hc : kc + mc ≤ kM ∧ sl + ms ≤ sM) (hn : As.length = n) (h8 : (rest.map fun v => v.category).sum ≤ 8)
    (kk : ∀ ws, S ws → KG D A M nL [] ws (kc + mc) (sl + ms) (pc + 3) ls rest) : KG D A M nL pre lw kc sl pc ls st := by
  obtain ⟨p, l, e, R, s, m, args, below, meth, c, Q⟩ := M
  obtain ⟨hx, hb, hml, hown, hts, hK, hA, hfr, hlo, hkM, hsM⟩ := ok
  intro H locs la hP hD hS hl
  refine run_K (va_runS (As := As) (rest := rest) ⟨hx, hb, hml, hown, hts⟩ ct ⟨callB_of n hts (good_cons hw.1.2.1) rfl rfl rfl (hts _ hw.1.2.2.1) (hts _ hw.1.1) hw.1.2.2.2 (by rw [hfr, hlo]; exact hf), hts _ hw.2⟩ ⟨PreK_blind _ _, fun U hU hW => ⟨rfl, by rw [hU]; exact hP, hD, hK.moved hW, fun q h => hA q (Nat.le_trans hS.1 (by rw [hU] at h; exact h))⟩⟩ rfl hn hl.1 hst (lv_room h8) hd (by rw [hkM, hsM]; exact hc)) hS ?_
  intro ws H1 locs1 hp hP1 hD1 hS1
  exact kk ws hp H1 locs1 la hP1 hD1 hS1 hl
end MAKE
