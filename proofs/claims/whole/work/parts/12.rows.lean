/-! the walk's judgement over the world; a row an instruction -/
abbrev MX : Type := Program × Launch × Env × Room × State × MethodId × Array Value × List Frame × Method × Code × (State → Prop)
def limF : Nat → Value := fun k => match k with
  | 0 => .int 100
  | 1 => .int 1000
  | _ => .int 10000
def tyA (X : XW) : List (ClassId × FieldType) := [(X.2.2 0, .int), (X.2.2 1, .long), (X.2.2 2, .boolean), (X.2.2 3, .object RX0), (X.2.2 4, .object RX6)]
def nestW : List Cond := [.methodLinkNest RX6 35 yX7_within RX7, .methodLinkNest RX5 43 yX7_hasWorld RX7, .methodLinkNest RX1 34 yX7_within RX7, .methodLinkNest RX2 52 yX7_within RX7]
def nestF : Cond := .fieldLinkNest RX6 32 RX7 "PRICE_LIMITS" "[I" RX7
/-- what stays as it is: classes, arrays' classes, the static row, the nest's links -/
def Kn (X : XW) (U : State) : Prop := va_K X.2.1 vwCl (tyA X) U ∧ Inj X ∧ va_Z RX7 "PRICE_LIMITS" "[I" (.ref (X.1 99 0)) (Apl X) U U.heap ∧ va_T .int (X.1 99 0) 3 limF (Apl X) U U.heap ∧ (∀ w ∈ nestW, va_Nw w U) ∧ va_Nw nestF U
theorem Kn.moved {X : XW} {s U : State} {H : Heap} {locs : List Loc} (h : Kn X s) (hW : s.WarmedH U.vm) (hU : U.heap = H) (hS : va_S (Apl X) s.heap H locs) : Kn X U := by
  obtain ⟨h1, h2, h3, h4, h5, h6⟩ := h
  refine ⟨va_K.moved hW.alike h1, h2, ?_, ?_, ?_, va_Nw.warmF hW h6⟩
  · rw [hU]
    exact (h3.moved hW.alike).kept hS.2.1
  · rw [hU]
    exact (h4.moved hW.alike).kept hS.2.1
  · intro w hw
    have hz := h5 w hw
    simp only [nestW, List.mem_cons, List.not_mem_nil, or_false] at hw
    rcases hw with rfl | rfl | rfl | rfl <;> exact va_Nw.warmM hW hz
def G (X : XW) (M : MX) (cc : ByteArray) (nL : Nat) (σ : Mm) (pc : Nat) (ls : List (Nat × AV)) (st : List AV) : Prop := match M with
  | (p, l, e, R, s, m, args, below, meth, c, Q) => ∀ (H : Heap) (locs : List Loc) (la : Array Slot), Mem X σ H → Rg σ → va_S (Apl X) s.heap H locs → lv_has la nL (nf X ls) → W p l e R s m args below meth c H locs 0 0 Q (F0 m pc la (st.map (tv X)))
def MOk (X : XW) (M : MX) (cc : ByteArray) (nL fr lo : Nat) (own : String) : Prop := match M with
  | (p, _, _, R, s, m, args, _, _, c, _) => p.tables.exec = Jvm.exec ∧ c.code = cc ∧ c.maxLocals = nL ∧ s.vm.findClass own = some m.cls ∧ (∀ w ∈ Wds, w.before args s = true) ∧ Kn X s ∧ R.frames = fr ∧ R.locals = lo
/-- a method's end: an answer and a memory of which 'post' holds -/
def Qo (X : XW) (post : Option AV → Mm → Prop) : Array Value → State → Outcome → State → Prop := fun _ st oc t => ∃ (r : Option AV) (σ : Mm), oc = .returned (r.map (tv X)) ∧ post r σ ∧ Mem X σ t.heap ∧ Rg σ ∧ va_F (Apl X) st t
def RQ (X : XW) (M : MX) (post : Option AV → Mm → Prop) (ret : Option FieldType) : Prop := match M with
  | (_, _, _, _, s, _, args, below, meth, _, Q) => Q = MQ below (Qo X post) args s 0 0 (Apl X) ∧ meth.sig.returnType = ret ∧ meth.locks = false
def Wo (X : XW) (σ : Mm) (U : State) : Prop := Mem X σ U.heap ∧ Rg σ ∧ Kn X U
/-- a method's contract -/
def Ct (X : XW) (l : Launch) (y : MethodName) (cc : ByteArray) (maxL : Nat) (ret : Option FieldType) (fr lo : Nat) (σ : Mm) (av : List AV) (post : Option AV → Mm → Prop) : Prop :=
  Met l y (.code y cc maxL ret :: Wds) ({ frames := fr, cells := 0, slots := 0, locals := lo }) (va_Pc (av.map (tv X)) (Wo X σ)) (Qo X post) 0 0 (Apl X)
/-- the locals at a method's entry -/
def ent : Nat → List AV → List (Nat × AV)
  | _, [] => []
  | i, v :: r => (i, v) :: ent (i + cA v) r
theorem ent_args {X : XW} : ∀ (i : Nat) (av : List AV), (ent i av).map (fun q => (q.1, tv X q.2)) = lv_args i (av.map (tv X))
  | _, [] => rfl
  | i, v :: r => by
    have h := ent_args (X := X) (i + cA v) r
    unfold ent
    rw [List.map_cons, List.map_cons, h]
    show _ = (i, tv X v) :: lv_args (if (tv X v).category = 2 then i + 2 else i + 1) (r.map (tv X))
    rw [tv_cat]
    rcases v with z | z | p <;> rfl
theorem Ct.intro {X : XW} {l : Launch} {y : MethodName} {cc : ByteArray} {maxL : Nat} {ret : Option FieldType} {fr lo : Nat} {σ : Mm} {av : List AV} {post : Option AV → Mm → Prop} {own : String} (hy : plainName y.cls = true) (hown : y.cls = own) (hlen : (lg_sl (av.map (tv X))).length ≤ maxL)
    (body : ∀ M : MX, M.2.1 = l → MOk X M cc maxL fr lo own → RQ X M post ret → G X M cc maxL σ 0 (ent 0 av) []) : Ct X l y cc maxL ret fr lo σ av post := by
  refine Met.ofW (cc := cc) (maxL := maxL) (ret := ret) hy rfl ?_
  intro p e s m args below meth c s₁ B hml hv
  obtain ⟨rfl, hM, hR, hK⟩ := hv
  have hts := atoms_spec (ws := .code y cc maxL ret :: Wds) B.pre
  have ho : s.vm.findClass own = some m.cls := hown ▸ findClass_of_methodNamed B.named
  have b := body (p, l, e, (headSpec (.code y cc maxL ret :: Wds) { frames := fr, cells := 0, slots := 0, locals := lo }).room, s, m, (av.map (tv X)).toArray, below, meth, c, MQ below (Qo X post) (av.map (tv X)).toArray s 0 0 (Apl X)) rfl ⟨B.exec, B.bytes, hml, ho, fun w hw => hts w (List.mem_cons_of_mem _ hw), hK, rfl, rfl⟩ ⟨rfl, B.returns, B.notSynchronized⟩
  rw [lg_entry_eq]
  have hl := lv_entry (av.map (tv X)) (n := maxL) hlen
  refine b s.heap [] _ hM hR va_S.rf ⟨hl.1, hl.2.1, fun q hq => hl.2.2 q ?_⟩
  obtain ⟨v, h1, h2⟩ := nf_mem hq
  rw [← ent_args]
  exact List.mem_map.mpr ⟨(q.1, v), h1, by rw [← h2]⟩
section ROWS
variable {X : XW} {M : MX} {cc : ByteArray} {nL fr lo : Nat} {own : String} {σ : Mm} {pc : Nat} {ls : List (Nat × AV)} {st : List AV}
theorem G.norm (l2 : List (Nat × AV)) (h : Lin ls l2) (k : G X M cc nL σ pc l2 st) : G X M cc nL σ pc ls st := by
  obtain ⟨p, l, e, R, s, m, args, below, meth, c, Q⟩ := M
  exact fun H locs la hM hR hS hl => k H locs la hM hR hS (h.has hl)
theorem G.rg (k : Rg σ → G X M cc nL σ pc ls st) : G X M cc nL σ pc ls st := by
  obtain ⟨p, l, e, R, s, m, args, below, meth, c, Q⟩ := M
  exact fun H locs la hM hR hS hl => k hR H locs la hM hR hS hl

theorem g_iload_n {k : Fin 4} {i : Nat} {z : Int} (ok : MOk X M cc nL fr lo own) (hd : decode cc pc = .ok (.iload_n k, 1)) (hi : (k : Nat) = i) (hk : lk ls i = some (.inl z))
    (kk : G X M cc nL σ (pc + 1) ls (.inl z :: st)) : G X M cc nL σ pc ls st := by
  obtain ⟨p, l, e, R, s, m, args, below, meth, c, Q⟩ := M
  obtain ⟨hx, hb, hml, hown, hts, hK, hfr, hlo⟩ := ok
  intro H locs la hM hR hS hl
  exact lv_iload_n hx hb hd hi (hl.2.2 _ (lk_mem (X := X) hk)) (kk H locs la hM hR hS hl)
theorem g_iload {i : Nat} {z : Int} (ok : MOk X M cc nL fr lo own) (hd : decode cc pc = .ok (.iload i, 2)) (hk : lk ls i = some (.inl z))
    (kk : G X M cc nL σ (pc + 2) ls (.inl z :: st)) : G X M cc nL σ pc ls st := by
  obtain ⟨p, l, e, R, s, m, args, below, meth, c, Q⟩ := M
  obtain ⟨hx, hb, hml, hown, hts, hK, hfr, hlo⟩ := ok
  intro H locs la hM hR hS hl
  exact lv_iload hx hb hd (hl.2.2 _ (lk_mem (X := X) hk)) (kk H locs la hM hR hS hl)
theorem g_lload_n {k : Fin 4} {i : Nat} {z : Int} (ok : MOk X M cc nL fr lo own) (hd : decode cc pc = .ok (.lload_n k, 1)) (hi : (k : Nat) = i) (hk : lk ls i = some (.inr (.inl z)))
    (kk : G X M cc nL σ (pc + 1) ls (.inr (.inl z) :: st)) : G X M cc nL σ pc ls st := by
  obtain ⟨p, l, e, R, s, m, args, below, meth, c, Q⟩ := M
  obtain ⟨hx, hb, hml, hown, hts, hK, hfr, hlo⟩ := ok
  intro H locs la hM hR hS hl
  exact lv_lload_n hx hb hd hi (hl.2.2 _ (lk_mem (X := X) hk)) (kk H locs la hM hR hS hl)
theorem g_lload {i : Nat} {z : Int} (ok : MOk X M cc nL fr lo own) (hd : decode cc pc = .ok (.lload i, 2)) (hk : lk ls i = some (.inr (.inl z)))
    (kk : G X M cc nL σ (pc + 2) ls (.inr (.inl z) :: st)) : G X M cc nL σ pc ls st := by
  obtain ⟨p, l, e, R, s, m, args, below, meth, c, Q⟩ := M
  obtain ⟨hx, hb, hml, hown, hts, hK, hfr, hlo⟩ := ok
  intro H locs la hM hR hS hl
  exact lv_lload hx hb hd (hl.2.2 _ (lk_mem (X := X) hk)) (kk H locs la hM hR hS hl)
theorem g_aload_n {k : Fin 4} {i : Nat} {q : Nat × Int} (ok : MOk X M cc nL fr lo own) (hd : decode cc pc = .ok (.aload_n k, 1)) (hi : (k : Nat) = i) (hk : lk ls i = some (.inr (.inr q)))
    (kk : G X M cc nL σ (pc + 1) ls (.inr (.inr q) :: st)) : G X M cc nL σ pc ls st := by
  obtain ⟨p, l, e, R, s, m, args, below, meth, c, Q⟩ := M
  obtain ⟨hx, hb, hml, hown, hts, hK, hfr, hlo⟩ := ok
  intro H locs la hM hR hS hl
  exact lv_aload_n hx hb hd hi (hl.2.2 _ (lk_mem (X := X) hk)) (kk H locs la hM hR hS hl)
theorem g_aload {i : Nat} {q : Nat × Int} (ok : MOk X M cc nL fr lo own) (hd : decode cc pc = .ok (.aload i, 2)) (hk : lk ls i = some (.inr (.inr q)))
    (kk : G X M cc nL σ (pc + 2) ls (.inr (.inr q) :: st)) : G X M cc nL σ pc ls st := by
  obtain ⟨p, l, e, R, s, m, args, below, meth, c, Q⟩ := M
  obtain ⟨hx, hb, hml, hown, hts, hK, hfr, hlo⟩ := ok
  intro H locs la hM hR hS hl
  exact lv_aload hx hb hd (hl.2.2 _ (lk_mem (X := X) hk)) (kk H locs la hM hR hS hl)
theorem g_istore_n {k : Fin 4} {i : Nat} {z : Int} (ok : MOk X M cc nL fr lo own) (hd : decode cc pc = .ok (.istore_n k, 1)) (hi : (k : Nat) = i) (hn : i < nL)
    (kk : G X M cc nL σ (pc + 1) ((i, .inl z) :: ls) st) : G X M cc nL σ pc ls (.inl z :: st) := by
  obtain ⟨p, l, e, R, s, m, args, below, meth, c, Q⟩ := M
  obtain ⟨hx, hb, hml, hown, hts, hK, hfr, hlo⟩ := ok
  intro H locs la hM hR hS hl
  exact lv_istore_n (lv' := nf X ((i, .inl z) :: ls)) hx hb hd hi hl hn rfl (fun la2 hl2 => kk H locs la2 hM hR hS hl2)
theorem g_istore {i : Nat} {z : Int} (ok : MOk X M cc nL fr lo own) (hd : decode cc pc = .ok (.istore i, 2)) (hn : i < nL)
    (kk : G X M cc nL σ (pc + 2) ((i, .inl z) :: ls) st) : G X M cc nL σ pc ls (.inl z :: st) := by
  obtain ⟨p, l, e, R, s, m, args, below, meth, c, Q⟩ := M
  obtain ⟨hx, hb, hml, hown, hts, hK, hfr, hlo⟩ := ok
  intro H locs la hM hR hS hl
  exact lv_istore (lv' := nf X ((i, .inl z) :: ls)) hx hb hd hl hn rfl (fun la2 hl2 => kk H locs la2 hM hR hS hl2)
theorem g_lstore_n {k : Fin 4} {i : Nat} {z : Int} (ok : MOk X M cc nL fr lo own) (hd : decode cc pc = .ok (.lstore_n k, 1)) (hi : (k : Nat) = i) (hn : i + 1 < nL)
    (kk : G X M cc nL σ (pc + 1) ((i, .inr (.inl z)) :: ls) st) : G X M cc nL σ pc ls (.inr (.inl z) :: st) := by
  obtain ⟨p, l, e, R, s, m, args, below, meth, c, Q⟩ := M
  obtain ⟨hx, hb, hml, hown, hts, hK, hfr, hlo⟩ := ok
  intro H locs la hM hR hS hl
  exact lv_lstore_n (lv' := nf X ((i, .inr (.inl z)) :: ls)) hx hb hd hi hl hn rfl (fun la2 hl2 => kk H locs la2 hM hR hS hl2)
theorem g_lstore {i : Nat} {z : Int} (ok : MOk X M cc nL fr lo own) (hd : decode cc pc = .ok (.lstore i, 2)) (hn : i + 1 < nL)
    (kk : G X M cc nL σ (pc + 2) ((i, .inr (.inl z)) :: ls) st) : G X M cc nL σ pc ls (.inr (.inl z) :: st) := by
  obtain ⟨p, l, e, R, s, m, args, below, meth, c, Q⟩ := M
  obtain ⟨hx, hb, hml, hown, hts, hK, hfr, hlo⟩ := ok
  intro H locs la hM hR hS hl
  exact lv_lstore (lv' := nf X ((i, .inr (.inl z)) :: ls)) hx hb hd hl hn rfl (fun la2 hl2 => kk H locs la2 hM hR hS hl2)
theorem g_astore_n {k : Fin 4} {i : Nat} {q : Nat × Int} (ok : MOk X M cc nL fr lo own) (hd : decode cc pc = .ok (.astore_n k, 1)) (hi : (k : Nat) = i) (hn : i < nL)
    (kk : G X M cc nL σ (pc + 1) ((i, .inr (.inr q)) :: ls) st) : G X M cc nL σ pc ls (.inr (.inr q) :: st) := by
  obtain ⟨p, l, e, R, s, m, args, below, meth, c, Q⟩ := M
  obtain ⟨hx, hb, hml, hown, hts, hK, hfr, hlo⟩ := ok
  intro H locs la hM hR hS hl
  exact lv_astore_n (lv' := nf X ((i, .inr (.inr q)) :: ls)) hx hb hd hi hl hn rfl (fun la2 hl2 => kk H locs la2 hM hR hS hl2)
theorem g_astore {i : Nat} {q : Nat × Int} (ok : MOk X M cc nL fr lo own) (hd : decode cc pc = .ok (.astore i, 2)) (hn : i < nL)
    (kk : G X M cc nL σ (pc + 2) ((i, .inr (.inr q)) :: ls) st) : G X M cc nL σ pc ls (.inr (.inr q) :: st) := by
  obtain ⟨p, l, e, R, s, m, args, below, meth, c, Q⟩ := M
  obtain ⟨hx, hb, hml, hown, hts, hK, hfr, hlo⟩ := ok
  intro H locs la hM hR hS hl
  exact lv_astore (lv' := nf X ((i, .inr (.inr q)) :: ls)) hx hb hd hl hn rfl (fun la2 hl2 => kk H locs la2 hM hR hS hl2)
theorem g_iinc {i : Nat} {n z v : Int} (ok : MOk X M cc nL fr lo own) (hd : decode cc pc = .ok (.iinc i n, 3)) (hk : lk ls i = some (.inl z)) (hv : z + n = v) (hn : i < nL)
    (kk : G X M cc nL σ (pc + 3) ((i, .inl v) :: ls) st) : G X M cc nL σ pc ls st := by
  obtain ⟨p, l, e, R, s, m, args, below, meth, c, Q⟩ := M
  obtain ⟨hx, hb, hml, hown, hts, hK, hfr, hlo⟩ := ok
  intro H locs la hM hR hS hl
  obtain ⟨k, hkk⟩ := List.getElem?_of_mem (lk_mem (X := X) hk)
  refine lv_iinc (v := iI v) (lv' := nf X ((i, .inl v) :: ls)) hx hb hd hl (k := k) hkk ?_ hn rfl (fun la2 hl2 => kk H locs la2 hM hR hS hl2)
  rw [← hv, ← iI_add]
  rfl
theorem g_iconst {n v : Int} (ok : MOk X M cc nL fr lo own) (hd : decode cc pc = .ok (.iconst n, 1)) (hv : Int32.ofInt n = iI v)
    (kk : G X M cc nL σ (pc + 1) ls (.inl v :: st)) : G X M cc nL σ pc ls st := by
  obtain ⟨p, l, e, R, s, m, args, below, meth, c, Q⟩ := M
  obtain ⟨hx, hb, hml, hown, hts, hK, hfr, hlo⟩ := ok
  intro H locs la hM hR hS hl
  exact lv_iconst hx hb hd hv (kk H locs la hM hR hS hl)
theorem g_bipush {n v : Int} (ok : MOk X M cc nL fr lo own) (hd : decode cc pc = .ok (.bipush n, 2)) (hv : (Int8.ofInt n).toInt32 = iI v)
    (kk : G X M cc nL σ (pc + 2) ls (.inl v :: st)) : G X M cc nL σ pc ls st := by
  obtain ⟨p, l, e, R, s, m, args, below, meth, c, Q⟩ := M
  obtain ⟨hx, hb, hml, hown, hts, hK, hfr, hlo⟩ := ok
  intro H locs la hM hR hS hl
  exact lv_bipush hx hb hd hv (kk H locs la hM hR hS hl)
theorem g_sipush {n v : Int} (ok : MOk X M cc nL fr lo own) (hd : decode cc pc = .ok (.sipush n, 3)) (hv : (Int16.ofInt n).toInt32 = iI v)
    (kk : G X M cc nL σ (pc + 3) ls (.inl v :: st)) : G X M cc nL σ pc ls st := by
  obtain ⟨p, l, e, R, s, m, args, below, meth, c, Q⟩ := M
  obtain ⟨hx, hb, hml, hown, hts, hK, hfr, hlo⟩ := ok
  intro H locs la hM hR hS hl
  exact lv_sipush hx hb hd hv (kk H locs la hM hR hS hl)
theorem g_lconst {n : Fin 2} {v : Int} (ok : MOk X M cc nL fr lo own) (hd : decode cc pc = .ok (.lconst n, 1)) (hv : Int64.ofNat (n : Nat) = lI v)
    (kk : G X M cc nL σ (pc + 1) ls (.inr (.inl v) :: st)) : G X M cc nL σ pc ls st := by
  obtain ⟨p, l, e, R, s, m, args, below, meth, c, Q⟩ := M
  obtain ⟨hx, hb, hml, hown, hts, hK, hfr, hlo⟩ := ok
  intro H locs la hM hR hS hl
  exact lv_lconst hx hb hd hv (kk H locs la hM hR hS hl)
theorem g_ldc {idx : Nat} {w : Int32} {v : Int} (ok : MOk X M cc nL fr lo own) (hd : decode cc pc = .ok (.ldc idx, 2)) (hw : Cond.constant own idx w ∈ Wds) (hv : w = iI v)
    (kk : G X M cc nL σ (pc + 2) ls (.inl v :: st)) : G X M cc nL σ pc ls st := by
  obtain ⟨p, l, e, R, s, m, args, below, meth, c, Q⟩ := M
  obtain ⟨hx, hb, hml, hown, hts, hK, hfr, hlo⟩ := ok
  intro H locs la hM hR hS hl
  exact lv_ldc hx hb hown (hts _ hw) hd (by subst hv; exact kk H locs la hM hR hS hl)
theorem g_ldcw {idx : Nat} {w : Int32} {v : Int} (ok : MOk X M cc nL fr lo own) (hd : decode cc pc = .ok (.ldc_w idx, 3)) (hw : Cond.constant own idx w ∈ Wds) (hv : w = iI v)
    (kk : G X M cc nL σ (pc + 3) ls (.inl v :: st)) : G X M cc nL σ pc ls st := by
  obtain ⟨p, l, e, R, s, m, args, below, meth, c, Q⟩ := M
  obtain ⟨hx, hb, hml, hown, hts, hK, hfr, hlo⟩ := ok
  intro H locs la hM hR hS hl
  exact lv_ldcw hx hb hown (hts _ hw) hd (by subst hv; exact kk H locs la hM hR hS hl)
theorem g_ldc2 {idx : Nat} {w : Int64} {v : Int} (ok : MOk X M cc nL fr lo own) (hd : decode cc pc = .ok (.ldc2_w idx, 3)) (hw : Cond.constantLong own idx w ∈ Wds) (hv : w = lI v)
    (kk : G X M cc nL σ (pc + 3) ls (.inr (.inl v) :: st)) : G X M cc nL σ pc ls st := by
  obtain ⟨p, l, e, R, s, m, args, below, meth, c, Q⟩ := M
  obtain ⟨hx, hb, hml, hown, hts, hK, hfr, hlo⟩ := ok
  intro H locs la hM hR hS hl
  exact lv_ldc2 hx hb hown (hts _ hw) hd (by subst hv; exact kk H locs la hM hR hS hl)
theorem g_iadd {a b : Int} (ok : MOk X M cc nL fr lo own) (hd : decode cc pc = .ok (.iadd, 1)) 
    (kk : G X M cc nL σ (pc + 1) ls (.inl (a + b) :: st)) : G X M cc nL σ pc ls (.inl b :: .inl a :: st) := by
  obtain ⟨p, l, e, R, s, m, args, below, meth, c, Q⟩ := M
  obtain ⟨hx, hb, hml, hown, hts, hK, hfr, hlo⟩ := ok
  intro H locs la hM hR hS hl
  refine lv_iadd (x := iI a) (y := iI b) hx hb hd ?_
  rw [iI_add]
  exact kk H locs la hM hR hS hl
theorem g_isub {a b : Int} (ok : MOk X M cc nL fr lo own) (hd : decode cc pc = .ok (.isub, 1)) 
    (kk : G X M cc nL σ (pc + 1) ls (.inl (a - b) :: st)) : G X M cc nL σ pc ls (.inl b :: .inl a :: st) := by
  obtain ⟨p, l, e, R, s, m, args, below, meth, c, Q⟩ := M
  obtain ⟨hx, hb, hml, hown, hts, hK, hfr, hlo⟩ := ok
  intro H locs la hM hR hS hl
  refine lv_isub (x := iI a) (y := iI b) hx hb hd ?_
  rw [iI_sub]
  exact kk H locs la hM hR hS hl
theorem g_imul {a b : Int} (ok : MOk X M cc nL fr lo own) (hd : decode cc pc = .ok (.imul, 1)) 
    (kk : G X M cc nL σ (pc + 1) ls (.inl (a * b) :: st)) : G X M cc nL σ pc ls (.inl b :: .inl a :: st) := by
  obtain ⟨p, l, e, R, s, m, args, below, meth, c, Q⟩ := M
  obtain ⟨hx, hb, hml, hown, hts, hK, hfr, hlo⟩ := ok
  intro H locs la hM hR hS hl
  refine lv_imul (x := iI a) (y := iI b) hx hb hd ?_
  rw [iI_mul]
  exact kk H locs la hM hR hS hl
theorem g_ladd {a b : Int} (ok : MOk X M cc nL fr lo own) (hd : decode cc pc = .ok (.ladd, 1)) 
    (kk : G X M cc nL σ (pc + 1) ls (.inr (.inl (a + b)) :: st)) : G X M cc nL σ pc ls (.inr (.inl b) :: .inr (.inl a) :: st) := by
  obtain ⟨p, l, e, R, s, m, args, below, meth, c, Q⟩ := M
  obtain ⟨hx, hb, hml, hown, hts, hK, hfr, hlo⟩ := ok
  intro H locs la hM hR hS hl
  refine lv_ladd (x := lI a) (y := lI b) hx hb hd ?_
  rw [lI_add]
  exact kk H locs la hM hR hS hl
theorem g_lsub {a b : Int} (ok : MOk X M cc nL fr lo own) (hd : decode cc pc = .ok (.lsub, 1)) 
    (kk : G X M cc nL σ (pc + 1) ls (.inr (.inl (a - b)) :: st)) : G X M cc nL σ pc ls (.inr (.inl b) :: .inr (.inl a) :: st) := by
  obtain ⟨p, l, e, R, s, m, args, below, meth, c, Q⟩ := M
  obtain ⟨hx, hb, hml, hown, hts, hK, hfr, hlo⟩ := ok
  intro H locs la hM hR hS hl
  refine lv_lsub (x := lI a) (y := lI b) hx hb hd ?_
  rw [lI_sub]
  exact kk H locs la hM hR hS hl
theorem g_lmul {a b : Int} (ok : MOk X M cc nL fr lo own) (hd : decode cc pc = .ok (.lmul, 1)) 
    (kk : G X M cc nL σ (pc + 1) ls (.inr (.inl (a * b)) :: st)) : G X M cc nL σ pc ls (.inr (.inl b) :: .inr (.inl a) :: st) := by
  obtain ⟨p, l, e, R, s, m, args, below, meth, c, Q⟩ := M
  obtain ⟨hx, hb, hml, hown, hts, hK, hfr, hlo⟩ := ok
  intro H locs la hM hR hS hl
  refine lv_lmul (x := lI a) (y := lI b) hx hb hd ?_
  rw [lI_mul]
  exact kk H locs la hM hR hS hl
theorem g_ineg {a : Int} (ok : MOk X M cc nL fr lo own) (hd : decode cc pc = .ok (.ineg, 1)) 
    (kk : G X M cc nL σ (pc + 1) ls (.inl (-a) :: st)) : G X M cc nL σ pc ls (.inl a :: st) := by
  obtain ⟨p, l, e, R, s, m, args, below, meth, c, Q⟩ := M
  obtain ⟨hx, hb, hml, hown, hts, hK, hfr, hlo⟩ := ok
  intro H locs la hM hR hS hl
  refine lv_ineg (x := iI a) hx hb hd ?_
  rw [iI_neg]
  exact kk H locs la hM hR hS hl
theorem g_lneg {a : Int} (ok : MOk X M cc nL fr lo own) (hd : decode cc pc = .ok (.lneg, 1)) 
    (kk : G X M cc nL σ (pc + 1) ls (.inr (.inl (-a)) :: st)) : G X M cc nL σ pc ls (.inr (.inl a) :: st) := by
  obtain ⟨p, l, e, R, s, m, args, below, meth, c, Q⟩ := M
  obtain ⟨hx, hb, hml, hown, hts, hK, hfr, hlo⟩ := ok
  intro H locs la hM hR hS hl
  refine lv_lneg (x := lI a) hx hb hd ?_
  rw [lI_neg]
  exact kk H locs la hM hR hS hl
theorem g_idiv {a b : Int} (ok : MOk X M cc nL fr lo own) (hd : decode cc pc = .ok (.idiv, 1)) (ra : R32 a) (rb : R32 b) (h0 : b ≠ 0)
    (kk : G X M cc nL σ (pc + 1) ls (.inl (a.tdiv b) :: st)) : G X M cc nL σ pc ls (.inl b :: .inl a :: st) := by
  obtain ⟨p, l, e, R, s, m, args, below, meth, c, Q⟩ := M
  obtain ⟨hx, hb, hml, hown, hts, hK, hfr, hlo⟩ := ok
  intro H locs la hM hR hS hl
  refine lv_idiv (x := iI a) (y := iI b) hx hb hd (fun q => h0 ((iI_eq rb r0).mp (q.trans iI_0.symm))) ?_
  rw [iI_div ra rb]
  exact kk H locs la hM hR hS hl
theorem g_irem {a b : Int} (ok : MOk X M cc nL fr lo own) (hd : decode cc pc = .ok (.irem, 1)) (ra : R32 a) (rb : R32 b) (h0 : b ≠ 0)
    (kk : G X M cc nL σ (pc + 1) ls (.inl (a.tmod b) :: st)) : G X M cc nL σ pc ls (.inl b :: .inl a :: st) := by
  obtain ⟨p, l, e, R, s, m, args, below, meth, c, Q⟩ := M
  obtain ⟨hx, hb, hml, hown, hts, hK, hfr, hlo⟩ := ok
  intro H locs la hM hR hS hl
  refine lv_irem (x := iI a) (y := iI b) hx hb hd (fun q => h0 ((iI_eq rb r0).mp (q.trans iI_0.symm))) ?_
  rw [iI_rem ra rb]
  exact kk H locs la hM hR hS hl
theorem g_idivP {a b : Int} (ok : MOk X M cc nL fr lo own) (hd : decode cc pc = .ok (.idiv, 1)) (ra : R32 a) (rb : R32 b) (h0 : b ≠ 0) (hp : 0 ≤ a)
    (kk : G X M cc nL σ (pc + 1) ls (.inl (a / b) :: st)) : G X M cc nL σ pc ls (.inl b :: .inl a :: st) := by
  obtain ⟨p, l, e, R, s, m, args, below, meth, c, Q⟩ := M
  obtain ⟨hx, hb, hml, hown, hts, hK, hfr, hlo⟩ := ok
  intro H locs la hM hR hS hl
  refine lv_idiv (x := iI a) (y := iI b) hx hb hd (fun q => h0 ((iI_eq rb r0).mp (q.trans iI_0.symm))) ?_
  rw [iI_div ra rb, tdiv_pos hp]
  exact kk H locs la hM hR hS hl
theorem g_iremP {a b : Int} (ok : MOk X M cc nL fr lo own) (hd : decode cc pc = .ok (.irem, 1)) (ra : R32 a) (rb : R32 b) (h0 : b ≠ 0) (hp : 0 ≤ a)
    (kk : G X M cc nL σ (pc + 1) ls (.inl (a % b) :: st)) : G X M cc nL σ pc ls (.inl b :: .inl a :: st) := by
  obtain ⟨p, l, e, R, s, m, args, below, meth, c, Q⟩ := M
  obtain ⟨hx, hb, hml, hown, hts, hK, hfr, hlo⟩ := ok
  intro H locs la hM hR hS hl
  refine lv_irem (x := iI a) (y := iI b) hx hb hd (fun q => h0 ((iI_eq rb r0).mp (q.trans iI_0.symm))) ?_
  rw [iI_rem ra rb, tmod_pos hp]
  exact kk H locs la hM hR hS hl
theorem g_iand {a b : Int} (ok : MOk X M cc nL fr lo own) (hd : decode cc pc = .ok (.iand, 1)) 
    (kk : R32 (band a b) → G X M cc nL σ (pc + 1) ls (.inl (band a b) :: st)) : G X M cc nL σ pc ls (.inl b :: .inl a :: st) := by
  obtain ⟨p, l, e, R, s, m, args, below, meth, c, Q⟩ := M
  obtain ⟨hx, hb, hml, hown, hts, hK, hfr, hlo⟩ := ok
  intro H locs la hM hR hS hl
  refine lv_iand (x := iI a) (y := iI b) hx hb hd ?_
  have k := kk (band_r a b) H locs la hM hR hS hl
  unfold band at k
  simp only [List.map_cons, tv, iI_of] at k
  exact k
theorem g_ixor {a b : Int} (ok : MOk X M cc nL fr lo own) (hd : decode cc pc = .ok (.ixor, 1)) 
    (kk : R32 (bxor a b) → G X M cc nL σ (pc + 1) ls (.inl (bxor a b) :: st)) : G X M cc nL σ pc ls (.inl b :: .inl a :: st) := by
  obtain ⟨p, l, e, R, s, m, args, below, meth, c, Q⟩ := M
  obtain ⟨hx, hb, hml, hown, hts, hK, hfr, hlo⟩ := ok
  intro H locs la hM hR hS hl
  refine lv_ixor (x := iI a) (y := iI b) hx hb hd ?_
  have k := kk (bxor_r a b) H locs la hM hR hS hl
  unfold bxor at k
  simp only [List.map_cons, tv, iI_of] at k
  exact k
theorem g_ishr {a b : Int} (ok : MOk X M cc nL fr lo own) (hd : decode cc pc = .ok (.ishr, 1)) 
    (kk : R32 (bshr a b) → G X M cc nL σ (pc + 1) ls (.inl (bshr a b) :: st)) : G X M cc nL σ pc ls (.inl b :: .inl a :: st) := by
  obtain ⟨p, l, e, R, s, m, args, below, meth, c, Q⟩ := M
  obtain ⟨hx, hb, hml, hown, hts, hK, hfr, hlo⟩ := ok
  intro H locs la hM hR hS hl
  refine lv_ishr (x := iI a) (y := iI b) hx hb hd ?_
  have k := kk (bshr_r a b) H locs la hM hR hS hl
  unfold bshr at k
  simp only [List.map_cons, tv, iI_of] at k
  exact k
theorem g_iushr {a b : Int} (ok : MOk X M cc nL fr lo own) (hd : decode cc pc = .ok (.iushr, 1)) 
    (kk : R32 (bushr a b) → G X M cc nL σ (pc + 1) ls (.inl (bushr a b) :: st)) : G X M cc nL σ pc ls (.inl b :: .inl a :: st) := by
  obtain ⟨p, l, e, R, s, m, args, below, meth, c, Q⟩ := M
  obtain ⟨hx, hb, hml, hown, hts, hK, hfr, hlo⟩ := ok
  intro H locs la hM hR hS hl
  refine lv_iushr (x := iI a) (y := iI b) hx hb hd rfl ?_
  have k := kk (bushr_r a b) H locs la hM hR hS hl
  unfold bushr at k
  simp only [List.map_cons, tv, iI_of] at k
  exact k
theorem g_i2l {a : Int} (ok : MOk X M cc nL fr lo own) (hd : decode cc pc = .ok (.i2l, 1)) (ra : R32 a)
    (kk : G X M cc nL σ (pc + 1) ls (.inr (.inl a) :: st)) : G X M cc nL σ pc ls (.inl a :: st) := by
  obtain ⟨p, l, e, R, s, m, args, below, meth, c, Q⟩ := M
  obtain ⟨hx, hb, hml, hown, hts, hK, hfr, hlo⟩ := ok
  intro H locs la hM hR hS hl
  exact lv_i2l (x := iI a) hx hb hd (iI_l ra) (kk H locs la hM hR hS hl)
theorem g_l2i {a : Int} (ok : MOk X M cc nL fr lo own) (hd : decode cc pc = .ok (.l2i, 1)) 
    (kk : G X M cc nL σ (pc + 1) ls (.inl a :: st)) : G X M cc nL σ pc ls (.inr (.inl a) :: st) := by
  obtain ⟨p, l, e, R, s, m, args, below, meth, c, Q⟩ := M
  obtain ⟨hx, hb, hml, hown, hts, hK, hfr, hlo⟩ := ok
  intro H locs la hM hR hS hl
  exact lv_l2i (x := lI a) hx hb hd (lI_i a) (kk H locs la hM hR hS hl)
theorem g_dup {v : AV} (ok : MOk X M cc nL fr lo own) (hd : decode cc pc = .ok (.dup, 1)) (hc : cA v = 1)
    (kk : G X M cc nL σ (pc + 1) ls (v :: v :: st)) : G X M cc nL σ pc ls (v :: st) := by
  obtain ⟨p, l, e, R, s, m, args, below, meth, c, Q⟩ := M
  obtain ⟨hx, hb, hml, hown, hts, hK, hfr, hlo⟩ := ok
  intro H locs la hM hR hS hl
  exact lv_dup hx hb hd ((tv_cat X v).trans hc) (kk H locs la hM hR hS hl)
theorem g_dup2 {v w : AV} (ok : MOk X M cc nL fr lo own) (hd : decode cc pc = .ok (.dup2, 1)) (hc : cA v = 1) (hc2 : cA w = 1)
    (kk : G X M cc nL σ (pc + 1) ls (v :: w :: v :: w :: st)) : G X M cc nL σ pc ls (v :: w :: st) := by
  obtain ⟨p, l, e, R, s, m, args, below, meth, c, Q⟩ := M
  obtain ⟨hx, hb, hml, hown, hts, hK, hfr, hlo⟩ := ok
  intro H locs la hM hR hS hl
  exact lv_dup2_11 hx hb hd ((tv_cat X v).trans hc) ((tv_cat X w).trans hc2) (kk H locs la hM hR hS hl)
theorem g_goto {off : Int} {tgt : Nat} (ok : MOk X M cc nL fr lo own) (hd : decode cc pc = .ok (.goto off, 3)) (ht : (pc : Int) + off = (tgt : Int)) (kk : G X M cc nL σ tgt ls st) : G X M cc nL σ pc ls st := by
  obtain ⟨p, l, e, R, s, m, args, below, meth, c, Q⟩ := M
  obtain ⟨hx, hb, hml, hown, hts, hK, hfr, hlo⟩ := ok
  intro H locs la hM hR hS hl
  exact lv_goto hx hb hd ht (kk H locs la hM hR hS hl)
theorem g_icmp_eq {a b off : Int} {tgt : Nat} (ok : MOk X M cc nL fr lo own) (hd : decode cc pc = .ok (.if_icmp .eq off, 3)) (ht : (pc : Int) + off = (tgt : Int)) (ra : R32 a) (rb : R32 b)
    (kt : a = b → G X M cc nL σ tgt ls st) (kf : ¬ a = b → G X M cc nL σ (pc + 3) ls st) : G X M cc nL σ pc ls (.inl b :: .inl a :: st) := by
  obtain ⟨p, l, e, R, s, m, args, below, meth, c, Q⟩ := M
  obtain ⟨hx, hb, hml, hown, hts, hK, hfr, hlo⟩ := ok
  intro H locs la hM hR hS hl
  exact lv_icmp_eq (x := iI a) (y := iI b) hx hb hd ht (fun q => kt ((iI_eq ra rb).mp q) H locs la hM hR hS hl) (fun q => kf (fun z => q ((iI_eq ra rb).mpr z)) H locs la hM hR hS hl)
theorem g_if_eq {a off : Int} {tgt : Nat} (ok : MOk X M cc nL fr lo own) (hd : decode cc pc = .ok (.ifCond .eq off, 3)) (ht : (pc : Int) + off = (tgt : Int)) (ra : R32 a)
    (kt : a = 0 → G X M cc nL σ tgt ls st) (kf : ¬ a = 0 → G X M cc nL σ (pc + 3) ls st) : G X M cc nL σ pc ls (.inl a :: st) := by
  obtain ⟨p, l, e, R, s, m, args, below, meth, c, Q⟩ := M
  obtain ⟨hx, hb, hml, hown, hts, hK, hfr, hlo⟩ := ok
  intro H locs la hM hR hS hl
  exact lv_if_eq (x := iI a) hx hb hd ht (fun q => kt ((iI_eq ra r0).mp (by rw [iI_0]; exact q)) H locs la hM hR hS hl) (fun q => kf (fun z => q (by rw [← iI_0]; exact (iI_eq ra r0).mpr z)) H locs la hM hR hS hl)
theorem g_lcmp_eq {a b off : Int} {tgt : Nat} (ok : MOk X M cc nL fr lo own) (hd0 : decode cc pc = .ok (.lcmp, 1)) (hd : decode cc (pc + 1) = .ok (.ifCond .eq off, 3)) (ht : ((pc + 1 : Nat) : Int) + off = (tgt : Int)) (ra : R64 a) (rb : R64 b)
    (kt : a = b → G X M cc nL σ tgt ls st) (kf : ¬ a = b → G X M cc nL σ (pc + 1 + 3) ls st) : G X M cc nL σ pc ls (.inr (.inl b) :: .inr (.inl a) :: st) := by
  obtain ⟨p, l, e, R, s, m, args, below, meth, c, Q⟩ := M
  obtain ⟨hx, hb, hml, hown, hts, hK, hfr, hlo⟩ := ok
  intro H locs la hM hR hS hl
  refine W.lcmp (x := lI a) (y := lI b) hx hb hd0 ?_
  exact lv_if_eq hx hb hd ht (fun q => kt ((lI_eq ra rb).mp ((lg_cmp_eq _ _).mp q)) H locs la hM hR hS hl) (fun q => kf (fun z => q ((lg_cmp_eq _ _).mpr ((lI_eq ra rb).mpr z))) H locs la hM hR hS hl)
theorem g_icmp_ne {a b off : Int} {tgt : Nat} (ok : MOk X M cc nL fr lo own) (hd : decode cc pc = .ok (.if_icmp .ne off, 3)) (ht : (pc : Int) + off = (tgt : Int)) (ra : R32 a) (rb : R32 b)
    (kt : ¬ a = b → G X M cc nL σ tgt ls st) (kf : a = b → G X M cc nL σ (pc + 3) ls st) : G X M cc nL σ pc ls (.inl b :: .inl a :: st) := by
  obtain ⟨p, l, e, R, s, m, args, below, meth, c, Q⟩ := M
  obtain ⟨hx, hb, hml, hown, hts, hK, hfr, hlo⟩ := ok
  intro H locs la hM hR hS hl
  exact lv_icmp_ne (x := iI a) (y := iI b) hx hb hd ht (fun q => kt (fun z => q ((iI_eq ra rb).mpr z)) H locs la hM hR hS hl) (fun q => kf ((iI_eq ra rb).mp q) H locs la hM hR hS hl)
theorem g_if_ne {a off : Int} {tgt : Nat} (ok : MOk X M cc nL fr lo own) (hd : decode cc pc = .ok (.ifCond .ne off, 3)) (ht : (pc : Int) + off = (tgt : Int)) (ra : R32 a)
    (kt : ¬ a = 0 → G X M cc nL σ tgt ls st) (kf : a = 0 → G X M cc nL σ (pc + 3) ls st) : G X M cc nL σ pc ls (.inl a :: st) := by
  obtain ⟨p, l, e, R, s, m, args, below, meth, c, Q⟩ := M
  obtain ⟨hx, hb, hml, hown, hts, hK, hfr, hlo⟩ := ok
  intro H locs la hM hR hS hl
  exact lv_if_ne (x := iI a) hx hb hd ht (fun q => kt (fun z => q (by rw [← iI_0]; exact (iI_eq ra r0).mpr z)) H locs la hM hR hS hl) (fun q => kf ((iI_eq ra r0).mp (by rw [iI_0]; exact q)) H locs la hM hR hS hl)
theorem g_lcmp_ne {a b off : Int} {tgt : Nat} (ok : MOk X M cc nL fr lo own) (hd0 : decode cc pc = .ok (.lcmp, 1)) (hd : decode cc (pc + 1) = .ok (.ifCond .ne off, 3)) (ht : ((pc + 1 : Nat) : Int) + off = (tgt : Int)) (ra : R64 a) (rb : R64 b)
    (kt : ¬ a = b → G X M cc nL σ tgt ls st) (kf : a = b → G X M cc nL σ (pc + 1 + 3) ls st) : G X M cc nL σ pc ls (.inr (.inl b) :: .inr (.inl a) :: st) := by
  obtain ⟨p, l, e, R, s, m, args, below, meth, c, Q⟩ := M
  obtain ⟨hx, hb, hml, hown, hts, hK, hfr, hlo⟩ := ok
  intro H locs la hM hR hS hl
  refine W.lcmp (x := lI a) (y := lI b) hx hb hd0 ?_
  exact lv_if_ne hx hb hd ht (fun q => kt (fun z => q ((lg_cmp_eq _ _).mpr ((lI_eq ra rb).mpr z))) H locs la hM hR hS hl) (fun q => kf ((lI_eq ra rb).mp ((lg_cmp_eq _ _).mp q)) H locs la hM hR hS hl)
theorem g_icmp_lt {a b off : Int} {tgt : Nat} (ok : MOk X M cc nL fr lo own) (hd : decode cc pc = .ok (.if_icmp .lt off, 3)) (ht : (pc : Int) + off = (tgt : Int)) (ra : R32 a) (rb : R32 b)
    (kt : a < b → G X M cc nL σ tgt ls st) (kf : ¬ a < b → G X M cc nL σ (pc + 3) ls st) : G X M cc nL σ pc ls (.inl b :: .inl a :: st) := by
  obtain ⟨p, l, e, R, s, m, args, below, meth, c, Q⟩ := M
  obtain ⟨hx, hb, hml, hown, hts, hK, hfr, hlo⟩ := ok
  intro H locs la hM hR hS hl
  exact lv_icmp_lt (x := iI a) (y := iI b) hx hb hd ht (fun q => kt ((iI_lt ra rb).mp q) H locs la hM hR hS hl) (fun q => kf (fun z => q ((iI_lt ra rb).mpr z)) H locs la hM hR hS hl)
theorem g_if_lt {a off : Int} {tgt : Nat} (ok : MOk X M cc nL fr lo own) (hd : decode cc pc = .ok (.ifCond .lt off, 3)) (ht : (pc : Int) + off = (tgt : Int)) (ra : R32 a)
    (kt : a < 0 → G X M cc nL σ tgt ls st) (kf : ¬ a < 0 → G X M cc nL σ (pc + 3) ls st) : G X M cc nL σ pc ls (.inl a :: st) := by
  obtain ⟨p, l, e, R, s, m, args, below, meth, c, Q⟩ := M
  obtain ⟨hx, hb, hml, hown, hts, hK, hfr, hlo⟩ := ok
  intro H locs la hM hR hS hl
  exact lv_if_lt (x := iI a) hx hb hd ht (fun q => kt ((iI_lt ra r0).mp (by rw [iI_0]; exact q)) H locs la hM hR hS hl) (fun q => kf (fun z => q (by rw [← iI_0]; exact (iI_lt ra r0).mpr z)) H locs la hM hR hS hl)
theorem g_lcmp_lt {a b off : Int} {tgt : Nat} (ok : MOk X M cc nL fr lo own) (hd0 : decode cc pc = .ok (.lcmp, 1)) (hd : decode cc (pc + 1) = .ok (.ifCond .lt off, 3)) (ht : ((pc + 1 : Nat) : Int) + off = (tgt : Int)) (ra : R64 a) (rb : R64 b)
    (kt : a < b → G X M cc nL σ tgt ls st) (kf : ¬ a < b → G X M cc nL σ (pc + 1 + 3) ls st) : G X M cc nL σ pc ls (.inr (.inl b) :: .inr (.inl a) :: st) := by
  obtain ⟨p, l, e, R, s, m, args, below, meth, c, Q⟩ := M
  obtain ⟨hx, hb, hml, hown, hts, hK, hfr, hlo⟩ := ok
  intro H locs la hM hR hS hl
  refine W.lcmp (x := lI a) (y := lI b) hx hb hd0 ?_
  exact lv_if_lt hx hb hd ht (fun q => kt ((lI_lt ra rb).mp ((lg_cmp_lt _ _).mp q)) H locs la hM hR hS hl) (fun q => kf (fun z => q ((lg_cmp_lt _ _).mpr ((lI_lt ra rb).mpr z))) H locs la hM hR hS hl)
theorem g_icmp_ge {a b off : Int} {tgt : Nat} (ok : MOk X M cc nL fr lo own) (hd : decode cc pc = .ok (.if_icmp .ge off, 3)) (ht : (pc : Int) + off = (tgt : Int)) (ra : R32 a) (rb : R32 b)
    (kt : b ≤ a → G X M cc nL σ tgt ls st) (kf : ¬ b ≤ a → G X M cc nL σ (pc + 3) ls st) : G X M cc nL σ pc ls (.inl b :: .inl a :: st) := by
  obtain ⟨p, l, e, R, s, m, args, below, meth, c, Q⟩ := M
  obtain ⟨hx, hb, hml, hown, hts, hK, hfr, hlo⟩ := ok
  intro H locs la hM hR hS hl
  exact lv_icmp_ge (x := iI a) (y := iI b) hx hb hd ht (fun q => kt ((iI_le rb ra).mp q) H locs la hM hR hS hl) (fun q => kf (fun z => q ((iI_le rb ra).mpr z)) H locs la hM hR hS hl)
theorem g_if_ge {a off : Int} {tgt : Nat} (ok : MOk X M cc nL fr lo own) (hd : decode cc pc = .ok (.ifCond .ge off, 3)) (ht : (pc : Int) + off = (tgt : Int)) (ra : R32 a)
    (kt : 0 ≤ a → G X M cc nL σ tgt ls st) (kf : ¬ 0 ≤ a → G X M cc nL σ (pc + 3) ls st) : G X M cc nL σ pc ls (.inl a :: st) := by
  obtain ⟨p, l, e, R, s, m, args, below, meth, c, Q⟩ := M
  obtain ⟨hx, hb, hml, hown, hts, hK, hfr, hlo⟩ := ok
  intro H locs la hM hR hS hl
  exact lv_if_ge (x := iI a) hx hb hd ht (fun q => kt ((iI_le r0 ra).mp (by rw [iI_0]; exact q)) H locs la hM hR hS hl) (fun q => kf (fun z => q (by rw [← iI_0]; exact (iI_le r0 ra).mpr z)) H locs la hM hR hS hl)
theorem g_lcmp_ge {a b off : Int} {tgt : Nat} (ok : MOk X M cc nL fr lo own) (hd0 : decode cc pc = .ok (.lcmp, 1)) (hd : decode cc (pc + 1) = .ok (.ifCond .ge off, 3)) (ht : ((pc + 1 : Nat) : Int) + off = (tgt : Int)) (ra : R64 a) (rb : R64 b)
    (kt : b ≤ a → G X M cc nL σ tgt ls st) (kf : ¬ b ≤ a → G X M cc nL σ (pc + 1 + 3) ls st) : G X M cc nL σ pc ls (.inr (.inl b) :: .inr (.inl a) :: st) := by
  obtain ⟨p, l, e, R, s, m, args, below, meth, c, Q⟩ := M
  obtain ⟨hx, hb, hml, hown, hts, hK, hfr, hlo⟩ := ok
  intro H locs la hM hR hS hl
  refine W.lcmp (x := lI a) (y := lI b) hx hb hd0 ?_
  exact lv_if_ge hx hb hd ht (fun q => kt ((lI_le rb ra).mp ((lg_cmp_ge _ _).mp q)) H locs la hM hR hS hl) (fun q => kf (fun z => q ((lg_cmp_ge _ _).mpr ((lI_le rb ra).mpr z))) H locs la hM hR hS hl)
theorem g_icmp_gt {a b off : Int} {tgt : Nat} (ok : MOk X M cc nL fr lo own) (hd : decode cc pc = .ok (.if_icmp .gt off, 3)) (ht : (pc : Int) + off = (tgt : Int)) (ra : R32 a) (rb : R32 b)
    (kt : b < a → G X M cc nL σ tgt ls st) (kf : ¬ b < a → G X M cc nL σ (pc + 3) ls st) : G X M cc nL σ pc ls (.inl b :: .inl a :: st) := by
  obtain ⟨p, l, e, R, s, m, args, below, meth, c, Q⟩ := M
  obtain ⟨hx, hb, hml, hown, hts, hK, hfr, hlo⟩ := ok
  intro H locs la hM hR hS hl
  exact lv_icmp_gt (x := iI a) (y := iI b) hx hb hd ht (fun q => kt ((iI_lt rb ra).mp q) H locs la hM hR hS hl) (fun q => kf (fun z => q ((iI_lt rb ra).mpr z)) H locs la hM hR hS hl)
theorem g_if_gt {a off : Int} {tgt : Nat} (ok : MOk X M cc nL fr lo own) (hd : decode cc pc = .ok (.ifCond .gt off, 3)) (ht : (pc : Int) + off = (tgt : Int)) (ra : R32 a)
    (kt : 0 < a → G X M cc nL σ tgt ls st) (kf : ¬ 0 < a → G X M cc nL σ (pc + 3) ls st) : G X M cc nL σ pc ls (.inl a :: st) := by
  obtain ⟨p, l, e, R, s, m, args, below, meth, c, Q⟩ := M
  obtain ⟨hx, hb, hml, hown, hts, hK, hfr, hlo⟩ := ok
  intro H locs la hM hR hS hl
  exact lv_if_gt (x := iI a) hx hb hd ht (fun q => kt ((iI_lt r0 ra).mp (by rw [iI_0]; exact q)) H locs la hM hR hS hl) (fun q => kf (fun z => q (by rw [← iI_0]; exact (iI_lt r0 ra).mpr z)) H locs la hM hR hS hl)
theorem g_lcmp_gt {a b off : Int} {tgt : Nat} (ok : MOk X M cc nL fr lo own) (hd0 : decode cc pc = .ok (.lcmp, 1)) (hd : decode cc (pc + 1) = .ok (.ifCond .gt off, 3)) (ht : ((pc + 1 : Nat) : Int) + off = (tgt : Int)) (ra : R64 a) (rb : R64 b)
    (kt : b < a → G X M cc nL σ tgt ls st) (kf : ¬ b < a → G X M cc nL σ (pc + 1 + 3) ls st) : G X M cc nL σ pc ls (.inr (.inl b) :: .inr (.inl a) :: st) := by
  obtain ⟨p, l, e, R, s, m, args, below, meth, c, Q⟩ := M
  obtain ⟨hx, hb, hml, hown, hts, hK, hfr, hlo⟩ := ok
  intro H locs la hM hR hS hl
  refine W.lcmp (x := lI a) (y := lI b) hx hb hd0 ?_
  exact lv_if_gt hx hb hd ht (fun q => kt ((lI_lt rb ra).mp ((lg_cmp_gt _ _).mp q)) H locs la hM hR hS hl) (fun q => kf (fun z => q ((lg_cmp_gt _ _).mpr ((lI_lt rb ra).mpr z))) H locs la hM hR hS hl)
theorem g_icmp_le {a b off : Int} {tgt : Nat} (ok : MOk X M cc nL fr lo own) (hd : decode cc pc = .ok (.if_icmp .le off, 3)) (ht : (pc : Int) + off = (tgt : Int)) (ra : R32 a) (rb : R32 b)
    (kt : a ≤ b → G X M cc nL σ tgt ls st) (kf : ¬ a ≤ b → G X M cc nL σ (pc + 3) ls st) : G X M cc nL σ pc ls (.inl b :: .inl a :: st) := by
  obtain ⟨p, l, e, R, s, m, args, below, meth, c, Q⟩ := M
  obtain ⟨hx, hb, hml, hown, hts, hK, hfr, hlo⟩ := ok
  intro H locs la hM hR hS hl
  exact lv_icmp_le (x := iI a) (y := iI b) hx hb hd ht (fun q => kt ((iI_le ra rb).mp q) H locs la hM hR hS hl) (fun q => kf (fun z => q ((iI_le ra rb).mpr z)) H locs la hM hR hS hl)
theorem g_if_le {a off : Int} {tgt : Nat} (ok : MOk X M cc nL fr lo own) (hd : decode cc pc = .ok (.ifCond .le off, 3)) (ht : (pc : Int) + off = (tgt : Int)) (ra : R32 a)
    (kt : a ≤ 0 → G X M cc nL σ tgt ls st) (kf : ¬ a ≤ 0 → G X M cc nL σ (pc + 3) ls st) : G X M cc nL σ pc ls (.inl a :: st) := by
  obtain ⟨p, l, e, R, s, m, args, below, meth, c, Q⟩ := M
  obtain ⟨hx, hb, hml, hown, hts, hK, hfr, hlo⟩ := ok
  intro H locs la hM hR hS hl
  exact lv_if_le (x := iI a) hx hb hd ht (fun q => kt ((iI_le ra r0).mp (by rw [iI_0]; exact q)) H locs la hM hR hS hl) (fun q => kf (fun z => q (by rw [← iI_0]; exact (iI_le ra r0).mpr z)) H locs la hM hR hS hl)
theorem g_lcmp_le {a b off : Int} {tgt : Nat} (ok : MOk X M cc nL fr lo own) (hd0 : decode cc pc = .ok (.lcmp, 1)) (hd : decode cc (pc + 1) = .ok (.ifCond .le off, 3)) (ht : ((pc + 1 : Nat) : Int) + off = (tgt : Int)) (ra : R64 a) (rb : R64 b)
    (kt : a ≤ b → G X M cc nL σ tgt ls st) (kf : ¬ a ≤ b → G X M cc nL σ (pc + 1 + 3) ls st) : G X M cc nL σ pc ls (.inr (.inl b) :: .inr (.inl a) :: st) := by
  obtain ⟨p, l, e, R, s, m, args, below, meth, c, Q⟩ := M
  obtain ⟨hx, hb, hml, hown, hts, hK, hfr, hlo⟩ := ok
  intro H locs la hM hR hS hl
  refine W.lcmp (x := lI a) (y := lI b) hx hb hd0 ?_
  exact lv_if_le hx hb hd ht (fun q => kt ((lI_le ra rb).mp ((lg_cmp_le _ _).mp q)) H locs la hM hR hS hl) (fun q => kf (fun z => q ((lg_cmp_le _ _).mpr ((lI_le ra rb).mpr z))) H locs la hM hR hS hl)
theorem g_ifb_eq {P : Prop} [Decidable P] {off : Int} {tgt : Nat} (ok : MOk X M cc nL fr lo own) (hd : decode cc pc = .ok (.ifCond .eq off, 3)) (ht : (pc : Int) + off = (tgt : Int))
    (kt : ¬ P → G X M cc nL σ tgt ls st) (kf : P → G X M cc nL σ (pc + 3) ls st) : G X M cc nL σ pc ls (.inl (bI P) :: st) :=
  g_if_eq ok hd ht ⟨by have := (bI_in (c := P)).1; omega, by have := (bI_in (c := P)).2; omega⟩ (fun h => kt (bI_0.mp h)) (fun h => kf (Decidable.of_not_not (fun z => h (bI_0.mpr z))))
theorem g_ifb_ne {P : Prop} [Decidable P] {off : Int} {tgt : Nat} (ok : MOk X M cc nL fr lo own) (hd : decode cc pc = .ok (.ifCond .ne off, 3)) (ht : (pc : Int) + off = (tgt : Int))
    (kt : P → G X M cc nL σ tgt ls st) (kf : ¬ P → G X M cc nL σ (pc + 3) ls st) : G X M cc nL σ pc ls (.inl (bI P) :: st) :=
  g_if_ne ok hd ht ⟨by have := (bI_in (c := P)).1; omega, by have := (bI_in (c := P)).2; omega⟩ (fun h => kt (Decidable.of_not_not (fun z => h (bI_0.mpr z)))) (fun h => kf (bI_0.mp h))
theorem g_tabIn {dflt lo2 hi off z : Int} {offs : Array Int} {len tgt : Nat} (ok : MOk X M cc nL fr lo own) (hd : decode cc pc = .ok (.tableswitch dflt lo2 hi offs, len)) (r : R32 z) (h1 : lo2 ≤ z) (h2 : z ≤ hi) (ho : offs[(z - lo2).toNat]? = some off) (ht : (pc : Int) + off = (tgt : Int))
    (kk : G X M cc nL σ tgt ls st) : G X M cc nL σ pc ls (.inl z :: st) := by
  obtain ⟨p, l, e, R, s, m, args, below, meth, c, Q⟩ := M
  obtain ⟨hx, hb, hml, hown, hts, hK, hfr, hlo⟩ := ok
  intro H locs la hM hR hS hl
  exact lv_tableIn (x := iI z) hx hb hd (by rw [iI_toInt r]; omega) (by rw [iI_toInt r]; omega) (by rw [iI_toInt r]; exact ho) ht (kk H locs la hM hR hS hl)
theorem g_tabOut {dflt lo2 hi z : Int} {offs : Array Int} {len tgt : Nat} (ok : MOk X M cc nL fr lo own) (hd : decode cc pc = .ok (.tableswitch dflt lo2 hi offs, len)) (r : R32 z) (h1 : z < lo2 ∨ hi < z) (ht : (pc : Int) + dflt = (tgt : Int))
    (kk : G X M cc nL σ tgt ls st) : G X M cc nL σ pc ls (.inl z :: st) := by
  obtain ⟨p, l, e, R, s, m, args, below, meth, c, Q⟩ := M
  obtain ⟨hx, hb, hml, hown, hts, hK, hfr, hlo⟩ := ok
  intro H locs la hM hR hS hl
  exact lv_tableOut (x := iI z) hx hb hd (by rw [iI_toInt r]; omega) ht (kk H locs la hM hR hS hl)
end ROWS
