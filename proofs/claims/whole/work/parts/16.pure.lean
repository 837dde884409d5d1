/-! the system in whole numbers: what both sides compute -/
def BAD : Int := -9000000000000000001
def NO : Int := -9000000000000000002
def FULL : Int := -9000000000000000003
def NONE : Int := -9000000000000000005
def NOTHING : Int := -9000000000000000011
def INDEX : Int := -9000000000000000013
def SIZE : Int := -9000000000000000014
theorem bIr {c : Prop} [Decidable c] : R32 (bI c) := ⟨by have := (bI_in (c := c)).1; omega, by have := (bI_in (c := c)).2; omega⟩
theorem up_s {σ : Mm} {a b : Nat} {i z v : Int} (h : b ≠ a) : up σ a i z v b = σ b := by
  funext j y
  unfold up
  rw [if_neg (fun q => h q.1)]
theorem up_e {σ : Mm} {a : Nat} {i j y z v : Int} : up σ a i z v a j y = if j = i ∧ y = z then v else σ a j y := by
  unfold up
  simp
/-- a row filled, a row copied -/
def fillR (σ : Mm) (a : Nat) (i lo hi v : Int) : Mm := fun b j y => if b = a ∧ j = i ∧ lo ≤ y ∧ y < hi then v else σ b j y
def cpyA (σ : Mm) (a : Nat) (i sp : Int) (b : Nat) (j dp n : Int) : Mm := fun c k y => if c = b ∧ k = j ∧ dp ≤ y ∧ y < dp + n then σ a i (sp + (y - dp)) else σ c k y
theorem fillR_s {σ : Mm} {a b : Nat} {i lo hi v : Int} (h : b ≠ a) : fillR σ a i lo hi v b = σ b := by
  funext j y
  unfold fillR
  rw [if_neg (fun q => h q.1)]
theorem fillR_e {σ : Mm} {a : Nat} {i j y lo hi v : Int} : fillR σ a i lo hi v a j y = if j = i ∧ lo ≤ y ∧ y < hi then v else σ a j y := by
  unfold fillR
  simp
theorem fillR_0 (σ : Mm) (a : Nat) (i lo v : Int) : fillR σ a i lo lo v = σ := by
  funext b j y
  unfold fillR
  rw [if_neg (by omega)]
theorem fillR_up {σ : Mm} {a : Nat} {i lo k v : Int} (h : lo ≤ k) : up (fillR σ a i lo k v) a i k v = fillR σ a i lo (k + 1) v := by
  funext b j y
  unfold up fillR
  by_cases h1 : b = a ∧ j = i
  · by_cases h2 : y = k
    · rw [if_pos ⟨h1.1, h1.2, h2⟩, if_pos ⟨h1.1, h1.2, by omega, by omega⟩]
    · rw [if_neg (fun q => h2 q.2.2)]
      by_cases h3 : lo ≤ y ∧ y < k
      · rw [if_pos ⟨h1.1, h1.2, h3.1, h3.2⟩, if_pos ⟨h1.1, h1.2, by omega, by omega⟩]
      · rw [if_neg (fun q => h3 q.2.2), if_neg (fun q => h3 ⟨q.2.2.1, by omega⟩)]
  · rw [if_neg (fun q => h1 ⟨q.1, q.2.1⟩), if_neg (fun q => h1 ⟨q.1, q.2.1⟩), if_neg (fun q => h1 ⟨q.1, q.2.1⟩)]
theorem cpyA_s {σ : Mm} {a b c : Nat} {i sp j dp n : Int} (h : c ≠ b) : cpyA σ a i sp b j dp n c = σ c := by
  funext k y
  unfold cpyA
  rw [if_neg (fun q => h q.1)]
theorem cpyA_e {σ : Mm} {a b : Nat} {i sp j dp n k y : Int} : cpyA σ a i sp b j dp n b k y = if k = j ∧ dp ≤ y ∧ y < dp + n then σ a i (sp + (y - dp)) else σ b k y := by
  unfold cpyA
  simp
/-- sums -/
def sumN (f : Int → Int) : Nat → Int
  | 0 => 0
  | n + 1 => sumN f n + f n
def sm (f : Int → Int) (t : Int) : Int := sumN f t.toNat
theorem sm_0 (f : Int → Int) : sm f 0 = 0 := rfl
theorem sm_s {f : Int → Int} {t : Int} (h : 0 ≤ t) : sm f (t + 1) = sm f t + f t := by
  unfold sm
  have e : (t + 1).toNat = t.toNat + 1 := by omega
  rw [e]
  show sumN f t.toNat + f t.toNat = _
  rw [Int.toNat_of_nonneg h]
theorem sumN_c {f g : Int → Int} : ∀ {n : Nat}, (∀ t : Int, 0 ≤ t → t < n → f t = g t) → sumN f n = sumN g n
  | 0, _ => rfl
  | n + 1, h => by
    show sumN f n + f n = sumN g n + g n
    rw [sumN_c (n := n) (fun t h0 h1 => h t h0 (by omega)), h n (by omega) (by omega)]
theorem sm_c {f g : Int → Int} {n : Int} (h : ∀ t : Int, 0 ≤ t → t < n → f t = g t) : sm f n = sm g n := sumN_c (fun t h0 h1 => h t h0 (by omega))
theorem sumN_b {f : Int → Int} {a b : Int} : ∀ {n : Nat}, (∀ t : Int, 0 ≤ t → t < n → a ≤ f t ∧ f t ≤ b) → a * n ≤ sumN f n ∧ sumN f n ≤ b * n
  | 0, _ => by simp [sumN]
  | n + 1, h => by
    have i := sumN_b (n := n) (fun t h0 h1 => h t h0 (by omega))
    have j := h n (by omega) (by omega)
    have e1 : a * ((n + 1 : Nat) : Int) = a * n + a := by rw [Int.natCast_add, Int.mul_add]; simp
    have e2 : b * ((n + 1 : Nat) : Int) = b * n + b := by rw [Int.natCast_add, Int.mul_add]; simp
    rw [e1, e2]
    show a * n + a ≤ sumN f n + f n ∧ sumN f n + f n ≤ b * n + b
    omega
theorem sm_b {f : Int → Int} {a b n : Int} (h0 : 0 ≤ n) (h : ∀ t : Int, 0 ≤ t → t < n → a ≤ f t ∧ f t ≤ b) : a * n ≤ sm f n ∧ sm f n ≤ b * n := by
  have i := sumN_b (f := f) (a := a) (b := b) (n := n.toNat) (fun t h0 h1 => h t h0 (by omega))
  rw [Int.toNat_of_nonneg h0] at i
  exact i
/-- money of a number at a price -/
def mon (loss wear d p : Int) : Int := if 0 < d then -p * (d + (d * loss + 99) / 100) else (p - wear) * -d
/-- the reference's own words -/
def MT (σ : Mm) : Prop := 1 ≤ σ 28 0 0 ∧ σ 28 0 0 ≤ 36
def MK (σ : Mm) : Prop := ∀ t, 0 ≤ σ 30 0 t ∧ σ 30 0 t ≤ 10
def MP (σ : Mm) : Prop := (∀ w, -1 ≤ σ 31 0 w ∧ σ 31 0 w ≤ 2 ∧ 0 ≤ σ 32 0 w ∧ σ 32 0 w ≤ 36) ∧ ∀ k, -10000 ≤ σ 33 0 k ∧ σ 33 0 k ≤ 10000
def MSt (σ : Mm) : Prop := ∀ s, (-1 ≤ σ 34 0 s ∧ σ 34 0 s ≤ 4) ∧ (0 ≤ σ 35 0 s ∧ σ 35 0 s ≤ 60) ∧ (0 ≤ σ 36 0 s ∧ σ 36 0 s ≤ 60) ∧ (0 ≤ σ 37 0 s ∧ σ 37 0 s ≤ 20) ∧ (0 ≤ σ 38 0 s ∧ σ 38 0 s ≤ 20) ∧ (0 ≤ σ 39 0 s ∧ σ 39 0 s ≤ 50) ∧ (0 ≤ σ 40 0 s ∧ σ 40 0 s ≤ 100) ∧ (0 ≤ σ 41 0 s ∧ σ 41 0 s ≤ 60) ∧ (0 ≤ σ 42 0 s ∧ σ 42 0 s ≤ 100000)
def ML (σ : Mm) : Prop := ∀ k, -100 ≤ σ 43 0 k ∧ σ 43 0 k ≤ 100
def MD (σ : Mm) : Prop := (0 ≤ σ 28 0 17 ∧ σ 28 0 17 ≤ 12) ∧ ∀ b, (0 ≤ σ 44 0 (4 * b) ∧ σ 44 0 (4 * b) ≤ σ 44 0 (4 * b + 1) ∧ σ 44 0 (4 * b + 1) ≤ 35) ∧ (-20 ≤ σ 44 0 (4 * b + 2) ∧ σ 44 0 (4 * b + 2) ≤ 20) ∧ (-10000 ≤ σ 44 0 (4 * b + 3) ∧ σ 44 0 (4 * b + 3) ≤ 10000)
def ME (σ : Mm) : Prop := ∀ t, -1001 ≤ σ 45 0 t ∧ σ 45 0 t ≤ 1000
def MR (σ : Mm) : Prop := (0 ≤ σ 28 0 20 ∧ σ 28 0 20 ≤ 150) ∧ ∀ i, (0 ≤ σ 46 0 (5 * i) ∧ σ 46 0 (5 * i) ≤ 3) ∧ (0 ≤ σ 46 0 (5 * i + 1) ∧ σ 46 0 (5 * i + 1) ≤ 3) ∧ (0 ≤ σ 46 0 (5 * i + 2) ∧ σ 46 0 (5 * i + 2) ≤ 35) ∧ (-100 ≤ σ 46 0 (5 * i + 3) ∧ σ 46 0 (5 * i + 3) ≤ 100)
def rmM (σ : Mm) (t : Int) : Int := if σ 29 0 t = 0 then σ 30 0 t else 0
def pM (σ : Mm) (w t : Int) : Int := if 0 ≤ σ 31 0 w ∧ t < σ 32 0 w then σ 33 0 (36 * w + t) else 0
def inM (σ : Mm) (s : Int) : Int := if σ 34 0 s = 1 ∨ σ 34 0 s = 2 then 2 * σ 37 0 s else σ 37 0 s
def outM (σ : Mm) (s : Int) : Int := if σ 34 0 s = 1 ∨ σ 34 0 s = 2 then 2 * σ 38 0 s else σ 38 0 s
def lossM (σ : Mm) (s : Int) : Int := if σ 34 0 s = 2 then σ 39 0 s / 2 else σ 39 0 s
def topM (σ : Mm) (s : Int) : Int := if σ 34 0 s = 3 ∨ σ 34 0 s = 4 then σ 35 0 s * 4 / 5 else σ 35 0 s
def floM (σ : Mm) (s : Int) : Int := if σ 34 0 s = 4 then σ 35 0 s / 10 else 0
def monM (σ : Mm) (s d p : Int) : Int := mon (lossM σ s) (σ 40 0 s) d p
/-- the class's own words -/
def CT (σ : Mm) : Prop := 1 ≤ σ 1 0 0 ∧ σ 1 0 0 ≤ 36
def CK (σ : Mm) : Prop := ∀ t, 0 ≤ σ 3 0 t ∧ σ 3 0 t ≤ 10
def CP (σ : Mm) : Prop := ∀ w, (0 ≤ σ 6 w 1 ∧ σ 6 w 1 ≤ 2) ∧ (0 ≤ σ 6 w 2 ∧ σ 6 w 2 ≤ 36) ∧ ∀ t, -10000 ≤ σ 7 w t ∧ σ 7 w t ≤ 10000
def CS (σ : Mm) : Prop := ∀ s, (0 ≤ σ 8 s 1 ∧ σ 8 s 1 ≤ 4) ∧ (0 ≤ σ 8 s 2 ∧ σ 8 s 2 ≤ 60) ∧ (0 ≤ σ 8 s 3 ∧ σ 8 s 3 ≤ 60) ∧ (0 ≤ σ 8 s 4 ∧ σ 8 s 4 ≤ 6) ∧ (0 ≤ σ 8 s 5 ∧ σ 8 s 5 ≤ 60) ∧ (0 ≤ σ 8 s 6 ∧ σ 8 s 6 ≤ 40) ∧ (0 ≤ σ 8 s 7 ∧ σ 8 s 7 ≤ 40) ∧ (0 ≤ σ 8 s 8 ∧ σ 8 s 8 ≤ 50) ∧ (0 ≤ σ 8 s 9 ∧ σ 8 s 9 ≤ 100) ∧ (0 ≤ σ 8 s 10 ∧ σ 8 s 10 ≤ 60) ∧ (0 ≤ σ 8 s 11 ∧ σ 8 s 11 ≤ 100000)
def CL (σ : Mm) : Prop := ∀ s t, -100 ≤ σ 9 s t ∧ σ 9 s t ≤ 100
def CD (σ : Mm) : Prop := (0 ≤ σ 15 0 0 ∧ σ 15 0 0 ≤ 12) ∧ ∀ b, (0 ≤ σ 16 0 b ∧ σ 16 0 b ≤ σ 17 0 b ∧ σ 17 0 b ≤ 35) ∧ (-20 ≤ σ 18 0 b ∧ σ 18 0 b ≤ 20) ∧ (-10000 ≤ σ 19 0 b ∧ σ 19 0 b ≤ 10000)
def CE (σ : Mm) : Prop := ∀ t, -1001 ≤ σ 21 0 t ∧ σ 21 0 t ≤ 1000
def CR (σ : Mm) : Prop := (0 ≤ σ 22 0 0 ∧ σ 22 0 0 ≤ 150) ∧ ∀ i, (0 ≤ σ 23 0 i ∧ σ 23 0 i ≤ 3) ∧ (0 ≤ σ 24 0 i ∧ σ 24 0 i ≤ 3) ∧ (0 ≤ σ 25 0 i ∧ σ 25 0 i ≤ 35) ∧ (-100 ≤ σ 26 0 i ∧ σ 26 0 i ≤ 100)
def kbC (σ : Mm) (t : Int) : Int := if σ 2 0 t = 0 then σ 3 0 t else 0
def pC (σ : Mm) (w t : Int) : Int := if σ 6 w 0 ≠ 0 ∧ 0 ≤ t ∧ t ≤ σ 6 w 2 - 1 then σ 7 w t else 0
def monC (σ : Mm) (s d p : Int) : Int := mon (σ 8 s 8) (σ 8 s 9) d p
/-- whether a STORE of kind k is of kind a -/
def isP (k a : Int) : Prop := a = 0 ∨ (a = 1 ∧ (k = 1 ∨ k = 2)) ∨ (a = 3 ∧ (k = 3 ∨ k = 4)) ∨ (a ≠ 0 ∧ a ≠ 1 ∧ a ≠ 3 ∧ k = a)
def isPd (k a : Int) : Int := if a = 0 ∨ (a = 1 ∧ (k = 1 ∨ k = 2)) ∨ (a = 3 ∧ (k = 3 ∨ k = 4)) ∨ (a ≠ 0 ∧ a ≠ 1 ∧ a ≠ 3 ∧ k = a) then 1 else 0
/-- the first step of [t, t + n) with a fault -/
def fst (f : Int → Int) : Int → Nat → Int
  | _, 0 => NONE
  | t, n + 1 => if f t = 0 then fst f (t + 1) n else 10 * t + f t
theorem fst_c {f g : Int → Int} : ∀ {n : Nat} {t : Int}, (∀ k : Int, t ≤ k → k < t + n → f k = g k) → fst f t n = fst g t n
  | 0, _, _ => rfl
  | n + 1, t, h => by
    show (if f t = 0 then fst f (t + 1) n else 10 * t + f t) = (if g t = 0 then fst g (t + 1) n else 10 * t + g t)
    rw [fst_c (n := n) (t := t + 1) (fun k h0 h1 => h k (by omega) (by omega)), h t (by omega) (by omega)]
theorem tdiv2 (a : Int) : a.tdiv 2 = if 0 ≤ a then a / 2 else -((-a) / 2) := by
  split
  · rename_i h; exact Int.tdiv_eq_ediv_of_nonneg h
  · rename_i h
    have e : a = -(-a) := by omega
    rw [e, Int.neg_tdiv, Int.tdiv_eq_ediv_of_nonneg (by omega)]
    simp
theorem tmod2 (a : Int) : a.tmod 2 = a - 2 * a.tdiv 2 := Int.tmod_def a 2
/-- three answers of a refusal -/
def P3 (σ : Mm) (c1 c2 c3 : Prop) (v1 v2 v3 : AV) : Option AV → Mm → Prop := fun r σ' => σ' = σ ∧ ((c1 ∧ r = some v1) ∨ (c2 ∧ r = some v2) ∨ (c3 ∧ r = some v3))
section CALL3
variable {X : XW} {M : MX} {cc : ByteArray} {nL fr lo : Nat} {own : String} {σ : Mm} {pc : Nat} {ls : List (Nat × AV)} {st : List AV}
theorem g_cV3 {idx : Nat} {y : MethodName} {cb : ByteArray} {mL n fr2 lo2 a ci N : Nat} {ret : Option FieldType} {i : Int} {av rest : List AV} {fs : List Value} {T : u_T} {c1 c2 c3 : Prop} {v1 v2 v3 : AV} (ok : MOk X M cc nL fr lo own) (hd : decode cc pc = .ok (.invokevirtual idx, 3)) (hw : MV own idx y cb mL ret n) (ct : Ct X M.2.1 y cb mL ret fr2 lo2 σ (.inr (.inr (a, i)) :: av) (P3 σ c1 c2 c3 v1 v2 v3))
    (hst : st = av.reverse ++ .inr (.inr (a, i)) :: rest) (hv : Vd a i) (he : encF X a i (σ a i) = .inr (ci, fs)) (hc : vwCl[ci]? = some (y.cls, T, N)) (hf : fr2 + 1 ≤ fr ∧ 8 + (mL + 11) + lo2 ≤ lo) (hn : av.length = n) (h8 : catS rest ≤ 8)
    (k1 : c1 → G X M cc nL σ (pc + 3) ls (v1 :: rest)) (k2 : c2 → G X M cc nL σ (pc + 3) ls (v2 :: rest)) (k3 : c3 → G X M cc nL σ (pc + 3) ls (v3 :: rest)) : G X M cc nL σ pc ls st :=
  g_callV ok hd hw ct hv he hc hf hn hst h8 (fun r s h => by
    obtain ⟨rfl, ⟨h, rfl⟩ | ⟨h, rfl⟩ | ⟨h, rfl⟩⟩ := h
    · exact k1 h
    · exact k2 h
    · exact k3 h)
end CALL3
section READ2
variable {X : XW} {M : MX} {cc : ByteArray} {nL fr lo : Nat} {own : String} {σ : Mm} {pc : Nat} {ls : List (Nat × AV)} {st : List AV}
/-- reads of what has not been written since: in an earlier memory's words -/
theorem g_geti2 (τ : Mm) {idx ci k a : Nat} {i z : Int} {fs : List Value} (ok : MOk X M cc nL fr lo own) (hd : decode cc pc = .ok (.getfield idx, 3)) (hf : FL own idx ci k) (hv : Vd a i) (he : encF X a i (σ a i) = .inr (ci, fs)) (hk : fs[k]? = some (.int (iI (σ a i z)))) (ht : tyk a z = 0) (hτ : σ a i z = τ a i z)
    (kk : -2147483648 ≤ τ a i z → τ a i z ≤ 2147483647 → G X M cc nL σ (pc + 3) ls (.inl (τ a i z) :: st)) : G X M cc nL σ pc ls (.inr (.inr (a, i)) :: st) :=
  g_geti ok hd hf hv he hk ht (fun h1 h2 => by rw [hτ] at h1 h2 ⊢; exact kk h1 h2)
theorem g_getz2 (τ : Mm) {idx ci k a : Nat} {i z : Int} {fs : List Value} (ok : MOk X M cc nL fr lo own) (hd : decode cc pc = .ok (.getfield idx, 3)) (hf : FL own idx ci k) (hv : Vd a i) (he : encF X a i (σ a i) = .inr (ci, fs)) (hk : fs[k]? = some (.int (iI (σ a i z)))) (ht : tyk a z = 2) (hτ : σ a i z = τ a i z)
    (kk : 0 ≤ τ a i z → τ a i z ≤ 1 → G X M cc nL σ (pc + 3) ls (.inl (τ a i z) :: st)) : G X M cc nL σ pc ls (.inr (.inr (a, i)) :: st) :=
  g_getz ok hd hf hv he hk ht (fun h1 h2 => by rw [hτ] at h1 h2 ⊢; exact kk h1 h2)
theorem g_iald2 (τ : Mm) {a n : Nat} {i z : Int} (ok : MOk X M cc nL fr lo own) (hd : decode cc pc = .ok (.iaload, 1)) (hv : Vd a i) (he : ∀ g, encF X a i g = aI X n g) (hz : 0 ≤ z ∧ z < n) (hn : n < 2147483648) (ht : tyk a z = 0) (hτ : σ a i z = τ a i z)
    (kk : -2147483648 ≤ τ a i z → τ a i z ≤ 2147483647 → G X M cc nL σ (pc + 1) ls (.inl (τ a i z) :: st)) : G X M cc nL σ pc ls (.inl z :: .inr (.inr (a, i)) :: st) :=
  g_iald ok hd hv he hz hn ht (fun h1 h2 => by rw [hτ] at h1 h2 ⊢; exact kk h1 h2)
theorem g_lald2 (τ : Mm) {a n : Nat} {i z : Int} (ok : MOk X M cc nL fr lo own) (hd : decode cc pc = .ok (.laload, 1)) (hv : Vd a i) (he : ∀ g, encF X a i g = aJ X n g) (hz : 0 ≤ z ∧ z < n) (hn : n < 2147483648) (ht : tyk a z = 1) (hτ : σ a i z = τ a i z)
    (kk : -9223372036854775808 ≤ τ a i z → τ a i z ≤ 9223372036854775807 → G X M cc nL σ (pc + 1) ls (.inr (.inl (τ a i z)) :: st)) : G X M cc nL σ pc ls (.inl z :: .inr (.inr (a, i)) :: st) :=
  g_lald ok hd hv he hz hn ht (fun h1 h2 => by rw [hτ] at h1 h2 ⊢; exact kk h1 h2)
theorem g_zald2 (τ : Mm) {a n : Nat} {i z : Int} (ok : MOk X M cc nL fr lo own) (hd : decode cc pc = .ok (.baload, 1)) (hv : Vd a i) (he : ∀ g, encF X a i g = aZ X n g) (hz : 0 ≤ z ∧ z < n) (hn : n < 2147483648) (ht : tyk a z = 2) (hτ : σ a i z = τ a i z)
    (kk : 0 ≤ τ a i z → τ a i z ≤ 1 → G X M cc nL σ (pc + 1) ls (.inl (τ a i z) :: st)) : G X M cc nL σ pc ls (.inl z :: .inr (.inr (a, i)) :: st) :=
  g_zald ok hd hv he hz hn ht (fun h1 h2 => by rw [hτ] at h1 h2 ⊢; exact kk h1 h2)
end READ2
theorem limZ_b (w : Int) : (w = 0 → limZ w = 100) ∧ (w = 1 → limZ w = 1000) ∧ (w ≠ 0 → w ≠ 1 → limZ w = 10000) ∧ 100 ≤ limZ w ∧ limZ w ≤ 10000 := by
  unfold limZ
  by_cases h : w = 0
  · simp [h]
  · by_cases h1 : w = 1
    · simp [h1]
    · simp [h, h1]
theorem pM_b {σ : Mm} (h : MP σ) (w t : Int) : -10000 ≤ pM σ w t ∧ pM σ w t ≤ 10000 := by
  unfold pM
  split
  · exact h.2 _
  · omega
theorem pC_b {σ : Mm} (h : CP σ) (w t : Int) : -10000 ≤ pC σ w t ∧ pC σ w t ≤ 10000 := by
  unfold pC
  split
  · exact (h w).2.2 _
  · omega
section READ3
variable {X : XW} {M : MX} {cc : ByteArray} {nL fr lo : Nat} {own : String} {σ : Mm} {pc : Nat} {ls : List (Nat × AV)} {st : List AV}
theorem g_geti3 (v : Int) {idx ci k a : Nat} {i z : Int} {fs : List Value} (ok : MOk X M cc nL fr lo own) (hd : decode cc pc = .ok (.getfield idx, 3)) (hf : FL own idx ci k) (hv : Vd a i) (he : encF X a i (σ a i) = .inr (ci, fs)) (hk : fs[k]? = some (.int (iI (σ a i z)))) (ht : tyk a z = 0) (hτ : σ a i z = v)
    (kk : -2147483648 ≤ v → v ≤ 2147483647 → G X M cc nL σ (pc + 3) ls (.inl v :: st)) : G X M cc nL σ pc ls (.inr (.inr (a, i)) :: st) :=
  g_geti ok hd hf hv he hk ht (fun h1 h2 => by rw [hτ] at h1 h2 ⊢; exact kk h1 h2)
end READ3
theorem fst_stop {f : Int → Int} {t T : Int} (h : t < T) (hf : ¬ f t = 0) : fst f t (T - t).toNat = 10 * t + f t := by
  rw [show (T - t).toNat = (T - (t + 1)).toNat + 1 by omega]
  show (if f t = 0 then _ else _) = _
  rw [if_neg hf]
theorem fst_go {f : Int → Int} {t T : Int} (h : t < T) (hf : f t = 0) : fst f t (T - t).toNat = fst f (t + 1) (T - (t + 1)).toNat := by
  rw [show (T - t).toNat = (T - (t + 1)).toNat + 1 by omega]
  show (if f t = 0 then _ else _) = _
  rw [if_pos hf]
theorem fst_end {f : Int → Int} {t T : Int} (h : T ≤ t) : fst f t (T - t).toNat = NONE := by
  rw [show (T - t).toNat = 0 by omega]
  rfl
/-- the nearest reading, from k on by steps of way -/
def nr (f : Int → Int) (way : Int) : Nat → Int → Int
  | 0, _ => -1001
  | n + 1, k => if k < 0 ∨ 36 ≤ k then -1001 else if f k = -1001 then nr f way n (k + way) else f k
theorem nr_out {f : Int → Int} {way : Int} {n : Nat} {k : Int} (h : k < 0 ∨ 36 ≤ k) : nr f way n k = -1001 := by
  cases n with
  | zero => rfl
  | succ n => show (if _ then _ else _) = _; rw [if_pos h]
theorem nr_go {f : Int → Int} {way : Int} {n : Nat} {k : Int} (h0 : 0 ≤ k) (h1 : k < 36) (hf : f k = -1001) : nr f way (n + 1) k = nr f way n (k + way) := by
  show (if _ then _ else _) = _
  rw [if_neg (by omega), if_pos hf]
theorem nr_hit {f : Int → Int} {way : Int} {n : Nat} {k : Int} (h0 : 0 ≤ k) (h1 : k < 36) (hf : ¬ f k = -1001) : nr f way (n + 1) k = f k := by
  show (if _ then _ else _) = _
  rw [if_neg (by omega), if_neg hf]
theorem nr_b {f : Int → Int} {way : Int} (h : ∀ t, -1001 ≤ f t ∧ f t ≤ 1000) : ∀ (n : Nat) (k : Int), -1001 ≤ nr f way n k ∧ nr f way n k ≤ 1000
  | 0, _ => by show (-1001 : Int) ≤ -1001 ∧ (-1001 : Int) ≤ 1000; omega
  | n + 1, k => by
    unfold nr
    split
    · omega
    · split
      · exact nr_b h n (k + way)
      · exact h k
/-- what counts, of the reading r and its neighbours -/
def cnF (r a b : Int) : Int := if r = -1001 then (if a = -1001 then (if b = -1001 then 0 else b) else (if b = -1001 then a else (a + b) / 2)) else r
