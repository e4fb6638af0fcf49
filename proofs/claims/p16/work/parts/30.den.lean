/-! WHAT THE SYMBOLS SAY -/
def zF2 {α β : Type} (R : α → β → Prop) : List α → List β → Prop
  | [], [] => True
  | a :: as, b :: bs => R a b ∧ zF2 R as bs
  | _, _ => False
abbrev zC : Type := Nat × Nat × (Nat → Value)
abbrev zW : Type := Nat × (Nat → zC)
def zset (w : zW) (a k : Nat) (v : Value) : zW := (w.1, fun q => if q = a then ((w.2 a).1, (w.2 a).2.1, updV (w.2 a).2.2 k v) else w.2 q)
def znew (w : zW) (c : zC) : zW := (w.1 + 1, fun q => if q = w.1 then c else w.2 q)
def xval (ν : Nat → Int) : Prop := (∀ i, i < 20 → -2147483648 ≤ ν i ∧ ν i ≤ 2147483647) ∧ (∀ i, 20 ≤ i → -9223372036854775808 ≤ ν i ∧ ν i ≤ 9223372036854775807) ∧
  Int32.ofInt (ν 11) = Int32.ofInt (ν 10) - Int32.ofInt 10 ∧ Int32.ofInt (ν 12) = Int32.ofInt (ν 0) &&& Int32.ofInt 15 ∧
  ∀ j, 1 ≤ j → j ≤ 8 → Int64.ofInt (ν (20 + j)) = ((Int32.ofInt (ν j)).toInt64 <<< ((32 : Int32).toInt64 &&& 63)) ||| ((Int32.ofInt (ν (j + 1))).toInt64 &&& Int64.ofInt 4294967295)
def xin (ν : Nat → Int) (b : xB) : Prop := ∀ q ∈ b, q.2.1 ≤ ν q.1 ∧ ν q.1 ≤ q.2.2
theorem xbnd_ok {ν : Nat → Int} (hv : xval ν) : ∀ {b : xB}, xin ν b → ∀ i, (xbnd b i).1 ≤ ν i ∧ ν i ≤ (xbnd b i).2
  | [], _, i => by
    by_cases h : 20 ≤ i
    · have e : Nat.ble 20 i = true := Nat.ble_eq.mpr h
      have := hv.2.1 i h
      simp only [xbnd, e, cond_true]
      exact this
    · have e : Nat.ble 20 i = false := by
        cases hb : Nat.ble 20 i with
        | false => rfl
        | true => exact absurd (Nat.ble_eq.mp hb) h
      have := hv.1 i (by omega)
      simp only [xbnd, e, cond_false]
      exact this
  | q :: r, hb, i => by
    by_cases h : q.1 = i
    · have e : Nat.beq q.1 i = true := Nat.beq_eq.mpr h
      have h1 := hb q List.mem_cons_self
      simp only [xbnd, e, cond_true]
      rw [← h]
      exact h1
    · have e : Nat.beq q.1 i = false := by
        cases hb : Nat.beq q.1 i with
        | false => rfl
        | true => exact absurd (Nat.beq_eq.mp hb) h
      simp only [xbnd, e, cond_false]
      exact xbnd_ok hv (fun q hq => hb q (List.mem_cons_of_mem _ hq)) i
section XD
variable {B b0 : Nat} {ν : Nat → Int}
def xden (B b0 : Nat) (ν : Nat → Int) (x : xV) (v : Value) : Prop := match x.1 with
  | 0 => v = .int (Int32.ofInt x.2.1)
  | 1 => v = .long (Int64.ofInt x.2.1)
  | 2 => v = .null
  | 3 => v = .ref (B + x.2.1.toNat)
  | 4 => v = .int (Int32.ofInt (ν x.2.1.toNat)) ∧ x.2.1.toNat < 20
  | 5 => ∃ z : Int32, v = .int z
  | 6 => ∃ q : Nat, v = .ref q
  | 7 => v = .ref b0
  | 8 => v = .long (Int32.ofInt (ν x.2.1.toNat)).toInt64 ∧ x.2.1.toNat < 20
  | 9 => v = .long ((Int32.ofInt (ν x.2.1.toNat)).toInt64 <<< ((32 : Int32).toInt64 &&& 63))
  | 10 => v = .long ((Int32.ofInt (ν x.2.1.toNat)).toInt64 &&& Int64.ofInt 4294967295)
  | 11 => v = .long (Int64.ofInt (ν x.2.1.toNat))
  | 12 => ∃ z : Int64, v = .long z
  | 13 => v = .int (lg_cmp (Int64.ofInt (ν x.2.1.toNat)) (Int64.ofInt x.2.2)) ∧ -9223372036854775808 ≤ x.2.2 ∧ x.2.2 ≤ 9223372036854775807
  | 14 => v = .int (lg_cmp (Int64.ofInt x.2.2) (Int64.ofInt (ν x.2.1.toNat))) ∧ -9223372036854775808 ≤ x.2.2 ∧ x.2.2 ≤ 9223372036854775807
  | _ => False
theorem xk_iff {n : Nat} {x : xV} : xk n x = true ↔ x.1 = n := by rw [xk, Nat.beq_eq]
theorem xden_I {x : xV} {v : Value} (h : xden B b0 ν x v) (hi : xI x = true) : ∃ z : Int32, v = .int z := by
  obtain ⟨k, a, b⟩ := x
  simp only [xI, Bool.or_eq_true, Nat.beq_eq] at hi
  rcases hi with (((rfl | rfl) | rfl) | rfl) | rfl
  · exact ⟨_, h⟩
  · exact ⟨_, h.1⟩
  · exact h
  · exact ⟨_, h.1⟩
  · exact ⟨_, h.1⟩
theorem xden_J {x : xV} {v : Value} (h : xden B b0 ν x v) (hi : xJ x = true) : ∃ z : Int64, v = .long z := by
  obtain ⟨k, a, b⟩ := x
  simp only [xJ, Bool.or_eq_true, Nat.beq_eq] at hi
  rcases hi with ((((rfl | rfl) | rfl) | rfl) | rfl) | rfl
  · exact ⟨_, h⟩
  · exact ⟨_, h.1⟩
  · exact ⟨_, h⟩
  · exact ⟨_, h⟩
  · exact ⟨_, h⟩
  · exact h
theorem xden_R {x : xV} {v : Value} (h : xden B b0 ν x v) (hi : xR x = true) : v = .null ∨ ∃ q : Nat, v = .ref q := by
  obtain ⟨k, a, b⟩ := x
  simp only [xR, Bool.or_eq_true, Nat.beq_eq] at hi
  rcases hi with ((rfl | rfl) | rfl) | rfl
  · exact Or.inl h
  · exact Or.inr ⟨_, h⟩
  · exact Or.inr h
  · exact Or.inr ⟨_, h⟩
theorem xden_kind {x : xV} {v : Value} (h : xden B b0 ν x v) : xI x = true ∨ xJ x = true ∨ xR x = true := by
  obtain ⟨k, a, b⟩ := x
  unfold xden at h
  match k, h with
  | 0, _ => exact Or.inl rfl
  | 1, _ => exact Or.inr (Or.inl rfl)
  | 2, _ => exact Or.inr (Or.inr rfl)
  | 3, _ => exact Or.inr (Or.inr rfl)
  | 4, _ => exact Or.inl rfl
  | 5, _ => exact Or.inl rfl
  | 6, _ => exact Or.inr (Or.inr rfl)
  | 7, _ => exact Or.inr (Or.inr rfl)
  | 8, _ => exact Or.inr (Or.inl rfl)
  | 9, _ => exact Or.inr (Or.inl rfl)
  | 10, _ => exact Or.inr (Or.inl rfl)
  | 11, _ => exact Or.inr (Or.inl rfl)
  | 12, _ => exact Or.inr (Or.inl rfl)
  | 13, _ => exact Or.inl rfl
  | 14, _ => exact Or.inl rfl
  | k + 15, h => exact h.elim
theorem xden_cat {x : xV} {v : Value} (h : xden B b0 ν x v) : v.category = (bif xJ x then 2 else 1) := by
  by_cases hj : xJ x = true
  · obtain ⟨z, rfl⟩ := xden_J h hj
    rw [hj]; rfl
  · rw [Bool.not_eq_true] at hj
    rw [hj]
    rcases xden_kind h with h1 | h1 | h1
    · obtain ⟨z, rfl⟩ := xden_I h h1; rfl
    · rw [hj] at h1; cases h1
    · rcases xden_R h h1 with rfl | ⟨q, rfl⟩ <;> rfl
theorem xden_catB {x : xV} {v : Value} (h : xden B b0 ν x v) : (v.category == 2) = xJ x := by
  rw [xden_cat h]
  cases xJ x <;> rfl
theorem xden_0 {x : xV} {v : Value} (h : xden B b0 ν x v) (hk : xk 0 x = true) : v = .int (Int32.ofInt x.2.1) := by
  obtain ⟨k, a, b⟩ := x
  cases xk_iff.mp hk
  exact h
theorem xden_1 {x : xV} {v : Value} (h : xden B b0 ν x v) (hk : xk 1 x = true) : v = .long (Int64.ofInt x.2.1) := by
  obtain ⟨k, a, b⟩ := x
  cases xk_iff.mp hk
  exact h
theorem xden_3 {x : xV} {v : Value} (h : xden B b0 ν x v) (hk : xk 3 x = true) : v = .ref (B + x.2.1.toNat) := by
  obtain ⟨k, a, b⟩ := x
  cases xk_iff.mp hk
  exact h
theorem xden_4 {x : xV} {v : Value} (h : xden B b0 ν x v) (hk : xk 4 x = true) : v = .int (Int32.ofInt (ν x.2.1.toNat)) ∧ x.2.1.toNat < 20 := by
  obtain ⟨k, a, b⟩ := x
  cases xk_iff.mp hk
  exact h
theorem xden_7 {x : xV} {v : Value} (h : xden B b0 ν x v) (hk : xk 7 x = true) : v = .ref b0 := by
  obtain ⟨k, a, b⟩ := x
  cases xk_iff.mp hk
  exact h
theorem xden_8 {x : xV} {v : Value} (h : xden B b0 ν x v) (hk : xk 8 x = true) : v = .long (Int32.ofInt (ν x.2.1.toNat)).toInt64 ∧ x.2.1.toNat < 20 := by
  obtain ⟨k, a, b⟩ := x
  cases xk_iff.mp hk
  exact h
theorem xden_9 {x : xV} {v : Value} (h : xden B b0 ν x v) (hk : xk 9 x = true) : v = .long ((Int32.ofInt (ν x.2.1.toNat)).toInt64 <<< ((32 : Int32).toInt64 &&& 63)) := by
  obtain ⟨k, a, b⟩ := x
  cases xk_iff.mp hk
  exact h
theorem xden_10 {x : xV} {v : Value} (h : xden B b0 ν x v) (hk : xk 10 x = true) : v = .long ((Int32.ofInt (ν x.2.1.toNat)).toInt64 &&& Int64.ofInt 4294967295) := by
  obtain ⟨k, a, b⟩ := x
  cases xk_iff.mp hk
  exact h
theorem xden_11 {x : xV} {v : Value} (h : xden B b0 ν x v) (hk : xk 11 x = true) : v = .long (Int64.ofInt (ν x.2.1.toNat)) := by
  obtain ⟨k, a, b⟩ := x
  cases xk_iff.mp hk
  exact h
theorem xden_13 {x : xV} {v : Value} (h : xden B b0 ν x v) (hk : xk 13 x = true) : v = .int (lg_cmp (Int64.ofInt (ν x.2.1.toNat)) (Int64.ofInt x.2.2)) ∧ -9223372036854775808 ≤ x.2.2 ∧ x.2.2 ≤ 9223372036854775807 := by
  obtain ⟨k, a, b⟩ := x
  cases xk_iff.mp hk
  exact h
theorem xden_14 {x : xV} {v : Value} (h : xden B b0 ν x v) (hk : xk 14 x = true) : v = .int (lg_cmp (Int64.ofInt x.2.2) (Int64.ofInt (ν x.2.1.toNat))) ∧ -9223372036854775808 ≤ x.2.2 ∧ x.2.2 ≤ 9223372036854775807 := by
  obtain ⟨k, a, b⟩ := x
  cases xk_iff.mp hk
  exact h
/-! stacks, variables, cells, worlds -/
abbrev xds (B b0 : Nat) (ν : Nat → Int) : List xV → List Value → Prop := zF2 (xden B b0 ν)
abbrev xdl (B b0 : Nat) (ν : Nat → Int) : List (Nat × xV) → List (Nat × Value) → Prop := zF2 (fun q u => q.1 = u.1 ∧ xden B b0 ν q.2 u.2)
theorem xlook_ok {j : Nat} {x : xV} : ∀ {l : List (Nat × xV)} {l' : List (Nat × Value)}, xlook l j = some x → xdl B b0 ν l l' → ∃ (k : Nat) (v : Value), l'[k]? = some (j, v) ∧ xden B b0 ν x v
  | [], _, h, _ => by simp [xlook] at h
  | q :: r, [], _, hd => hd.elim
  | q :: r, u :: us, h, hd => by
    by_cases hq : q.1 = j
    · have e : Nat.beq q.1 j = true := Nat.beq_eq.mpr hq
      simp only [xlook, e, cond_true, Option.some.injEq] at h
      refine ⟨0, u.2, ?_, h ▸ hd.1.2⟩
      rw [List.getElem?_cons_zero, ← hq, hd.1.1]
    · have e : Nat.beq q.1 j = false := by
        cases hb : Nat.beq q.1 j with
        | false => rfl
        | true => exact absurd (Nat.beq_eq.mp hb) hq
      simp only [xlook, e, cond_false] at h
      obtain ⟨k, v, h1, h2⟩ := xlook_ok h hd.2
      exact ⟨k + 1, v, by rw [List.getElem?_cons_succ]; exact h1, h2⟩
theorem xfil1 (i : Nat) : ∀ {l : List (Nat × xV)} {l' : List (Nat × Value)}, xdl B b0 ν l l' →
    xdl B b0 ν (l.filter (fun q => !(q.1 == i) && !(q.1 + 1 == i && xJ q.2))) (l'.filter (fun q => !(q.1 == i) && !(q.1 + 1 == i && q.2.category == 2)))
  | [], [], _ => trivial
  | [], _ :: _, h => h.elim
  | _ :: _, [], h => h.elim
  | q :: r, u :: us, h => by
    have ih := xfil1 i h.2
    have e : (!(u.1 == i) && !(u.1 + 1 == i && u.2.category == 2)) = (!(q.1 == i) && !(q.1 + 1 == i && xJ q.2)) := by rw [xden_catB h.1.2, h.1.1]
    simp only [List.filter_cons, e]
    cases (!(q.1 == i) && !(q.1 + 1 == i && xJ q.2)) with
    | true => exact ⟨h.1, ih⟩
    | false => exact ih
theorem xfil2 (i : Nat) : ∀ {l : List (Nat × xV)} {l' : List (Nat × Value)}, xdl B b0 ν l l' →
    xdl B b0 ν (l.filter (fun q => !(q.1 == i) && (!(q.1 == i + 1) && !(q.1 + 1 == i && xJ q.2)))) (l'.filter (fun q => !(q.1 == i) && (!(q.1 == i + 1) && !(q.1 + 1 == i && q.2.category == 2))))
  | [], [], _ => trivial
  | [], _ :: _, h => h.elim
  | _ :: _, [], h => h.elim
  | q :: r, u :: us, h => by
    have ih := xfil2 i h.2
    have e : (!(u.1 == i) && (!(u.1 == i + 1) && !(u.1 + 1 == i && u.2.category == 2))) = (!(q.1 == i) && (!(q.1 == i + 1) && !(q.1 + 1 == i && xJ q.2))) := by rw [xden_catB h.1.2, h.1.1]
    simp only [List.filter_cons, e]
    cases (!(q.1 == i) && (!(q.1 == i + 1) && !(q.1 + 1 == i && xJ q.2))) with
    | true => exact ⟨h.1, ih⟩
    | false => exact ih
theorem xargs_ok : ∀ (i : Nat) {l : List xV} {l' : List Value}, xds B b0 ν l l' → xdl B b0 ν (xargs i l) (lv_args i l')
  | _, [], [], _ => trivial
  | _, [], _ :: _, h => h.elim
  | _, _ :: _, [], h => h.elim
  | i, x :: r, v :: vs, h => by
    have e : (if v.category = 2 then i + 2 else i + 1) = (bif xJ x then i + 2 else i + 1) := by
      rw [xden_cat h.1]
      cases xJ x <;> rfl
    simp only [xargs, lv_args, e]
    exact ⟨⟨rfl, h.1⟩, xargs_ok _ h.2⟩
theorem xcat_ok : ∀ {l : List xV} {l' : List Value}, xds B b0 ν l l' → (l'.map fun v => v.category).sum = xcat l
  | [], [], _ => rfl
  | [], _ :: _, h => h.elim
  | _ :: _, [], h => h.elim
  | x :: r, v :: vs, h => by
    rw [List.map_cons, List.sum_cons, xcat_ok h.2, xden_cat h.1]
    rfl
def xdc (B b0 : Nat) (ν : Nat → Int) (c : xC) (d : zC) : Prop := c.1 = d.1 ∧ c.2.1 = d.2.1 ∧ ∀ k, k < c.2.1 → xden B b0 ν (xget c.2.2.1 c.2.2.2 k) (d.2.2 k)
def xdw (B b0 : Nat) (ν : Nat → Int) (w : xW) (u : zW) : Prop := u.1 = B + w.1 ∧ w.1 ≤ 2048 ∧ ∀ i, i < w.1 → ∃ c, zget 11 w.2 i = some c ∧ xdc B b0 ν c (u.2 (B + i))
theorem xcell_ok {w : xW} {u : zW} {i : Int} {c : xC} (h : xcell w i = some c) (hw : xdw B b0 ν w u) : i.toNat < w.1 ∧ xdc B b0 ν c (u.2 (B + i.toNat)) := by
  cases i with
  | negSucc n => simp [xcell] at h
  | ofNat n =>
    by_cases hn : n + 1 ≤ w.1
    · have e : Nat.ble (n + 1) w.1 = true := Nat.ble_eq.mpr hn
      simp only [xcell, e, cond_true] at h
      obtain ⟨c', h1, h2⟩ := hw.2.2 n (by omega)
      cases h1.symm.trans h
      exact ⟨by show n < w.1; omega, h2⟩
    · have e : Nat.ble (n + 1) w.1 = false := by
        cases hb : Nat.ble (n + 1) w.1 with
        | false => rfl
        | true => exact absurd (Nat.ble_eq.mp hb) hn
      simp [xcell, e] at h
theorem xput_ok {w : xW} {u : zW} {i : Int} {c : xC} {k : Nat} {x : xV} {v : Value} (hi : i.toNat < w.1) (hw : xdw B b0 ν w u) (hc : xdc B b0 ν c (u.2 (B + i.toNat))) (hv : xden B b0 ν x v) :
    xdw B b0 ν (xput w i (c.1, c.2.1, c.2.2.1, xset c.2.2.2 k x)) (zset u (B + i.toNat) k v) := by
  refine ⟨hw.1, hw.2.1, fun j hj => ?_⟩
  have h1 : i.toNat < 2 ^ 11 := by have := hw.2.1; omega
  have h2 : j < 2 ^ 11 := by have := hw.2.1; have : j < w.1 := hj; omega
  by_cases e : j = i.toNat
  · subst e
    refine ⟨_, (zget_put 11 _ _ _ _ h1 h2).trans (if_pos rfl), ?_⟩
    show xdc B b0 ν _ (if B + i.toNat = B + i.toNat then _ else _)
    rw [if_pos rfl]
    refine ⟨hc.1, hc.2.1, fun q hq => ?_⟩
    show xden B b0 ν (xget _ (xset _ _ _) _) (updV _ _ _ _)
    rw [xget_set]
    by_cases eq : q = k
    · subst eq
      rw [if_pos rfl]
      show xden B b0 ν x (if q = q then v else _)
      rw [if_pos rfl]
      exact hv
    · rw [if_neg eq]
      show xden B b0 ν _ (if q = k then v else _)
      rw [if_neg eq]
      exact hc.2.2 q hq
  · obtain ⟨c', g1, g2⟩ := hw.2.2 j hj
    refine ⟨c', (zget_put 11 _ _ _ _ h1 h2).trans ((if_neg e).trans g1), ?_⟩
    show xdc B b0 ν _ (if B + j = B + i.toNat then _ else _)
    rw [if_neg (by omega)]
    exact g2
theorem xnew_ok {w : xW} {u : zW} {c : xC} {d : zC} (hw : xdw B b0 ν w u) (hs : w.1 + 1 ≤ 2048) (hc : xdc B b0 ν c d) : xdw B b0 ν (xnew w c) (znew u d) := by
  refine ⟨by show u.1 + 1 = B + (w.1 + 1); rw [hw.1]; omega, hs, fun j hj => ?_⟩
  have hj' : j < w.1 + 1 := hj
  have h1 : w.1 < 2 ^ 11 := by omega
  have h2 : j < 2 ^ 11 := by omega
  by_cases e : j = w.1
  · subst e
    refine ⟨_, (zget_put 11 _ _ _ _ h1 h2).trans (if_pos rfl), ?_⟩
    show xdc B b0 ν _ (if B + w.1 = u.1 then _ else _)
    rw [if_pos hw.1.symm]
    exact hc
  · obtain ⟨c', g1, g2⟩ := hw.2.2 j (by omega)
    refine ⟨c', (zget_put 11 _ _ _ _ h1 h2).trans ((if_neg e).trans g1), ?_⟩
    show xdc B b0 ν _ (if B + j = u.1 then _ else _)
    rw [if_neg (by rw [hw.1]; omega)]
    exact g2
end XD
