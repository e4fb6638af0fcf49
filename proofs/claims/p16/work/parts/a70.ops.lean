/-! NUMBERS: what the run on forms makes of them -/
theorem rI (z : Int32) : -2147483648 ≤ z.toInt ∧ z.toInt ≤ 2147483647 := by
  have h1 := Int32.le_toInt z
  have h2 := Int32.toInt_lt z
  omega
theorem rJ (z : Int64) : -9223372036854775808 ≤ z.toInt ∧ z.toInt ≤ 9223372036854775807 := by
  have h1 := Int64.le_toInt z
  have h2 := Int64.toInt_lt z
  omega
theorem zcc_sub {o : ClassFile.Cond} {a b : Int} : zcc o a b ↔ zcc o (a - b) 0 := by
  cases o <;> simp only [zcc] <;> omega
theorem atdv_eq {a b : Int} (hb : 0 < b) : atdv a b = a.tdiv b := by
  cases a with
  | ofNat n =>
    show Int.ofNat n / b = _
    rw [Int.tdiv_eq_ediv_of_nonneg (by simp)]
  | negSucc n =>
    show -(Int.ofNat (n + 1) / b) = _
    rw [show Int.negSucc n = -(Int.ofNat (n + 1)) from rfl, Int.neg_tdiv, Int.tdiv_eq_ediv_of_nonneg (show (0 : Int) ≤ Int.ofNat (n + 1) from Int.natCast_nonneg (n + 1))]
section AO
variable {B b0 L : Nat} {grp : Nat → Nat} {lit : Value → Prop}
theorem anyI_ok {ν : List Int} {z : aZ} {u : zW} (h : aγ B b0 L grp lit ν z u) (x : Int32) : ∃ ν', aext ν ν' ∧ aγ B b0 L grp lit ν' (anyI z).2 u ∧ dV B b0 L grp lit ν' (anyI z).1 (.int x) := by
  obtain ⟨ν', f1, f2, f3⟩ := afr_ok h (rI x).1 (rI x).2
  exact ⟨ν', f1, f3, x.toInt, f2, by rw [ofI], (rI x).1, (rI x).2⟩
theorem anyJ_ok {ν : List Int} {z : aZ} {u : zW} (h : aγ B b0 L grp lit ν z u) (x : Int64) : ∃ ν', aext ν ν' ∧ aγ B b0 L grp lit ν' (anyJ z).2 u ∧ dV B b0 L grp lit ν' (anyJ z).1 (.long x) := by
  obtain ⟨ν', f1, f2, f3⟩ := afr_ok h (rJ x).1 (rJ x).2
  exact ⟨ν', f1, f3, x.toInt, f2, by rw [ofJ], (rJ x).1, (rJ x).2⟩
theorem awrI_ok {ν : List Int} {z : aZ} {u : zW} (h : aγ B b0 L grp lit ν z u) {f : aF} {a : Int} (ha : ev ν f = some a) : ∃ ν', aext ν ν' ∧ aγ B b0 L grp lit ν' (aI1 (awrI z f)).2 u ∧ dV B b0 L grp lit ν' (aI1 (awrI z f)).1 (.int (Int32.ofInt a)) := by
  unfold awrI
  cases hr : rng (zb z) f with
  | none => exact anyI_ok h _
  | some p =>
    show ∃ ν', aext ν ν' ∧ aγ B b0 L grp lit ν' (aI1 (bif ile (-2147483648) p.1 && ile p.2 2147483647 then (f, z) else afr z (-2147483648) 2147483647)).2 u ∧ dV B b0 L grp lit ν' (aI1 (bif ile (-2147483648) p.1 && ile p.2 2147483647 then (f, z) else afr z (-2147483648) 2147483647)).1 (.int (Int32.ofInt a))
    cases hc : (ile (-2147483648) p.1 && ile p.2 2147483647) with
    | false => exact anyI_ok h _
    | true =>
      simp only [Bool.and_eq_true, ile_iff] at hc
      obtain ⟨x, e1, e2, e3⟩ := rng_ok h.2.1 hr
      rw [ha] at e1
      cases e1
      exact ⟨ν, aext_r ν, h, a, ha, rfl, by omega, by omega⟩
theorem awrJ_ok {ν : List Int} {z : aZ} {u : zW} (h : aγ B b0 L grp lit ν z u) {f : aF} {a : Int} (ha : ev ν f = some a) : ∃ ν', aext ν ν' ∧ aγ B b0 L grp lit ν' (aJ1 (awrJ z f)).2 u ∧ dV B b0 L grp lit ν' (aJ1 (awrJ z f)).1 (.long (Int64.ofInt a)) := by
  unfold awrJ
  cases hr : rng (zb z) f with
  | none => exact anyJ_ok h _
  | some p =>
    show ∃ ν', aext ν ν' ∧ aγ B b0 L grp lit ν' (aJ1 (bif ile (-9223372036854775808) p.1 && ile p.2 9223372036854775807 then (f, z) else afr z (-9223372036854775808) 9223372036854775807)).2 u ∧ dV B b0 L grp lit ν' (aJ1 (bif ile (-9223372036854775808) p.1 && ile p.2 9223372036854775807 then (f, z) else afr z (-9223372036854775808) 9223372036854775807)).1 (.long (Int64.ofInt a))
    cases hc : (ile (-9223372036854775808) p.1 && ile p.2 9223372036854775807) with
    | false => exact anyJ_ok h _
    | true =>
      simp only [Bool.and_eq_true, ile_iff] at hc
      obtain ⟨x, e1, e2, e3⟩ := rng_ok h.2.1 hr
      rw [ha] at e1
      cases e1
      exact ⟨ν, aext_r ν, h, a, ha, rfl, by omega, by omega⟩
theorem amulF_ok {ν : List Int} {x y f : aF} {a c : Int} (ha : ev ν x = some a) (hc : ev ν y = some c) (h : amulF x y = some f) : ev ν f = some (a * c) := by
  unfold amulF at h
  have con : ∀ {i : aF} {v : Int}, fcon i = true → ev ν i = some v → i.1 = v := by
    intro i v hi hv
    obtain ⟨k, l⟩ := i
    match l, hi with
    | [], _ => rw [ev_c] at hv; exact Option.some.inj hv
    | _ :: _, hi => cases hi
  rcases cnd_some h with ⟨h1, h⟩ | ⟨-, h⟩
  · cases h
    rw [con h1 ha, ev_sc a hc, Int.mul_comm]
  · obtain ⟨h1, h⟩ := cnd_t h
    cases h
    rw [con h1 hc, ev_sc c ha]
theorem anz_ok {ν : List Int} {z : aZ} {u : zW} (h : aγ B b0 L grp lit ν z u) {y : aF} {c : Int} (hc : ev ν y = some c) (hn : anz z y = true) : c ≠ 0 := by
  unfold anz at hn
  cases hr : rng (zb z) y with
  | none => rw [hr] at hn; cases hn
  | some p =>
    simp only [hr, Bool.or_eq_true, ilt_iff] at hn
    obtain ⟨x, e1, e2, e3⟩ := rng_ok h.2.1 hr
    rw [hc] at e1
    cases e1
    omega
theorem fcon_v {ν : List Int} {i : aF} {v : Int} (hi : fcon i = true) (hv : ev ν i = some v) : i.1 = v := by
  obtain ⟨k, l⟩ := i
  match l, hi with
  | [], _ => rw [ev_c] at hv; exact Option.some.inj hv
  | _ :: _, hi => cases hi
theorem zsC_ok {ν : List Int} {z : aZ} {u : zW} (h : aγ B b0 L grp lit ν z u) {f : aF} {cs : List aF} {x : Int} (hx : ev ν f = some x) (h0 : x ≤ 0) (hcs : cx ν cs) : aγ B b0 L grp lit ν (zsC z (zb z) (f :: cs)) u := by
  obtain ⟨g1, g2, g3, g4, g5, g6⟩ := h
  refine ⟨g1, g2, fun q hq => ?_, g4, g5, g6⟩
  rcases List.mem_cons.mp hq with rfl | hq
  · exact ⟨x, hx, h0⟩
  · exact hcs q hq
/-- a division by a number above 0 -/
theorem advq_ok {ν : List Int} {z : aZ} {u : zW} (h : aγ B b0 L grp lit ν z u) {x y : aF} {a c : Int} (ha : ev ν x = some a) (hc : ev ν y = some c) (hy : fcon y = true) (h0 : 0 < c) {q : aF × aZ} (hq : advq z x y = some q) : ∃ ν', aext ν ν' ∧ aγ B b0 L grp lit ν' q.2 u ∧ ev ν' q.1 = some (a.tdiv c) := by
  have hyc := fcon_v hy hc
  unfold advq at hq
  cases hr : rng (zb z) x with
  | none => rw [hr] at hq; cases hq
  | some p =>
    simp only [hr] at hq
    obtain ⟨v, e1, e2, e3⟩ := rng_ok h.2.1 hr
    rw [ha] at e1
    cases e1
    rw [hyc] at hq
    rcases cnd_some hq with ⟨hx, hq⟩ | ⟨-, hq⟩
    · cases hq
      rw [fcon_v hx ha, atdv_eq h0]
      exact ⟨ν, aext_r ν, h, ev_c ν _⟩
    · have b1 : atdv p.1 c ≤ a.tdiv c := by rw [atdv_eq h0]; exact Int.tdiv_le_tdiv h0 e2
      have b2 : a.tdiv c ≤ atdv p.2 c := by rw [atdv_eq h0]; exact Int.tdiv_le_tdiv h0 e3
      obtain ⟨ν', f1, f2, f3⟩ := afr_ok h b1 b2
      rcases cnd_some hq with ⟨h12, hq⟩ | ⟨-, hq⟩
      · cases hq
        simp only [Bool.and_eq_true, ile_iff] at h12
        refine ⟨ν', f1, zsC_ok f3 (ev_k 1 (ev_sub f2 (ev_ext f1 ha))) ?_ (cx_ext f1 h.2.2.1), f2⟩
        have ha1 : 1 ≤ a := by omega
        rw [Int.tdiv_eq_ediv_of_nonneg (by omega)]
        have : a / c < a := by
          apply Int.ediv_lt_of_lt_mul h0
          have : a * 2 ≤ a * c := Int.mul_le_mul_of_nonneg_left h12.1 (by omega)
          omega
        omega
      · cases hq
        exact ⟨ν', f1, f3, f2⟩
end AO
