/-! variables and switches -/
section GV
variable {M : xM} {Y : Nat → MethodName} {Bt : Nat → ByteArray} {Hh : Nat → List (Nat × Nat × Nat × Nat)} {Rt : Nat → Option FieldType} {Rm : Nat → Room} {Ex : Nat → String}
variable {l : Launch} {s0 : State} {D : va_G} {ca : Nat → ClassId} {sb : Nat → Nat} {b0 L : Nat} {grp : Nat → Nat} {lit : Value → Prop} {xs : Nat → Int32} {ty : Nat → Nat → FieldType}
variable {mi : Nat} {P : cP} {md : List (Nat × Int)} {u0 : zW} {ν0 : List Int}

theorem dL_f1 (hl9 : ∀ v, lit v → ∃ q : Nat, v = .ref q) {ν : List Int} (i : Nat) : ∀ {l : List (Nat × aV)} {l' : List (Nat × Value)}, dL s0.heap.size b0 L grp lit ν l l' →
    dL s0.heap.size b0 L grp lit ν (l.filter (fun q => !(q.1 == i) && !(q.1 + 1 == i && aKJ q.2))) (l'.filter (fun q => !(q.1 == i) && !(q.1 + 1 == i && q.2.category == 2)))
  | [], [], _ => trivial
  | [], _ :: _, h => h.elim
  | _ :: _, [], h => h.elim
  | q :: r, u :: us, h => by
    have ih := dL_f1 hl9 i h.2
    have hc : (u.2.category == 2) = aKJ q.2 := by
      rw [dV_cat hl9 h.1.2]
      cases aKJ q.2 <;> rfl
    have e : (!(u.1 == i) && !(u.1 + 1 == i && u.2.category == 2)) = (!(q.1 == i) && !(q.1 + 1 == i && aKJ q.2)) := by rw [hc, h.1.1]
    simp only [List.filter_cons, e]
    cases (!(q.1 == i) && !(q.1 + 1 == i && aKJ q.2)) with
    | true => exact ⟨h.1, ih⟩
    | false => exact ih
theorem dL_f2 (hl9 : ∀ v, lit v → ∃ q : Nat, v = .ref q) {ν : List Int} (i : Nat) : ∀ {l : List (Nat × aV)} {l' : List (Nat × Value)}, dL s0.heap.size b0 L grp lit ν l l' →
    dL s0.heap.size b0 L grp lit ν (l.filter (fun q => !(q.1 == i) && (!(q.1 == i + 1) && !(q.1 + 1 == i && aKJ q.2)))) (l'.filter (fun q => !(q.1 == i) && (!(q.1 == i + 1) && !(q.1 + 1 == i && q.2.category == 2))))
  | [], [], _ => trivial
  | [], _ :: _, h => h.elim
  | _ :: _, [], h => h.elim
  | q :: r, u :: us, h => by
    have ih := dL_f2 hl9 i h.2
    have hc : (u.2.category == 2) = aKJ q.2 := by
      rw [dV_cat hl9 h.1.2]
      cases aKJ q.2 <;> rfl
    have e : (!(u.1 == i) && (!(u.1 == i + 1) && !(u.1 + 1 == i && u.2.category == 2))) = (!(q.1 == i) && (!(q.1 == i + 1) && !(q.1 + 1 == i && aKJ q.2))) := by rw [hc, h.1.1]
    simp only [List.filter_cons, e]
    cases (!(q.1 == i) && (!(q.1 == i + 1) && !(q.1 + 1 == i && aKJ q.2))) with
    | true => exact ⟨h.1, ih⟩
    | false => exact ih
theorem dV_R (hl9 : ∀ v, lit v → ∃ q : Nat, v = .ref q) {ν : List Int} {x : aV} {v : Value} (h : dV s0.heap.size b0 L grp lit ν x v) (hk : aKR x = true) : ∃ q : Nat, v = .ref q := by
  obtain ⟨k, g, f⟩ := x
  simp only [aKR, Bool.and_eq_true, Nat.ble_eq] at hk
  unfold dV at h
  match k, h with
  | 0, _ => omega
  | 1, _ => omega
  | 2, _ => omega
  | 3, ⟨i, _, h2, _⟩ => exact ⟨_, h2⟩
  | 4, h => exact hl9 _ h
  | 5, h => exact h
  | 6, ⟨_, h2⟩ => exact ⟨_, h2⟩
  | k + 7, h => exact h.elim
/-- a load: the machine's row for each kind -/
theorem aload_ok {ok : aV → Bool} {j len : Nat} {S : aS} {R : aR} (hrow : ∀ (ν : List Int) (x : aV) (v : Value) (lc : List (Nat × Value)) (k n : Nat) (sc : List Value) (u : zW), ok x = true → dV s0.heap.size b0 L grp lit ν x v → lc[k]? = some (j, v) → cG M Y Bt Hh Rt Rm Ex l s0 D ca sb mi (S.1 + len) lc (v :: sc) u n P → cG M Y Bt Hh Rt Rm Ex l s0 D ca sb mi S.1 lc sc u n P) (h : aload ok j len S = some R) : R.1 = 0 ∧ ((∀ S' ∈ R.2.1, aGd M Y Bt Hh Rt Rm Ex l s0 D ca sb b0 L xs grp lit mi P md u0 ν0 S') → aGd M Y Bt Hh Rt Rm Ex l s0 D ca sb b0 L xs grp lit mi P md u0 ν0 S) := by
  unfold aload at h
  cases hl : alkv S.2.1 j with
  | none => rw [hl] at h; cases h
  | some x =>
    rw [hl] at h
    obtain ⟨hk, h⟩ := cnd_t h
    cases h
    refine ⟨rfl, fun hs => ?_⟩
    intro ν lc sc u n h0 hγ hL hS hF hn
    obtain ⟨k, v, k1, k2⟩ := alkv_ok hl hL
    exact hrow ν x v lc k n sc u hk k2 k1 (hs _ List.mem_cons_self ν lc (v :: sc) u n h0 hγ hL ⟨k2, hS⟩ hF hn)
theorem astor_ok (hl9 : ∀ v, lit v → ∃ q : Nat, v = .ref q) {ok : aV → Bool} {j len nl : Nat} {S : aS} {R : aR} (hrow : ∀ (ν : List Int) (x : aV) (v : Value) (lc : List (Nat × Value)) (n : Nat) (sc : List Value) (u : zW), ok x = true → dV s0.heap.size b0 L grp lit ν x v → j + 1 ≤ nl → cG M Y Bt Hh Rt Rm Ex l s0 D ca sb mi (S.1 + len) ((j, v) :: lc.filter (fun q => !(q.1 == j) && !(q.1 + 1 == j && q.2.category == 2))) sc u n P → cG M Y Bt Hh Rt Rm Ex l s0 D ca sb mi S.1 lc (v :: sc) u n P) (h : astor ok false j len nl S = some R) : R.1 = 0 ∧ ((∀ S' ∈ R.2.1, aGd M Y Bt Hh Rt Rm Ex l s0 D ca sb b0 L xs grp lit mi P md u0 ν0 S') → aGd M Y Bt Hh Rt Rm Ex l s0 D ca sb b0 L xs grp lit mi P md u0 ν0 S) := by
  unfold astor at h
  cases hst : S.2.2.1 with
  | nil => rw [hst] at h; cases h
  | cons x r =>
    simp only [hst] at h
    obtain ⟨hk, h⟩ := cnd_t h
    rw [Bool.and_eq_true, Nat.ble_eq] at hk
    cases h
    refine ⟨rfl, fun hs => ?_⟩
    intro ν lc sc u n h0 hγ hL hS hF hn
    rw [hst] at hS
    obtain ⟨v, us, rfl, hv, hS1⟩ := dS_c hS
    exact hrow ν x v lc n us u hk.1 hv hk.2 (hs _ List.mem_cons_self ν _ us u n h0 hγ ⟨⟨rfl, hv⟩, dL_f1 hl9 j hL⟩ hS1 hF hn)
theorem astor2_ok (hl9 : ∀ v, lit v → ∃ q : Nat, v = .ref q) {ok : aV → Bool} {j len nl : Nat} {S : aS} {R : aR} (hrow : ∀ (ν : List Int) (x : aV) (v : Value) (lc : List (Nat × Value)) (n : Nat) (sc : List Value) (u : zW), ok x = true → dV s0.heap.size b0 L grp lit ν x v → j + 2 ≤ nl → cG M Y Bt Hh Rt Rm Ex l s0 D ca sb mi (S.1 + len) ((j, v) :: lc.filter (fun q => !(q.1 == j) && (!(q.1 == j + 1) && !(q.1 + 1 == j && q.2.category == 2)))) sc u n P → cG M Y Bt Hh Rt Rm Ex l s0 D ca sb mi S.1 lc (v :: sc) u n P) (h : astor ok true j len nl S = some R) : R.1 = 0 ∧ ((∀ S' ∈ R.2.1, aGd M Y Bt Hh Rt Rm Ex l s0 D ca sb b0 L xs grp lit mi P md u0 ν0 S') → aGd M Y Bt Hh Rt Rm Ex l s0 D ca sb b0 L xs grp lit mi P md u0 ν0 S) := by
  unfold astor at h
  cases hst : S.2.2.1 with
  | nil => rw [hst] at h; cases h
  | cons x r =>
    simp only [hst] at h
    obtain ⟨hk, h⟩ := cnd_t h
    rw [Bool.and_eq_true, Nat.ble_eq] at hk
    cases h
    refine ⟨rfl, fun hs => ?_⟩
    intro ν lc sc u n h0 hγ hL hS hF hn
    rw [hst] at hS
    obtain ⟨v, us, rfl, hv, hS1⟩ := dS_c hS
    exact hrow ν x v lc n us u hk.1 hv hk.2 (hs _ List.mem_cons_self ν _ us u n h0 hγ ⟨⟨rfl, hv⟩, dL_f2 hl9 j hL⟩ hS1 hF hn)
theorem ainc_ok (hl9 : ∀ v, lit v → ∃ q : Nat, v = .ref q) {j : Nat} {a : Int} {S : aS} {R : aR} (hd : decode (Bt mi) S.1 = .ok (.iinc j a, 3)) (h : ainc j a (M.2.1 mi) S = some R) : R.1 = 0 ∧ ((∀ S' ∈ R.2.1, aGd M Y Bt Hh Rt Rm Ex l s0 D ca sb b0 L xs grp lit mi P md u0 ν0 S') → aGd M Y Bt Hh Rt Rm Ex l s0 D ca sb b0 L xs grp lit mi P md u0 ν0 S) := by
  unfold ainc at h
  cases hl : alkv S.2.1 j with
  | none => rw [hl] at h; cases h
  | some x =>
    rw [hl] at h
    obtain ⟨hk, h⟩ := cnd_t h
    rw [Bool.and_eq_true, Nat.ble_eq] at hk
    cases h
    refine ⟨rfl, fun hs => ?_⟩
    intro ν lc sc u n h0 hγ hL hS hF hn
    obtain ⟨k, v, k1, k2⟩ := alkv_ok hl hL
    obtain ⟨b, b1, rfl, b3⟩ := dV_0 k2 (aKI_k hk.1)
    obtain ⟨ν', f1, f2, f3⟩ := awrI_ok hγ (ev_k a b1)
    refine cg_iinc hd k1 hk.2 (hs _ List.mem_cons_self ν' _ sc u n (aext_t h0 f1) f2 ?_ (dS_ext f1 hS) hF (aCl_ext f1 hn))
    rw [← Int32.ofInt_add]
    exact ⟨⟨rfl, f3⟩, dL_f1 hl9 j (dL_ext f1 hL)⟩
/-! switches -/
theorem aswt_ok {S : aS} {x : aF} {r : List aV} {dflt : Int} : ∀ {q : List (Int × Int)} {z : aZ} {m : List aS}, aswt S x r dflt q z = some m → ∀ {ν : List Int} {u : zW} {a : Int}, aγ s0.heap.size b0 L grp lit ν z u → ev ν x = some a →
    ∃ (t : Nat) (z' : aZ), (S.1 : Int) + Op.lookupswitch.offset q dflt a = (t : Int) ∧ aγ s0.heap.size b0 L grp lit ν z' u ∧ (t, S.2.1, r, z', S.2.2.2.2) ∈ m
  | [], z, m, h, ν, u, a, hγ, ha => by
    unfold aswt at h
    cases ht : xtgt S.1 dflt with
    | none => rw [ht] at h; cases h
    | some t =>
      rw [ht] at h
      cases h
      exact ⟨t, z, xtgt_ok ht, hγ, List.mem_cons_self⟩
  | p :: q, z, m, h, ν, u, a, hγ, ha => by
    unfold aswt at h
    cases ht : xtgt S.1 p.2 with
    | none => rw [ht] at h; cases h
    | some t =>
      simp only [ht] at h
      have hx := ev_k (-p.1) ha
      obtain ⟨pk, po⟩ := p
      rw [Op.lookupswitch.offset_cons]
      by_cases he : pk = a
      · rw [if_pos he]
        obtain ⟨z', e1, e2⟩ := acnd_ok (n := 0) hγ hx (by show a + -pk = 0; omega)
        have e1 : aass2 z (fk x (-pk)) (fsc (fk x (-pk)) (-1)) = some z' := e1
        refine ⟨t, z', xtgt_ok ht, e2, ?_⟩
        rw [e1] at h
        cases hn : acne z (fk x (-pk)) with
        | none =>
          simp only [hn] at h
          cases h
          exact List.mem_cons_self
        | some w =>
          simp only [hn] at h
          cases hw : aswt S x r dflt q w with
          | none => simp only [hw] at h; cases h
          | some m' =>
            simp only [hw] at h
            cases h
            exact List.mem_append_left _ List.mem_cons_self
      · rw [if_neg he]
        obtain ⟨w, e1, e2⟩ := acnd_ok (n := 1) hγ hx (by show ¬ a + -pk = 0; omega)
        have e1 : acne z (fk x (-pk)) = some w := e1
        simp only [e1] at h
        cases hw : aswt S x r dflt q w with
        | none => simp only [hw] at h; cases h
        | some m' =>
          simp only [hw] at h
          cases h
          obtain ⟨t', z', g2, g3, g4⟩ := aswt_ok hw e2 ha
          exact ⟨t', z', g2, g3, List.mem_append_right _ g4⟩
theorem asw_ok {dflt : Int} {q : List (Int × Int)} {S : aS} {R : aR} (hw : ∀ (x : Int32) (t : Nat) (us : List Value), (S.1 : Int) + Op.lookupswitch.offset q dflt x.toInt = (t : Int) → zW1 (Bt mi) S.1 (.int x :: us) t us) (h : asw dflt q S = some R) : R.1 = 0 ∧ ((∀ S' ∈ R.2.1, aGd M Y Bt Hh Rt Rm Ex l s0 D ca sb b0 L xs grp lit mi P md u0 ν0 S') → aGd M Y Bt Hh Rt Rm Ex l s0 D ca sb b0 L xs grp lit mi P md u0 ν0 S) := by
  unfold asw at h
  cases hst : S.2.2.1 with
  | nil => rw [hst] at h; cases h
  | cons v r =>
    simp only [hst] at h
    obtain ⟨hk, h⟩ := cnd_t h
    cases hm : aswt S v.2.2 r dflt q S.2.2.2.1 with
    | none => rw [hm] at h; cases h
    | some m =>
      rw [hm] at h
      cases h
      refine ⟨rfl, fun hs => ?_⟩
      intro ν lc sc u n h0 hγ hL hS hF hn
      rw [hst] at hS
      obtain ⟨w, us, rfl, hv, hS1⟩ := dS_c hS
      obtain ⟨a, a1, rfl, a3⟩ := dV_0 hv (aKI_k hk)
      obtain ⟨t, z', g2, g3, g4⟩ := aswt_ok hm hγ a1
      refine cG_w (hw (Int32.ofInt a) t us ?_) (hs _ g4 ν lc us u n h0 g3 hL hS1 hF hn)
      rw [toI a3]
      exact g2
theorem aprs_off {dflt a : Int} : ∀ {l : List Int} {k : Int}, (∃ i : Nat, a = k + i ∧ l[i]? = some (Op.lookupswitch.offset (aprs k l) dflt a)) ∨ ((a < k ∨ k + l.length ≤ a) ∧ Op.lookupswitch.offset (aprs k l) dflt a = dflt)
  | [], k => by
    refine Or.inr ⟨?_, rfl⟩
    show a < k ∨ k + ((0 : Nat) : Int) ≤ a
    omega
  | o :: r, k => by
    show (∃ i : Nat, a = k + i ∧ (o :: r)[i]? = some (Op.lookupswitch.offset ((k, o) :: aprs (k + 1) r) dflt a)) ∨ ((a < k ∨ k + ((o :: r).length : Int) ≤ a) ∧ Op.lookupswitch.offset ((k, o) :: aprs (k + 1) r) dflt a = dflt)
    rw [Op.lookupswitch.offset_cons]
    by_cases he : k = a
    · rw [if_pos he]
      exact Or.inl ⟨0, by omega, rfl⟩
    · rw [if_neg he]
      rcases aprs_off (dflt := dflt) (a := a) (l := r) (k := k + 1) with ⟨i, h1, h2⟩ | ⟨h1, h2⟩
      · exact Or.inl ⟨i + 1, by omega, by rw [List.getElem?_cons_succ]; exact h2⟩
      · refine Or.inr ⟨?_, h2⟩
        rw [List.length_cons]
        omega
theorem atab_ok {dflt lo hi : Int} {offs : List Int} {len : Nat} {S : aS} {R : aR} (hlen : hi - lo + 1 = (offs.length : Int)) (hd : decode (Bt mi) S.1 = .ok (.tableswitch dflt lo hi offs.toArray, len)) (h : asw dflt (aprs lo offs) S = some R) : R.1 = 0 ∧ ((∀ S' ∈ R.2.1, aGd M Y Bt Hh Rt Rm Ex l s0 D ca sb b0 L xs grp lit mi P md u0 ν0 S') → aGd M Y Bt Hh Rt Rm Ex l s0 D ca sb b0 L xs grp lit mi P md u0 ν0 S) := by
  refine asw_ok (fun x t us ht => ?_) h
  rcases aprs_off (dflt := dflt) (a := x.toInt) (l := offs) (k := lo) with ⟨i, e1, e2⟩ | ⟨h1, h2⟩
  · have hi : i < offs.length := (List.getElem?_eq_some_iff.mp e2).1
    refine zw_tin (off := _) (by omega) (by omega) ?_ ht hd
    rw [show (x.toInt - lo).toNat = i by omega, List.getElem?_toArray, e2]
  · rw [h2] at ht
    exact zw_tout (by omega) ht hd
theorem alok_ok {dflt : Int} {ps : List (Int × Int)} {len : Nat} {S : aS} {R : aR} (hp : (ps.zip (ps.drop 1)).all (fun (a, next) => a.1 < next.1) = true) (hd : decode (Bt mi) S.1 = .ok (.lookupswitch dflt ps.toArray, len)) (h : asw dflt ps S = some R) : R.1 = 0 ∧ ((∀ S' ∈ R.2.1, aGd M Y Bt Hh Rt Rm Ex l s0 D ca sb b0 L xs grp lit mi P md u0 ν0 S') → aGd M Y Bt Hh Rt Rm Ex l s0 D ca sb b0 L xs grp lit mi P md u0 ν0 S) :=
  asw_ok (fun x t us ht => zw_look hp rfl ht hd) h
end GV
