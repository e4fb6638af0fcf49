/-! A STATE OF FORMS IS GOOD: wherever the machine stands as it says, it comes to an end that P takes -/
section GD
variable (M : xM) (Y : Nat → MethodName) (Bt : Nat → ByteArray) (Hh : Nat → List (Nat × Nat × Nat × Nat)) (Rt : Nat → Option FieldType) (Rm : Nat → Room) (Ex : Nat → String)
variable (l : Launch) (s0 : State) (D : va_G) (ca : Nat → ClassId) (sb : Nat → Nat) (b0 L : Nat) (xs : Nat → Int32) (grp : Nat → Nat) (lit : Value → Prop)
/-- the cells, and what was read of the script -/
def aCl (L : Nat) (xs : Nat → Int32) (ν : List Int) (c : aF × List (aF × aF)) (n : Nat) : Prop := ev ν c.1 = some (n : Int) ∧ ∀ p ∈ c.2, ∃ k : Nat, ev ν p.1 = some (k : Int) ∧ ev ν p.2 = some (xs k).toInt
theorem aCl_ext {L : Nat} {xs : Nat → Int32} {ν ν' : List Int} {c : aF × List (aF × aF)} {n : Nat} (e : aext ν ν') (h : aCl L xs ν c n) : aCl L xs ν' c n := ⟨ev_ext e h.1, fun p hp => by
  obtain ⟨k, k1, k2⟩ := h.2 p hp
  exact ⟨k, ev_ext e k1, ev_ext e k2⟩⟩
def aGd (mi : Nat) (P : cP) (md : List (Nat × Int)) (u0 : zW) (ν0 : List Int) (S : aS) : Prop :=
  ∀ (ν : List Int) (lc : List (Nat × Value)) (sc : List Value) (u : zW) (n : Nat), aext ν0 ν → aγ s0.heap.size b0 L grp lit ν S.2.2.2.1 u → dL s0.heap.size b0 L grp lit ν S.2.1 lc → dS s0.heap.size b0 L grp lit ν S.2.2.1 sc → aFr s0.heap.size grp md u0 u → aCl L xs ν S.2.2.2.2 n →
    cG M Y Bt Hh Rt Rm Ex l s0 D ca sb mi S.1 lc sc u n P
variable {M Y Bt Hh Rt Rm Ex l s0 D ca sb b0 L xs grp lit}
variable {mi : Nat} {P : cP} {md : List (Nat × Int)} {u0 : zW} {ν0 : List Int}
theorem agd_on {S S' : aS} (hlv : S'.2.1 = S.2.1) (hcl : S'.2.2.2.2 = S.2.2.2.2) (h : ∀ (ν : List Int) (sc : List Value) (u : zW), aγ s0.heap.size b0 L grp lit ν S.2.2.2.1 u → dS s0.heap.size b0 L grp lit ν S.2.2.1 sc →
      ∃ ν' sc', aext ν ν' ∧ aγ s0.heap.size b0 L grp lit ν' S'.2.2.2.1 u ∧ dS s0.heap.size b0 L grp lit ν' S'.2.2.1 sc' ∧ zW1 (Bt mi) S.1 sc S'.1 sc')
    (g : aGd M Y Bt Hh Rt Rm Ex l s0 D ca sb b0 L xs grp lit mi P md u0 ν0 S') : aGd M Y Bt Hh Rt Rm Ex l s0 D ca sb b0 L xs grp lit mi P md u0 ν0 S := by
  intro ν lc sc u n h0 hγ hL hS hF hn
  obtain ⟨ν', sc', e1, e2, e3, e4⟩ := h ν sc u hγ hS
  exact cG_w e4 (g ν' lc sc' u n (aext_t h0 e1) e2 (by rw [hlv]; exact dL_ext e1 hL) e3 hF (by rw [hcl]; exact aCl_ext e1 hn))
theorem dS_c {ν : List Int} {x : aV} {r : List aV} {vs : List Value} (h : dS s0.heap.size b0 L grp lit ν (x :: r) vs) : ∃ v us, vs = v :: us ∧ dV s0.heap.size b0 L grp lit ν x v ∧ dS s0.heap.size b0 L grp lit ν r us := by
  match vs, h with
  | v :: us, h => exact ⟨v, us, rfl, h.1, h.2⟩
theorem dS_n {ν : List Int} {vs : List Value} (h : dS s0.heap.size b0 L grp lit ν [] vs) : vs = [] := by
  match vs, h with
  | [], _ => rfl
/-- two ints -/
def gI (s0 : State) (b0 L : Nat) (grp : Nat → Nat) (lit : Value → Prop) (cc : ByteArray) (pc : Nat) (g : aZ → aF → aF → Option (aV × aZ)) : Prop :=
  ∀ (ν : List Int) (z : aZ) (u : zW) (x y : aF) (a c : Int) (q : aV × aZ), aγ s0.heap.size b0 L grp lit ν z u → ev ν x = some a → ev ν y = some c → (-2147483648 ≤ a ∧ a ≤ 2147483647) → (-2147483648 ≤ c ∧ c ≤ 2147483647) → g z x y = some q →
    ∃ ν' w, aext ν ν' ∧ aγ s0.heap.size b0 L grp lit ν' q.2 u ∧ dV s0.heap.size b0 L grp lit ν' q.1 w ∧ ∀ r, zW1 cc pc (.int (Int32.ofInt c) :: .int (Int32.ofInt a) :: r) (pc + 1) (w :: r)
def gJ (s0 : State) (b0 L : Nat) (grp : Nat → Nat) (lit : Value → Prop) (cc : ByteArray) (pc : Nat) (g : aZ → aF → aF → Option (aV × aZ)) : Prop :=
  ∀ (ν : List Int) (z : aZ) (u : zW) (x y : aF) (a c : Int) (q : aV × aZ), aγ s0.heap.size b0 L grp lit ν z u → ev ν x = some a → ev ν y = some c → (-9223372036854775808 ≤ a ∧ a ≤ 9223372036854775807) → (-9223372036854775808 ≤ c ∧ c ≤ 9223372036854775807) → g z x y = some q →
    ∃ ν' w, aext ν ν' ∧ aγ s0.heap.size b0 L grp lit ν' q.2 u ∧ dV s0.heap.size b0 L grp lit ν' q.1 w ∧ ∀ r, zW1 cc pc (.long (Int64.ofInt c) :: .long (Int64.ofInt a) :: r) (pc + 1) (w :: r)
theorem abI_ok {g : aZ → aF → aF → Option (aV × aZ)} {S : aS} {R : aR} (hg : gI s0 b0 L grp lit (Bt mi) S.1 g) (h : abI g S = some R) : R.1 = 0 ∧ ((∀ S' ∈ R.2.1, aGd M Y Bt Hh Rt Rm Ex l s0 D ca sb b0 L xs grp lit mi P md u0 ν0 S') → aGd M Y Bt Hh Rt Rm Ex l s0 D ca sb b0 L xs grp lit mi P md u0 ν0 S) := by
  unfold abI at h
  match hst : S.2.2.1 with
  | [] => rw [hst] at h; cases h
  | [_] => rw [hst] at h; cases h
  | y :: x :: r =>
    simp only [hst] at h
    obtain ⟨hk, h⟩ := cnd_t h
    simp only [aKI, Bool.and_eq_true, Nat.beq_eq] at hk
    cases hq : g S.2.2.2.1 x.2.2 y.2.2 with
    | none => simp only [hq] at h; cases h
    | some q =>
      simp only [hq] at h
      cases h
      refine ⟨rfl, fun hs => agd_on (S' := (S.1 + 1, S.2.1, q.1 :: r, q.2, S.2.2.2.2)) rfl rfl ?_ (hs _ List.mem_cons_self)⟩
      intro ν sc u hγ hS
      rw [hst] at hS
      obtain ⟨vy, us1, rfl, hy, hS1⟩ := dS_c hS
      obtain ⟨vx, us, rfl, hx, hS2⟩ := dS_c hS1
      obtain ⟨c, c1, c2, c3⟩ := dV_0 hy hk.2
      obtain ⟨a, a1, a2, a3⟩ := dV_0 hx hk.1
      subst a2 c2
      obtain ⟨ν', w, f1, f2, f3, f4⟩ := hg ν _ u _ _ a c q hγ a1 c1 a3 c3 hq
      exact ⟨ν', w :: us, f1, f2, ⟨f3, dS_ext f1 hS2⟩, f4 us⟩
theorem abJ_ok {g : aZ → aF → aF → Option (aV × aZ)} {S : aS} {R : aR} (hg : gJ s0 b0 L grp lit (Bt mi) S.1 g) (h : abJ g S = some R) : R.1 = 0 ∧ ((∀ S' ∈ R.2.1, aGd M Y Bt Hh Rt Rm Ex l s0 D ca sb b0 L xs grp lit mi P md u0 ν0 S') → aGd M Y Bt Hh Rt Rm Ex l s0 D ca sb b0 L xs grp lit mi P md u0 ν0 S) := by
  unfold abJ at h
  match hst : S.2.2.1 with
  | [] => rw [hst] at h; cases h
  | [_] => rw [hst] at h; cases h
  | y :: x :: r =>
    simp only [hst] at h
    obtain ⟨hk, h⟩ := cnd_t h
    simp only [aKJ, Bool.and_eq_true, Nat.beq_eq] at hk
    cases hq : g S.2.2.2.1 x.2.2 y.2.2 with
    | none => simp only [hq] at h; cases h
    | some q =>
      simp only [hq] at h
      cases h
      refine ⟨rfl, fun hs => agd_on (S' := (S.1 + 1, S.2.1, q.1 :: r, q.2, S.2.2.2.2)) rfl rfl ?_ (hs _ List.mem_cons_self)⟩
      intro ν sc u hγ hS
      rw [hst] at hS
      obtain ⟨vy, us1, rfl, hy, hS1⟩ := dS_c hS
      obtain ⟨vx, us, rfl, hx, hS2⟩ := dS_c hS1
      obtain ⟨c, c1, c2, c3⟩ := dV_1 hy hk.2
      obtain ⟨a, a1, a2, a3⟩ := dV_1 hx hk.1
      subst a2 c2
      obtain ⟨ν', w, f1, f2, f3, f4⟩ := hg ν _ u _ _ a c q hγ a1 c1 a3 c3 hq
      exact ⟨ν', w :: us, f1, f2, ⟨f3, dS_ext f1 hS2⟩, f4 us⟩
section GI
variable {cc : ByteArray} {pc : Nat}
theorem gI_add (hd : decode cc pc = .ok (.iadd, 1)) : gI s0 b0 L grp lit cc pc aaddI := by
  intro ν z u x y a c q hγ ha hc ra rc h
  cases h
  obtain ⟨ν', f1, f2, f3⟩ := awrI_ok hγ (ev_add ha hc)
  exact ⟨ν', _, f1, f2, f3, fun r => by rw [Int32.ofInt_add]; exact zw_iadd hd⟩
theorem gI_sub (hd : decode cc pc = .ok (.isub, 1)) : gI s0 b0 L grp lit cc pc asubI := by
  intro ν z u x y a c q hγ ha hc ra rc h
  cases h
  obtain ⟨ν', f1, f2, f3⟩ := awrI_ok hγ (ev_sub ha hc)
  exact ⟨ν', _, f1, f2, f3, fun r => by rw [Int32.ofInt_sub]; exact zw_isub hd⟩
theorem gI_mul (hd : decode cc pc = .ok (.imul, 1)) : gI s0 b0 L grp lit cc pc amulI := by
  intro ν z u x y a c q hγ ha hc ra rc h
  unfold amulI at h
  cases hm : amulF x y with
  | none =>
    rw [hm] at h
    cases h
    obtain ⟨ν', f1, f2, f3⟩ := anyI_ok hγ (Int32.ofInt a * Int32.ofInt c)
    exact ⟨ν', _, f1, f2, f3, fun r => zw_imul hd⟩
  | some f =>
    rw [hm] at h
    cases h
    obtain ⟨ν', f1, f2, f3⟩ := awrI_ok hγ (amulF_ok ha hc hm)
    exact ⟨ν', _, f1, f2, f3, fun r => by rw [Int32.ofInt_mul]; exact zw_imul hd⟩
theorem gI_and (hd : decode cc pc = .ok (.iand, 1)) : gI s0 b0 L grp lit cc pc aanyI := by
  intro ν z u x y a c q hγ ha hc ra rc h
  cases h
  obtain ⟨ν', f1, f2, f3⟩ := anyI_ok hγ (Int32.ofInt a &&& Int32.ofInt c)
  exact ⟨ν', _, f1, f2, f3, fun r => zw_iand hd⟩
theorem nzI {c : Int} (rc : -2147483648 ≤ c ∧ c ≤ 2147483647) (h : c ≠ 0) : ¬ Int32.ofInt c = 0 := by
  intro e
  apply h
  have := congrArg Int32.toInt e
  rw [toI rc] at this
  exact this
theorem nzJ {c : Int} (rc : -9223372036854775808 ≤ c ∧ c ≤ 9223372036854775807) (h : c ≠ 0) : ¬ Int64.ofInt c = 0 := by
  intro e
  apply h
  have := congrArg Int64.toInt e
  rw [toJ rc] at this
  exact this
theorem gI_div (hd : decode cc pc = .ok (.idiv, 1)) : gI s0 b0 L grp lit cc pc adivI := by
  intro ν z u x y a c q hγ ha hc ra rc h
  unfold adivI at h
  obtain ⟨hn, h⟩ := cnd_t h
  have hne := nzI rc (anz_ok hγ hc hn)
  rcases cnd_some h with ⟨h1, h⟩ | ⟨-, h⟩
  · rw [Bool.and_eq_true, ilt_iff] at h1
    have hyc := fcon_v h1.1 hc
    have h0 : 0 < c := by rw [← hyc]; exact h1.2
    cases hq : advq z x y with
    | none => rw [hq] at h; cases h
    | some p =>
      rw [hq] at h
      cases h
      obtain ⟨ν', f1, f2, f3⟩ := advq_ok hγ ha hc h1.1 h0 hq
      have hv : (Int32.ofInt a / Int32.ofInt c).toInt = a.tdiv c := by
        rw [Jvm.Kit.i32_div (by rw [toI rc]; omega), toI ra, toI rc]
      have hr := rI (Int32.ofInt a / Int32.ofInt c)
      rw [hv] at hr
      exact ⟨ν', .int (Int32.ofInt a / Int32.ofInt c), f1, f2, ⟨_, f3, by rw [← hv, ofI], hr.1, hr.2⟩, fun r => zw_idiv hne hd⟩
  · cases h
    obtain ⟨ν', f1, f2, f3⟩ := anyI_ok hγ (Int32.ofInt a / Int32.ofInt c)
    exact ⟨ν', _, f1, f2, f3, fun r => zw_idiv hne hd⟩
theorem gI_rem (hd : decode cc pc = .ok (.irem, 1)) : gI s0 b0 L grp lit cc pc aremI := by
  intro ν z u x y a c q hγ ha hc ra rc h
  unfold aremI at h
  obtain ⟨hn, h⟩ := cnd_t h
  have hne := nzI rc (anz_ok hγ hc hn)
  cases h1 : rng (zb z) x with
  | none => simp only [h1] at h; cases h
  | some p =>
    cases h2 : rng (zb z) y with
    | none => simp only [h1, h2] at h; cases h
    | some t =>
      simp only [h1, h2] at h
      rcases cnd_some h with ⟨hcn, h⟩ | ⟨-, h⟩
      · cases h
        simp only [Bool.and_eq_true, ile_iff, ilt_iff] at hcn
        obtain ⟨v, e1, e2, e3⟩ := rng_ok hγ.2.1 h1
        rw [ha] at e1
        cases e1
        obtain ⟨v, g1, g2, g3⟩ := rng_ok hγ.2.1 h2
        rw [hc] at g1
        cases g1
        have a0 : 0 ≤ a := by omega
        have c0 : 0 < c := by omega
        have m1 := Int.emod_nonneg a (b := c) (by omega)
        have m2 := Int.emod_lt_of_pos a c0
        have m3 : a % c ≤ a := by
          have k1 := Int.emod_add_mul_ediv a c
          have k2 := Int.mul_nonneg (show 0 ≤ c by omega) (Int.ediv_nonneg a0 (show 0 ≤ c by omega))
          omega
        have hv : (Int32.ofInt a - Int32.ofInt a / Int32.ofInt c * Int32.ofInt c) = Int32.ofInt (a % c) := by
          have hdv : Int32.ofInt a / Int32.ofInt c = Int32.ofInt (a / c) := by
            rw [← ofI (Int32.ofInt a / Int32.ofInt c), lg_idiv_nonneg (by rw [toI ra]; exact a0) (by rw [toI rc]; exact c0), toI ra, toI rc]
          rw [hdv, ← Int32.ofInt_mul, ← Int32.ofInt_sub]
          congr 1
          have := Int.emod_add_mul_ediv a c
          rw [Int.mul_comm]
          omega
        obtain ⟨ν', f1, f2, f3⟩ := afr_ok hγ (lo := 0) (hi := t.2 - 1) (x := a % c) m1 (by omega)
        exact ⟨ν', .int (Int32.ofInt (a % c)), f1, zsC_ok f3 (ev_sub f2 (ev_ext f1 ha)) (by omega) (cx_ext f1 hγ.2.2.1), ⟨_, f2, rfl, by omega, by omega⟩, fun r => by rw [← hv]; exact zw_irem hne hd⟩
      · cases h
        obtain ⟨ν', f1, f2, f3⟩ := anyI_ok hγ (Int32.ofInt a - Int32.ofInt a / Int32.ofInt c * Int32.ofInt c)
        exact ⟨ν', _, f1, f2, f3, fun r => zw_irem hne hd⟩
theorem gJ_add (hd : decode cc pc = .ok (.ladd, 1)) : gJ s0 b0 L grp lit cc pc aaddJ := by
  intro ν z u x y a c q hγ ha hc ra rc h
  cases h
  obtain ⟨ν', f1, f2, f3⟩ := awrJ_ok hγ (ev_add ha hc)
  exact ⟨ν', _, f1, f2, f3, fun r => by rw [Int64.ofInt_add]; exact zw_ladd hd⟩
theorem gJ_sub (hd : decode cc pc = .ok (.lsub, 1)) : gJ s0 b0 L grp lit cc pc asubJ := by
  intro ν z u x y a c q hγ ha hc ra rc h
  cases h
  obtain ⟨ν', f1, f2, f3⟩ := awrJ_ok hγ (ev_sub ha hc)
  exact ⟨ν', _, f1, f2, f3, fun r => by rw [Int64.ofInt_sub]; exact zw_lsub hd⟩
theorem gJ_mul (hd : decode cc pc = .ok (.lmul, 1)) : gJ s0 b0 L grp lit cc pc amulJ := by
  intro ν z u x y a c q hγ ha hc ra rc h
  unfold amulJ at h
  cases hm : amulF x y with
  | none =>
    rw [hm] at h
    cases h
    obtain ⟨ν', f1, f2, f3⟩ := anyJ_ok hγ (Int64.ofInt a * Int64.ofInt c)
    exact ⟨ν', _, f1, f2, f3, fun r => zw_lmul hd⟩
  | some f =>
    rw [hm] at h
    cases h
    obtain ⟨ν', f1, f2, f3⟩ := awrJ_ok hγ (amulF_ok ha hc hm)
    exact ⟨ν', _, f1, f2, f3, fun r => by rw [Int64.ofInt_mul]; exact zw_lmul hd⟩
theorem gJ_and (hd : decode cc pc = .ok (.land, 1)) : gJ s0 b0 L grp lit cc pc aanyJ := by
  intro ν z u x y a c q hγ ha hc ra rc h
  cases h
  obtain ⟨ν', f1, f2, f3⟩ := anyJ_ok hγ (Int64.ofInt a &&& Int64.ofInt c)
  exact ⟨ν', _, f1, f2, f3, fun r => zw_land hd⟩
theorem gJ_or (hd : decode cc pc = .ok (.lor, 1)) : gJ s0 b0 L grp lit cc pc aanyJ := by
  intro ν z u x y a c q hγ ha hc ra rc h
  cases h
  obtain ⟨ν', f1, f2, f3⟩ := anyJ_ok hγ (Int64.ofInt a ||| Int64.ofInt c)
  exact ⟨ν', _, f1, f2, f3, fun r => zw_lor hd⟩
theorem gJ_div (hd : decode cc pc = .ok (.ldiv, 1)) : gJ s0 b0 L grp lit cc pc adivJ := by
  intro ν z u x y a c q hγ ha hc ra rc h
  unfold adivJ at h
  obtain ⟨hn, h⟩ := cnd_t h
  have hne := nzJ rc (anz_ok hγ hc hn)
  rcases cnd_some h with ⟨h1, h⟩ | ⟨-, h⟩
  · rw [Bool.and_eq_true, ilt_iff] at h1
    have hyc := fcon_v h1.1 hc
    have h0 : 0 < c := by rw [← hyc]; exact h1.2
    cases hq : advq z x y with
    | none => rw [hq] at h; cases h
    | some p =>
      rw [hq] at h
      cases h
      obtain ⟨ν', f1, f2, f3⟩ := advq_ok hγ ha hc h1.1 h0 hq
      have hv : (Int64.ofInt a / Int64.ofInt c).toInt = a.tdiv c := by
        rw [Jvm.Kit.i64_div (by rw [toJ rc]; omega), toJ ra, toJ rc]
      have hr := rJ (Int64.ofInt a / Int64.ofInt c)
      rw [hv] at hr
      exact ⟨ν', .long (Int64.ofInt a / Int64.ofInt c), f1, f2, ⟨_, f3, by rw [← hv, ofJ], hr.1, hr.2⟩, fun r => zw_ldiv hne hd⟩
  · cases h
    obtain ⟨ν', f1, f2, f3⟩ := anyJ_ok hγ (Int64.ofInt a / Int64.ofInt c)
    exact ⟨ν', _, f1, f2, f3, fun r => zw_ldiv hne hd⟩
theorem gJ_rem (hd : decode cc pc = .ok (.lrem, 1)) : gJ s0 b0 L grp lit cc pc aremJ := by
  intro ν z u x y a c q hγ ha hc ra rc h
  unfold aremJ at h
  obtain ⟨hn, h⟩ := cnd_t h
  have hne := nzJ rc (anz_ok hγ hc hn)
  cases h
  obtain ⟨ν', f1, f2, f3⟩ := anyJ_ok hγ (Int64.ofInt a - Int64.ofInt a / Int64.ofInt c * Int64.ofInt c)
  exact ⟨ν', _, f1, f2, f3, fun r => zw_lrem hne hd⟩
theorem gJ_cmp (hd : decode cc pc = .ok (.lcmp, 1)) : gJ s0 b0 L grp lit cc pc acmpJ := by
  intro ν z u x y a c q hγ ha hc ra rc h
  cases h
  exact ⟨ν, _, aext_r ν, hγ, ⟨a - c, Int64.ofInt a, Int64.ofInt c, ev_sub ha hc, rfl, by rw [toJ ra, toJ rc]⟩, fun r => zw_lcmp hd⟩
end GI
end GD
