/-! the stack's instructions, variables, branches -/
section GS
variable {M : xM} {Y : Nat → MethodName} {Bt : Nat → ByteArray} {Hh : Nat → List (Nat × Nat × Nat × Nat)} {Rt : Nat → Option FieldType} {Rm : Nat → Room} {Ex : Nat → String}
variable {l : Launch} {s0 : State} {D : va_G} {ca : Nat → ClassId} {sb : Nat → Nat} {b0 L : Nat} {grp : Nat → Nat} {lit : Value → Prop} {xs : Nat → Int32} {ty : Nat → Nat → FieldType}
variable {mi : Nat} {P : cP} {md : List (Nat × Int)} {u0 : zW} {ν0 : List Int}

def gU (s0 : State) (b0 L : Nat) (grp : Nat → Nat) (lit : Value → Prop) (cc : ByteArray) (pc : Nat) (ok : aV → Bool) (g : aZ → aF → aV × aZ) : Prop :=
  ∀ (ν : List Int) (z : aZ) (u : zW) (x : aV) (v : Value), aγ s0.heap.size b0 L grp lit ν z u → ok x = true → dV s0.heap.size b0 L grp lit ν x v → ∃ ν' w, aext ν ν' ∧ aγ s0.heap.size b0 L grp lit ν' (g z x.2.2).2 u ∧ dV s0.heap.size b0 L grp lit ν' (g z x.2.2).1 w ∧ ∀ r, zW1 cc pc (v :: r) (pc + 1) (w :: r)
theorem au1_ok {ok : aV → Bool} {g : aZ → aF → aV × aZ} {S : aS} {R : aR} (hg : gU s0 b0 L grp lit (Bt mi) S.1 ok g) (h : au1 ok g S = some R) : R.1 = 0 ∧ ((∀ S' ∈ R.2.1, aGd M Y Bt Hh Rt Rm Ex l s0 D ca sb b0 L xs grp lit mi P md u0 ν0 S') → aGd M Y Bt Hh Rt Rm Ex l s0 D ca sb b0 L xs grp lit mi P md u0 ν0 S) := by
  unfold au1 at h
  cases hst : S.2.2.1 with
  | nil => rw [hst] at h; cases h
  | cons x r =>
    simp only [hst] at h
    obtain ⟨hk, h⟩ := cnd_t h
    cases h
    refine ⟨rfl, fun hs => agd_on (S' := (S.1 + 1, S.2.1, (g S.2.2.2.1 x.2.2).1 :: r, (g S.2.2.2.1 x.2.2).2, S.2.2.2.2)) rfl rfl ?_ (hs _ List.mem_cons_self)⟩
    intro ν sc u hγ hS
    rw [hst] at hS
    obtain ⟨v, us, rfl, hv, hS1⟩ := dS_c hS
    obtain ⟨ν', w, f1, f2, f3, f4⟩ := hg ν _ u x v hγ hk hv
    exact ⟨ν', w :: us, f1, f2, ⟨f3, dS_ext f1 hS1⟩, f4 us⟩
section GU
variable {cc : ByteArray} {pc : Nat}
theorem aKI_k {v : aV} (h : aKI v = true) : v.1 = 0 := Nat.beq_eq.mp h
theorem aKJ_k {v : aV} (h : aKJ v = true) : v.1 = 1 := Nat.beq_eq.mp h
theorem gU_ineg (hd : decode cc pc = .ok (.ineg, 1)) : gU s0 b0 L grp lit cc pc aKI anegI := by
  intro ν z u x v hγ hk hv
  obtain ⟨a, a1, rfl, a3⟩ := dV_0 hv (aKI_k hk)
  obtain ⟨ν', f1, f2, f3⟩ := awrI_ok hγ (ev_sc (-1) a1)
  refine ⟨ν', _, f1, f2, f3, fun r => ?_⟩
  rw [show a * -1 = -a by omega, Int32.ofInt_neg]
  exact zw_ineg hd
theorem gU_lneg (hd : decode cc pc = .ok (.lneg, 1)) : gU s0 b0 L grp lit cc pc aKJ anegJ := by
  intro ν z u x v hγ hk hv
  obtain ⟨a, a1, rfl, a3⟩ := dV_1 hv (aKJ_k hk)
  obtain ⟨ν', f1, f2, f3⟩ := awrJ_ok hγ (ev_sc (-1) a1)
  refine ⟨ν', _, f1, f2, f3, fun r => ?_⟩
  rw [show a * -1 = -a by omega, Int64.ofInt_neg]
  exact zw_lneg hd
theorem gU_i2l (hd : decode cc pc = .ok (.i2l, 1)) : gU s0 b0 L grp lit cc pc aKI ai2l := by
  intro ν z u x v hγ hk hv
  obtain ⟨a, a1, rfl, a3⟩ := dV_0 hv (aKI_k hk)
  exact ⟨ν, .long (Int64.ofInt a), aext_r ν, hγ, ⟨a, a1, rfl, by omega, by omega⟩, fun r => by rw [← wide a3]; exact zw_i2l hd⟩
theorem l2i_of {a : Int} (h : -9223372036854775808 ≤ a ∧ a ≤ 9223372036854775807) : (Int64.ofInt a).toInt32 = Int32.ofInt a := by
  apply Int32.toInt_inj.mp
  rw [Int64.toInt_toInt32, toJ h, Int32.toInt_ofInt]
theorem gU_l2i (hd : decode cc pc = .ok (.l2i, 1)) : gU s0 b0 L grp lit cc pc aKJ al2i := by
  intro ν z u x v hγ hk hv
  obtain ⟨a, a1, rfl, a3⟩ := dV_1 hv (aKJ_k hk)
  obtain ⟨ν', f1, f2, f3⟩ := awrI_ok hγ a1
  exact ⟨ν', _, f1, f2, f3, fun r => by rw [← l2i_of a3]; exact zw_l2i hd⟩
theorem i2c_r (x : Int32) : 0 ≤ ((x.toUInt32 % 65536).toInt32).toInt ∧ ((x.toUInt32 % 65536).toInt32).toInt ≤ 65535 := by
  have h : (x.toUInt32 % 65536).toNat < 65536 := by
    rw [UInt32.toNat_mod]
    exact Nat.mod_lt _ (by decide)
  have e : ((x.toUInt32 % 65536).toInt32).toInt = ((x.toUInt32 % 65536).toNat : Int) := by
    generalize hq : x.toUInt32 % 65536 = q at h
    rw [← UInt32.ofNat_toNat (x := q)]
    have : (UInt32.ofNat q.toNat).toInt32 = Int32.ofNat q.toNat := rfl
    rw [this, Int32.toInt_ofNat_of_lt (by omega)]
    simp
  omega
theorem gU_i2c (hd : decode cc pc = .ok (.i2c, 1)) : gU s0 b0 L grp lit cc pc aKI ai2c := by
  intro ν z u x v hγ hk hv
  obtain ⟨a, a1, rfl, a3⟩ := dV_0 hv (aKI_k hk)
  have any : ∃ ν' w, aext ν ν' ∧ aγ s0.heap.size b0 L grp lit ν' (aI1 (afr z 0 65535)).2 u ∧ dV s0.heap.size b0 L grp lit ν' (aI1 (afr z 0 65535)).1 w ∧ ∀ r, zW1 cc pc (.int (Int32.ofInt a) :: r) (pc + 1) (w :: r) := by
    have hr := i2c_r (Int32.ofInt a)
    obtain ⟨ν', f1, f2, f3⟩ := afr_ok hγ hr.1 hr.2
    exact ⟨ν', .int ((Int32.ofInt a).toUInt32 % 65536).toInt32, f1, f3, ⟨_, f2, by rw [ofI], by omega, by omega⟩, fun r => zw_i2c hd⟩
  unfold ai2c
  cases hr : rng (zb z) x.2.2 with
  | none => exact any
  | some p =>
    show ∃ ν' w, aext ν ν' ∧ aγ s0.heap.size b0 L grp lit ν' (bif ile 0 p.1 && ile p.2 65535 then ((0, 0, x.2.2), z) else aI1 (afr z 0 65535) : aV × aZ).2 u ∧ dV s0.heap.size b0 L grp lit ν' (bif ile 0 p.1 && ile p.2 65535 then ((0, 0, x.2.2), z) else aI1 (afr z 0 65535) : aV × aZ).1 w ∧ ∀ r, zW1 cc pc (.int (Int32.ofInt a) :: r) (pc + 1) (w :: r)
    cases hc : (ile 0 p.1 && ile p.2 65535) with
    | false => exact any
    | true =>
      simp only [Bool.and_eq_true, ile_iff] at hc
      obtain ⟨y, e1, e2, e3⟩ := rng_ok hγ.2.1 hr
      rw [a1] at e1
      cases e1
      exact ⟨ν, .int (Int32.ofInt a), aext_r ν, hγ, ⟨a, a1, rfl, a3⟩, fun r => by
        have := zw_i2c (x := Int32.ofInt a) (r := r) hd
        rw [chr_id (by omega) (by omega)] at this
        exact this⟩
end GU
theorem abS_ok {S : aS} {R : aR} (hd : decode (Bt mi) S.1 = .ok (.lshl, 1) ∨ decode (Bt mi) S.1 = .ok (.lshr, 1)) (h : abS S = some R) : R.1 = 0 ∧ ((∀ S' ∈ R.2.1, aGd M Y Bt Hh Rt Rm Ex l s0 D ca sb b0 L xs grp lit mi P md u0 ν0 S') → aGd M Y Bt Hh Rt Rm Ex l s0 D ca sb b0 L xs grp lit mi P md u0 ν0 S) := by
  unfold abS at h
  match hst : S.2.2.1 with
  | [] => rw [hst] at h; cases h
  | [_] => rw [hst] at h; cases h
  | y :: x :: r =>
    simp only [hst] at h
    obtain ⟨hk, h⟩ := cnd_t h
    rw [Bool.and_eq_true] at hk
    cases h
    refine ⟨rfl, fun hs => agd_on (S' := (S.1 + 1, S.2.1, (anyJ S.2.2.2.1).1 :: r, (anyJ S.2.2.2.1).2, S.2.2.2.2)) rfl rfl ?_ (hs _ List.mem_cons_self)⟩
    intro ν sc u hγ hS
    rw [hst] at hS
    obtain ⟨vy, us1, rfl, hy, hS1⟩ := dS_c hS
    obtain ⟨vx, us, rfl, hx, hS2⟩ := dS_c hS1
    obtain ⟨c, c1, rfl, c3⟩ := dV_0 hy (aKI_k hk.2)
    obtain ⟨a, a1, rfl, a3⟩ := dV_1 hx (aKJ_k hk.1)
    rcases hd with hd | hd
    · obtain ⟨ν', f1, f2, f3⟩ := anyJ_ok hγ (Int64.ofInt a <<< ((Int32.ofInt c).toInt64 &&& 63))
      exact ⟨ν', _ :: us, f1, f2, ⟨f3, dS_ext f1 hS2⟩, zw_lshl hd⟩
    · obtain ⟨ν', f1, f2, f3⟩ := anyJ_ok hγ (Int64.ofInt a >>> ((Int32.ofInt c).toInt64 &&& 63))
      exact ⟨ν', _ :: us, f1, f2, ⟨f3, dS_ext f1 hS2⟩, zw_lshr hd⟩
theorem dV_cat (hl9 : ∀ v, lit v → ∃ q : Nat, v = .ref q) {ν : List Int} {x : aV} {v : Value} (h : dV s0.heap.size b0 L grp lit ν x v) : v.category = (bif aKJ x then 2 else 1) := by
  obtain ⟨k, g, f⟩ := x
  unfold dV at h
  match k, h with
  | 0, ⟨a, _, h2, _⟩ => subst h2; rfl
  | 1, ⟨a, _, h2, _⟩ => subst h2; rfl
  | 2, ⟨a, s, t, _, h2, _⟩ => subst h2; rfl
  | 3, ⟨i, _, h2, _⟩ => subst h2; rfl
  | 4, h => obtain ⟨q, rfl⟩ := hl9 _ h; rfl
  | 5, ⟨q, hq⟩ => subst hq; rfl
  | 6, ⟨_, h2⟩ => subst h2; rfl
  | k + 7, h => exact h.elim
theorem aK1_c (hl9 : ∀ v, lit v → ∃ q : Nat, v = .ref q) {ν : List Int} {x : aV} {v : Value} (h : dV s0.heap.size b0 L grp lit ν x v) (hk : aK1 x = true) : v.category = 1 := by
  rw [dV_cat hl9 h]
  unfold aK1 at hk
  unfold aKJ
  cases hb : Nat.beq x.1 1 with
  | true => rw [hb] at hk; cases hk
  | false => rfl
theorem aKJ_c (hl9 : ∀ v, lit v → ∃ q : Nat, v = .ref q) {ν : List Int} {x : aV} {v : Value} (h : dV s0.heap.size b0 L grp lit ν x v) (hk : aKJ x = true) : v.category = 2 := by
  rw [dV_cat hl9 h, hk]; rfl
theorem adup_ok (hl9 : ∀ v, lit v → ∃ q : Nat, v = .ref q) {S : aS} {R : aR} (hd : decode (Bt mi) S.1 = .ok (.dup, 1)) (h : adup S = some R) : R.1 = 0 ∧ ((∀ S' ∈ R.2.1, aGd M Y Bt Hh Rt Rm Ex l s0 D ca sb b0 L xs grp lit mi P md u0 ν0 S') → aGd M Y Bt Hh Rt Rm Ex l s0 D ca sb b0 L xs grp lit mi P md u0 ν0 S) := by
  unfold adup at h
  cases hst : S.2.2.1 with
  | nil => rw [hst] at h; cases h
  | cons x r =>
    simp only [hst] at h
    obtain ⟨hk, h⟩ := cnd_t h
    cases h
    refine ⟨rfl, fun hs => agd_on (S' := (S.1 + 1, S.2.1, x :: x :: r, S.2.2.2.1, S.2.2.2.2)) rfl rfl ?_ (hs _ List.mem_cons_self)⟩
    intro ν sc u hγ hS
    rw [hst] at hS
    obtain ⟨v, us, rfl, hv, hS1⟩ := dS_c hS
    exact ⟨ν, v :: v :: us, aext_r ν, hγ, ⟨hv, hv, hS1⟩, zw_dup (aK1_c hl9 hv hk) hd⟩
theorem apop_ok (hl9 : ∀ v, lit v → ∃ q : Nat, v = .ref q) {S : aS} {R : aR} (hd : decode (Bt mi) S.1 = .ok (.pop, 1)) (h : apop S = some R) : R.1 = 0 ∧ ((∀ S' ∈ R.2.1, aGd M Y Bt Hh Rt Rm Ex l s0 D ca sb b0 L xs grp lit mi P md u0 ν0 S') → aGd M Y Bt Hh Rt Rm Ex l s0 D ca sb b0 L xs grp lit mi P md u0 ν0 S) := by
  unfold apop at h
  cases hst : S.2.2.1 with
  | nil => rw [hst] at h; cases h
  | cons x r =>
    simp only [hst] at h
    obtain ⟨hk, h⟩ := cnd_t h
    cases h
    refine ⟨rfl, fun hs => agd_on (S' := (S.1 + 1, S.2.1, r, S.2.2.2.1, S.2.2.2.2)) rfl rfl ?_ (hs _ List.mem_cons_self)⟩
    intro ν sc u hγ hS
    rw [hst] at hS
    obtain ⟨v, us, rfl, hv, hS1⟩ := dS_c hS
    exact ⟨ν, us, aext_r ν, hγ, hS1, zw_pop (aK1_c hl9 hv hk) hd⟩
theorem adup2_ok (hl9 : ∀ v, lit v → ∃ q : Nat, v = .ref q) {S : aS} {R : aR} (hd : decode (Bt mi) S.1 = .ok (.dup2, 1)) (h : adup2 S = some R) : R.1 = 0 ∧ ((∀ S' ∈ R.2.1, aGd M Y Bt Hh Rt Rm Ex l s0 D ca sb b0 L xs grp lit mi P md u0 ν0 S') → aGd M Y Bt Hh Rt Rm Ex l s0 D ca sb b0 L xs grp lit mi P md u0 ν0 S) := by
  unfold adup2 at h
  match hst : S.2.2.1 with
  | [] => rw [hst] at h; cases h
  | [x] =>
    simp only [hst] at h
    obtain ⟨hk, h⟩ := cnd_t h
    cases h
    refine ⟨rfl, fun hs => agd_on (S' := (S.1 + 1, S.2.1, [x, x], S.2.2.2.1, S.2.2.2.2)) rfl rfl ?_ (hs _ List.mem_cons_self)⟩
    intro ν sc u hγ hS
    rw [hst] at hS
    obtain ⟨v, us, rfl, hv, hS1⟩ := dS_c hS
    exact ⟨ν, v :: v :: us, aext_r ν, hγ, ⟨hv, hv, hS1⟩, zw_dup2J (aKJ_c hl9 hv hk) hd⟩
  | x :: y :: r =>
    simp only [hst] at h
    rcases cnd_some h with ⟨hk, h⟩ | ⟨-, h⟩
    · cases h
      refine ⟨rfl, fun hs => agd_on (S' := (S.1 + 1, S.2.1, x :: x :: y :: r, S.2.2.2.1, S.2.2.2.2)) rfl rfl ?_ (hs _ List.mem_cons_self)⟩
      intro ν sc u hγ hS
      rw [hst] at hS
      obtain ⟨v, us, rfl, hv, hS1⟩ := dS_c hS
      exact ⟨ν, v :: v :: us, aext_r ν, hγ, ⟨hv, hv, hS1⟩, zw_dup2J (aKJ_c hl9 hv hk) hd⟩
    · obtain ⟨hk, h⟩ := cnd_t h
      rw [Bool.and_eq_true] at hk
      cases h
      refine ⟨rfl, fun hs => agd_on (S' := (S.1 + 1, S.2.1, x :: y :: x :: y :: r, S.2.2.2.1, S.2.2.2.2)) rfl rfl ?_ (hs _ List.mem_cons_self)⟩
      intro ν sc u hγ hS
      rw [hst] at hS
      obtain ⟨v, us1, rfl, hv, hS1⟩ := dS_c hS
      obtain ⟨w, us, rfl, hw, hS2⟩ := dS_c hS1
      exact ⟨ν, v :: w :: v :: w :: us, aext_r ν, hγ, ⟨hv, hw, hv, hw, hS2⟩, zw_dup2 (aK1_c hl9 hv hk.1) (aK1_c hl9 hw hk.2) hd⟩
theorem apsh_ok {len : Nat} {ok : Bool} {v : aV} {w : Value} {S : aS} {R : aR} (hz : ok = true → ∀ r, zW1 (Bt mi) S.1 r (S.1 + len) (w :: r)) (hv : ok = true → ∀ ν, dV s0.heap.size b0 L grp lit ν v w) (h : apsh len ok v S = some R) : R.1 = 0 ∧ ((∀ S' ∈ R.2.1, aGd M Y Bt Hh Rt Rm Ex l s0 D ca sb b0 L xs grp lit mi P md u0 ν0 S') → aGd M Y Bt Hh Rt Rm Ex l s0 D ca sb b0 L xs grp lit mi P md u0 ν0 S) := by
  unfold apsh at h
  obtain ⟨hk, h⟩ := cnd_t h
  cases h
  refine ⟨rfl, fun hs => agd_on (S' := (S.1 + len, S.2.1, v :: S.2.2.1, S.2.2.2.1, S.2.2.2.2)) rfl rfl ?_ (hs _ List.mem_cons_self)⟩
  intro ν sc u hγ hS
  exact ⟨ν, w :: sc, aext_r ν, hγ, ⟨hv hk ν, hS⟩, hz hk sc⟩
theorem agot_ok {off : Int} {S : aS} {R : aR} (hd : decode (Bt mi) S.1 = .ok (.goto off, 3)) (h : agot off S = some R) : R.1 = 0 ∧ ((∀ S' ∈ R.2.1, aGd M Y Bt Hh Rt Rm Ex l s0 D ca sb b0 L xs grp lit mi P md u0 ν0 S') → aGd M Y Bt Hh Rt Rm Ex l s0 D ca sb b0 L xs grp lit mi P md u0 ν0 S) := by
  unfold agot at h
  cases ht : xtgt S.1 off with
  | none => rw [ht] at h; cases h
  | some t =>
    rw [ht] at h
    cases h
    refine ⟨rfl, fun hs => agd_on (S' := (t, S.2.1, S.2.2.1, S.2.2.2.1, S.2.2.2.2)) rfl rfl ?_ (hs _ List.mem_cons_self)⟩
    intro ν sc u hγ hS
    exact ⟨ν, sc, aext_r ν, hγ, hS, zw_goto (xtgt_ok ht) hd⟩
/-- a branch: the form's comparison with 0 decides -/
theorem abr_ok {n : Nat} {off : Int} {f : aF} {r : List aV} {S : aS} {R : aR} (hw : ∀ (t : Nat), (S.1 : Int) + off = (t : Int) → ∀ (ν : List Int) (sc : List Value), dS s0.heap.size b0 L grp lit ν S.2.2.1 sc → ∃ a us, ev ν f = some a ∧ dS s0.heap.size b0 L grp lit ν r us ∧ (zcc (xco n) a 0 → zW1 (Bt mi) S.1 sc t us) ∧ (¬ zcc (xco n) a 0 → zW1 (Bt mi) S.1 sc (S.1 + 3) us)) (h : abr n off f r S = some R) : R.1 = 0 ∧ ((∀ S' ∈ R.2.1, aGd M Y Bt Hh Rt Rm Ex l s0 D ca sb b0 L xs grp lit mi P md u0 ν0 S') → aGd M Y Bt Hh Rt Rm Ex l s0 D ca sb b0 L xs grp lit mi P md u0 ν0 S) := by
  unfold abr at h
  cases ht : xtgt S.1 off with
  | none => rw [ht] at h; cases h
  | some t =>
    rw [ht] at h
    cases h
    refine ⟨rfl, fun hs => ?_⟩
    intro ν lc sc u k h0 hγ hL hS hF hn
    obtain ⟨a, us, a1, hS1, w1, w2⟩ := hw t (xtgt_ok ht) ν sc hS
    by_cases hz : zcc (xco n) a 0
    · obtain ⟨z', e1, e2⟩ := acnd_ok hγ a1 hz
      refine cG_w (w1 hz) (hs (t, S.2.1, r, z', S.2.2.2.2) ?_ ν lc us u k h0 e2 hL hS1 hF hn)
      rw [e1]
      exact List.mem_append_left _ List.mem_cons_self
    · obtain ⟨z', e1, e2⟩ := acnd_ok hγ a1 (aneg_ok hz)
      refine cG_w (w2 hz) (hs (S.1 + 3, S.2.1, r, z', S.2.2.2.2) ?_ ν lc us u k h0 e2 hL hS1 hF hn)
      rw [e1]
      exact List.mem_append_right _ List.mem_cons_self
theorem aif_ok {n : Nat} {off : Int} {S : aS} {R : aR} (hd : decode (Bt mi) S.1 = .ok (.ifCond (xco n) off, 3)) (h : aif n off S = some R) : R.1 = 0 ∧ ((∀ S' ∈ R.2.1, aGd M Y Bt Hh Rt Rm Ex l s0 D ca sb b0 L xs grp lit mi P md u0 ν0 S') → aGd M Y Bt Hh Rt Rm Ex l s0 D ca sb b0 L xs grp lit mi P md u0 ν0 S) := by
  unfold aif at h
  cases hst : S.2.2.1 with
  | nil => rw [hst] at h; cases h
  | cons v r =>
    simp only [hst] at h
    obtain ⟨hk, h⟩ := cnd_t h
    rw [Bool.or_eq_true] at hk
    refine abr_ok ?_ h
    intro t ht ν sc hS
    rw [hst] at hS
    obtain ⟨w, us, rfl, hv, hS1⟩ := dS_c hS
    rcases hk with hk | hk
    · obtain ⟨a, a1, rfl, a3⟩ := dV_0 hv (aKI_k hk)
      obtain ⟨g1, g2⟩ := zw_if (x := Int32.ofInt a) (r := us) ht hd
      have hi : zci (xco n) (Int32.ofInt a) 0 ↔ zcc (xco n) a 0 := by
        rw [zci_iff, toI a3]; exact Iff.rfl
      exact ⟨a, us, a1, hS1, fun g => g1 (hi.mpr g), fun g => g2 (fun q => g (hi.mp q))⟩
    · obtain ⟨a, x, y, a1, rfl, a3⟩ := dV_2 hv (Nat.beq_eq.mp hk)
      obtain ⟨g1, g2⟩ := zw_if (x := lg_cmp x y) (r := us) ht hd
      have hi : zci (xco n) (lg_cmp x y) 0 ↔ zcc (xco n) a 0 := by
        rw [lgc_iff, zcc_sub, a3]
      exact ⟨a, us, a1, hS1, fun g => g1 (hi.mpr g), fun g => g2 (fun q => g (hi.mp q))⟩
theorem aicm_ok {n : Nat} {off : Int} {S : aS} {R : aR} (hd : decode (Bt mi) S.1 = .ok (.if_icmp (xco n) off, 3)) (h : aicm n off S = some R) : R.1 = 0 ∧ ((∀ S' ∈ R.2.1, aGd M Y Bt Hh Rt Rm Ex l s0 D ca sb b0 L xs grp lit mi P md u0 ν0 S') → aGd M Y Bt Hh Rt Rm Ex l s0 D ca sb b0 L xs grp lit mi P md u0 ν0 S) := by
  unfold aicm at h
  match hst : S.2.2.1 with
  | [] => rw [hst] at h; cases h
  | [_] => rw [hst] at h; cases h
  | y :: x :: r =>
    simp only [hst] at h
    obtain ⟨hk, h⟩ := cnd_t h
    rw [Bool.and_eq_true] at hk
    refine abr_ok ?_ h
    intro t ht ν sc hS
    rw [hst] at hS
    obtain ⟨vy, us1, rfl, hy, hS1⟩ := dS_c hS
    obtain ⟨vx, us, rfl, hx, hS2⟩ := dS_c hS1
    obtain ⟨c, c1, rfl, c3⟩ := dV_0 hy (aKI_k hk.2)
    obtain ⟨a, a1, rfl, a3⟩ := dV_0 hx (aKI_k hk.1)
    obtain ⟨g1, g2⟩ := zw_icmp (x := Int32.ofInt a) (y := Int32.ofInt c) (r := us) ht hd
    have hi : zci (xco n) (Int32.ofInt a) (Int32.ofInt c) ↔ zcc (xco n) (a - c) 0 := by
      rw [zci_iff, toI a3, toI c3, zcc_sub]
    exact ⟨a - c, us, ev_sub a1 c1, hS2, fun g => g1 (hi.mpr g), fun g => g2 (fun q => g (hi.mp q))⟩
theorem aic3_ok {n : Nat} {off : Int} {S : aS} {R : aR} (hd : decode (Bt mi) S.1 = .ok (.if_icmp (xco n) off, 3)) (h : aic3 n off S = some R) : R.1 = 0 ∧ ((∀ S' ∈ R.2.1, aGd M Y Bt Hh Rt Rm Ex l s0 D ca sb b0 L xs grp lit mi P md u0 ν0 S') → aGd M Y Bt Hh Rt Rm Ex l s0 D ca sb b0 L xs grp lit mi P md u0 ν0 S) := by
  unfold aic3 at h
  match hst : S.2.2.1 with
  | [] => rw [hst] at h; cases h
  | [_] => rw [hst] at h; cases h
  | y :: x :: r =>
    simp only [hst] at h
    obtain ⟨hk, h⟩ := cnd_t h
    rw [Bool.and_eq_true] at hk
    unfold abr3 at h
    cases ht : xtgt S.1 off with
    | none => rw [ht] at h; cases h
    | some t =>
      simp only [ht] at h
      have way : ∀ (ν : List Int) (sc : List Value) (u : zW), aγ s0.heap.size b0 L grp lit ν S.2.2.2.1 u → dS s0.heap.size b0 L grp lit ν S.2.2.1 sc → ∃ a us, dS s0.heap.size b0 L grp lit ν r us ∧ (zcc (xco n) a 0 → zW1 (Bt mi) S.1 sc t us) ∧ (¬ zcc (xco n) a 0 → zW1 (Bt mi) S.1 sc (S.1 + 3) us) ∧ (a = 0 → ∃ z', acnd 0 S.2.2.2.1 (fsub x.2.2 y.2.2) = some z' ∧ aγ s0.heap.size b0 L grp lit ν z' u) ∧ (a < 0 → ∃ z', acnd 2 S.2.2.2.1 (fsub x.2.2 y.2.2) = some z' ∧ aγ s0.heap.size b0 L grp lit ν z' u) ∧ (0 < a → ∃ z', acnd 4 S.2.2.2.1 (fsub x.2.2 y.2.2) = some z' ∧ aγ s0.heap.size b0 L grp lit ν z' u) := by
        intro ν sc u hγ hS
        rw [hst] at hS
        obtain ⟨vy, us1, rfl, hy, hS1⟩ := dS_c hS
        obtain ⟨vx, us, rfl, hx, hS2⟩ := dS_c hS1
        obtain ⟨c, c1, rfl, c3⟩ := dV_0 hy (aKI_k hk.2)
        obtain ⟨a, a1, rfl, a3⟩ := dV_0 hx (aKI_k hk.1)
        obtain ⟨g1, g2⟩ := zw_icmp (x := Int32.ofInt a) (y := Int32.ofInt c) (r := us) (xtgt_ok ht) hd
        have hi : zci (xco n) (Int32.ofInt a) (Int32.ofInt c) ↔ zcc (xco n) (a - c) 0 := by
          rw [zci_iff, toI a3, toI c3, zcc_sub]
        have hf := ev_sub a1 c1
        exact ⟨a - c, us, hS2, fun g => g1 (hi.mpr g), fun g => g2 (fun q => g (hi.mp q)), fun g => acnd_ok (n := 0) hγ hf g, fun g => acnd_ok (n := 2) hγ hf g, fun g => acnd_ok (n := 4) hγ hf g⟩
      rcases cnd_some h with ⟨h0, h⟩ | ⟨-, h⟩
      · have e0 := Nat.beq_eq.mp h0
        subst e0
        cases h
        refine ⟨rfl, fun hs => ?_⟩
        intro ν lc sc u k h0 hγ hL hS hF hn
        obtain ⟨a, us, hS1, w1, w2, e1, e2, e3⟩ := way ν sc u hγ hS
        by_cases g1 : a = 0
        · obtain ⟨z', f1, f2⟩ := e1 g1
          refine cG_w (w1 g1) (hs (t, S.2.1, r, z', S.2.2.2.2) ?_ ν lc us u k h0 f2 hL hS1 hF hn)
          rw [f1]
          exact List.mem_append_left _ List.mem_cons_self
        · by_cases g2 : a < 0
          · obtain ⟨z', f1, f2⟩ := e2 g2
            refine cG_w (w2 g1) (hs (S.1 + 3, S.2.1, r, z', S.2.2.2.2) ?_ ν lc us u k h0 f2 hL hS1 hF hn)
            rw [f1]
            exact List.mem_append_right _ (List.mem_append_left _ List.mem_cons_self)
          · obtain ⟨z', f1, f2⟩ := e3 (by omega)
            refine cG_w (w2 g1) (hs (S.1 + 3, S.2.1, r, z', S.2.2.2.2) ?_ ν lc us u k h0 f2 hL hS1 hF hn)
            rw [f1]
            exact List.mem_append_right _ (List.mem_append_right _ List.mem_cons_self)
      · obtain ⟨h1, h⟩ := cnd_t h
        have e0 := Nat.beq_eq.mp h1
        subst e0
        cases h
        refine ⟨rfl, fun hs => ?_⟩
        intro ν lc sc u k h0 hγ hL hS hF hn
        obtain ⟨a, us, hS1, w1, w2, e1, e2, e3⟩ := way ν sc u hγ hS
        by_cases g1 : a = 0
        · obtain ⟨z', f1, f2⟩ := e1 g1
          refine cG_w (w2 (fun q => q g1)) (hs (S.1 + 3, S.2.1, r, z', S.2.2.2.2) ?_ ν lc us u k h0 f2 hL hS1 hF hn)
          rw [f1]
          exact List.mem_append_left _ List.mem_cons_self
        · by_cases g2 : a < 0
          · obtain ⟨z', f1, f2⟩ := e2 g2
            refine cG_w (w1 g1) (hs (t, S.2.1, r, z', S.2.2.2.2) ?_ ν lc us u k h0 f2 hL hS1 hF hn)
            rw [f1]
            exact List.mem_append_right _ (List.mem_append_left _ List.mem_cons_self)
          · obtain ⟨z', f1, f2⟩ := e3 (by omega)
            refine cG_w (w1 g1) (hs (t, S.2.1, r, z', S.2.2.2.2) ?_ ν lc us u k h0 f2 hL hS1 hF hn)
            rw [f1]
            exact List.mem_append_right _ (List.mem_append_right _ List.mem_cons_self)
end GS
