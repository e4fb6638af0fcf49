/-! what is not the claim's own code: a copy of an array, the place of a unit in a literal, a literal; as rows that are shown later -/
def zcpy (u : zW) (a d : Nat) : zW := (u.1, fun q => if q = d then ((u.2 d).1, (u.2 d).2.1, (u.2 a).2.2) else u.2 q)
section GX
variable {M : xM} {Y : Nat → MethodName} {Bt : Nat → ByteArray} {Hh : Nat → List (Nat × Nat × Nat × Nat)} {Rt : Nat → Option FieldType} {Rm : Nat → Room} {Ex : Nat → String}
variable {l : Launch} {s0 : State} {D : va_G} {ca : Nat → ClassId} {sb : Nat → Nat} {b0 L : Nat} {grp : Nat → Nat} {lit : Value → Prop} {xs : Nat → Int32} {ty : Nat → Nat → FieldType}
variable {mi : Nat} {P : cP} {md : List (Nat × Int)} {u0 : zW} {ν0 : List Int}

def crCpy (M : xM) (Y : Nat → MethodName) (Bt : Nat → ByteArray) (Hh : Nat → List (Nat × Nat × Nat × Nat)) (Rt : Nat → Option FieldType) (Rm : Nat → Room) (Ex : Nat → String) (l : Launch) (s0 : State) (D : va_G) (ca : Nat → ClassId) (sb : Nat → Nat) (mi pc : Nat) : Prop :=
  ∀ (lv : List (Nat × Value)) (st : List Value) (u : zW) (n : Nat) (P : cP) (a d N : Nat), s0.heap.size + a < u.1 → s0.heap.size + d < u.1 → (u.2 (s0.heap.size + a)).1 = (u.2 (s0.heap.size + d)).1 → 64 ≤ (u.2 (s0.heap.size + a)).1 → (u.2 (s0.heap.size + a)).1 ≤ 65 → (u.2 (s0.heap.size + a)).2.1 = N → (u.2 (s0.heap.size + d)).2.1 = N → N ≤ 2147483647 → (st.map fun v => v.category).sum ≤ 8 →
    (∀ k, k < N → ∃ z : Int32, (u.2 (s0.heap.size + a)).2.2 k = .int z ∧ ((u.2 (s0.heap.size + a)).1 = 65 → 0 ≤ z.toInt ∧ z.toInt ≤ 65535)) →
    cG M Y Bt Hh Rt Rm Ex l s0 D ca sb mi (pc + 3) lv st (zcpy u (s0.heap.size + a) (s0.heap.size + d)) n P → cG M Y Bt Hh Rt Rm Ex l s0 D ca sb mi pc lv (.int (Int32.ofInt (N : Int)) :: .int 0 :: .ref (s0.heap.size + d) :: .int 0 :: .ref (s0.heap.size + a) :: st) u n P
def crIdx (M : xM) (Y : Nat → MethodName) (Bt : Nat → ByteArray) (Hh : Nat → List (Nat × Nat × Nat × Nat)) (Rt : Nat → Option FieldType) (Rm : Nat → Room) (Ex : Nat → String) (l : Launch) (s0 : State) (D : va_G) (ca : Nat → ClassId) (sb : Nat → Nat) (lit : Value → Prop) (mi pc : Nat) : Prop :=
  ∀ (lv : List (Nat × Value)) (st : List Value) (u : zW) (n : Nat) (P : cP) (v : Value) (c : Int32), lit v → (st.map fun v => v.category).sum ≤ 8 → n ≤ (Rm mi).cells → (∀ r : Int32, -1 ≤ r.toInt → r.toInt ≤ 15 → (c = 0 → r = -1) → cG M Y Bt Hh Rt Rm Ex l s0 D ca sb mi (pc + 3) lv (.int r :: st) u n P) → cG M Y Bt Hh Rt Rm Ex l s0 D ca sb mi pc lv (.int c :: v :: st) u n P
def crStr (M : xM) (Y : Nat → MethodName) (Bt : Nat → ByteArray) (Hh : Nat → List (Nat × Nat × Nat × Nat)) (Rt : Nat → Option FieldType) (Rm : Nat → Room) (Ex : Nat → String) (l : Launch) (s0 : State) (D : va_G) (ca : Nat → ClassId) (sb : Nat → Nat) (lit : Value → Prop) (mi pc : Nat) : Prop :=
  ∀ (lv : List (Nat × Value)) (st : List Value) (u : zW) (n : Nat) (P : cP), (∀ v, lit v → cG M Y Bt Hh Rt Rm Ex l s0 D ca sb mi (pc + 2) lv (v :: st) u n P) → cG M Y Bt Hh Rt Rm Ex l s0 D ca sb mi pc lv st u n P
theorem avl_cpy (B : Nat) (u : zW) (a d a' k : Nat) : avl B (zcpy u (B + a) (B + d)) a' k = if a' = d then avl B u a k else avl B u a' k := by
  unfold avl zcpy
  show (if B + a' = B + d then _ else _ : zC).2.2 k = _
  by_cases h : a' = d
  · subst h
    rw [if_pos rfl, if_pos rfl]
  · rw [if_neg (by omega), if_neg h]
theorem acpq_ok {tag : Nat} : ∀ {q : List aE}, acpq tag q = true → ∃ e ∈ q, e.1 = 1 ∧ e.2.1 = 0 ∧ e.2.2.1 = 0 ∧ e.2.2.2.1 = 0 ∧ (tag = 65 → 0 ≤ e.2.2.2.2.2.1 ∧ e.2.2.2.2.2.2 ≤ 65535)
  | [], h => by cases h
  | e :: r, h => by
    unfold acpq at h
    rw [Bool.or_eq_true] at h
    rcases h with h | h
    · simp only [Bool.and_eq_true, Bool.or_eq_true, Bool.not_eq_true', Nat.beq_eq, ile_iff] at h
      obtain ⟨⟨⟨⟨c1, c2⟩, c3⟩, c4⟩, c5⟩ := h
      refine ⟨e, List.mem_cons_self, c1, c2, c3, c4, fun h65 => ?_⟩
      rcases c5 with c5 | c5
      · rw [Nat.beq_eq.mpr h65] at c5; cases c5
      · exact c5
    · obtain ⟨e', h1, h2⟩ := acpq_ok h
      exact ⟨e', List.mem_cons_of_mem _ h1, h2⟩
theorem dP_0 {B : Nat} {p : aP} {v : Value} (h : dP B grp p v) (hk : p.1 = 0) : ∃ z : Int32, v = .int z ∧ p.2.2.1 ≤ z.toInt ∧ z.toInt ≤ p.2.2.2 := by
  obtain ⟨k, g, lo, hi⟩ := p
  cases hk
  exact h
theorem acpy_ok (hg : aok grp) (hl9 : ∀ v, lit v → ∃ q : Nat, v = .ref q) {S : aS} {R : aR} (hrow : crCpy M Y Bt Hh Rt Rm Ex l s0 D ca sb mi S.1) (h : acpy md S = some R) : R.1 = 0 ∧ ((∀ S' ∈ R.2.1, aGd M Y Bt Hh Rt Rm Ex l s0 D ca sb b0 L xs grp lit mi P md u0 ν0 S') → aGd M Y Bt Hh Rt Rm Ex l s0 D ca sb b0 L xs grp lit mi P md u0 ν0 S) := by
  unfold acpy at h
  match hst : S.2.2.1 with
  | [] => rw [hst] at h; cases h
  | [_] => rw [hst] at h; cases h
  | [_, _] => rw [hst] at h; cases h
  | [_, _, _] => rw [hst] at h; cases h
  | [_, _, _, _] => rw [hst] at h; cases h
  | nn :: jj :: dd :: ii :: ss :: r =>
    simp only [hst] at h
    obtain ⟨hk, h⟩ := cnd_t h
    simp only [Bool.and_eq_true, Nat.beq_eq, Nat.ble_eq] at hk
    obtain ⟨⟨⟨⟨⟨⟨⟨⟨⟨⟨⟨⟨⟨⟨k1, k2⟩, k3⟩, k4⟩, k5⟩, k6⟩, k7⟩, k8⟩, k9⟩, k10⟩, k11⟩, k12⟩, k13⟩, k14⟩, k15⟩ := hk
    cases h
    refine ⟨rfl, fun hs => ?_⟩
    intro ν lc sc u n h0 hγ hL hS hF hn
    rw [hst] at hS
    obtain ⟨vn, us1, rfl, hvn, hS1⟩ := dS_c hS
    obtain ⟨vj, us2, rfl, hvj, hS2⟩ := dS_c hS1
    obtain ⟨vd, us3, rfl, hvd, hS3⟩ := dS_c hS2
    obtain ⟨vi, us4, rfl, hvi, hS4⟩ := dS_c hS3
    obtain ⟨vs, us, rfl, hvs, hS5⟩ := dS_c hS4
    obtain ⟨a, a1, rfl, a3, a4⟩ := dV_3 hvs k1
    obtain ⟨d, d1, rfl, d3, d4⟩ := dV_3 hvd k2
    obtain ⟨xn, n1, rfl, n3⟩ := dV_0 hvn (aKI_k k4)
    obtain ⟨xj, j1, rfl, j3⟩ := dV_0 hvj (aKI_k k5)
    obtain ⟨xi, i1, rfl, i3⟩ := dV_0 hvi (aKI_k k6)
    have ej := feq_ev k7 j1
    have ei := feq_ev k8 i1
    have en : xn = ((aLN ss.2.1 : Nat) : Int) := feq_ev k9 n1
    subst ej ei en
    obtain ⟨c1, c2, c3⟩ := dI_cell hγ.2.2.2.2.1 a3
    obtain ⟨e1, e2, e3⟩ := dI_cell hγ.2.2.2.2.1 d3
    rw [a4] at c2 c3
    rw [d4, ← k3] at e2 e3
    have hne : aSG ss.2.1 = none := by
      cases hsg : aSG ss.2.1 with
      | none => rfl
      | some _ => rw [hsg] at k13; cases k13
    obtain ⟨e0, he0, s1, s2, s3, s4, s5⟩ := acpq_ok k15
    have hel : ∀ k, k < aLN ss.2.1 → ∃ z : Int32, (u.2 (s0.heap.size + a)).2.2 k = .int z ∧ ((u.2 (s0.heap.size + a)).1 = 65 → 0 ≤ z.toInt ∧ z.toInt ≤ 65535) := by
      intro k hk
      have hd := dI_at hγ.2.2.2.2.1 a3 (k := k) (by rw [a4]; exact hk) (e := e0) (by rw [a4]; exact he0) (by rw [s2]; omega) (by rw [s1, s3]; omega)
      obtain ⟨z, z1, z2, z3⟩ := dP_0 hd s4
      refine ⟨z, z1, fun h65 => ?_⟩
      rw [c2] at h65
      have := s5 h65
      omega
    have hX : ∀ a' k', a' ≠ d → avl s0.heap.size (zcpy u (s0.heap.size + a) (s0.heap.size + d)) a' k' = avl s0.heap.size u a' k' := by
      intro a' k' h'
      rw [avl_cpy, if_neg h']
    have ho : ∀ {g o : Nat}, aSG g = some o → o ≠ d := by
      intro g o hsg e
      subst e
      have h1 := (hg.2 g o hsg).2
      rw [d4, ← k3] at h1
      rw [h1, hsg] at hne
      cases hne
    have hm : ∀ k : Int, amem md ss.2.1 k := by
      intro k
      obtain ⟨q, q1, q2, q3⟩ := amd_t (ν := ν) (ev_c ν (-1)) k12
      exact ⟨q, q1, q2, Or.inl (by rcases q3 with q3 | q3 <;> exact q3)⟩
    obtain ⟨g1, g2, g3, g4, g5, g6⟩ := hγ
    have hrow' := hrow lc us u n P a d (aLN ss.2.1) c1 e1 (c2.trans e2.symm) (by rw [c2]; exact k10) (by rw [c2]; exact k11) c3 e3 (aLN_r _) (by rw [acat_ok hl9 hS5]; exact k14) hel
    refine hrow' (hs _ List.mem_cons_self ν lc us _ n h0 ⟨g1, g2, g3, fun q hq => ?_, ⟨g5.1, fun a' ha' => ?_⟩, ?_⟩ hL hS5 ?_ hn)
    · obtain ⟨h1, h2⟩ := afil_ok hq
      obtain ⟨a', k', x1, x2, x3, x4, x5, x6⟩ := g4 q h1
      refine ⟨a', k', x1, x2, x3, x4, x5, ?_⟩
      rw [hX]
      · exact x6
      · intro e
        subst e
        have hq1 : q.1 = ss.2.1 := by rw [← x4, d4, k3]
        rcases h2 with h2 | ⟨h2, h3⟩
        · exact amdg_f (k := 0) h2 ⟨(ss.2.1, -1), List.mem_cons_self, hq1.symm, Or.inl rfl⟩
        · rw [fcon_ok x2 h2] at h3
          exact amd_f h3 ⟨(ss.2.1, -1), List.mem_cons_self, hq1.symm, Or.inl rfl⟩
    · obtain ⟨y1, y2, y3⟩ := g5.2 a' ha'
      have ht : ((zcpy u (s0.heap.size + a) (s0.heap.size + d)).2 (s0.heap.size + a')).1 = (u.2 (s0.heap.size + a')).1 ∧ ((zcpy u (s0.heap.size + a) (s0.heap.size + d)).2 (s0.heap.size + a')).2.1 = (u.2 (s0.heap.size + a')).2.1 := by
        unfold zcpy
        show (if s0.heap.size + a' = s0.heap.size + d then _ else _ : zC).1 = _ ∧ (if s0.heap.size + a' = s0.heap.size + d then _ else _ : zC).2.1 = _
        by_cases h : a' = d
        · subst h
          rw [if_pos rfl]
          exact ⟨rfl, rfl⟩
        · rw [if_neg (by omega)]
          exact ⟨rfl, rfl⟩
      refine ⟨ht.1.trans y1, ht.2.trans y2, fun k' hk' e he x1 x2 => ?_⟩
      rw [avl_cpy]
      by_cases h : a' = d
      · subst h
        rw [if_pos rfl]
        have hga : grp a' = grp a := by rw [d4, a4, k3]
        rw [hga] at he hk'
        exact (g5.2 a a3).2.2 k' hk' e he x1 x2
      · rw [if_neg h]
        exact y3 k' hk' e he x1 x2
    · exact dM_same (z := zsX S.2.2.2.1 _) g6 ⟨hX _ _ (ho sgM), hX _ _ (ho sgM), fun j => hX _ _ (ho sgC), fun j => hX _ _ (ho sgS), fun j => hX _ _ (ho sgZ), fun j => hX _ _ (ho sgO)⟩
    · intro a' k' x1 x2 x3
      rw [hX]
      · exact hF a' k' x1 x2 x3
      · intro e
        subst e
        exact x3 (by rw [d4, ← k3]; exact hm _)
theorem aidx_ok {rc : Nat} (hrc : (Rm mi).cells = rc) (hl9 : ∀ v, lit v → ∃ q : Nat, v = .ref q) {S : aS} {R : aR} (hrow : crIdx M Y Bt Hh Rt Rm Ex l s0 D ca sb lit mi S.1) (h : aidx rc S = some R) : R.1 = 0 ∧ ((∀ S' ∈ R.2.1, aGd M Y Bt Hh Rt Rm Ex l s0 D ca sb b0 L xs grp lit mi P md u0 ν0 S') → aGd M Y Bt Hh Rt Rm Ex l s0 D ca sb b0 L xs grp lit mi P md u0 ν0 S) := by
  unfold aidx at h
  match hst : S.2.2.1 with
  | [] => rw [hst] at h; cases h
  | [_] => rw [hst] at h; cases h
  | cc :: ss :: r =>
    simp only [hst] at h
    obtain ⟨hk, h⟩ := cnd_t h
    simp only [Bool.and_eq_true, Nat.beq_eq, Nat.ble_eq] at hk
    obtain ⟨⟨⟨k1, k2⟩, k3⟩, k4⟩ := hk
    rcases cnd_some h with ⟨hz, h⟩ | ⟨-, h⟩
    · cases h
      refine ⟨rfl, fun hs => ?_⟩
      intro ν lc sc u n h0 hγ hL hS hF hn
      rw [hst] at hS
      obtain ⟨vc, us1, rfl, hvc, hS1⟩ := dS_c hS
      obtain ⟨vs, us, rfl, hvs, hS2⟩ := dS_c hS1
      obtain ⟨x, x1, rfl, x3⟩ := dV_0 hvc (aKI_k k2)
      have ex := feq_ev hz x1
      subst ex
      have hlit : lit vs := by
        obtain ⟨k, g, f⟩ := ss
        cases k1
        exact hvs
      refine hrow lc us u n P vs (Int32.ofInt 0) hlit (by rw [acat_ok hl9 hS2]; exact k3) (by have h9 := awit_at hγ k4 hn.1; rw [hrc]; exact Int.ofNat_le.mp h9.2) (fun r9 _ _ r3 => ?_)
      rw [r3 rfl]
      exact hs _ List.mem_cons_self ν lc _ u n h0 hγ hL ⟨dV_i ν (-1) (by decide) (by decide), hS2⟩ hF hn
    · cases h
      refine ⟨rfl, fun hs => ?_⟩
      intro ν lc sc u n h0 hγ hL hS hF hn
      rw [hst] at hS
      obtain ⟨vc, us1, rfl, hvc, hS1⟩ := dS_c hS
      obtain ⟨vs, us, rfl, hvs, hS2⟩ := dS_c hS1
      obtain ⟨x, x1, rfl, x3⟩ := dV_0 hvc (aKI_k k2)
      have hlit : lit vs := by
        obtain ⟨k, g, f⟩ := ss
        cases k1
        exact hvs
      refine hrow lc us u n P vs (Int32.ofInt x) hlit (by rw [acat_ok hl9 hS2]; exact k3) (by have h9 := awit_at hγ k4 hn.1; rw [hrc]; exact Int.ofNat_le.mp h9.2) (fun r9 r1 r2 _ => ?_)
      obtain ⟨ν', f1, f2, f3⟩ := afr_ok hγ r1 r2
      exact hs _ List.mem_cons_self ν' lc _ u n (aext_t h0 f1) f3 (dL_ext f1 hL) ⟨⟨r9.toInt, f2, by rw [ofI], by omega, by omega⟩, dS_ext f1 hS2⟩ hF (aCl_ext f1 hn)
theorem astr_ok {S : aS} {R : aR} (hrow : crStr M Y Bt Hh Rt Rm Ex l s0 D ca sb lit mi S.1) (h : apsh 2 true (4, 0, (0, [])) S = some R) : R.1 = 0 ∧ ((∀ S' ∈ R.2.1, aGd M Y Bt Hh Rt Rm Ex l s0 D ca sb b0 L xs grp lit mi P md u0 ν0 S') → aGd M Y Bt Hh Rt Rm Ex l s0 D ca sb b0 L xs grp lit mi P md u0 ν0 S) := by
  cases h
  refine ⟨rfl, fun hs => ?_⟩
  intro ν lc sc u n h0 hγ hL hS hF hn
  exact hrow lc sc u n P (fun v hv => hs _ List.mem_cons_self ν lc _ u n h0 hγ hL ⟨hv, hS⟩ hF hn)
end GX
