/-! A METHOD'S CHECK: from its start and from each cut, to ends and cuts -/
noncomputable def astp (M : xM) (sb : Nat → Nat) (ct : Nat → List aC) (md : List (Nat × Int)) (mi : Nat) (S : aS) : Option aR := bif Nat.ble (S.1 + 1) 2048 then (match zget 11 (M.1 mi) S.1 with
  | none => none
  | some e => adis M sb ct md e mi S) else none
noncomputable def acka (stp : aS → Option aR) (np : Nat) (po : List (Nat × Nat × Nat × aT)) (cu : List aK) (N : Nat) (q : List aK) : Bool := match q with
  | [] => true
  | k :: r => achk stp np po cu (some k.2.2.1) N true (k.1, tlv k.2.1, tst k.2.1, tz k.2.1, k.2.2.2, []) && acka stp np po cu N r
noncomputable def amck (M : xM) (sb : Nat → Nat) (ct : Nat → List aC) (mi : Nat) (c : aC) (cu : List aK) (N pc0 : Nat) (cl0 : aF) : Bool := achk (astp M sb ct c.2.1 mi) (zn (tz c.1)) c.2.2 cu none N true (pc0, tlv c.1, [], tz c.1, cl0, []) && acka (astp M sb ct c.2.1 mi) (zn (tz c.1)) c.2.2 cu N cu
section GK
variable {M : xM} {Y : Nat → MethodName} {Bt : Nat → ByteArray} {Hh : Nat → List (Nat × Nat × Nat × Nat)} {Rt : Nat → Option FieldType} {Rm : Nat → Room} {Ex : Nat → String}
variable {l : Launch} {s0 : State} {D : va_G} {ca : Nat → ClassId} {sb : Nat → Nat} {b0 L : Nat} {grp : Nat → Nat} {lit : Value → Prop} {xs : Nat → Int32} {ty : Nat → Nat → FieldType}
variable {mi : Nat} {P : cP} {md : List (Nat × Int)} {u0 : zW} {ν0 : List Int}

theorem astp_ok {ct : Nat → List aC} (A : zall2 M Y Bt Hh Rt Rm Ex l s0 D ca sb b0 L xs ty grp lit) (hct : ∀ mj, ∀ c ∈ ct mj, aval M Y Bt Hh Rt Rm Ex l s0 D ca sb b0 L grp lit mj c) {S : aS} {R : aR} (h : astp M sb ct md mi S = some R) : aGS M Y Bt Hh Rt Rm Ex l s0 D ca sb b0 L xs grp lit mi P md u0 ν0 S R := by
  unfold astp at h
  obtain ⟨hpc, h⟩ := cnd_t h
  cases he : zget 11 (M.1 mi) S.1 with
  | none => rw [he] at h; cases h
  | some e =>
    rw [he] at h
    obtain ⟨op, a, bb, cc, k, ll⟩ := e
    exact adis_ok A hct op a bb cc k ll (A.2.2.2.2.2.2.2.2.1 mi S.1 _ (Nat.ble_eq.mp hpc) he) h
theorem aall_mem {g : aS → Bool} : ∀ {q : List aS}, aall g q = true → ∀ S ∈ q, g S = true
  | [], _, S, hS => by cases hS
  | p :: r, h, S, hS => by
    unfold aall at h
    rw [Bool.and_eq_true] at h
    rcases List.mem_cons.mp hS with rfl | hS
    · exact h.1
    · exact aall_mem h.2 S hS
/-- a cut is good at a measure that the order allows -/
def aHC (M : xM) (Y : Nat → MethodName) (Bt : Nat → ByteArray) (Hh : Nat → List (Nat × Nat × Nat × Nat)) (Rt : Nat → Option FieldType) (Rm : Nat → Room) (Ex : Nat → String) (l : Launch) (s0 : State) (D : va_G) (ca : Nat → ClassId) (sb : Nat → Nat) (b0 L : Nat) (grp : Nat → Nat) (lit : Value → Prop) (mi : Nat) (c : aC) (νc : List Int) (u1 : zW) (cu : List aK) (ok : List Int → Prop) : Prop :=
  ∀ k ∈ cu, ∀ (μ : List Int) (lc : List (Nat × Value)) (sc : List Value) (u : zW) (n : Nat) (m : List Int), (∀ j, j < νc.length → μ[j]? = νc[j]?) → aγ s0.heap.size b0 L grp lit μ (tz k.2.1) u → dL s0.heap.size b0 L grp lit μ (tlv k.2.1) lc → dS s0.heap.size b0 L grp lit μ (tst k.2.1) sc → aFr s0.heap.size grp c.2.1 u1 u → ev μ k.2.2.2 = some (n : Int) → evs μ k.2.2.1 m → ok m →
    cG M Y Bt Hh Rt Rm Ex l s0 D ca sb mi k.1 lc sc u n (aPo s0.heap.size b0 L grp lit c νc u1)
theorem acus_some {np : Nat} {mu : Option (List aF)} {S : aS} : ∀ {q : List aK}, acus np mu S q = true → ∃ k ∈ q, acu1 np mu S k = true
  | [], h => by cases h
  | k :: r, h => by
    unfold acus at h
    rw [Bool.or_eq_true] at h
    rcases h with h | h
    · exact ⟨k, List.mem_cons_self, h⟩
    · obtain ⟨k', h1, h2⟩ := acus_some h
      exact ⟨k', List.mem_cons_of_mem _ h1, h2⟩
theorem achk_ok {ct : Nat → List aC} (A : zall2 M Y Bt Hh Rt Rm Ex l s0 D ca sb b0 L xs ty grp lit) (hct : ∀ mj, ∀ c ∈ ct mj, aval M Y Bt Hh Rt Rm Ex l s0 D ca sb b0 L grp lit mj c) {c : aC} {νc : List Int} {u1 : zW} {cu : List aK} (hnp : νc.length = zn (tz c.1)) (hb : ∀ j, j < νc.length → ν0[j]? = νc[j]?) {mu : Option (List aF)} {ok : List Int → Prop}
    (hmu : ∀ ms, mu = some ms → ∃ mv, evs ν0 ms mv ∧ ∀ m, lxx m mv → ok m) (hmu0 : mu = none → ∀ m, ok m) (HC : aHC M Y Bt Hh Rt Rm Ex l s0 D ca sb b0 L grp lit mi c νc u1 cu ok) : ∀ (n : Nat) (fi : Bool) (S : aS), achk (astp M sb ct c.2.1 mi) (zn (tz c.1)) c.2.2 cu mu n fi S = true →
      aGd M Y Bt Hh Rt Rm Ex l s0 D ca sb b0 L xs grp lit mi (aPo s0.heap.size b0 L grp lit c νc u1) c.2.1 u1 ν0 S
  | 0, _, _, h => by cases h
  | n + 1, fi, S, h => by
    have hg := A.2.2.2.2.2.2.2.2.2.1
    replace h : (bif !fi && aisc cu S.1 then acus (zn (tz c.1)) mu S cu else (match astp M sb ct c.2.1 mi S with
      | none => false
      | some R => bif Nat.beq R.1 0 then aall (achk (astp M sb ct c.2.1 mi) (zn (tz c.1)) c.2.2 cu mu n false) R.2.1 else bif Nat.beq R.1 1 then alf (zn (tz c.1)) 0 0 S.2.2.2.1 S.2.2.1 S.2.2.2.2.1 c.2.2 else alf (zn (tz c.1)) 1 R.2.2.2 S.2.2.2.1 [] (fk S.2.2.2.2.1 1) c.2.2)) = true := h
    cases hc : (!fi && aisc cu S.1) with
    | true =>
      rw [hc] at h
      obtain ⟨k, hk, hk1⟩ := acus_some (show acus (zn (tz c.1)) mu S cu = true from h)
      unfold acu1 at hk1
      simp only [Bool.and_eq_true, Nat.beq_eq] at hk1
      obtain ⟨⟨hpc, htn⟩, hk2⟩ := hk1
      intro ν lc sc u n9 h0 hγ hL hS hF hn
      cases he : aent S.2.2.2.1 S.2.1 S.2.2.1 k.2.1 with
      | none => rw [he] at hk2; cases hk2
      | some q =>
        simp only [he] at hk2
        obtain ⟨ν', μ, lc', e1, e2, e3, e4, e5, e6, e7, e8, e9⟩ := aent_ok hg hγ hL hS he
        cases hs1 : asub q.1 k.2.2.2 with
        | none => simp only [hs1] at hk2; cases hk2
        | some g =>
          cases hs2 : asubs q.1 k.2.2.1 with
          | none => simp only [hs1, hs2] at hk2; cases hk2
          | some ms =>
            simp only [hs1, hs2, Bool.and_eq_true] at hk2
            obtain ⟨y, y1, y2⟩ := asub_ok e3 hs1
            obtain ⟨vs, v1, v2⟩ := asubs_ok e3 hs2
            have hle := prov2_ok e2.2.1 e2.2.2.1 (ev_sub (ev_ext e1 hn.1) y2) hk2.1.1
            have hy0 := awit_at e2 hk2.1.2 y2
            obtain ⟨ny, rfl⟩ := Int.eq_ofNat_of_zero_le hy0.1
            have hj : ∀ j, j < νc.length → μ[j]? = νc[j]? := by
              intro j hj
              rw [e4 j (by rw [htn, ← hnp]; exact hj), ← hb j hj]
              have hj0 := hb j hj
              rw [List.getElem?_eq_getElem hj] at hj0
              rw [hj0]
              exact get_ext h0 hj0
            rw [← hpc]
            refine cG_wid (n' := ny) (by omega) (cG_lv e7 (HC k hk μ lc' sc u ny vs hj e5 e6 e8 hF y1 v1 ?_))
            cases hm9 : mu with
            | none => exact hmu0 hm9 vs
            | some b =>
              simp only [hm9] at hk2
              obtain ⟨mv, m1, m2⟩ := hmu b hm9
              exact m2 vs (alex_ok e2 v2 (evs_ext (aext_t h0 e1) m1) hk2.2)
    | false =>
      rw [hc] at h
      replace h : (match astp M sb ct c.2.1 mi S with
        | none => false
        | some R => bif Nat.beq R.1 0 then aall (achk (astp M sb ct c.2.1 mi) (zn (tz c.1)) c.2.2 cu mu n false) R.2.1 else bif Nat.beq R.1 1 then alf (zn (tz c.1)) 0 0 S.2.2.2.1 S.2.2.1 S.2.2.2.2.1 c.2.2 else alf (zn (tz c.1)) 1 R.2.2.2 S.2.2.2.1 [] (fk S.2.2.2.2.1 1) c.2.2) = true := h
      cases hst : astp M sb ct c.2.1 mi S with
      | none => rw [hst] at h; cases h
      | some R =>
        simp only [hst] at h
        rcases astp_ok (P := aPo s0.heap.size b0 L grp lit c νc u1) (u0 := u1) (ν0 := ν0) A hct hst with ⟨r0, hgo⟩ | ⟨r1, hgo⟩ | ⟨r2, hgo⟩
        · rw [r0] at h
          exact hgo (fun S' hS' => achk_ok A hct hnp hb hmu hmu0 HC n false S' (aall_mem h S' hS'))
        · rw [r1] at h
          refine hgo (fun ν sc u k v h0 hγ hS hF hn hv => ?_)
          obtain ⟨p, p1, p2, -, μ, p4, p5, p6, p7, p8⟩ := alf_ok hg hnp hb h0 hγ hS hF hn (show alf (zn (tz c.1)) 0 0 S.2.2.2.1 S.2.2.1 S.2.2.2.2.1 c.2.2 = true from h)
          refine ⟨p, p1, μ, p4, p5, p6, p7, Or.inl ⟨p2, v, rfl, ?_⟩⟩
          rw [hv] at p8
          cases v with
          | none =>
            left
            refine ⟨?_, rfl⟩
            cases hts : tst p.2.2.2 with
            | nil => rfl
            | cons x r => rw [hts] at p8; exact p8.elim
          | some w =>
            right
            match hts : tst p.2.2.2 with
            | [] => rw [hts] at p8; exact p8.elim
            | [x] => rw [hts] at p8; exact ⟨x, w, rfl, rfl, p8.1⟩
            | _ :: _ :: _ => rw [hts] at p8; exact p8.2.elim
        · rw [r2] at h
          refine hgo (fun ν u k h0 hγ hF hn => ?_)
          have hF2 : aFr s0.heap.size grp c.2.1 u1 (znew u (200, 0, fun _ => .null)) := fun a' k' x1 x2 x3 => by
            rw [avl_new hγ.2.2.2.2.1 x1]
            exact hF a' k' x1 x2 x3
          have hn1 : ev ν (fk S.2.2.2.2.1 1) = some ((k + 1 : Nat) : Int) := by rw [ev_k 1 hn]; rfl
          obtain ⟨p, p1, p2, p3, μ, p4, p5, p6, p7, -⟩ := alf_ok hg hnp hb h0 (γ_new hg hγ (200, 0, fun _ => .null)) (show dS s0.heap.size b0 L grp lit ν [] [] from trivial) hF2 hn1 (show alf (zn (tz c.1)) 1 R.2.2.2 S.2.2.2.1 [] (fk S.2.2.2.2.1 1) c.2.2 = true from h)
          refine ⟨p, p1, μ, p4, p5, p6, p7, Or.inr ⟨by rw [p2]; decide, ?_⟩⟩
          rcases p3 with p3 | p3
          · cases p3
          · rw [p3]
theorem acka_mem {stp : aS → Option aR} {np : Nat} {po : List (Nat × Nat × Nat × aT)} {cu : List aK} {N : Nat} : ∀ {q : List aK}, acka stp np po cu N q = true → ∀ k ∈ q, achk stp np po cu (some k.2.2.1) N true (k.1, tlv k.2.1, tst k.2.1, tz k.2.1, k.2.2.2, []) = true
  | [], _, k, hk => by cases hk
  | p :: r, h, k, hk => by
    unfold acka at h
    rw [Bool.and_eq_true] at h
    rcases List.mem_cons.mp hk with rfl | hk
    · exact h.1
    · exact acka_mem h.2 k hk
theorem amck_cuts {ct : Nat → List aC} (A : zall2 M Y Bt Hh Rt Rm Ex l s0 D ca sb b0 L xs ty grp lit) (hct : ∀ mj, ∀ c ∈ ct mj, aval M Y Bt Hh Rt Rm Ex l s0 D ca sb b0 L grp lit mj c) {c : aC} {cu : List aK} {N : Nat} {νc : List Int} {u1 : zW} (hnp : νc.length = zn (tz c.1))
    (h : acka (astp M sb ct c.2.1 mi) (zn (tz c.1)) c.2.2 cu N cu = true) : ∀ m, Acc lxx m → aHC M Y Bt Hh Rt Rm Ex l s0 D ca sb b0 L grp lit mi c νc u1 cu (fun m' => m' = m) := by
  intro m hacc
  induction hacc with
  | intro m _ ih =>
    intro k hk μ lc sc u n m' h1 h2 h3 h4 h5 h6 h7 h8
    subst h8
    have HC : aHC M Y Bt Hh Rt Rm Ex l s0 D ca sb b0 L grp lit mi c νc u1 cu (fun m2 => lxx m2 m') := fun k2 hk2 μ2 lc2 sc2 u2 n2 m2 a1 a2 a3 a4 a5 a6 a7 a8 => ih m2 a8 k2 hk2 μ2 lc2 sc2 u2 n2 m2 a1 a2 a3 a4 a5 a6 a7 rfl
    exact achk_ok (ν0 := μ) A hct hnp h1 (mu := some k.2.2.1) (fun ms hms => by cases hms; exact ⟨m', h7, fun _ h => h⟩) (fun h => by cases h) HC N true _ (acka_mem h k hk) μ lc sc u n (aext_r μ) h2 h3 h4 h5 ⟨h6, fun p hp => by cases hp⟩
theorem amck_ok {ct : Nat → List aC} (A : zall2 M Y Bt Hh Rt Rm Ex l s0 D ca sb b0 L xs ty grp lit) (hct : ∀ mj, ∀ c ∈ ct mj, aval M Y Bt Hh Rt Rm Ex l s0 D ca sb b0 L grp lit mj c) {c : aC} {cu : List aK} {N pc0 : Nat} {cl0 : aF} (h : amck M sb ct mi c cu N pc0 cl0 = true) (ν : List Int) (lc : List (Nat × Value)) (u : zW) (n : Nat) (hγ : aγ s0.heap.size b0 L grp lit ν (tz c.1) u) (hL : dL s0.heap.size b0 L grp lit ν (tlv c.1) lc) (hn : ev ν cl0 = some (n : Int)) :
    cG M Y Bt Hh Rt Rm Ex l s0 D ca sb mi pc0 lc [] u n (aPo s0.heap.size b0 L grp lit c ν u) := by
  unfold amck at h
  rw [Bool.and_eq_true] at h
  have HC : aHC M Y Bt Hh Rt Rm Ex l s0 D ca sb b0 L grp lit mi c ν u cu (fun _ => True) := fun k hk μ lc sc u n m a1 a2 a3 a4 a5 a6 a7 _ => amck_cuts A hct hγ.1 h.2 m (lxx_acc _ m rfl) k hk μ lc sc u n m a1 a2 a3 a4 a5 a6 a7 rfl
  exact achk_ok (ν0 := ν) A hct hγ.1 (fun _ _ => rfl) (mu := none) (fun ms h => by cases h) (fun _ _ => trivial) HC N true _ h.1 ν lc [] u n (aext_r ν) hγ hL trivial (aFr_r _ _ _ _) ⟨hn, fun p hp => by cases hp⟩
/-- all methods, the called ones first -/
theorem aval_all {ct : Nat → List aC} {cu : Nat → Nat → List aK} {N : Nat} (A : zall2 M Y Bt Hh Rt Rm Ex l s0 D ca sb b0 L xs ty grp lit) (h : ∀ mi i c, anth (ct mi) i = some c → amck M sb (fun mj => bif Nat.ble (mj + 1) mi then ct mj else []) mi c (cu mi i) N 0 (0, []) = true) : ∀ mi, ∀ c ∈ ct mi, aval M Y Bt Hh Rt Rm Ex l s0 D ca sb b0 L grp lit mi c := by
  intro mi
  induction mi using Nat.strongRecOn with
  | ind mi ih =>
    intro c hc
    have hn : ∃ i, anth (ct mi) i = some c := by
      generalize ct mi = q at hc
      induction q with
      | nil => cases hc
      | cons x r ihq =>
        rcases List.mem_cons.mp hc with rfl | hc
        · exact ⟨0, rfl⟩
        · obtain ⟨i, hi⟩ := ihq hc
          exact ⟨i + 1, hi⟩
    obtain ⟨i, hi⟩ := hn
    intro ν lc u hγ hL
    refine amck_ok A ?_ (h mi i c hi) ν lc u 0 hγ hL (ev_c ν 0)
    intro mj c' hc'
    cases hb : Nat.ble (mj + 1) mi with
    | false => simp only [hb, cond_false] at hc'; cases hc'
    | true =>
      simp only [hb, cond_true] at hc'
      exact ih mj (Nat.le_of_ble_eq_true hb) c' hc'
end GK
