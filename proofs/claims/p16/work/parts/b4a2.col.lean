/-! A LONG CHECK IN PIECES: the states at a place are collected, and checked one by one -/
noncomputable def acoL (g : aS → Option (List (Nat × aS))) (q : List aS) : Option (List (Nat × aS)) := match q with
  | [] => some []
  | S :: r => (match g S with
    | none => none
    | some a => (match acoL g r with
      | none => none
      | some b => some (a ++ b)))
noncomputable def acol (stp : aS → Option aR) (np : Nat) (po : List (Nat × Nat × Nat × aT)) (cu : List aK) (mu : Option (List aF)) (X : Nat) (n : Nat) : Bool → aS → Option (List (Nat × aS)) := Nat.rec (motive := fun _ => Bool → aS → Option (List (Nat × aS))) (fun _ _ => none) (fun n ih fi S => bif !fi && Nat.beq S.1 X then some [(n + 1, S)] else bif !fi && aisc cu S.1 then (bif acus np mu S cu then some [] else none) else (match stp S with
  | none => none
  | some R => bif Nat.beq R.1 0 then acoL (ih false) R.2.1 else bif (bif Nat.beq R.1 1 then alf np 0 0 S.2.2.2.1 S.2.2.1 S.2.2.2.2.1 po else alf np 1 R.2.2.2 S.2.2.2.1 [] (fk S.2.2.2.2.1 1) po) then some [] else none)) n
theorem acoL_ok {g : aS → Option (List (Nat × aS))} {h : aS → Bool} {c : Nat × aS → Bool} (hg : ∀ S l, g S = some l → (∀ q ∈ l, c q = true) → h S = true) : ∀ (q : List aS) (l : List (Nat × aS)), acoL g q = some l → (∀ p ∈ l, c p = true) → aall h q = true
  | [], _, _, _ => rfl
  | S :: r, l, e, hc => by
    replace e : (match g S with
      | none => none
      | some a => (match acoL g r with
        | none => none
        | some b => some (a ++ b))) = some l := e
    show (h S && aall h r) = true
    cases h1 : g S with
    | none => rw [h1] at e; cases e
    | some a =>
      cases h2 : acoL g r with
      | none => rw [h1, h2] at e; cases e
      | some b =>
        rw [h1, h2] at e
        have e2 : a ++ b = l := Option.some.inj e
        subst e2
        rw [Bool.and_eq_true]
        exact ⟨hg S a h1 (fun p hp => hc p (List.mem_append_left _ hp)), acoL_ok hg r b h2 (fun p hp => hc p (List.mem_append_right _ hp))⟩
theorem acol_ok {stp : aS → Option aR} {np : Nat} {po : List (Nat × Nat × Nat × aT)} {cu : List aK} {mu : Option (List aF)} {X : Nat} : ∀ (n : Nat) (fi : Bool) (S : aS) (l : List (Nat × aS)), acol stp np po cu mu X n fi S = some l → (∀ q ∈ l, (fun q : Nat × aS => achk stp np po cu mu q.1 false q.2) q = true) → achk stp np po cu mu n fi S = true
  | 0, _, _, _, e, _ => by cases e
  | n + 1, fi, S, l, e, hc => by
    replace e : (bif !fi && Nat.beq S.1 X then some [(n + 1, S)] else bif !fi && aisc cu S.1 then (bif acus np mu S cu then some [] else none) else (match stp S with
      | none => none
      | some R => bif Nat.beq R.1 0 then acoL (acol stp np po cu mu X n false) R.2.1 else bif (bif Nat.beq R.1 1 then alf np 0 0 S.2.2.2.1 S.2.2.1 S.2.2.2.2.1 po else alf np 1 R.2.2.2 S.2.2.2.1 [] (fk S.2.2.2.2.1 1) po) then some [] else none)) = some l := e
    rcases cnd_some e with ⟨h1, e⟩ | ⟨h1, e⟩
    · have e2 : [((n + 1, S) : Nat × aS)] = l := Option.some.inj e
      subst e2
      cases fi with
      | true => cases h1
      | false => exact hc (n + 1, S) List.mem_cons_self
    · show (bif !fi && aisc cu S.1 then acus np mu S cu else (match stp S with
        | none => false
        | some R => bif Nat.beq R.1 0 then aall (achk stp np po cu mu n false) R.2.1 else bif Nat.beq R.1 1 then alf np 0 0 S.2.2.2.1 S.2.2.1 S.2.2.2.2.1 po else alf np 1 R.2.2.2 S.2.2.2.1 [] (fk S.2.2.2.2.1 1) po)) = true
      rcases cnd_some e with ⟨h2, e⟩ | ⟨h2, e⟩
      · obtain ⟨h3, -⟩ := cnd_t e
        rw [h2]
        exact h3
      · rw [h2]
        show (match stp S with
          | none => false
          | some R => bif Nat.beq R.1 0 then aall (achk stp np po cu mu n false) R.2.1 else bif Nat.beq R.1 1 then alf np 0 0 S.2.2.2.1 S.2.2.1 S.2.2.2.2.1 po else alf np 1 R.2.2.2 S.2.2.2.1 [] (fk S.2.2.2.2.1 1) po) = true
        cases hs : stp S with
        | none => rw [hs] at e; cases e
        | some R =>
          rw [hs] at e
          rcases cnd_some e with ⟨h3, e⟩ | ⟨h3, e⟩
          · show (bif Nat.beq R.1 0 then aall (achk stp np po cu mu n false) R.2.1 else bif Nat.beq R.1 1 then alf np 0 0 S.2.2.2.1 S.2.2.1 S.2.2.2.2.1 po else alf np 1 R.2.2.2 S.2.2.2.1 [] (fk S.2.2.2.2.1 1) po) = true
            rw [h3]
            exact acoL_ok (c := fun q : Nat × aS => achk stp np po cu mu q.1 false q.2) (fun S' l' a b => acol_ok n false S' l' a b) R.2.1 l e hc
          · show (bif Nat.beq R.1 0 then aall (achk stp np po cu mu n false) R.2.1 else bif Nat.beq R.1 1 then alf np 0 0 S.2.2.2.1 S.2.2.1 S.2.2.2.2.1 po else alf np 1 R.2.2.2 S.2.2.2.1 [] (fk S.2.2.2.2.1 1) po) = true
            rw [h3]
            obtain ⟨h4, -⟩ := cnd_t e
            exact h4
noncomputable def aseg (p : Nat × aS → Bool) (l : List (Nat × aS)) (lo n : Nat) : Bool := match n with
  | 0 => true
  | n + 1 => (match anth l lo with
    | some q => p q
    | none => false) && aseg p l (lo + 1) n
theorem aseg_ok {p : Nat × aS → Bool} {l : List (Nat × aS)} : ∀ {n lo j : Nat}, aseg p l lo n = true → lo ≤ j → j < lo + n → (match anth l j with
    | some q => p q
    | none => false) = true
  | 0, lo, j, _, h1, h2 => by omega
  | n + 1, lo, j, h, h1, h2 => by
    replace h : ((match anth l lo with
      | some q => p q
      | none => false) && aseg p l (lo + 1) n) = true := h
    rw [Bool.and_eq_true] at h
    by_cases e : j = lo
    · subst e
      exact h.1
    · exact aseg_ok h.2 (by omega) (by omega)
theorem nth_all {p : Nat × aS → Bool} : ∀ (l : List (Nat × aS)), (∀ j, j < l.length → (match anth l j with
    | some q => p q
    | none => false) = true) → ∀ q ∈ l, p q = true
  | [], _, q, hq => absurd hq List.not_mem_nil
  | x :: r, h, q, hq => by
    rcases List.mem_cons.mp hq with rfl | hq
    · exact h 0 (Nat.succ_pos _)
    · exact nth_all r (fun j hj => h (j + 1) (Nat.succ_lt_succ hj)) q hq
noncomputable def ckk_1 : aK := match anth cK_213_0 1 with
  | some k => k
  | none => (0, cT_213_0.1, [], (0, []))
noncomputable def aco14 : Option (List (Nat × aS)) := acol (astp tM tsb (tcl 213) cT_213_0.2.1 213) (zn (tz cT_213_0.1)) cT_213_0.2.2 cK_213_0 (some ckk_1.2.2.1) 1188 400 true (ckk_1.1, tlv ckk_1.2.1, tst ckk_1.2.1, tz ckk_1.2.1, ckk_1.2.2.2, [])
noncomputable def col14 : List (Nat × aS) := match aco14 with
  | some l => l
  | none => []
theorem col14_s : (match aco14 with
    | some l => Nat.beq (alen l) 68
    | none => false) = true := by decide +kernel
theorem col14_b : aco14 = some col14 ∧ col14.length = 68 := by
  have h := col14_s
  revert h
  unfold col14
  generalize aco14 = o
  intro h
  cases o with
  | none => cases h
  | some l =>
    refine ⟨rfl, ?_⟩
    rw [← alen_eq]
    exact Nat.beq_eq.mp h
theorem col14_e : acol (astp tM tsb (tcl 213) cT_213_0.2.1 213) (zn (tz cT_213_0.1)) cT_213_0.2.2 cK_213_0 (some ckk_1.2.2.1) 1188 400 true (ckk_1.1, tlv ckk_1.2.1, tst ckk_1.2.1, tz ckk_1.2.1, ckk_1.2.2.2, []) = some col14 := col14_b.1
theorem col14_n : col14.length = 68 := col14_b.2
