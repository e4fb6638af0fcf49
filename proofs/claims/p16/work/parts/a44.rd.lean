section AL
variable {B b0 L : Nat} {grp : Nat → Nat} {lit : Value → Prop}
theorem dV_long (hl : ∀ v, lit v → ∃ q : Nat, v = .ref q) {ν : List Int} {x : aV} {w : Int64} (h : dV B b0 L grp lit ν x (.long w)) : x.1 = 1 ∧ ev ν x.2.2 = some w.toInt := by
  obtain ⟨k, g, f⟩ := x
  unfold dV at h
  match k, h with
  | 0, ⟨a, _, h2, _⟩ => cases h2
  | 1, ⟨a, h1, h2, h3, h4⟩ =>
    cases h2
    exact ⟨rfl, by rw [toJ ⟨h3, h4⟩]; exact h1⟩
  | 2, ⟨a, s, t, _, h2, _⟩ => cases h2
  | 3, ⟨i, _, h2, _⟩ => cases h2
  | 4, h => obtain ⟨q, hq⟩ := hl _ h; cases hq
  | 5, ⟨q, hq⟩ => cases hq
  | 6, ⟨_, h2⟩ => cases h2
  | k + 7, h => exact h.elim
theorem dV_int {ν : List Int} {x : aV} {w : Int32} (h : dV B b0 L grp lit ν x (.int w)) (hk : x.1 = 0) : ev ν x.2.2 = some w.toInt := by
  obtain ⟨a, h1, h2, h3, h4⟩ := dV_0 h hk
  cases h2
  rw [toI ⟨h3, h4⟩]
  exact h1
theorem cntAt (hg : aok grp) {u : zW} (h : dI B grp u) {j : Nat} (hj : j < 2) : ∃ c : Int32, avl B u oC j = .int c ∧ 0 ≤ c.toInt ∧ c.toInt ≤ 60 := by
  obtain ⟨c, e1, e2, e3⟩ := valAt hg h sgC (k := j) (by rw [show aLN gC = 2 from rfl]; exact hj) spC (by show 0 ≤ j % 1; omega) (by show j % 1 ≤ 0; omega)
  exact ⟨c, e1, e2, e3⟩
theorem acnt_ok (hg : aok grp) {ν : List Int} {z : aZ} {u : zW} (hγ : aγ B b0 L grp lit ν z u) {j : Nat} {f : aF} (h : acnt z j = some f) : ∃ c : Int32, avl B u oC j = .int c ∧ ev ν f = some c.toInt := by
  unfold acnt at h
  cases hl : alk z gC (Int.ofNat oC, []) (Int.ofNat j, []) with
  | none => rw [hl] at h; cases h
  | some v =>
    rw [hl] at h
    obtain ⟨hk, h⟩ := cnd_t h
    cases h
    have hv := alk_at hγ hl (a := oC) (k := j) (ev_c ν _) (ev_c ν _)
    obtain ⟨a, h1, h2, h3, h4⟩ := dV_0 hv (Nat.beq_eq.mp hk)
    exact ⟨_, h2, by rw [toI ⟨h3, h4⟩]; exact h1⟩
/-- a row that is live -/
theorem alive_ok (hg : aok grp) {ν : List Int} {z : aZ} {u : zW} (hγ : aγ B b0 L grp lit ν z u) {k : aF} {x : Int} (hx : ev ν k = some x) (h : alive z k = true) :
    ∃ j r : Nat, j < 2 ∧ r < 60 ∧ x = ((60 * j + r : Nat) : Int) ∧ ∃ c : Int32, avl B u oC j = .int c ∧ (r : Int) < c.toInt := by
  unfold alive at h
  cases h0 : awit z k 0 59 with
  | true =>
    rw [h0] at h
    have hw := awit_at hγ h0 hx
    cases hc : acnt z 0 with
    | none => simp only [hc, cond_true] at h; cases h
    | some c =>
      simp only [hc, cond_true] at h
      obtain ⟨c', e1, e2⟩ := acnt_ok hg hγ hc
      have := prov_ok hγ.2.1 hγ.2.2.1 (ev_k 1 (ev_sub hx e2)) h
      exact ⟨0, x.toNat, by omega, by omega, by omega, c', e1, by omega⟩
  | false =>
    rw [h0] at h
    obtain ⟨h1, h⟩ : awit z k 60 119 = true ∧ (match acnt z 1 with
      | none => false
      | some c => aprv z (fk (fsub (fk k (-60)) c) 1)) = true := by
      cases hq : awit z k 60 119 with
      | true => rw [hq] at h; exact ⟨rfl, h⟩
      | false => rw [hq] at h; cases h
    have hw := awit_at hγ h1 hx
    cases hc : acnt z 1 with
    | none => simp only [hc] at h; cases h
    | some c =>
      simp only [hc] at h
      obtain ⟨c', e1, e2⟩ := acnt_ok hg hγ hc
      have := prov_ok hγ.2.1 hγ.2.2.1 (ev_k 1 (ev_sub (ev_k (-60) hx) e2)) h
      exact ⟨1, (x - 60).toNat, by omega, by omega, by omega, c', e1, by omega⟩
theorem ardA_ok (hg : aok grp) (hl : ∀ v, lit v → ∃ q : Nat, v = .ref q) {ν : List Int} {z : aZ} {u : zW} (hγ : aγ B b0 L grp lit ν z u) {fa fi : aF} {a k : Nat} (hp : apl grp ν gO fa fi a k) (hq : ardAq z fi = true) {l : List (aV × aZ)} (h : ardA z fa fi = some l) : away B b0 L grp lit ν u (avl B u a k) l := by
  have ha := at_o hg sgO hp
  subst ha
  unfold ardAq at hq
  cases hd : adiv 45 (fk fi (-2)) with
  | none => rw [hd] at hq; cases hq
  | some kf =>
    simp only [hd, Bool.and_eq_true, Bool.or_eq_true, Bool.not_eq_true'] at hq
    obtain ⟨y, y1, y2⟩ := adiv_ok hd (ev_k (-2) hp.2.1)
    obtain ⟨j, r, j2, r60, hy, c, c1, c2⟩ := alive_ok hg hγ y1 hq.2
    have hrow : dRow B u (60 * j + r) := by
      obtain ⟨-, -, -, m4, m5, -⟩ := hγ.2.2.2.2.2
      have hj : j = 0 ∨ j = 1 := by omega
      rcases hj with rfl | rfl
      · rcases hq.1 with g | g
        · exact m4 g c c1 r c2 r60
        · have := awit_at hγ g y1
          omega
      · exact m5 c c1 r c2 r60
    obtain ⟨kd, ap, e1, e2, e3⟩ := hrow
    have hk : k = 45 * (60 * j + r) + 2 := by omega
    subst hk
    have hpk : apl grp ν gO (Int.ofNat oO, []) (fk fi (-2)) oO (45 * (60 * j + r)) := ⟨ev_c ν _, by rw [ev_k (-2) hp.2.1]; congr 1; omega, hp.2.2.1, hp.2.2.2.1, by have := hp.2.2.2.2; omega⟩
    unfold ardA at h
    cases hr : ard0 z gO (Int.ofNat oO, []) (fk fi (-2)) with
    | none => rw [hr] at h; cases h
    | some q =>
      rw [hr] at h
      cases h
      obtain ⟨ν', f1, f2, f3⟩ := ard0_ok hg hγ hpk hr
      rw [e1] at f3
      have hkd := (dV_long hl f3).2
      rcases e3 with ⟨k1, k2, k3⟩ | ⟨k1, k2⟩
      · obtain ⟨w, w1, w2⟩ := aass_ok f2 (ev_k (-1) hkd) (by omega)
        obtain ⟨ν'', x1, x2, x3⟩ := afr_ok w2 k2 k3
        have hv : dV B b0 L grp lit ν'' (1, 0, (afr w 10 29).1) (avl B u oO (45 * (60 * j + r) + 2)) := by
          have g1 := Int64.le_toInt ap
          have g2 := Int64.toInt_lt ap
          exact ⟨ap.toInt, x2, by rw [ofJ]; exact e2, by omega, by omega⟩
        refine ⟨((1, 0, (afr w 10 29).1), afact (afr w 10 29).2 (gO, fa, fi, (1, 0, (afr w 10 29).1))), ?_, ν'', aext_t f1 x1, afact_ok x3 (apl_ext (aext_t f1 x1) hp) hv, hv⟩
        rw [w1]
        exact List.mem_append_left _ List.mem_cons_self
      · obtain ⟨w, w1, w2⟩ := aass_ok f2 (ev_k 2 (ev_sc (-1) hkd)) (by omega)
        have hv : dV B b0 L grp lit ν' (1, 0, (-1, [])) (avl B u oO (45 * (60 * j + r) + 2)) := by
          rw [e2, ← ofJ ap, k2]
          exact dV_j ν' (-1) (by decide) (by decide)
        refine ⟨((1, 0, (-1, [])), afact w (gO, fa, fi, (1, 0, (-1, [])))), ?_, ν', f1, afact_ok w2 (apl_ext f1 hp) hv, hv⟩
        rw [w1]
        exact List.mem_append_right _ List.mem_cons_self
theorem ard_ok (hg : aok grp) (hl : ∀ v, lit v → ∃ q : Nat, v = .ref q) {ν : List Int} {z : aZ} {u : zW} (hγ : aγ B b0 L grp lit ν z u) {g : Nat} {fa fi : aF} {a k : Nat} (hp : apl grp ν g fa fi a k) {l : List (aV × aZ)} (h : ard z g fa fi = some l) : away B b0 L grp lit ν u (avl B u a k) l := by
  unfold ard at h
  cases hf : alk z g fa fi with
  | some v =>
    rw [hf] at h
    cases h
    exact ⟨(v, z), List.mem_cons_self, ν, aext_r ν, hγ, alk_at hγ hf hp.1 hp.2.1⟩
  | none =>
    simp only [hf] at h
    rcases cnd_some h with ⟨hc, h⟩ | ⟨-, h⟩
    · have := Nat.beq_eq.mp hc
      subst this
      rcases cnd_some h with ⟨hc, h⟩ | ⟨-, h⟩
      · simp only [Bool.and_eq_true, Bool.not_eq_true'] at hc
        have hk : k = kOpen := by
          have : (k : Int) = Int.ofNat kOpen := feq_ev hc.1 hp.2.1
          have h2 : Int.ofNat kOpen = ((kOpen : Nat) : Int) := rfl
          omega
        subst hk
        exact ardO_ok hg hγ hp (by decide) (bitAt hg hγ.2.2.2.2.1 hp.2.2.2.2 rfl spOpen) (hγ.2.2.2.2.2.1 hc.2) h
      · rcases cnd_some h with ⟨hc, h⟩ | ⟨-, h⟩
        · simp only [Bool.and_eq_true, Bool.not_eq_true'] at hc
          have hk : k = kIn := by
            have : (k : Int) = Int.ofNat kIn := feq_ev hc.1 hp.2.1
            have h2 : Int.ofNat kIn = ((kIn : Nat) : Int) := rfl
            omega
          subst hk
          exact ardO_ok hg hγ hp (by decide) (bitAt hg hγ.2.2.2.2.1 hp.2.2.2.2 rfl spIn) (hγ.2.2.2.2.2.2.1 hc.2) h
        · exact ard1_ok hg hγ hp h
    · rcases cnd_some h with ⟨hc, h⟩ | ⟨-, h⟩
      · have := Nat.beq_eq.mp hc
        subst this
        exact ardS_ok hg hγ hp h
      · rcases cnd_some h with ⟨hc, h9⟩ | ⟨-, h⟩
        · clear h
          rw [Bool.and_eq_true] at hc
          have := Nat.beq_eq.mp hc.1
          subst this
          cases h9
          obtain ⟨c, c1, c2, c3⟩ := ardZ_ok hg hγ hp hc.2
          obtain ⟨ν', f1, f2, f3⟩ := afr_ok hγ c2 c3
          have hv : dV B b0 L grp lit ν' (1, 0, (afr z 0 4).1) (avl B u a k) := by
            have g1 := Int64.le_toInt c
            have g2 := Int64.toInt_lt c
            exact ⟨c.toInt, f2, by rw [ofJ]; exact c1, by omega, by omega⟩
          exact ⟨_, List.mem_cons_self, ν', f1, afact_ok f3 (apl_ext f1 hp) hv, hv⟩
        · rcases cnd_some h with ⟨hc, h9⟩ | ⟨-, h9⟩
          · rw [Bool.and_eq_true] at hc
            have := Nat.beq_eq.mp hc.1
            subst this
            exact ardA_ok hg hl hγ hp hc.2 h9
          · exact ard1_ok hg hγ hp h9
end AL
