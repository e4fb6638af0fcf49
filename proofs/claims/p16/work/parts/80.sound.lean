/-! A RUN OF SYMBOLS IS A RUN OF THE MACHINE -/
def zscr (L : Nat) (xs : Nat → Int32) (ν : Nat → Int) : Prop := (∀ j, j < L → j < 10 → Int32.ofInt (ν j) = xs j) ∧ ν 10 = (L : Int) ∧ ν 11 = (L : Int) - 10
def zln (i : Instr) (n : Nat) : Prop := match i with
  | .iload_n _ | .lload_n _ | .aload_n _ | .istore_n _ | .lstore_n _ | .astore_n _ => n = 1
  | .iload _ | .lload _ | .aload _ | .istore _ | .lstore _ | .astore _ => n = 2
  | .iinc _ _ | .ifCond _ _ | .if_icmp _ _ | .goto _ | .getfield _ | .putfield _ | .ldc2_w _ | .new _ | .anewarray _ | .invokestatic _ | .invokevirtual _ | .invokespecial _ => n = 3
  | .ldc _ | .newarray _ => n = 2
  | .tableswitch _ _ _ _ => True
  | i => n = xlen i
def zft (ft : Nat) (t : FieldType) : Prop := (ft = 0 ∧ t = .int) ∨ (ft = 1 ∧ t = .boolean) ∨ (ft = 2 ∧ t = .long) ∨ (ft = 3 ∧ ((∃ C, t = .object C) ∨ ∃ u, t = .array u))
theorem xfit_ok {B b0 : Nat} {ν : Nat → Int} {ft : Nat} {x : xV} {v : Value} {t : FieldType} (h : xfit ft x = true) (hd : xden B b0 ν x v) (ht : zft ft t) : narrow t v = v ∧ fits t v = true := by
  rcases ht with ⟨rfl, rfl⟩ | ⟨rfl, rfl⟩ | ⟨rfl, rfl⟩ | ⟨rfl, ht⟩
  · obtain ⟨z, rfl⟩ := xden_I hd h
    exact ⟨rfl, rfl⟩
  · have h' : (xk 0 x && (ieq x.2.1 0 || ieq x.2.1 1)) = true := h
    simp only [Bool.and_eq_true, Bool.or_eq_true, ieq_iff] at h'
    have e := xden_0 hd h'.1
    rcases h'.2 with e0 | e0 <;> rw [e0] at e <;> subst e <;> exact ⟨by decide, by decide⟩
  · obtain ⟨z, rfl⟩ := xden_J hd h
    exact ⟨rfl, rfl⟩
  · have h' : xR x = true := h
    rcases ht with ⟨C, rfl⟩ | ⟨u, rfl⟩ <;> rcases xden_R hd h' with rfl | ⟨q, rfl⟩ <;> exact ⟨rfl, rfl⟩
theorem xspl_ok {ν : Nat → Int} (hv : xval ν) {b : xB} (hb : xin ν b) (i : Nat) (t : Int) : xin ν ((i, (xbnd b i).1, t - 1) :: b) ∨ xin ν ((i, t, (xbnd b i).2) :: b) := by
  have h := xbnd_ok hv hb i
  by_cases ht : ν i < t
  · refine Or.inl fun q hq => ?_
    rcases List.mem_cons.mp hq with rfl | hq
    · exact ⟨h.1, by show ν i ≤ t - 1; omega⟩
    · exact hb q hq
  · refine Or.inr fun q hq => ?_
    rcases List.mem_cons.mp hq with rfl | hq
    · exact ⟨by show t ≤ ν i; omega, h.2⟩
    · exact hb q hq
/-- what a decided comparison says -/
def zcc (o : ClassFile.Cond) (a b : Int) : Prop := match o with
  | .eq => a = b
  | .ne => ¬ a = b
  | .lt => a < b
  | .ge => b ≤ a
  | .gt => b < a
  | .le => a ≤ b
theorem zcc_flip {o : ClassFile.Cond} {a b : Int} : zcc (xflip o) a b ↔ zcc o b a := by
  cases o <;> simp only [zcc, xflip] <;> first | exact Iff.rfl | exact eq_comm | exact not_congr eq_comm
theorem xdlt_ok {q : Int × Int} {c z : Int} (h : q.1 ≤ z ∧ z ≤ q.2) : ((xdlt q c).1 = 1 → z < c) ∧ ((xdlt q c).1 = 0 → ¬ z < c) := by
  unfold xdlt
  cases h1 : ilt q.2 c
  · cases h2 : ilt q.1 c
    · have : ¬ q.1 < c := fun g => by rw [ilt_iff.mpr g] at h2; cases h2
      exact ⟨fun g => by simp at g, fun _ => by omega⟩
    · exact ⟨fun g => by simp at g, fun g => by simp at g⟩
  · have : q.2 < c := ilt_iff.mp h1
    exact ⟨fun _ => by omega, fun g => by simp at g⟩
theorem xdeq_ok {q : Int × Int} {c z : Int} (h : q.1 ≤ z ∧ z ≤ q.2) : ((xdeq q c).1 = 1 → z = c) ∧ ((xdeq q c).1 = 0 → ¬ z = c) := by
  unfold xdeq
  cases h1 : (ilt c q.1 || ilt q.2 c)
  · rw [Bool.or_eq_false_iff] at h1
    cases h2 : ilt q.1 c
    · cases h3 : ilt c q.2
      · have n1 : ¬ q.1 < c := fun g => by rw [ilt_iff.mpr g] at h2; cases h2
        have n2 : ¬ c < q.2 := fun g => by rw [ilt_iff.mpr g] at h3; cases h3
        exact ⟨fun _ => by omega, fun g => by simp at g⟩
      · exact ⟨fun g => by simp at g, fun g => by simp at g⟩
    · exact ⟨fun g => by simp at g, fun g => by simp at g⟩
  · rw [Bool.or_eq_true, ilt_iff, ilt_iff] at h1
    exact ⟨fun g => by simp at g, fun _ => by omega⟩
theorem xnot_1 {d : Nat × Int} : ((xnot d).1 = 1 → d.1 = 0) ∧ ((xnot d).1 = 0 → d.1 = 1) := by
  unfold xnot
  cases h0 : Nat.beq d.1 0
  · cases h1 : Nat.beq d.1 1
    · have n0 : ¬ d.1 = 0 := fun g => by rw [Nat.beq_eq.mpr g] at h0; cases h0
      have n1 : ¬ d.1 = 1 := fun g => by rw [Nat.beq_eq.mpr g] at h1; cases h1
      exact ⟨fun g => absurd g n1, fun g => absurd g n0⟩
    · exact ⟨fun g => by simp at g, fun _ => Nat.beq_eq.mp h1⟩
  · exact ⟨fun _ => Nat.beq_eq.mp h0, fun g => by simp at g⟩
theorem xdec_ok {o : ClassFile.Cond} {q : Int × Int} {c z : Int} (h : q.1 ≤ z ∧ z ≤ q.2) : ((xdec o q c).1 = 1 → zcc o z c) ∧ ((xdec o q c).1 = 0 → ¬ zcc o z c) := by
  have a := xdeq_ok (c := c) h
  have b := xdlt_ok (c := c) h
  have d := xdlt_ok (c := c + 1) h
  cases o <;> simp only [xdec, zcc]
  · exact a
  · exact ⟨fun g => a.2 (xnot_1.1 g), fun g n => n (a.1 (xnot_1.2 g))⟩
  · exact b
  · exact ⟨fun g => by have := b.2 (xnot_1.1 g); omega, fun g => by have := b.1 (xnot_1.2 g); omega⟩
  · exact ⟨fun g => by have := d.2 (xnot_1.1 g); omega, fun g => by have := d.1 (xnot_1.2 g); omega⟩
  · exact ⟨fun g => by have := d.1 g; omega, fun g => by have := d.2 g; omega⟩
theorem xcon_ok {o : ClassFile.Cond} {a b : Int} : xcon o a b = true ↔ zcc o a b := by
  cases o <;> simp only [xcon, zcc, Bool.not_eq_true', ilt_iff, ieq_iff]
  · rw [← Bool.not_eq_true, ieq_iff]
  · rw [← Bool.not_eq_true, ilt_iff]; omega
  · rw [← Bool.not_eq_true, ilt_iff]; omega
/-- two ints compared -/
def zci (o : ClassFile.Cond) (x y : Int32) : Prop := match o with
  | .eq => x = y
  | .ne => ¬ x = y
  | .lt => x < y
  | .ge => y ≤ x
  | .gt => y < x
  | .le => x ≤ y
theorem zci_iff {o : ClassFile.Cond} {x y : Int32} : zci o x y ↔ zcc o x.toInt y.toInt := by
  cases o <;> simp only [zci, zcc, Int32.lt_iff_toInt_lt, Int32.le_iff_toInt_le, Int32.toInt_inj]
theorem lgc_iff {o : ClassFile.Cond} {x y : Int64} : zci o (lg_cmp x y) 0 ↔ zcc o x.toInt y.toInt := by
  have h1 : x > y ↔ y.toInt < x.toInt := Int64.lt_iff_toInt_lt
  have h2 : x = y ↔ x.toInt = y.toInt := Int64.toInt_inj.symm
  by_cases g1 : x > y
  · have e : lg_cmp x y = 1 := if_pos g1
    have := h1.mp g1
    rw [e]
    cases o <;> simp only [zci, zcc] <;> first | (constructor <;> intro _ <;> first | omega | decide | (exfalso; revert ‹_›; decide)) | skip
  · by_cases g2 : x = y
    · have e : lg_cmp x y = 0 := (if_neg g1).trans (if_pos g2)
      have := h2.mp g2
      rw [e]
      cases o <;> simp only [zci, zcc] <;> first | (constructor <;> intro _ <;> first | omega | decide | (exfalso; revert ‹_›; decide)) | skip
    · have e : lg_cmp x y = -1 := (if_neg g1).trans (if_neg g2)
      have n1 : ¬ y.toInt < x.toInt := fun g => g1 (h1.mpr g)
      have n2 : ¬ x.toInt = y.toInt := fun g => g2 (h2.mpr g)
      rw [e]
      cases o <;> simp only [zci, zcc] <;> first | (constructor <;> intro _ <;> first | omega | decide | (exfalso; revert ‹_›; decide)) | skip
section XC
variable {B b0 : Nat} {ν : Nat → Int}
theorem xcnd_ok (hv : xval ν) {b : xB} (hb : xin ν b) {o : ClassFile.Cond} {x y : xV} {vx vy : Value} {d : Nat × Nat × Int} (h : xcnd o b x y = some d) (hx : xden B b0 ν x vx) (hy : xden B b0 ν y vy) :
    ∃ a c : Int32, vx = .int a ∧ vy = .int c ∧ (d.1 = 1 → zci o a c) ∧ (d.1 = 0 → ¬ zci o a c) := by
  rcases cnd_some h with ⟨hc, hz⟩ | ⟨-, h⟩
  · simp only [Bool.and_eq_true, inI_iff] at hc
    obtain ⟨⟨⟨h1, h2⟩, h3⟩, h4⟩ := hc
    cases hz
    refine ⟨_, _, xden_0 hx h1, xden_0 hy h2, ?_⟩
    rw [zci_iff, toI h3, toI h4, ← xcon_ok]
    cases xcon o x.2.1 y.2.1
    · exact ⟨fun g => by simp at g, fun _ g => by cases g⟩
    · exact ⟨fun _ => rfl, fun g => by simp at g⟩
  · rcases cnd_some h with ⟨hc, hz⟩ | ⟨-, h⟩
    · simp only [Bool.and_eq_true, inI_iff] at hc
      obtain ⟨⟨h1, h2⟩, h4⟩ := hc
      cases hz
      obtain ⟨e1, e2⟩ := xden_4 hx h1
      refine ⟨_, _, e1, xden_0 hy h2, ?_⟩
      rw [zci_iff, toI (hv.1 _ e2), toI h4]
      exact xdec_ok (xbnd_ok hv hb _)
    · obtain ⟨hc, hz⟩ := cnd_t h
      simp only [Bool.and_eq_true, inI_iff] at hc
      obtain ⟨⟨h1, h2⟩, h4⟩ := hc
      cases hz
      obtain ⟨e1, e2⟩ := xden_4 hy h2
      refine ⟨_, _, xden_0 hx h1, e1, ?_⟩
      rw [zci_iff, toI (hv.1 _ e2), toI h4, ← zcc_flip]
      exact xdec_ok (xbnd_ok hv hb _)
theorem xcnd0_ok (hv : xval ν) {b : xB} (hb : xin ν b) {o : ClassFile.Cond} {x : xV} {vx : Value} {d : Nat × Nat × Int} (h : xcnd0 o b x = some d) (hx : xden B b0 ν x vx) (hr : ∀ i, -9223372036854775808 ≤ ν i ∧ ν i ≤ 9223372036854775807) :
    ∃ a : Int32, vx = .int a ∧ (d.1 = 1 → zci o a 0) ∧ (d.1 = 0 → ¬ zci o a 0) := by
  rcases cnd_some h with ⟨hc, hz⟩ | ⟨-, h⟩
  · cases hz
    obtain ⟨e1, e2⟩ := xden_13 hx hc
    refine ⟨_, e1, ?_⟩
    rw [lgc_iff, toJ (hr _), toJ e2]
    exact xdec_ok (xbnd_ok hv hb _)
  · rcases cnd_some h with ⟨hc, hz⟩ | ⟨-, h⟩
    · cases hz
      obtain ⟨e1, e2⟩ := xden_14 hx hc
      refine ⟨_, e1, ?_⟩
      rw [lgc_iff, toJ (hr _), toJ e2, ← zcc_flip]
      exact xdec_ok (xbnd_ok hv hb _)
    · obtain ⟨a, c, e1, e2, h1, h2⟩ := xcnd_ok hv hb h hx (show xden B b0 ν (0, 0, 0) (.int 0) from rfl)
      cases e2
      exact ⟨a, e1, h1, h2⟩
theorem xval_r (hv : xval ν) (i : Nat) : -9223372036854775808 ≤ ν i ∧ ν i ≤ 9223372036854775807 := by
  by_cases h : i < 20
  · have := hv.1 i h; omega
  · exact hv.2.1 i (by omega)
theorem xfor_ok (hv : xval ν) {b : xB} (hb : xin ν b) {x : xV} {vx : Value} {i : Nat} {j : Int} (h : xfor b x = some (true, i, j)) (hx : xden B b0 ν x vx) : vx = .int (Int32.ofInt j) ∧ -2147483648 ≤ j ∧ j ≤ 2147483647 := by
  rcases cnd_some h with ⟨hc, hz⟩ | ⟨-, h⟩
  · simp only [Bool.and_eq_true, inI_iff] at hc
    cases hz
    exact ⟨xden_0 hx hc.1, hc.2⟩
  · obtain ⟨hc, h⟩ := cnd_t h
    rcases cnd_some h with ⟨he, hz⟩ | ⟨-, h⟩
    · cases hz
      obtain ⟨e1, e2⟩ := xden_4 hx hc
      have hb' := xbnd_ok hv hb x.2.1.toNat
      rw [ieq_iff] at he
      have e3 : ν x.2.1.toNat = (xbnd b x.2.1.toNat).1 := by omega
      have := hv.1 _ e2
      rw [e3] at e1 this
      exact ⟨e1, this⟩
    · obtain ⟨-, hz⟩ := cnd_t h
      cases hz
theorem xtgt_ok {pc t : Nat} {off : Int} (h : xtgt pc off = some t) : (pc : Int) + off = (t : Int) := by
  unfold xtgt at h
  cases he : Int.ofNat pc + off with
  | ofNat n => rw [he] at h; cases h; first | exact rfl | exact he
  | negSucc n => rw [he] at h; cases h
end XC
