/-! INSTRUCTIONS ON THE STACK ALONE -/
theorem cnd_some {α : Type} {c : Bool} {a b : Option α} {z : α} (h : (bif c then a else b) = some z) : (c = true ∧ a = some z) ∨ (c = false ∧ b = some z) := by
  cases c
  · exact Or.inr ⟨rfl, h⟩
  · exact Or.inl ⟨rfl, h⟩
theorem cnd_t {α : Type} {c : Bool} {a : Option α} {z : α} (h : (bif c then a else none) = some z) : c = true ∧ a = some z := by
  rcases cnd_some h with h | h
  · exact h
  · cases h.2
theorem inI_iff {a : Int} : inI a = true ↔ -2147483648 ≤ a ∧ a ≤ 2147483647 := by
  simp only [inI, Bool.and_eq_true, ilt_iff]
  omega
theorem inJ_iff {a : Int} : inJ a = true ↔ -9223372036854775808 ≤ a ∧ a ≤ 9223372036854775807 := by
  simp only [inJ, Bool.and_eq_true, ilt_iff]
  omega
theorem toI {a : Int} (h : -2147483648 ≤ a ∧ a ≤ 2147483647) : (Int32.ofInt a).toInt = a := Int32.toInt_ofInt_of_le (by omega) (by omega)
theorem toJ {a : Int} (h : -9223372036854775808 ≤ a ∧ a ≤ 9223372036854775807) : (Int64.ofInt a).toInt = a := Int64.toInt_ofInt_of_le (by omega) (by omega)
theorem wide {a : Int} (h : -2147483648 ≤ a ∧ a ≤ 2147483647) : (Int32.ofInt a).toInt64 = Int64.ofInt a := by
  apply Int64.toInt_inj.mp
  rw [Int32.toInt_toInt64, toI h, toJ (by omega)]
theorem xb2_some {f : xV → xV → Option xV} {st st' : List xV} (h : xb2 f st = some st') : ∃ y x r z, st = y :: x :: r ∧ f x y = some z ∧ st' = z :: r := by
  match st, h with
  | y :: x :: r, h =>
    simp only [xb2] at h
    cases hf : f x y with
    | none => rw [hf] at h; cases h
    | some z => rw [hf] at h; cases h; exact ⟨y, x, r, z, rfl, hf, rfl⟩
  | [_], h => simp [xb2] at h
  | [], h => simp [xb2] at h
theorem xu1_some {f : xV → Option xV} {st st' : List xV} (h : xu1 f st = some st') : ∃ x r z, st = x :: r ∧ f x = some z ∧ st' = z :: r := by
  match st, h with
  | x :: r, h =>
    simp only [xu1] at h
    cases hf : f x with
    | none => rw [hf] at h; cases h
    | some z => rw [hf] at h; cases h; exact ⟨x, r, z, rfl, hf, rfl⟩
  | [], h => simp [xu1] at h
section XO
variable {B b0 : Nat} {ν : Nat → Int}
theorem xds_c {x : xV} {r : List xV} {vs : List Value} (h : xds B b0 ν (x :: r) vs) : ∃ v us, vs = v :: us ∧ xden B b0 ν x v ∧ xds B b0 ν r us := by
  match vs, h with
  | v :: us, h => exact ⟨v, us, rfl, h.1, h.2⟩
theorem xds_k {x : xV} {r : List xV} {v : Value} {us : List Value} (h : xden B b0 ν x v) (h2 : xds B b0 ν r us) : xds B b0 ν (x :: r) (v :: us) := ⟨h, h2⟩
theorem xds_n {vs : List Value} (h : xds B b0 ν [] vs) : vs = [] := by
  match vs, h with
  | [], _ => rfl
theorem xf_add_ok {x y z : xV} {vx vy : Value} (h : xf_add x y = some z) (hx : xden B b0 ν x vx) (hy : xden B b0 ν y vy) : ∃ a c : Int32, vx = .int a ∧ vy = .int c ∧ xden B b0 ν z (.int (a + c)) := by
  obtain ⟨hc, hz⟩ := cnd_t h
  simp only [Bool.and_eq_true] at hc
  cases hz
  exact ⟨_, _, xden_0 hx hc.1, xden_0 hy hc.2, congrArg Value.int (Int32.ofInt_add _ _).symm⟩
theorem xf_mul_ok {x y z : xV} {vx vy : Value} (h : xf_mul x y = some z) (hx : xden B b0 ν x vx) (hy : xden B b0 ν y vy) : ∃ a c : Int32, vx = .int a ∧ vy = .int c ∧ xden B b0 ν z (.int (a * c)) := by
  obtain ⟨hc, hz⟩ := cnd_t h
  simp only [Bool.and_eq_true] at hc
  cases hz
  exact ⟨_, _, xden_0 hx hc.1, xden_0 hy hc.2, congrArg Value.int (Int32.ofInt_mul _ _).symm⟩
theorem xf_sub_ok (hv : xval ν) {x y z : xV} {vx vy : Value} (h : xf_sub x y = some z) (hx : xden B b0 ν x vx) (hy : xden B b0 ν y vy) : ∃ a c : Int32, vx = .int a ∧ vy = .int c ∧ xden B b0 ν z (.int (a - c)) := by
  rcases cnd_some h with ⟨hc, hz⟩ | ⟨-, h⟩
  · simp only [Bool.and_eq_true] at hc
    cases hz
    exact ⟨_, _, xden_0 hx hc.1, xden_0 hy hc.2, congrArg Value.int (Int32.ofInt_sub _ _).symm⟩
  · obtain ⟨hc, hz⟩ := cnd_t h
    simp only [Bool.and_eq_true, ieq_iff] at hc
    obtain ⟨⟨⟨h1, h2⟩, h3⟩, h4⟩ := hc
    cases hz
    have e1 := (xden_4 hx h1).1
    have e2 := xden_0 hy h3
    rw [h2] at e1
    rw [h4] at e2
    exact ⟨_, _, e1, e2, congrArg Value.int hv.2.2.1.symm, by decide⟩
theorem xf_and_ok (hv : xval ν) {x y z : xV} {vx vy : Value} (h : xf_and x y = some z) (hx : xden B b0 ν x vx) (hy : xden B b0 ν y vy) : ∃ a c : Int32, vx = .int a ∧ vy = .int c ∧ xden B b0 ν z (.int (a &&& c)) := by
  obtain ⟨hc, hz⟩ := cnd_t h
  simp only [Bool.and_eq_true, ieq_iff] at hc
  obtain ⟨⟨⟨h1, h2⟩, h3⟩, h4⟩ := hc
  cases hz
  have e1 := (xden_4 hx h1).1
  have e2 := xden_0 hy h3
  rw [h2] at e1
  rw [h4] at e2
  exact ⟨_, _, e1, e2, congrArg Value.int hv.2.2.2.1.symm, by decide⟩
theorem xf_land_ok {x y z : xV} {vx vy : Value} (h : xf_land x y = some z) (hx : xden B b0 ν x vx) (hy : xden B b0 ν y vy) : ∃ a c : Int64, vx = .long a ∧ vy = .long c ∧ xden B b0 ν z (.long (a &&& c)) := by
  obtain ⟨hc, hz⟩ := cnd_t h
  simp only [Bool.and_eq_true, ieq_iff] at hc
  obtain ⟨⟨h1, h3⟩, h4⟩ := hc
  cases hz
  have e2 := xden_1 hy h3
  rw [h4] at e2
  exact ⟨_, _, (xden_8 hx h1).1, e2, rfl⟩
theorem xf_lor_ok (hv : xval ν) {x y z : xV} {vx vy : Value} (h : xf_lor x y = some z) (hx : xden B b0 ν x vx) (hy : xden B b0 ν y vy) : ∃ a c : Int64, vx = .long a ∧ vy = .long c ∧ xden B b0 ν z (.long (a ||| c)) := by
  obtain ⟨hc, hz⟩ := cnd_t h
  simp only [Bool.and_eq_true, ieq_iff, ilt_iff] at hc
  obtain ⟨⟨⟨⟨h1, h2⟩, h3⟩, h4⟩, h5⟩ := hc
  cases hz
  have e1 := xden_9 hx h1
  have e2 := xden_10 hy h2
  refine ⟨_, _, e1, e2, ?_⟩
  show Value.long _ = Value.long (Int64.ofInt (ν (20 + x.2.1).toNat))
  have e3 : (20 + x.2.1).toNat = 20 + x.2.1.toNat := by omega
  have e4 : y.2.1.toNat = x.2.1.toNat + 1 := by omega
  rw [e3, e4, hv.2.2.2.2 x.2.1.toNat (by omega) (by omega)]
theorem xf_lshl_ok {x y z : xV} {vx vy : Value} (h : xf_lshl x y = some z) (hx : xden B b0 ν x vx) (hy : xden B b0 ν y vy) : ∃ (a : Int64) (c : Int32), vx = .long a ∧ vy = .int c ∧ xden B b0 ν z (.long (a <<< (c.toInt64 &&& 63))) := by
  obtain ⟨hc, hz⟩ := cnd_t h
  simp only [Bool.and_eq_true, ieq_iff] at hc
  obtain ⟨⟨h1, h3⟩, h4⟩ := hc
  cases hz
  have e2 := xden_0 hy h3
  rw [h4] at e2
  exact ⟨_, _, (xden_8 hx h1).1, e2, rfl⟩
theorem xlong (hv : xval ν) {x : xV} {v : Value} (h : xden B b0 ν x v) (hk : (xk 8 x || xk 11 x) = true) : v = .long (Int64.ofInt (ν x.2.1.toNat)) := by
  rw [Bool.or_eq_true] at hk
  rcases hk with h8 | h11
  · have e := xden_8 h h8
    rw [e.1, wide (hv.1 _ e.2)]
  · exact xden_11 h h11
theorem xf_lcmp_ok (hv : xval ν) {x y z : xV} {vx vy : Value} (h : xf_lcmp x y = some z) (hx : xden B b0 ν x vx) (hy : xden B b0 ν y vy) : ∃ a c : Int64, vx = .long a ∧ vy = .long c ∧ xden B b0 ν z (.int (lg_cmp a c)) := by
  rcases cnd_some h with ⟨hc, hz⟩ | ⟨-, h⟩
  · simp only [Bool.and_eq_true, inJ_iff] at hc
    obtain ⟨⟨⟨h1, h2⟩, h3⟩, h4⟩ := hc
    cases hz
    refine ⟨_, _, xden_1 hx h1, xden_1 hy h2, ?_⟩
    show Value.int _ = Value.int (Int32.ofInt _)
    congr 1
    have e1 := toJ h3
    have e2 := toJ h4
    by_cases g1 : y.2.1 < x.2.1
    · have g2 : Int64.ofInt x.2.1 > Int64.ofInt y.2.1 := by
        show Int64.ofInt y.2.1 < Int64.ofInt x.2.1
        rw [Int64.lt_iff_toInt_lt, e1, e2]; exact g1
      rw [show lg_cmp _ _ = 1 from if_pos g2, ilt_iff.mpr g1]; rfl
    · have g2 : ¬ Int64.ofInt x.2.1 > Int64.ofInt y.2.1 := by
        show ¬ Int64.ofInt y.2.1 < Int64.ofInt x.2.1
        rw [Int64.lt_iff_toInt_lt, e1, e2]; exact g1
      have f1 : ilt y.2.1 x.2.1 = false := by
        cases hb : ilt y.2.1 x.2.1 with
        | false => rfl
        | true => exact absurd (ilt_iff.mp hb) g1
      by_cases g3 : x.2.1 = y.2.1
      · rw [show lg_cmp _ _ = 0 from (if_neg g2).trans (if_pos (by rw [g3])), f1, ieq_iff.mpr g3]; rfl
      · have g4 : ¬ Int64.ofInt x.2.1 = Int64.ofInt y.2.1 := fun q => g3 (by rw [← e1, ← e2, q])
        have f2 : ieq x.2.1 y.2.1 = false := by
          cases hb : ieq x.2.1 y.2.1 with
          | false => rfl
          | true => exact absurd (ieq_iff.mp hb) g3
        rw [show lg_cmp _ _ = -1 from (if_neg g2).trans (if_neg g4), f1, f2]; rfl
  · rcases cnd_some h with ⟨hc, hz⟩ | ⟨-, h⟩
    · simp only [Bool.and_eq_true, inJ_iff] at hc
      obtain ⟨⟨h1, h2⟩, h3⟩ := hc
      cases hz
      exact ⟨_, _, xlong hv hx h1, xden_1 hy h2, rfl, h3⟩
    · obtain ⟨hc, hz⟩ := cnd_t h
      simp only [Bool.and_eq_true, inJ_iff] at hc
      obtain ⟨⟨h1, h2⟩, h3⟩ := hc
      cases hz
      exact ⟨_, _, xden_1 hx h1, xlong hv hy h2, rfl, h3⟩
theorem xf_i2l_ok {x z : xV} {vx : Value} (h : xf_i2l x = some z) (hx : xden B b0 ν x vx) : ∃ a : Int32, vx = .int a ∧ xden B b0 ν z (.long a.toInt64) := by
  rcases cnd_some h with ⟨hc, hz⟩ | ⟨-, h⟩
  · simp only [Bool.and_eq_true, inI_iff] at hc
    cases hz
    exact ⟨_, xden_0 hx hc.1, congrArg Value.long (wide hc.2)⟩
  · obtain ⟨hc, hz⟩ := cnd_t h
    cases hz
    have e := xden_4 hx hc
    exact ⟨_, e.1, rfl, e.2⟩
theorem xf_l2i_ok {x z : xV} {vx : Value} (h : xf_l2i x = some z) (hx : xden B b0 ν x vx) : ∃ a : Int64, vx = .long a ∧ xden B b0 ν z (.int a.toInt32) := by
  rcases cnd_some h with ⟨hc, hz⟩ | ⟨-, h⟩
  · cases hz
    exact ⟨_, xden_1 hx hc, congrArg Value.int Int64.toInt32_ofInt⟩
  · obtain ⟨hc, hz⟩ := cnd_t h
    cases hz
    obtain ⟨a, ha⟩ := xden_J hx hc
    exact ⟨a, ha, _, rfl⟩
theorem chr_id {a : Int} (h0 : -1 < a) (h1 : a < 65536) : ((Int32.ofInt a).toUInt32 % 65536).toInt32 = Int32.ofInt a := by
  obtain ⟨n, rfl⟩ := Int.eq_ofNat_of_zero_le (show 0 ≤ a by omega)
  have hn : n < 65536 := by omega
  apply Int32.toBitVec_inj.mp
  apply BitVec.eq_of_toNat_eq
  simp
  omega
theorem xf_i2c_ok {x z : xV} {vx : Value} (h : xf_i2c x = some z) (hx : xden B b0 ν x vx) : ∃ a : Int32, vx = .int a ∧ xden B b0 ν z (.int (a.toUInt32 % 65536).toInt32) := by
  rcases cnd_some h with ⟨hc, hz⟩ | ⟨-, h⟩
  · simp only [Bool.and_eq_true, ilt_iff] at hc
    cases hz
    exact ⟨_, xden_0 hx hc.1.1, congrArg Value.int (chr_id hc.1.2 hc.2)⟩
  · obtain ⟨hc, hz⟩ := cnd_t h
    cases hz
    obtain ⟨a, ha⟩ := xden_I hx hc
    exact ⟨a, ha, _, rfl⟩
end XO
def xlen (i : Instr) : Nat := match i with
  | .bipush _ => 2
  | .sipush _ => 3
  | _ => 1
section XP
variable {cc : ByteArray} {pc B b0 : Nat} {ν : Nat → Int}
/-- the machine goes from a stack to another one -/
def zW1 (cc : ByteArray) (pc : Nat) (vs : List Value) (pc' : Nat) (vs' : List Value) : Prop :=
  ∀ (p : Program) (l : Launch) (e : Env) (R : Room) (s : State) (m : MethodId) (args : Array Value) (below : List Frame) (meth : Method) (c : Code) (H : Heap) (locs : List Loc) (cells slots : Nat) (Q : State → Prop) (ls : Array Slot), p.tables.exec = Jvm.exec → c.code = cc →
    W p l e R s m args below meth c H locs cells slots Q (F0 m pc' ls vs') → W p l e R s m args below meth c H locs cells slots Q (F0 m pc ls vs)
theorem x_op {i : Instr} {f : List xV → Option (List xV)} {st st' : List xV} {vs : List Value} {len : Nat} (hv : xval ν) (hf : xop i = some f) (hst : f st = some st') (hd : xds B b0 ν st vs) (hl : len = xlen i) (hdg : decode cc pc = .ok (i, len)) :
    ∃ vs', xds B b0 ν st' vs' ∧ zW1 cc pc vs (pc + len) vs' := by
  subst hl
  cases i
  case iconst n =>
    cases hf
    obtain ⟨hc, hz⟩ := cnd_t hst
    cases hz
    exact ⟨.int (Int32.ofInt n) :: vs, ⟨rfl, hd⟩, fun _ _ _ _ _ _ _ _ _ _ _ _ _ _ _ _ hexec hb k => lv_iconst hexec hb hdg rfl k⟩
  case bipush n =>
    cases hf
    obtain ⟨hc, hz⟩ := cnd_t hst
    simp only [Bool.and_eq_true, ilt_iff] at hc
    cases hz
    refine ⟨.int (Int32.ofInt n) :: vs, ⟨rfl, hd⟩, fun _ _ _ _ _ _ _ _ _ _ _ _ _ _ _ _ hexec hb k => lv_bipush hexec hb hdg ?_ k⟩
    apply Int32.toInt_inj.mp
    rw [Int8.toInt_toInt32, Int8.toInt_ofInt_of_le (by omega) (by omega), toI (by omega)]
  case sipush n =>
    cases hf
    obtain ⟨hc, hz⟩ := cnd_t hst
    simp only [Bool.and_eq_true, ilt_iff] at hc
    cases hz
    refine ⟨.int (Int32.ofInt n) :: vs, ⟨rfl, hd⟩, fun _ _ _ _ _ _ _ _ _ _ _ _ _ _ _ _ hexec hb k => lv_sipush hexec hb hdg ?_ k⟩
    apply Int32.toInt_inj.mp
    rw [Int16.toInt_toInt32, Int16.toInt_ofInt_of_le (by omega) (by omega), toI (by omega)]
  case lconst n =>
    cases hf
    cases hst
    exact ⟨.long (Int64.ofInt (Int.ofNat n.val)) :: vs, ⟨rfl, hd⟩, fun _ _ _ _ _ _ _ _ _ _ _ _ _ _ _ _ hexec hb k => lv_lconst hexec hb hdg (Int64.toInt_inj.mp (by simp)) k⟩
  case aconst_null =>
    cases hf
    cases hst
    exact ⟨.null :: vs, ⟨rfl, hd⟩, fun _ _ _ _ _ _ _ _ _ _ _ _ _ _ _ _ hexec hb k => lv_null hexec hb hdg k⟩
  case imul =>
    cases hf
    obtain ⟨y, x, r, z, rfl, hz, rfl⟩ := xb2_some hst
    obtain ⟨vy, us, e9, hy, h9x⟩ := xds_c hd
    subst e9
    clear hd
    have hd := h9x
    clear h9x
    obtain ⟨vx, us, e9, hx, h9x⟩ := xds_c hd
    subst e9
    clear hd
    have hd := h9x
    clear h9x
    obtain ⟨a, c1, rfl, rfl, hz⟩ := xf_mul_ok hz hx hy
    exact ⟨_, xds_k hz hd, fun _ _ _ _ _ _ _ _ _ _ _ _ _ _ _ _ hexec hb k => lv_imul hexec hb hdg k⟩
  case iand =>
    cases hf
    obtain ⟨y, x, r, z, rfl, hz, rfl⟩ := xb2_some hst
    obtain ⟨vy, us, e9, hy, h9x⟩ := xds_c hd
    subst e9
    clear hd
    have hd := h9x
    clear h9x
    obtain ⟨vx, us, e9, hx, h9x⟩ := xds_c hd
    subst e9
    clear hd
    have hd := h9x
    clear h9x
    obtain ⟨a, c1, rfl, rfl, hz⟩ := xf_and_ok hv hz hx hy
    exact ⟨_, xds_k hz hd, fun _ _ _ _ _ _ _ _ _ _ _ _ _ _ _ _ hexec hb k => lv_iand hexec hb hdg k⟩
  case land =>
    cases hf
    obtain ⟨y, x, r, z, rfl, hz, rfl⟩ := xb2_some hst
    obtain ⟨vy, us, e9, hy, h9x⟩ := xds_c hd
    subst e9
    clear hd
    have hd := h9x
    clear h9x
    obtain ⟨vx, us, e9, hx, h9x⟩ := xds_c hd
    subst e9
    clear hd
    have hd := h9x
    clear h9x
    obtain ⟨a, c1, rfl, rfl, hz⟩ := xf_land_ok hz hx hy
    exact ⟨_, xds_k hz hd, fun _ _ _ _ _ _ _ _ _ _ _ _ _ _ _ _ hexec hb k => lv_land hexec hb hdg k⟩
  case lor =>
    cases hf
    obtain ⟨y, x, r, z, rfl, hz, rfl⟩ := xb2_some hst
    obtain ⟨vy, us, e9, hy, h9x⟩ := xds_c hd
    subst e9
    clear hd
    have hd := h9x
    clear h9x
    obtain ⟨vx, us, e9, hx, h9x⟩ := xds_c hd
    subst e9
    clear hd
    have hd := h9x
    clear h9x
    obtain ⟨a, c1, rfl, rfl, hz⟩ := xf_lor_ok hv hz hx hy
    exact ⟨_, xds_k hz hd, fun _ _ _ _ _ _ _ _ _ _ _ _ _ _ _ _ hexec hb k => lv_lor hexec hb hdg k⟩
  case lshl =>
    cases hf
    obtain ⟨y, x, r, z, rfl, hz, rfl⟩ := xb2_some hst
    obtain ⟨vy, us, e9, hy, h9x⟩ := xds_c hd
    subst e9
    clear hd
    have hd := h9x
    clear h9x
    obtain ⟨vx, us, e9, hx, h9x⟩ := xds_c hd
    subst e9
    clear hd
    have hd := h9x
    clear h9x
    obtain ⟨a, c1, rfl, rfl, hz⟩ := xf_lshl_ok hz hx hy
    exact ⟨_, xds_k hz hd, fun _ _ _ _ _ _ _ _ _ _ _ _ _ _ _ _ hexec hb k => lv_lshl hexec hb hdg rfl k⟩
  case lcmp =>
    cases hf
    obtain ⟨y, x, r, z, rfl, hz, rfl⟩ := xb2_some hst
    obtain ⟨vy, us, e9, hy, h9x⟩ := xds_c hd
    subst e9
    clear hd
    have hd := h9x
    clear h9x
    obtain ⟨vx, us, e9, hx, h9x⟩ := xds_c hd
    subst e9
    clear hd
    have hd := h9x
    clear h9x
    obtain ⟨a, c1, rfl, rfl, hz⟩ := xf_lcmp_ok hv hz hx hy
    exact ⟨_, xds_k hz hd, fun _ _ _ _ _ _ _ _ _ _ _ _ _ _ _ _ hexec hb k => W.lcmp hexec hb hdg k⟩
  case i2l =>
    cases hf
    obtain ⟨x, r, z, rfl, hz, rfl⟩ := xu1_some hst
    obtain ⟨vx, us, e9, hx, h9x⟩ := xds_c hd
    subst e9
    clear hd
    have hd := h9x
    clear h9x
    obtain ⟨a, rfl, hz⟩ := xf_i2l_ok hz hx
    exact ⟨_, xds_k hz hd, fun _ _ _ _ _ _ _ _ _ _ _ _ _ _ _ _ hexec hb k => lv_i2l hexec hb hdg rfl k⟩
  case l2i =>
    cases hf
    obtain ⟨x, r, z, rfl, hz, rfl⟩ := xu1_some hst
    obtain ⟨vx, us, e9, hx, h9x⟩ := xds_c hd
    subst e9
    clear hd
    have hd := h9x
    clear h9x
    obtain ⟨a, rfl, hz⟩ := xf_l2i_ok hz hx
    exact ⟨_, xds_k hz hd, fun _ _ _ _ _ _ _ _ _ _ _ _ _ _ _ _ hexec hb k => lv_l2i hexec hb hdg rfl k⟩
  case i2c =>
    cases hf
    obtain ⟨x, r, z, rfl, hz, rfl⟩ := xu1_some hst
    obtain ⟨vx, us, e9, hx, h9x⟩ := xds_c hd
    subst e9
    clear hd
    have hd := h9x
    clear h9x
    obtain ⟨a, rfl, hz⟩ := xf_i2c_ok hz hx
    exact ⟨_, xds_k hz hd, fun _ _ _ _ _ _ _ _ _ _ _ _ _ _ _ _ hexec hb k => lv_i2c hexec hb hdg rfl k⟩
  case dup =>
    cases hf
    match st, hst with
    | x :: r, hst =>
      obtain ⟨vx, us, e9, hx, h9x⟩ := xds_c hd
      subst e9
      clear hd
      have hd := h9x
      clear h9x
      rcases cnd_some hst with ⟨-, h⟩ | ⟨hj, h⟩
      · cases h
      · cases h
        have hc := xden_cat hx
        rw [hj] at hc
        exact ⟨vx :: vx :: us, ⟨hx, hx, hd⟩, fun _ _ _ _ _ _ _ _ _ _ _ _ _ _ _ _ hexec hb k => lv_dup hexec hb hdg hc k⟩
    | [], hst => simp [xdup] at hst
  case dup_x1 =>
    cases hf
    match st, hst with
    | x :: y :: r, hst =>
      obtain ⟨vx, us, e9, hx, h9x⟩ := xds_c hd
      subst e9
      clear hd
      have hd := h9x
      clear h9x
      obtain ⟨vy, us, e9, hy, h9x⟩ := xds_c hd
      subst e9
      clear hd
      have hd := h9x
      clear h9x
      rcases cnd_some hst with ⟨-, h⟩ | ⟨hj, h⟩
      · cases h
      · cases h
        rw [Bool.or_eq_false_iff] at hj
        have hc := xden_cat hx
        have hc2 := xden_cat hy
        rw [hj.1] at hc
        rw [hj.2] at hc2
        exact ⟨vx :: vy :: vx :: us, ⟨hx, hy, hx, hd⟩, fun _ _ _ _ _ _ _ _ _ _ _ _ _ _ _ _ hexec hb k => lv_dup_x1 hexec hb hdg hc hc2 k⟩
    | [_], hst => simp [xdupx1] at hst
    | [], hst => simp [xdupx1] at hst
  case dup2 =>
    cases hf
    match st, hst with
    | x :: y :: r, hst =>
      obtain ⟨vx, us, e9, hx, h9x⟩ := xds_c hd
      subst e9
      clear hd
      have hd := h9x
      clear h9x
      obtain ⟨vy, us, e9, hy, h9x⟩ := xds_c hd
      subst e9
      clear hd
      have hd := h9x
      clear h9x
      rcases cnd_some hst with ⟨-, h⟩ | ⟨hj, h⟩
      · cases h
      · cases h
        rw [Bool.or_eq_false_iff] at hj
        have hc := xden_cat hx
        have hc2 := xden_cat hy
        rw [hj.1] at hc
        rw [hj.2] at hc2
        exact ⟨vx :: vy :: vx :: vy :: us, ⟨hx, hy, hx, hy, hd⟩, fun _ _ _ _ _ _ _ _ _ _ _ _ _ _ _ _ hexec hb k => lv_dup2_11 hexec hb hdg hc hc2 k⟩
    | [_], hst => simp [xdup2] at hst
    | [], hst => simp [xdup2] at hst
  case pop =>
    cases hf
    match st, hst with
    | x :: r, hst =>
      obtain ⟨vx, us, e9, hx, h9x⟩ := xds_c hd
      subst e9
      clear hd
      have hd := h9x
      clear h9x
      rcases cnd_some hst with ⟨-, h⟩ | ⟨hj, h⟩
      · cases h
      · cases h
        have hc := xden_cat hx
        rw [hj] at hc
        exact ⟨us, hd, fun _ _ _ _ _ _ _ _ _ _ _ _ _ _ _ _ hexec hb k => lv_pop hexec hb hdg hc k⟩
    | [], hst => simp [xpop] at hst
  all_goals (exact absurd hf (by intro h; cases h))
end XP
