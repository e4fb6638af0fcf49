/-! A RUN OF THE CODE ON SYMBOLS. A value: its kind, a number, a number.
kinds: 0 int (number), 1 long (number), 2 null, 3 a made cell (its place), 4 an int atom, 5 some int, 6 some reference, 7 the script,
8 an int atom as a long, 9 that shifted left by 32, 10 its low 32 bits as a long, 11 a long atom, 12 some long, 13 an atom compared with a number, 14 a number compared with an atom -/
abbrev xV : Type := Nat × Int × Int
abbrev xB : Type := List (Nat × Int × Int)
abbrev xC : Type := Nat × Nat × xV × List (Nat × xV)
noncomputable def ilt : Int → Int → Bool
  | .ofNat a, .ofNat b => Nat.ble (a + 1) b
  | .ofNat _, .negSucc _ => false
  | .negSucc _, .ofNat _ => true
  | .negSucc a, .negSucc b => Nat.ble (b + 1) a
noncomputable def ieq : Int → Int → Bool
  | .ofNat a, .ofNat b => Nat.beq a b
  | .negSucc a, .negSucc b => Nat.beq a b
  | _, _ => false
theorem ilt_iff {a b : Int} : ilt a b = true ↔ a < b := by
  cases a <;> cases b <;> simp [ilt] <;> omega
theorem ieq_iff {a b : Int} : ieq a b = true ↔ a = b := by
  cases a <;> cases b <;> simp [ieq] <;> omega
theorem beq_ne {a b : Nat} (h : ¬ a = b) : Nat.beq a b = false := by
  cases hb : Nat.beq a b with
  | false => rfl
  | true => exact absurd (Nat.beq_eq.mp hb) h
/-! a tree of cells by the bits of a place -/
noncomputable def zT (α : Type) : Nat → Type
  | 0 => Option α
  | n + 1 => Option (zT α n × zT α n)
noncomputable def zemp (α : Type) : (n : Nat) → zT α n
  | 0 => (none : Option α)
  | n + 1 => (none : Option (zT α n × zT α n))
noncomputable def zgetS {α β : Type} (ih : β → Nat → Option α) (t : Option (β × β)) (i : Nat) : Option α := match t with
  | none => none
  | some q => bif Nat.beq (i % 2) 0 then ih q.1 (i / 2) else ih q.2 (i / 2)
noncomputable def zget {α : Type} (n : Nat) : zT α n → Nat → Option α := Nat.rec (motive := fun n => zT α n → Nat → Option α) (fun t _ => t) (fun _ ih t i => zgetS ih t i) n
noncomputable def zputS {α β : Type} (emp : β) (put : β → Nat → α → β) (t : Option (β × β)) (i : Nat) (v : α) : Option (β × β) := match t with
  | none => bif Nat.beq (i % 2) 0 then some (put emp (i / 2) v, emp) else some (emp, put emp (i / 2) v)
  | some q => bif Nat.beq (i % 2) 0 then some (put q.1 (i / 2) v, q.2) else some (q.1, put q.2 (i / 2) v)
noncomputable def zput {α : Type} (n : Nat) : zT α n → Nat → α → zT α n := Nat.rec (motive := fun n => zT α n → Nat → α → zT α n) (fun _ _ v => (some v : Option α)) (fun n ih t i v => zputS (zemp α n) ih t i v) n
theorem zget_none {α : Type} (n i : Nat) : zget (α := α) (n + 1) (none : Option (zT α n × zT α n)) i = none := rfl
theorem zget_some {α : Type} (n i : Nat) (q : zT α n × zT α n) : zget (α := α) (n + 1) (some q : Option (zT α n × zT α n)) i = bif Nat.beq (i % 2) 0 then zget n q.1 (i / 2) else zget n q.2 (i / 2) := rfl
theorem zput_none {α : Type} (n i : Nat) (v : α) : zput (α := α) (n + 1) (none : Option (zT α n × zT α n)) i v = (bif Nat.beq (i % 2) 0 then some (zput n (zemp α n) (i / 2) v, zemp α n) else some (zemp α n, zput n (zemp α n) (i / 2) v) : Option (zT α n × zT α n)) := rfl
theorem zput_some {α : Type} (n i : Nat) (v : α) (q : zT α n × zT α n) : zput (α := α) (n + 1) (some q : Option (zT α n × zT α n)) i v = (bif Nat.beq (i % 2) 0 then some (zput n q.1 (i / 2) v, q.2) else some (q.1, zput n q.2 (i / 2) v) : Option (zT α n × zT α n)) := rfl
theorem zget_emp {α : Type} : ∀ (n i : Nat), zget n (zemp α n) i = none
  | 0, _ => rfl
  | _ + 1, _ => rfl
theorem zget_pair {α : Type} (n j : Nat) (a b : zT α n) : zget (α := α) (n + 1) (some (a, b) : Option (zT α n × zT α n)) j = bif Nat.beq (j % 2) 0 then zget n a (j / 2) else zget n b (j / 2) := rfl
theorem zget_bif {α : Type} (n j : Nat) (c : Bool) (a b : Option (zT α n × zT α n)) : zget (α := α) (n + 1) (bif c then a else b : Option (zT α n × zT α n)) j = bif c then zget (α := α) (n + 1) a j else zget (α := α) (n + 1) b j := by
  cases c <;> rfl
theorem zget_put {α : Type} : ∀ (n : Nat) (t : zT α n) (i j : Nat) (v : α), i < 2 ^ n → j < 2 ^ n → zget n (zput n t i v) j = if j = i then some v else zget n t j
  | 0, t, i, j, v, hi, hj => by
    have h1 : i = 0 := by simpa using hi
    have h2 : j = 0 := by simpa using hj
    subst h1; subst h2
    rw [if_pos rfl]
    rfl
  | n + 1, t, i, j, v, hi, hj => by
    have hi2 : i / 2 < 2 ^ n := by rw [Nat.pow_succ] at hi; omega
    have hj2 : j / 2 < 2 ^ n := by rw [Nat.pow_succ] at hj; omega
    have ih := fun (t : zT α n) => zget_put n t (i / 2) (j / 2) v hi2 hj2
    have ei : i % 2 = 0 ∨ i % 2 = 1 := by omega
    have ej : j % 2 = 0 ∨ j % 2 = 1 := by omega
    have main : ∀ a b : zT α n, (bif Nat.beq (i % 2) 0 then (bif Nat.beq (j % 2) 0 then zget n (zput n a (i / 2) v) (j / 2) else zget n b (j / 2)) else (bif Nat.beq (j % 2) 0 then zget n a (j / 2) else zget n (zput n b (i / 2) v) (j / 2))) = if j = i then some v else (bif Nat.beq (j % 2) 0 then zget n a (j / 2) else zget n b (j / 2)) := by
      intro a b
      rw [ih, ih]
      rcases ei with ei | ei <;> rcases ej with ej | ej
      · have e : (j = i) = (j / 2 = i / 2) := propext ⟨fun h => by rw [h], fun h => by omega⟩
        simp [ei, ej, e, show Nat.beq 1 0 = false from rfl]
      · have e : ¬ j = i := by omega
        simp [ei, ej, e, show Nat.beq 1 0 = false from rfl]
      · have e : ¬ j = i := by omega
        simp [ei, ej, e, show Nat.beq 1 0 = false from rfl]
      · have e : (j = i) = (j / 2 = i / 2) := propext ⟨fun h => by rw [h], fun h => by omega⟩
        simp [ei, ej, e, show Nat.beq 1 0 = false from rfl]
    cases (t : Option (zT α n × zT α n)) with
    | none =>
      have h := main (zemp α n) (zemp α n)
      rw [zget_emp] at h
      rw [zput_none, zget_none, zget_bif, zget_pair, zget_pair, zget_emp]
      rw [show (bif Nat.beq (j % 2) 0 then (none : Option α) else none) = none by cases Nat.beq (j % 2) 0 <;> rfl] at h
      exact h
    | some q =>
      rw [zput_some, zget_some, zget_bif, zget_pair, zget_pair]
      exact main q.1 q.2
/-- a tree out of a list -/
noncomputable def zof {α : Type} (n : Nat) : List (Nat × α) → zT α n
  | [] => zemp α n
  | q :: l => zput n (zof n l) q.1 q.2
theorem zof_mem {α : Type} (n : Nat) : ∀ (l : List (Nat × α)), (∀ q ∈ l, q.1 < 2 ^ n) → ∀ (i : Nat) (v : α), i < 2 ^ n → zget n (zof n l) i = some v → (i, v) ∈ l
  | [], _, i, v, _, h => by rw [zof, zget_emp] at h; cases h
  | q :: l, hl, i, v, hi, h => by
    rw [zof, zget_put n _ _ _ _ (hl q List.mem_cons_self) hi] at h
    by_cases e : i = q.1
    · rw [if_pos e] at h
      cases h
      rw [e]
      exact List.mem_cons_self
    · rw [if_neg e] at h
      exact List.mem_cons_of_mem _ (zof_mem n l (fun q hq => hl q (List.mem_cons_of_mem _ hq)) i v hi h)
/-! rows of numbered values -/
noncomputable def xlook (l : List (Nat × xV)) (i : Nat) : Option xV := match l with
  | [] => none
  | q :: r => bif Nat.beq q.1 i then some q.2 else xlook r i
noncomputable def xget (d : xV) (l : List (Nat × xV)) (i : Nat) : xV := match l with
  | [] => d
  | q :: r => bif Nat.beq q.1 i then q.2 else xget d r i
noncomputable def xset (l : List (Nat × xV)) (i : Nat) (v : xV) : List (Nat × xV) := match l with
  | [] => [(i, v)]
  | q :: r => bif Nat.beq q.1 i then (i, v) :: r else q :: xset r i v
theorem xget_set (d : xV) (v : xV) (i j : Nat) : ∀ l : List (Nat × xV), xget d (xset l i v) j = if j = i then v else xget d l j
  | [] => by
    by_cases h : j = i
    · subst h; simp [xset, xget]
    · have h' : ¬ i = j := fun e => h e.symm
      have hb : Nat.beq i j = false := beq_ne h'
      simp [xset, xget, h, hb]
  | q :: r => by
    have ih := xget_set d v i j r
    by_cases hq : q.1 = i
    · have hb : Nat.beq q.1 i = true := by simpa [Nat.beq_eq] using hq
      by_cases h : j = i
      · subst h; simp [xset, xget, hb]
      · have h1 : Nat.beq i j = false := beq_ne (fun e => h e.symm)
        have h2 : Nat.beq q.1 j = false := by rw [hq]; exact h1
        simp [xset, xget, hb, h1, h2, h]
    · have hb : Nat.beq q.1 i = false := beq_ne hq
      by_cases hj : q.1 = j
      · have h1 : Nat.beq q.1 j = true := by simpa [Nat.beq_eq] using hj
        have h : ¬ j = i := fun e => hq (hj.trans e)
        simp [xset, xget, hb, h1, h]
      · have h1 : Nat.beq q.1 j = false := beq_ne hj
        simp [xset, xget, hb, h1, ih]
/-! kinds -/
noncomputable def xI (x : xV) : Bool := Nat.beq x.1 0 || Nat.beq x.1 4 || Nat.beq x.1 5 || Nat.beq x.1 13 || Nat.beq x.1 14
noncomputable def xJ (x : xV) : Bool := Nat.beq x.1 1 || Nat.beq x.1 8 || Nat.beq x.1 9 || Nat.beq x.1 10 || Nat.beq x.1 11 || Nat.beq x.1 12
noncomputable def xR (x : xV) : Bool := Nat.beq x.1 2 || Nat.beq x.1 3 || Nat.beq x.1 6 || Nat.beq x.1 7
noncomputable def xk (n : Nat) (x : xV) : Bool := Nat.beq x.1 n
/-- an int's and a long's range -/
noncomputable def inI (a : Int) : Bool := ilt a 2147483648 && ilt (-2147483649) a
noncomputable def inJ (a : Int) : Bool := ilt a 9223372036854775808 && ilt (-9223372036854775809) a
/-! arithmetic -/
noncomputable def xf_add (x y : xV) : Option xV := bif xk 0 x && xk 0 y then some (0, x.2.1 + y.2.1, 0) else none
noncomputable def xf_sub (x y : xV) : Option xV := bif xk 0 x && xk 0 y then some (0, x.2.1 - y.2.1, 0)
  else bif xk 4 x && ieq x.2.1 10 && xk 0 y && ieq y.2.1 10 then some (4, 11, 0) else none
noncomputable def xf_mul (x y : xV) : Option xV := bif xk 0 x && xk 0 y then some (0, x.2.1 * y.2.1, 0) else none
noncomputable def xf_and (x y : xV) : Option xV := bif xk 4 x && ieq x.2.1 0 && xk 0 y && ieq y.2.1 15 then some (4, 12, 0) else none
noncomputable def xf_land (x y : xV) : Option xV := bif xk 8 x && xk 1 y && ieq y.2.1 4294967295 then some (10, x.2.1, 0) else none
noncomputable def xf_lor (x y : xV) : Option xV := bif xk 9 x && xk 10 y && ieq (x.2.1 + 1) y.2.1 && ilt 0 x.2.1 && ilt x.2.1 9 then some (11, 20 + x.2.1, 0) else none
noncomputable def xf_lshl (x y : xV) : Option xV := bif xk 8 x && xk 0 y && ieq y.2.1 32 then some (9, x.2.1, 0) else none
noncomputable def xf_lcmp (x y : xV) : Option xV := bif xk 1 x && xk 1 y && inJ x.2.1 && inJ y.2.1 then some (0, bif ilt y.2.1 x.2.1 then 1 else bif ieq x.2.1 y.2.1 then 0 else -1, 0)
  else bif (xk 8 x || xk 11 x) && xk 1 y && inJ y.2.1 then some (13, x.2.1, y.2.1)
  else bif xk 1 x && (xk 8 y || xk 11 y) && inJ x.2.1 then some (14, y.2.1, x.2.1) else none
noncomputable def xf_i2l (x : xV) : Option xV := bif xk 0 x && inI x.2.1 then some (1, x.2.1, 0) else bif xk 4 x then some (8, x.2.1, 0) else none
noncomputable def xf_l2i (x : xV) : Option xV := bif xk 1 x then some (0, x.2.1, 0) else bif xJ x then some (5, 0, 0) else none
noncomputable def xf_i2c (x : xV) : Option xV := bif xk 0 x && ilt (-1) x.2.1 && ilt x.2.1 65536 then some (0, x.2.1, 0) else bif xI x then some (5, 0, 0) else none
noncomputable def xb2 (f : xV → xV → Option xV) (st : List xV) : Option (List xV) := match st with
  | y :: x :: r => (match f x y with
    | some z => some (z :: r)
    | none => none)
  | _ => none
noncomputable def xu1 (f : xV → Option xV) (st : List xV) : Option (List xV) := match st with
  | x :: r => (match f x with
    | some z => some (z :: r)
    | none => none)
  | _ => none
noncomputable def xdup (st : List xV) : Option (List xV) := match st with
  | x :: r => bif xJ x then none else some (x :: x :: r)
  | _ => none
noncomputable def xdupx1 (st : List xV) : Option (List xV) := match st with
  | x :: y :: r => bif xJ x || xJ y then none else some (x :: y :: x :: r)
  | _ => none
noncomputable def xdup2 (st : List xV) : Option (List xV) := match st with
  | x :: y :: r => bif xJ x || xJ y then none else some (x :: y :: x :: y :: r)
  | _ => none
noncomputable def xpop (st : List xV) : Option (List xV) := match st with
  | x :: r => bif xJ x then none else some r
  | _ => none
noncomputable def xbip (lo hi n : Int) (st : List xV) : Option (List xV) := bif ilt lo n && ilt n hi then some ((0, n, 0) :: st) else none
/-- what an instruction does to the stack alone -/
noncomputable def xop (i : Instr) : Option (List xV → Option (List xV)) := match i with
  | .iconst n => some (xbip (-2) 6 n)
  | .bipush n => some (xbip (-129) 128 n)
  | .sipush n => some (xbip (-32769) 32768 n)
  | .lconst n => some (fun st => some ((1, Int.ofNat n.val, 0) :: st))
  | .aconst_null => some (fun st => some ((2, 0, 0) :: st))
  | .imul => some (xb2 xf_mul)
  | .iand => some (xb2 xf_and)
  | .land => some (xb2 xf_land)
  | .lor => some (xb2 xf_lor)
  | .lshl => some (xb2 xf_lshl)
  | .lcmp => some (xb2 xf_lcmp)
  | .i2l => some (xu1 xf_i2l)
  | .l2i => some (xu1 xf_l2i)
  | .i2c => some (xu1 xf_i2c)
  | .dup => some xdup
  | .dup_x1 => some xdupx1
  | .dup2 => some xdup2
  | .pop => some xpop
  | _ => none
/-! bounds of atoms; what a comparison of an atom with a number is within them: 0 false, 1 true, 2 not decided (cut there) -/
noncomputable def xbnd (b : xB) (i : Nat) : Int × Int := match b with
  | [] => bif Nat.ble 20 i then (-9223372036854775808, 9223372036854775807) else (-2147483648, 2147483647)
  | q :: r => bif Nat.beq q.1 i then q.2 else xbnd r i
noncomputable def xdlt (q : Int × Int) (c : Int) : Nat × Int := bif ilt q.2 c then (1, 0) else bif ilt q.1 c then (2, c) else (0, 0)
noncomputable def xdeq (q : Int × Int) (c : Int) : Nat × Int := bif ilt c q.1 || ilt q.2 c then (0, 0) else bif ilt q.1 c then (2, c) else bif ilt c q.2 then (2, c + 1) else (1, 0)
noncomputable def xnot (d : Nat × Int) : Nat × Int := bif Nat.beq d.1 0 then (1, 0) else bif Nat.beq d.1 1 then (0, 0) else d
noncomputable def xdec (o : ClassFile.Cond) (q : Int × Int) (c : Int) : Nat × Int := match o with
  | .eq => xdeq q c
  | .ne => xnot (xdeq q c)
  | .lt => xdlt q c
  | .ge => xnot (xdlt q c)
  | .gt => xnot (xdlt q (c + 1))
  | .le => xdlt q (c + 1)
noncomputable def xflip (o : ClassFile.Cond) : ClassFile.Cond := match o with
  | .eq => .eq
  | .ne => .ne
  | .lt => .gt
  | .ge => .le
  | .gt => .lt
  | .le => .ge
noncomputable def xcon (o : ClassFile.Cond) (a b : Int) : Bool := match o with
  | .eq => ieq a b
  | .ne => !(ieq a b)
  | .lt => ilt a b
  | .ge => !(ilt a b)
  | .gt => ilt b a
  | .le => !(ilt b a)
noncomputable def xd3 (i : Nat) (d : Nat × Int) : Option (Nat × Nat × Int) := some (d.1, i, d.2)
noncomputable def xcnd (o : ClassFile.Cond) (b : xB) (x y : xV) : Option (Nat × Nat × Int) :=
  bif xk 0 x && xk 0 y && inI x.2.1 && inI y.2.1 then some (bif xcon o x.2.1 y.2.1 then 1 else 0, 0, 0)
  else bif xk 4 x && xk 0 y && inI y.2.1 then xd3 x.2.1.toNat (xdec o (xbnd b x.2.1.toNat) y.2.1)
  else bif xk 0 x && xk 4 y && inI x.2.1 then xd3 y.2.1.toNat (xdec (xflip o) (xbnd b y.2.1.toNat) x.2.1)
  else none
noncomputable def xcnd0 (o : ClassFile.Cond) (b : xB) (x : xV) : Option (Nat × Nat × Int) :=
  bif xk 13 x then xd3 x.2.1.toNat (xdec o (xbnd b x.2.1.toNat) x.2.2)
  else bif xk 14 x then xd3 x.2.1.toNat (xdec (xflip o) (xbnd b x.2.1.toNat) x.2.2)
  else xcnd o b x (0, 0, 0)
/-- an index: a number, or where to cut -/
noncomputable def xfor (b : xB) (x : xV) : Option (Bool × Nat × Int) :=
  bif xk 0 x && inI x.2.1 then some (true, 0, x.2.1)
  else bif xk 4 x then (bif ieq (xbnd b x.2.1.toNat).1 (xbnd b x.2.1.toNat).2 then some (true, 0, (xbnd b x.2.1.toNat).1)
    else bif ilt ((xbnd b x.2.1.toNat).2 - (xbnd b x.2.1.toNat).1) 40 then some (false, x.2.1.toNat, (xbnd b x.2.1.toNat).1 + 1) else none)
  else none
noncomputable def xtgt (pc : Nat) (off : Int) : Option Nat := match Int.ofNat pc + off with
  | .ofNat n => some n
  | .negSucc _ => none
/-! the heap -/
abbrev xW : Type := Nat × zT xC 11
noncomputable def xcell (w : xW) (i : Int) : Option xC := match i with
  | .ofNat n => bif Nat.ble (n + 1) w.1 then zget 11 w.2 n else none
  | .negSucc _ => none
noncomputable def xput (w : xW) (i : Int) (c : xC) : xW := (w.1, zput 11 w.2 i.toNat c)
noncomputable def xnew (w : xW) (c : xC) : xW := (w.1 + 1, zput 11 w.2 w.1 c)
noncomputable def xfit (ft : Nat) (v : xV) : Bool :=
  bif Nat.beq ft 0 then xI v else bif Nat.beq ft 1 then xk 0 v && (ieq v.2.1 0 || ieq v.2.1 1) else bif Nat.beq ft 2 then xJ v else bif Nat.beq ft 3 then xR v else false
noncomputable def xgf (ci k N : Nat) (w : xW) (st : List xV) : Option (List xV) := match st with
  | x :: r => bif xk 3 x then (match xcell w x.2.1 with
    | some c => bif Nat.beq c.1 ci && Nat.beq c.2.1 N then some (xget c.2.2.1 c.2.2.2 k :: r) else none
    | none => none) else none
  | [] => none
noncomputable def xpf (ci k N ft : Nat) (w : xW) (st : List xV) : Option (List xV × xW) := match st with
  | v :: x :: r => bif xk 3 x && xfit ft v then (match xcell w x.2.1 with
    | some c => bif Nat.beq c.1 ci && Nat.beq c.2.1 N then some (r, xput w x.2.1 (c.1, c.2.1, c.2.2.1, xset c.2.2.2 k v)) else none
    | none => none) else none
  | _ => none
/-- an element is read: the stack behind it, or where to cut -/
noncomputable def xal (lo hi : Nat) (w : xW) (b : xB) (st : List xV) : Option (List xV ⊕ (Nat × Int)) := match st with
  | y :: x :: r => (match xfor b y with
    | none => none
    | some (false, i, t) => some (.inr (i, t))
    | some (true, _, j) => bif xk 3 x then (match xcell w x.2.1 with
        | some c => bif Nat.ble lo c.1 && Nat.ble c.1 hi && ilt (-1) j && ilt j (Int.ofNat c.2.1) then some (.inl (xget c.2.2.1 c.2.2.2 j.toNat :: r)) else none
        | none => none)
      else bif xk 7 x && Nat.beq lo 64 && ilt (-1) j && ilt j ((xbnd b 11).1 + 10) && ilt j 10 then some (.inl ((4, j, 0) :: r)) else none)
  | _ => none
/-- what lies in an array of a kind behind a store -/
noncomputable def xsv (kd : Nat) (elc : Nat → Nat) (w : xW) (tag : Nat) (v : xV) : Option xV :=
  bif Nat.beq kd 0 then (bif xI v then some v else none)
  else bif Nat.beq kd 1 then (bif xk 0 v && ilt (-1) v.2.1 && ilt v.2.1 65536 then some v else bif xI v then some (5, 0, 0) else none)
  else bif Nat.beq kd 2 then (bif xk 0 v && (ieq v.2.1 0 || ieq v.2.1 1) then some v else bif xI v then some (5, 0, 0) else none)
  else bif Nat.beq kd 3 then (bif xJ v then some v else none)
  else bif xk 3 v then (match xcell w v.2.1 with
    | some c => bif Nat.beq c.1 (elc tag) && Nat.ble (c.1 + 1) 64 then some v else none
    | none => none) else none
noncomputable def xas (kd lo hi : Nat) (elc : Nat → Nat) (w : xW) (b : xB) (st : List xV) : Option ((List xV × xW) ⊕ (Nat × Int)) := match st with
  | v :: y :: x :: r => (match xfor b y with
    | none => none
    | some (false, i, t) => some (.inr (i, t))
    | some (true, _, j) => bif xk 3 x then (match xcell w x.2.1 with
        | some c => bif Nat.ble lo c.1 && Nat.ble c.1 hi && ilt (-1) j && ilt j (Int.ofNat c.2.1) then (match xsv kd elc w c.1 v with
            | some u => some (.inl (r, xput w x.2.1 (c.1, c.2.1, c.2.2.1, xset c.2.2.2 j.toNat u)))
            | none => none) else none
        | none => none)
      else none)
  | _ => none
noncomputable def xln (w : xW) (st : List xV) : Option (List xV) := match st with
  | x :: r => bif xk 7 x then some ((4, 10, 0) :: r) else bif xk 3 x then (match xcell w x.2.1 with
    | some c => bif Nat.ble 64 c.1 && Nat.ble c.1 127 then some ((0, Int.ofNat c.2.1, 0) :: r) else none
    | none => none) else none
  | [] => none
/-! frames: pc, variables, stack, cells and slots that were counted -/
abbrev xF : Type := Nat × List (Nat × xV) × List xV × Nat × Nat
abbrev xE : Type := Nat × Nat × Nat × Nat × Int × List Int
abbrev xL : Type := xB × (Nat × xV) × xW
/-- the tables: code, variables, cells, slots, kind of answer, number of the kind of object; default fields; kinds of elements; handlers -/
abbrev xM : Type := (Nat → zT xE 11) × (Nat → Nat) × (Nat → Nat) × (Nat → Nat) × (Nat → Nat) × (Nat → Nat) × (Nat → Option (Nat × List (Nat × xV))) × (Nat → Nat) × (Nat → Nat → Nat → Option Nat)
abbrev xK : Type := Nat → xF → xW → xB → Option (List xL)
noncomputable def xspl (rec : xK) (mi : Nat) (F : xF) (w : xW) (b : xB) (i : Nat) (t : Int) : Option (List xL) := match rec mi F w ((i, (xbnd b i).1, t - 1) :: b) with
  | none => none
  | some l1 => (match rec mi F w ((i, t, (xbnd b i).2) :: b) with
    | none => none
    | some l2 => some (l1 ++ l2))
noncomputable def xbind (f : xL → Option (List xL)) (l : List xL) : Option (List xL) := match l with
  | [] => some []
  | x :: r => (match f x with
    | none => none
    | some l1 => (match xbind f r with
      | none => none
      | some l2 => some (l1 ++ l2)))
noncomputable def xtake (n : Nat) (st acc : List xV) : Option (List xV × List xV) := match n with
  | 0 => some (acc, st)
  | n + 1 => (match st with
    | x :: r => xtake n r (x :: acc)
    | [] => none)
noncomputable def xargs (i : Nat) (l : List xV) : List (Nat × xV) := match l with
  | [] => []
  | x :: r => (i, x) :: xargs (bif xJ x then i + 2 else i + 1) r
noncomputable def xcat (l : List xV) : Nat := match l with
  | [] => 0
  | x :: r => (bif xJ x then 2 else 1) + xcat r
noncomputable def xst1 (l : List (Nat × xV)) (i : Nat) (v : xV) : List (Nat × xV) := (i, v) :: l.filter (fun q => !(q.1 == i) && !(q.1 + 1 == i && xJ q.2))
noncomputable def xst2 (l : List (Nat × xV)) (i : Nat) (v : xV) : List (Nat × xV) := (i, v) :: l.filter (fun q => !(q.1 == i) && (!(q.1 == i + 1) && !(q.1 + 1 == i && xJ q.2)))
noncomputable def xload (ok : xV → Bool) (j len : Nat) (rec : xK) (mi : Nat) (F : xF) (w : xW) (b : xB) : Option (List xL) := match xlook F.2.1 j with
  | some v => bif ok v then rec mi (F.1 + len, F.2.1, v :: F.2.2.1, F.2.2.2) w b else none
  | none => none
noncomputable def xstor (ok : xV → Bool) (two : Bool) (j len nl : Nat) (rec : xK) (mi : Nat) (F : xF) (w : xW) (b : xB) : Option (List xL) := match F.2.2.1 with
  | v :: r => bif ok v && Nat.ble (j + (bif two then 2 else 1)) nl then rec mi (F.1 + len, bif two then xst2 F.2.1 j v else xst1 F.2.1 j v, r, F.2.2.2) w b else none
  | [] => none
noncomputable def xinc (j : Nat) (n : Int) (nl : Nat) (rec : xK) (mi : Nat) (F : xF) (w : xW) (b : xB) : Option (List xL) := match xlook F.2.1 j with
  | some v => bif xk 0 v && Nat.ble (j + 1) nl then rec mi (F.1 + 3, xst1 F.2.1 j (0, v.2.1 + n, 0), F.2.2.1, F.2.2.2) w b else none
  | none => none
noncomputable def xjmp (off : Int) (d : Nat × Nat × Int) (r : List xV) (rec : xK) (mi : Nat) (F : xF) (w : xW) (b : xB) : Option (List xL) := match xtgt F.1 off with
  | some t => bif Nat.beq d.1 0 then rec mi (F.1 + 3, F.2.1, r, F.2.2.2) w b
    else bif Nat.beq d.1 1 then rec mi (t, F.2.1, r, F.2.2.2) w b
    else xspl rec mi F w b d.2.1 d.2.2
  | none => none
noncomputable def xif (o : ClassFile.Cond) (off : Int) (rec : xK) (mi : Nat) (F : xF) (w : xW) (b : xB) : Option (List xL) := match F.2.2.1 with
  | x :: r => (match xcnd0 o b x with
    | some d => xjmp off d r rec mi F w b
    | none => none)
  | [] => none
noncomputable def xicmp (o : ClassFile.Cond) (off : Int) (rec : xK) (mi : Nat) (F : xF) (w : xW) (b : xB) : Option (List xL) := match F.2.2.1 with
  | y :: x :: r => (match xcnd o b x y with
    | some d => xjmp off d r rec mi F w b
    | none => none)
  | _ => none
noncomputable def xgoto (off : Int) (rec : xK) (mi : Nat) (F : xF) (w : xW) (b : xB) : Option (List xL) := match xtgt F.1 off with
  | some t => rec mi (t, F.2.1, F.2.2.1, F.2.2.2) w b
  | none => none
noncomputable def xsw (dflt lo hi : Int) (offs : List Int) (rec : xK) (mi : Nat) (F : xF) (w : xW) (b : xB) : Option (List xL) := match F.2.2.1 with
  | x :: r => bif xk 4 x && ilt (xbnd b x.2.1.toNat).1 lo && ilt lo ((xbnd b x.2.1.toNat).2 + 1) then xspl rec mi F w b x.2.1.toNat lo
    else bif xk 4 x && ilt ((xbnd b x.2.1.toNat).1) (hi + 1) && ilt hi (xbnd b x.2.1.toNat).2 then xspl rec mi F w b x.2.1.toNat (hi + 1)
    else bif xk 4 x && (ilt (xbnd b x.2.1.toNat).2 lo || ilt hi (xbnd b x.2.1.toNat).1) then (match xtgt F.1 dflt with
      | some t => rec mi (t, F.2.1, r, F.2.2.2) w b
      | none => none)
    else (match xfor b x with
      | some (false, i, t) => xspl rec mi F w b i t
      | some (true, _, j) => bif ilt j lo || ilt hi j then (match xtgt F.1 dflt with
          | some t => rec mi (t, F.2.1, r, F.2.2.2) w b
          | none => none)
        else (match offs[(j - lo).toNat]? with
          | some o => (match xtgt F.1 o with
            | some t => rec mi (t, F.2.1, r, F.2.2.2) w b
            | none => none)
          | none => none)
      | none => none)
  | [] => none
noncomputable def xnewo (M : xM) (ci : Nat) (rec : xK) (mi : Nat) (F : xF) (w : xW) (b : xB) : Option (List xL) := match M.2.2.2.2.2.2.1 ci with
  | some d => bif Nat.ble (F.2.2.2.1 + 1) (M.2.2.1 mi) && Nat.ble (F.2.2.2.2 + d.1) (M.2.2.2.1 mi) && Nat.ble (w.1 + 1) 2048 then
      rec mi (F.1 + 3, F.2.1, (3, Int.ofNat w.1, 0) :: F.2.2.1, F.2.2.2.1 + 1, F.2.2.2.2 + d.1) (xnew w (ci, d.1, (2, 0, 0), d.2)) b else none
  | none => none
noncomputable def xnewa (M : xM) (tag len : Nat) (d : xV) (rec : xK) (mi : Nat) (F : xF) (w : xW) (b : xB) : Option (List xL) := match F.2.2.1 with
  | x :: r => bif xk 0 x && ilt (-1) x.2.1 && ilt x.2.1 65536 && Nat.ble (F.2.2.2.1 + 1) (M.2.2.1 mi) && Nat.ble (F.2.2.2.2 + x.2.1.toNat) (M.2.2.2.1 mi) && Nat.ble (w.1 + 1) 2048 then
      rec mi (F.1 + len, F.2.1, (3, Int.ofNat w.1, 0) :: r, F.2.2.2.1 + 1, F.2.2.2.2 + x.2.1.toNat) (xnew w (tag, x.2.1.toNat, d, [])) b else none
  | [] => none
noncomputable def xret (M : xM) (v : xV) (mi : Nat) : Bool := bif Nat.beq (M.2.2.2.2.1 mi) 1 then xI v else bif Nat.beq (M.2.2.2.2.1 mi) 2 then xk 0 v && (ieq v.2.1 0 || ieq v.2.1 1) else false
noncomputable def xcs (M : xM) (mi : Nat) (F : xF) : Bool := Nat.ble F.2.2.2.1 (M.2.2.1 mi) && Nat.ble F.2.2.2.2 (M.2.2.2.1 mi)
noncomputable def xretI (M : xM) (mi : Nat) (F : xF) (w : xW) (b : xB) : Option (List xL) := match F.2.2.1 with
  | [v] => bif xret M v mi && xcs M mi F then some [(b, (0, v), w)] else none
  | _ => none
noncomputable def xretJ (M : xM) (mi : Nat) (F : xF) (w : xW) (b : xB) : Option (List xL) := match F.2.2.1 with
  | [v] => bif Nat.beq (M.2.2.2.2.1 mi) 3 && xJ v && xcs M mi F then some [(b, (0, v), w)] else none
  | _ => none
noncomputable def xretV (M : xM) (mi : Nat) (F : xF) (w : xW) (b : xB) : Option (List xL) := match F.2.2.1 with
  | [] => bif Nat.beq (M.2.2.2.2.1 mi) 0 && xcs M mi F then some [(b, (1, (0, 0, 0)), w)] else none
  | _ => none
noncomputable def xthr (M : xM) (k : Nat) (mi : Nat) (F : xF) (w : xW) (b : xB) : Option (List xL) :=
  bif Nat.ble (F.2.2.2.1 + 1) (M.2.2.1 mi) && Nat.ble (F.2.2.2.2 + 6) (M.2.2.2.1 mi) && Nat.ble (w.1 + 1) 2048 && Nat.ble (xcat F.2.2.1) 8 then some [(b, (2, (k, 0, 0)), xnew w (200, 0, (2, 0, 0), []))] else none
/-- behind a call -/
noncomputable def xaft (M : xM) (mj : Nat) (r : List xV) (rec : xK) (mi : Nat) (F : xF) (q : xL) : Option (List xL) :=
  bif Nat.beq q.2.1.1 0 then rec mi (F.1 + 3, F.2.1, q.2.1.2 :: r, F.2.2.2.1 + M.2.2.1 mj, F.2.2.2.2 + M.2.2.2.1 mj) q.2.2 q.1
  else bif Nat.beq q.2.1.1 1 then rec mi (F.1 + 3, F.2.1, r, F.2.2.2.1 + M.2.2.1 mj, F.2.2.2.2 + M.2.2.2.1 mj) q.2.2 q.1
  else (match M.2.2.2.2.2.2.2.2 mi F.1 q.2.1.2.1 with
    | some h => rec mi (h, F.2.1, [(6, 0, 0)], F.2.2.2.1 + M.2.2.1 mj, F.2.2.2.2 + M.2.2.2.1 mj) q.2.2 q.1
    | none => none)
noncomputable def xcall (M : xM) (virt : Bool) (mj na : Nat) (rec : xK) (mi : Nat) (F : xF) (w : xW) (b : xB) : Option (List xL) := match xtake na F.2.2.1 [] with
  | some (as, r) => bif Nat.ble (F.2.2.2.1 + M.2.2.1 mj) (M.2.2.1 mi) && Nat.ble (F.2.2.2.2 + M.2.2.2.1 mj) (M.2.2.2.1 mi) && Nat.ble (xcat r) 8 && Nat.ble (xcat as) (M.2.1 mj) &&
        (bif virt then (match as with
          | x :: _ => xk 3 x && (match xcell w x.2.1 with
            | some c => Nat.beq c.1 (M.2.2.2.2.2.1 mj) && Nat.ble (c.1 + 1) 64
            | none => false)
          | [] => false) else true) then
      (match rec mj (0, xargs 0 as, [], 0, 0) w b with
        | some l => xbind (xaft M mj r rec mi F) l
        | none => none)
      else none
  | none => none
/-- Object's constructor; Math.min of two ints -/
noncomputable def xobj (rec : xK) (mi : Nat) (F : xF) (w : xW) (b : xB) : Option (List xL) := match F.2.2.1 with
  | x :: r => bif xk 3 x && Nat.ble (xcat r) 8 then rec mi (F.1 + 3, F.2.1, r, F.2.2.2) w b else none
  | [] => none
noncomputable def xmin (M : xM) (rec : xK) (mi : Nat) (F : xF) (w : xW) (b : xB) : Option (List xL) := match F.2.2.1 with
  | y :: x :: r => bif xk 0 x && xk 0 y && inI x.2.1 && inI y.2.1 && Nat.ble (xcat r) 8 && xcs M mi F then rec mi (F.1 + 3, F.2.1, (0, bif ilt y.2.1 x.2.1 then y.2.1 else x.2.1, 0) :: r, F.2.2.2) w b else none
  | _ => none
noncomputable def xgo (len : Nat) (o : Option (List xV)) (rec : xK) (mi : Nat) (F : xF) (w : xW) (b : xB) : Option (List xL) := match o with
  | some st => rec mi (F.1 + len, F.2.1, st, F.2.2.2) w b
  | none => none
noncomputable def xgo2 (len : Nat) (o : Option (List xV × xW)) (rec : xK) (mi : Nat) (F : xF) (b : xB) : Option (List xL) := match o with
  | some q => rec mi (F.1 + len, F.2.1, q.1, F.2.2.2) q.2 b
  | none => none
noncomputable def xald (lo hi : Nat) (rec : xK) (mi : Nat) (F : xF) (w : xW) (b : xB) : Option (List xL) := match xal lo hi w b F.2.2.1 with
  | some (.inl st) => rec mi (F.1 + 1, F.2.1, st, F.2.2.2) w b
  | some (.inr q) => xspl rec mi F w b q.1 q.2
  | none => none
noncomputable def xast (M : xM) (kd lo hi : Nat) (rec : xK) (mi : Nat) (F : xF) (w : xW) (b : xB) : Option (List xL) := match xas kd lo hi M.2.2.2.2.2.2.2.1 w b F.2.2.1 with
  | some (.inl q) => rec mi (F.1 + 1, F.2.1, q.1, F.2.2.2) q.2 b
  | some (.inr q) => xspl rec mi F w b q.1 q.2
  | none => none
/-- a sum or a difference: of numbers, of an atom within small bounds and a number -/
noncomputable def xar (f : xV → xV → Option xV) (g : Int → Int → Int) (rec : xK) (mi : Nat) (F : xF) (w : xW) (b : xB) : Option (List xL) := match F.2.2.1 with
  | y :: x :: r => (match f x y with
    | some z => rec mi (F.1 + 1, F.2.1, z :: r, F.2.2.2) w b
    | none => (match xfor b x with
      | some (false, i, t) => xspl rec mi F w b i t
      | some (true, _, a) => (match xfor b y with
        | some (false, i, t) => xspl rec mi F w b i t
        | some (true, _, c) => rec mi (F.1 + 1, F.2.1, (0, g a c, 0) :: r, F.2.2.2) w b
        | none => none)
      | none => none))
  | _ => none
noncomputable def xpu (len : Nat) (f : List xV → Option (List xV)) (rec : xK) (mi : Nat) (F : xF) (w : xW) (b : xB) : Option (List xL) := xgo len (f F.2.2.1) rec mi F w b
/-- comparisons by number -/
noncomputable def xco (n : Nat) : ClassFile.Cond := bif Nat.beq n 0 then .eq else bif Nat.beq n 1 then .ne else bif Nat.beq n 2 then .lt else bif Nat.beq n 3 then .ge else bif Nat.beq n 4 then .gt else .le
/-- one instruction, by its number -/
noncomputable def xq_0_1 (M : xM) (e : xE) : xK → Nat → xF → xW → xB → Option (List xL) := bif Nat.ble e.1 0 then (xload xI e.2.1 1) else (xload xI e.2.1 2)
noncomputable def xq_2_3 (M : xM) (e : xE) : xK → Nat → xF → xW → xB → Option (List xL) := bif Nat.ble e.1 2 then (xload xJ e.2.1 1) else (xload xJ e.2.1 2)
noncomputable def xq_0_3 (M : xM) (e : xE) : xK → Nat → xF → xW → xB → Option (List xL) := bif Nat.ble e.1 1 then (xq_0_1 M e) else (xq_2_3 M e)
noncomputable def xq_4_5 (M : xM) (e : xE) : xK → Nat → xF → xW → xB → Option (List xL) := bif Nat.ble e.1 4 then (xload xR e.2.1 1) else (xload xR e.2.1 2)
noncomputable def xq_6_7 (M : xM) (e : xE) : xK → Nat → xF → xW → xB → Option (List xL) := bif Nat.ble e.1 6 then ((fun rec mi => xstor xI false e.2.1 1 (M.2.1 mi) rec mi)) else ((fun rec mi => xstor xI false e.2.1 2 (M.2.1 mi) rec mi))
noncomputable def xq_4_7 (M : xM) (e : xE) : xK → Nat → xF → xW → xB → Option (List xL) := bif Nat.ble e.1 5 then (xq_4_5 M e) else (xq_6_7 M e)
noncomputable def xq_0_7 (M : xM) (e : xE) : xK → Nat → xF → xW → xB → Option (List xL) := bif Nat.ble e.1 3 then (xq_0_3 M e) else (xq_4_7 M e)
noncomputable def xq_8_9 (M : xM) (e : xE) : xK → Nat → xF → xW → xB → Option (List xL) := bif Nat.ble e.1 8 then ((fun rec mi => xstor xJ true e.2.1 1 (M.2.1 mi) rec mi)) else ((fun rec mi => xstor xJ true e.2.1 2 (M.2.1 mi) rec mi))
noncomputable def xq_10_11 (M : xM) (e : xE) : xK → Nat → xF → xW → xB → Option (List xL) := bif Nat.ble e.1 10 then ((fun rec mi => xstor xR false e.2.1 1 (M.2.1 mi) rec mi)) else ((fun rec mi => xstor xR false e.2.1 2 (M.2.1 mi) rec mi))
noncomputable def xq_8_11 (M : xM) (e : xE) : xK → Nat → xF → xW → xB → Option (List xL) := bif Nat.ble e.1 9 then (xq_8_9 M e) else (xq_10_11 M e)
noncomputable def xq_12_13 (M : xM) (e : xE) : xK → Nat → xF → xW → xB → Option (List xL) := bif Nat.ble e.1 12 then ((fun rec mi => xinc e.2.1 e.2.2.2.2.1 (M.2.1 mi) rec mi)) else (xif (xco e.2.1) e.2.2.2.2.1)
noncomputable def xq_14_15 (M : xM) (e : xE) : xK → Nat → xF → xW → xB → Option (List xL) := bif Nat.ble e.1 14 then (xicmp (xco e.2.1) e.2.2.2.2.1) else (xgoto e.2.2.2.2.1)
noncomputable def xq_12_15 (M : xM) (e : xE) : xK → Nat → xF → xW → xB → Option (List xL) := bif Nat.ble e.1 13 then (xq_12_13 M e) else (xq_14_15 M e)
noncomputable def xq_8_15 (M : xM) (e : xE) : xK → Nat → xF → xW → xB → Option (List xL) := bif Nat.ble e.1 11 then (xq_8_11 M e) else (xq_12_15 M e)
noncomputable def xq_0_15 (M : xM) (e : xE) : xK → Nat → xF → xW → xB → Option (List xL) := bif Nat.ble e.1 7 then (xq_0_7 M e) else (xq_8_15 M e)
noncomputable def xq_16_17 (M : xM) (e : xE) : xK → Nat → xF → xW → xB → Option (List xL) := bif Nat.ble e.1 16 then (xsw e.2.2.2.2.1 (e.2.2.2.2.2.getD 0 0) (e.2.2.2.2.2.getD 1 0) (e.2.2.2.2.2.drop 2)) else ((fun rec mi F w b => xgo 3 (xgf e.2.1 e.2.2.1 (e.2.2.2.1 / 16) w F.2.2.1) rec mi F w b))
noncomputable def xq_18_19 (M : xM) (e : xE) : xK → Nat → xF → xW → xB → Option (List xL) := bif Nat.ble e.1 18 then ((fun rec mi F w b => xgo2 3 (xpf e.2.1 e.2.2.1 (e.2.2.2.1 / 16) (e.2.2.2.1 % 16) w F.2.2.1) rec mi F b)) else ((fun rec mi F w b => xgo 2 (some ((0, e.2.2.2.2.1, 0) :: F.2.2.1)) rec mi F w b))
noncomputable def xq_16_19 (M : xM) (e : xE) : xK → Nat → xF → xW → xB → Option (List xL) := bif Nat.ble e.1 17 then (xq_16_17 M e) else (xq_18_19 M e)
noncomputable def xq_20_21 (M : xM) (e : xE) : xK → Nat → xF → xW → xB → Option (List xL) := bif Nat.ble e.1 20 then ((fun rec mi F w b => xgo 3 (some ((1, e.2.2.2.2.1, 0) :: F.2.2.1)) rec mi F w b)) else ((fun rec mi F w b => xgo 1 (xln w F.2.2.1) rec mi F w b))
noncomputable def xq_22_23 (M : xM) (e : xE) : xK → Nat → xF → xW → xB → Option (List xL) := bif Nat.ble e.1 22 then (xald 64 64) else (xald 65 65)
noncomputable def xq_20_23 (M : xM) (e : xE) : xK → Nat → xF → xW → xB → Option (List xL) := bif Nat.ble e.1 21 then (xq_20_21 M e) else (xq_22_23 M e)
noncomputable def xq_16_23 (M : xM) (e : xE) : xK → Nat → xF → xW → xB → Option (List xL) := bif Nat.ble e.1 19 then (xq_16_19 M e) else (xq_20_23 M e)
noncomputable def xq_24_25 (M : xM) (e : xE) : xK → Nat → xF → xW → xB → Option (List xL) := bif Nat.ble e.1 24 then (xald 66 66) else (xald 67 67)
noncomputable def xq_26_27 (M : xM) (e : xE) : xK → Nat → xF → xW → xB → Option (List xL) := bif Nat.ble e.1 26 then (xald 68 100) else (xast M 0 64 64)
noncomputable def xq_24_27 (M : xM) (e : xE) : xK → Nat → xF → xW → xB → Option (List xL) := bif Nat.ble e.1 25 then (xq_24_25 M e) else (xq_26_27 M e)
noncomputable def xq_28_29 (M : xM) (e : xE) : xK → Nat → xF → xW → xB → Option (List xL) := bif Nat.ble e.1 28 then (xast M 1 65 65) else (xast M 2 66 66)
noncomputable def xq_30_31 (M : xM) (e : xE) : xK → Nat → xF → xW → xB → Option (List xL) := bif Nat.ble e.1 30 then (xast M 3 67 67) else (xast M 4 68 100)
noncomputable def xq_28_31 (M : xM) (e : xE) : xK → Nat → xF → xW → xB → Option (List xL) := bif Nat.ble e.1 29 then (xq_28_29 M e) else (xq_30_31 M e)
noncomputable def xq_24_31 (M : xM) (e : xE) : xK → Nat → xF → xW → xB → Option (List xL) := bif Nat.ble e.1 27 then (xq_24_27 M e) else (xq_28_31 M e)
noncomputable def xq_16_31 (M : xM) (e : xE) : xK → Nat → xF → xW → xB → Option (List xL) := bif Nat.ble e.1 23 then (xq_16_23 M e) else (xq_24_31 M e)
noncomputable def xq_0_31 (M : xM) (e : xE) : xK → Nat → xF → xW → xB → Option (List xL) := bif Nat.ble e.1 15 then (xq_0_15 M e) else (xq_16_31 M e)
noncomputable def xq_32_33 (M : xM) (e : xE) : xK → Nat → xF → xW → xB → Option (List xL) := bif Nat.ble e.1 32 then (xnewo M e.2.1) else ((fun _ mi => xthr M e.2.1 mi))
noncomputable def xq_34_35 (M : xM) (e : xE) : xK → Nat → xF → xW → xB → Option (List xL) := bif Nat.ble e.1 34 then (xnewa M e.2.1 2 (bif Nat.beq e.2.1 67 then (1, 0, 0) else (0, 0, 0))) else (xnewa M e.2.1 3 (2, 0, 0))
noncomputable def xq_32_35 (M : xM) (e : xE) : xK → Nat → xF → xW → xB → Option (List xL) := bif Nat.ble e.1 33 then (xq_32_33 M e) else (xq_34_35 M e)
noncomputable def xq_36_37 (M : xM) (e : xE) : xK → Nat → xF → xW → xB → Option (List xL) := bif Nat.ble e.1 36 then (xcall M false e.2.1 e.2.2.1) else (xmin M)
noncomputable def xq_38_39 (M : xM) (e : xE) : xK → Nat → xF → xW → xB → Option (List xL) := bif Nat.ble e.1 38 then (xcall M true e.2.1 e.2.2.1) else (xcall M true e.2.1 e.2.2.1)
noncomputable def xq_36_39 (M : xM) (e : xE) : xK → Nat → xF → xW → xB → Option (List xL) := bif Nat.ble e.1 37 then (xq_36_37 M e) else (xq_38_39 M e)
noncomputable def xq_32_39 (M : xM) (e : xE) : xK → Nat → xF → xW → xB → Option (List xL) := bif Nat.ble e.1 35 then (xq_32_35 M e) else (xq_36_39 M e)
noncomputable def xq_40_41 (M : xM) (e : xE) : xK → Nat → xF → xW → xB → Option (List xL) := bif Nat.ble e.1 40 then (xobj) else ((fun _ mi => xretI M mi))
noncomputable def xq_42_43 (M : xM) (e : xE) : xK → Nat → xF → xW → xB → Option (List xL) := bif Nat.ble e.1 42 then ((fun _ mi => xretJ M mi)) else ((fun _ mi => xretV M mi))
noncomputable def xq_40_43 (M : xM) (e : xE) : xK → Nat → xF → xW → xB → Option (List xL) := bif Nat.ble e.1 41 then (xq_40_41 M e) else (xq_42_43 M e)
noncomputable def xq_44_45 (M : xM) (e : xE) : xK → Nat → xF → xW → xB → Option (List xL) := bif Nat.ble e.1 44 then (xar xf_add (fun a c => a + c)) else (xar xf_sub (fun a c => a - c))
noncomputable def xq_46_47 (M : xM) (e : xE) : xK → Nat → xF → xW → xB → Option (List xL) := bif Nat.ble e.1 46 then (xpu 1 (xbip (-2) 6 e.2.2.2.2.1)) else (xpu 2 (xbip (-129) 128 e.2.2.2.2.1))
noncomputable def xq_44_47 (M : xM) (e : xE) : xK → Nat → xF → xW → xB → Option (List xL) := bif Nat.ble e.1 45 then (xq_44_45 M e) else (xq_46_47 M e)
noncomputable def xq_40_47 (M : xM) (e : xE) : xK → Nat → xF → xW → xB → Option (List xL) := bif Nat.ble e.1 43 then (xq_40_43 M e) else (xq_44_47 M e)
noncomputable def xq_32_47 (M : xM) (e : xE) : xK → Nat → xF → xW → xB → Option (List xL) := bif Nat.ble e.1 39 then (xq_32_39 M e) else (xq_40_47 M e)
noncomputable def xq_48_49 (M : xM) (e : xE) : xK → Nat → xF → xW → xB → Option (List xL) := bif Nat.ble e.1 48 then (xpu 3 (xbip (-32769) 32768 e.2.2.2.2.1)) else (xpu 1 (fun st => some ((1, Int.ofNat (e.2.1 % 2), 0) :: st)))
noncomputable def xq_50_51 (M : xM) (e : xE) : xK → Nat → xF → xW → xB → Option (List xL) := bif Nat.ble e.1 50 then (xpu 1 (fun st => some ((2, 0, 0) :: st))) else (xpu 1 (xb2 xf_mul))
noncomputable def xq_48_51 (M : xM) (e : xE) : xK → Nat → xF → xW → xB → Option (List xL) := bif Nat.ble e.1 49 then (xq_48_49 M e) else (xq_50_51 M e)
noncomputable def xq_52_53 (M : xM) (e : xE) : xK → Nat → xF → xW → xB → Option (List xL) := bif Nat.ble e.1 52 then (xpu 1 (xb2 xf_and)) else (xpu 1 (xb2 xf_land))
noncomputable def xq_54_55 (M : xM) (e : xE) : xK → Nat → xF → xW → xB → Option (List xL) := bif Nat.ble e.1 54 then (xpu 1 (xb2 xf_lor)) else (xpu 1 (xb2 xf_lshl))
noncomputable def xq_52_55 (M : xM) (e : xE) : xK → Nat → xF → xW → xB → Option (List xL) := bif Nat.ble e.1 53 then (xq_52_53 M e) else (xq_54_55 M e)
noncomputable def xq_48_55 (M : xM) (e : xE) : xK → Nat → xF → xW → xB → Option (List xL) := bif Nat.ble e.1 51 then (xq_48_51 M e) else (xq_52_55 M e)
noncomputable def xq_56_57 (M : xM) (e : xE) : xK → Nat → xF → xW → xB → Option (List xL) := bif Nat.ble e.1 56 then (xpu 1 (xb2 xf_lcmp)) else (xpu 1 (xu1 xf_i2l))
noncomputable def xq_58_59 (M : xM) (e : xE) : xK → Nat → xF → xW → xB → Option (List xL) := bif Nat.ble e.1 58 then (xpu 1 (xu1 xf_l2i)) else (xpu 1 (xu1 xf_i2c))
noncomputable def xq_56_59 (M : xM) (e : xE) : xK → Nat → xF → xW → xB → Option (List xL) := bif Nat.ble e.1 57 then (xq_56_57 M e) else (xq_58_59 M e)
noncomputable def xq_60_61 (M : xM) (e : xE) : xK → Nat → xF → xW → xB → Option (List xL) := bif Nat.ble e.1 60 then (xpu 1 xdup) else (xpu 1 xdupx1)
noncomputable def xq_62_63 (M : xM) (e : xE) : xK → Nat → xF → xW → xB → Option (List xL) := bif Nat.ble e.1 62 then (xpu 1 xdup2) else (xpu 1 xpop)
noncomputable def xq_60_63 (M : xM) (e : xE) : xK → Nat → xF → xW → xB → Option (List xL) := bif Nat.ble e.1 61 then (xq_60_61 M e) else (xq_62_63 M e)
noncomputable def xq_56_63 (M : xM) (e : xE) : xK → Nat → xF → xW → xB → Option (List xL) := bif Nat.ble e.1 59 then (xq_56_59 M e) else (xq_60_63 M e)
noncomputable def xq_48_63 (M : xM) (e : xE) : xK → Nat → xF → xW → xB → Option (List xL) := bif Nat.ble e.1 55 then (xq_48_55 M e) else (xq_56_63 M e)
noncomputable def xq_32_63 (M : xM) (e : xE) : xK → Nat → xF → xW → xB → Option (List xL) := bif Nat.ble e.1 47 then (xq_32_47 M e) else (xq_48_63 M e)
noncomputable def xdis (M : xM) (e : xE) : xK → Nat → xF → xW → xB → Option (List xL) := bif Nat.ble e.1 31 then (xq_0_31 M e) else (xq_32_63 M e)
noncomputable def xstep (M : xM) (rec : xK) : xK := fun mi F w b => bif Nat.ble (F.1 + 1) 2048 then (match zget 11 (M.1 mi) F.1 with
  | none => none
  | some e => xdis M e rec mi F w b) else none
noncomputable def xrun (M : xM) (n : Nat) : xK := Nat.rec (fun _ _ _ _ => none) (fun _ r => xstep M r) n
