/-! THE MACHINE comes from a frame to an end that P takes; cells that were made are counted, each with 6 slots -/
section CG
variable (M : xM) (Y : Nat → MethodName) (Bt : Nat → ByteArray) (Hh : Nat → List (Nat × Nat × Nat × Nat)) (Rt : Nat → Option FieldType) (Rm : Nat → Room) (Ex : Nat → String)
variable (l : Launch) (s0 : State) (D : va_G) (ca : Nat → ClassId) (sb : Nat → Nat)
abbrev cP : Type := Option Value ⊕ Nat → zW → Nat → Prop
def cret (mi : Nat) (p : Program) (e : Env) (s : State) (m : MethodId) (args : Array Value) (below : List Frame) (meth : Method) (c : Code) (Q : State → Prop) (v : Option Value) (u : zW) (n : Nat) : Prop :=
  ∀ (H : Heap) (locs : List Loc) (ls : Array Slot) (pc : Nat), zP D ca s0.heap.size u H → va_S (fun q => s0.heap.size ≤ q) s.heap H locs →
    ((∃ z : Int32, v = some (.int z) ∧ decode (Bt mi) pc = .ok (.ireturn, 1) ∧ (Rt mi = some .int ∨ (Rt mi = some .boolean ∧ (z = 0 ∨ z = 1)) ∨ (∃ ty, Rt mi = some ty ∧ narrow ty (.int z) = .int z))) ∨ (∃ z : Int64, v = some (.long z) ∧ decode (Bt mi) pc = .ok (.lreturn, 1) ∧ Rt mi = some .long) ∨ (v = none ∧ decode (Bt mi) pc = .ok (.return_, 1) ∧ Rt mi = none)) →
    W p l e (Rm mi) s m args below meth c H locs n (sb mi + 6 * n) Q (F0 m pc ls v.toList)
def cthr (mi : Nat) (p : Program) (e : Env) (s : State) (m : MethodId) (args : Array Value) (below : List Frame) (meth : Method) (c : Code) (Q : State → Prop) (k : Nat) (u : zW) (n : Nat) : Prop :=
  ∀ (u0 : zW) (H : Heap) (locs : List Loc) (ls : Array Slot) (pc n0 : Nat) (rest : List Value), u = znew u0 (200, 0, fun _ => .null) → n0 + 1 ≤ n → n ≤ (Rm mi).cells → sb mi + 6 * n ≤ (Rm mi).slots → zP D ca s0.heap.size u0 H → va_S (fun q => s0.heap.size ≤ q) s.heap H locs →
    ls.size = M.2.1 mi → zthr s0 (Y mi).cls (Bt mi) pc (Ex k) → 8 ≤ (Rm mi).frames → 128 ≤ (Rm mi).locals → Hh mi = [] → (rest.map fun v => v.category).sum ≤ 8 →
    W p l e (Rm mi) s m args below meth c H locs n0 (sb mi + 6 * n0) Q (F0 m pc ls rest)
def cends (P : cP) (mi : Nat) (p : Program) (e : Env) (s : State) (m : MethodId) (args : Array Value) (below : List Frame) (meth : Method) (c : Code) (Q : State → Prop) : Prop :=
  (∀ v u n, P (.inl v) u n → cret Bt Rt Rm l s0 D ca sb mi p e s m args below meth c Q v u n) ∧ ∀ k u n, P (.inr k) u n → cthr M Y Bt Hh Rm Ex l s0 D ca sb mi p e s m args below meth c Q k u n
def cG (mi pc : Nat) (lv : List (Nat × Value)) (st : List Value) (u : zW) (n : Nat) (P : cP) : Prop :=
  ∀ (p : Program) (e : Env) (s : State) (m : MethodId) (args : Array Value) (below : List Frame) (meth : Method) (c : Code) (Q : State → Prop), zcx M Y Bt Hh Rt s0 mi p s m meth c →
    cends M Y Bt Hh Rt Rm Ex l s0 D ca sb P mi p e s m args below meth c Q → zat9 M Rm l s0 D ca mi p e s m args below meth c Q pc lv st u n (sb mi + 6 * n)
variable {M Y Bt Hh Rt Rm Ex l s0 D ca sb}
theorem cG_w {mi pc pc' n : Nat} {lv : List (Nat × Value)} {st st' : List Value} {u : zW} {P : cP} (h : zW1 (Bt mi) pc st pc' st') (g : cG M Y Bt Hh Rt Rm Ex l s0 D ca sb mi pc' lv st' u n P) : cG M Y Bt Hh Rt Rm Ex l s0 D ca sb mi pc lv st u n P :=
  fun p e s m args below meth c Q C hx H locs ls hP hS hL => h _ _ _ _ _ _ _ _ _ _ _ _ _ _ _ _ C.1 C.2.2.2.2.2.1 (g p e s m args below meth c Q C hx H locs ls hP hS hL)
theorem cG_wid {mi pc n n' : Nat} {lv : List (Nat × Value)} {st : List Value} {u : zW} {P : cP} (hn : n ≤ n') (g : cG M Y Bt Hh Rt Rm Ex l s0 D ca sb mi pc lv st u n' P) : cG M Y Bt Hh Rt Rm Ex l s0 D ca sb mi pc lv st u n P :=
  fun p e s m args below meth c Q C hx H locs ls hP hS hL => W.widen hn (by omega) (g p e s m args below meth c Q C hx H locs ls hP hS hL)
theorem cG_lv {mi pc n : Nat} {lv lv' : List (Nat × Value)} {st : List Value} {u : zW} {P : cP} (hs : ∀ q ∈ lv', q ∈ lv) (g : cG M Y Bt Hh Rt Rm Ex l s0 D ca sb mi pc lv' st u n P) : cG M Y Bt Hh Rt Rm Ex l s0 D ca sb mi pc lv st u n P :=
  fun p e s m args below meth c Q C hx H locs ls hP hS hL => g p e s m args below meth c Q C hx H locs ls hP hS ⟨hL.1, hL.2.1, fun q hq => hL.2.2 q (hs q hq)⟩
theorem cG_P {mi pc n : Nat} {lv : List (Nat × Value)} {st : List Value} {u : zW} {P P' : cP} (hs : ∀ o u n, P o u n → P' o u n) (g : cG M Y Bt Hh Rt Rm Ex l s0 D ca sb mi pc lv st u n P) : cG M Y Bt Hh Rt Rm Ex l s0 D ca sb mi pc lv st u n P' :=
  fun p e s m args below meth c Q C hx => g p e s m args below meth c Q C ⟨fun v u n h => hx.1 v u n (hs _ _ _ h), fun k u n h => hx.2 k u n (hs _ _ _ h)⟩
/-! rows for the stack alone -/
section ZW
variable {cc : ByteArray} {pc : Nat} {r : List Value}
theorem zw_iconst {n : Int} (hd : decode cc pc = .ok (.iconst n, 1)) : zW1 cc pc r (pc + 1) (.int (Int32.ofInt n) :: r) := fun _ _ _ _ _ _ _ _ _ _ _ _ _ _ _ _ hexec hb k => lv_iconst hexec hb hd rfl k
theorem zw_bipush {n : Int} (h1 : -128 ≤ n) (h2 : n ≤ 127) (hd : decode cc pc = .ok (.bipush n, 2)) : zW1 cc pc r (pc + 2) (.int (Int32.ofInt n) :: r) := fun _ _ _ _ _ _ _ _ _ _ _ _ _ _ _ _ hexec hb k => lv_bipush hexec hb hd (by
  apply Int32.toInt_inj.mp
  rw [Int8.toInt_toInt32, Int8.toInt_ofInt_of_le (by omega) (by omega), toI (by omega)]) k
theorem zw_sipush {n : Int} (h1 : -32768 ≤ n) (h2 : n ≤ 32767) (hd : decode cc pc = .ok (.sipush n, 3)) : zW1 cc pc r (pc + 3) (.int (Int32.ofInt n) :: r) := fun _ _ _ _ _ _ _ _ _ _ _ _ _ _ _ _ hexec hb k => lv_sipush hexec hb hd (by
  apply Int32.toInt_inj.mp
  rw [Int16.toInt_toInt32, Int16.toInt_ofInt_of_le (by omega) (by omega), toI (by omega)]) k
theorem zw_lconst {n : Fin 2} (hd : decode cc pc = .ok (.lconst n, 1)) : zW1 cc pc r (pc + 1) (.long (Int64.ofInt (Int.ofNat n.val)) :: r) := fun _ _ _ _ _ _ _ _ _ _ _ _ _ _ _ _ hexec hb k => lv_lconst hexec hb hd (Int64.toInt_inj.mp (by simp)) k
theorem zw_iadd {x y : Int32} (hd : decode cc pc = .ok (.iadd, 1)) : zW1 cc pc (.int y :: .int x :: r) (pc + 1) (.int (x + y) :: r) := fun _ _ _ _ _ _ _ _ _ _ _ _ _ _ _ _ hexec hb k => lv_iadd hexec hb hd k
theorem zw_isub {x y : Int32} (hd : decode cc pc = .ok (.isub, 1)) : zW1 cc pc (.int y :: .int x :: r) (pc + 1) (.int (x - y) :: r) := fun _ _ _ _ _ _ _ _ _ _ _ _ _ _ _ _ hexec hb k => lv_isub hexec hb hd k
theorem zw_imul {x y : Int32} (hd : decode cc pc = .ok (.imul, 1)) : zW1 cc pc (.int y :: .int x :: r) (pc + 1) (.int (x * y) :: r) := fun _ _ _ _ _ _ _ _ _ _ _ _ _ _ _ _ hexec hb k => lv_imul hexec hb hd k
theorem zw_iand {x y : Int32} (hd : decode cc pc = .ok (.iand, 1)) : zW1 cc pc (.int y :: .int x :: r) (pc + 1) (.int (x &&& y) :: r) := fun _ _ _ _ _ _ _ _ _ _ _ _ _ _ _ _ hexec hb k => lv_iand hexec hb hd k
theorem zw_idiv {x y : Int32} (hn : ¬ y = 0) (hd : decode cc pc = .ok (.idiv, 1)) : zW1 cc pc (.int y :: .int x :: r) (pc + 1) (.int (x / y) :: r) := fun _ _ _ _ _ _ _ _ _ _ _ _ _ _ _ _ hexec hb k => lv_idiv hexec hb hd hn k
theorem zw_irem {x y : Int32} (hn : ¬ y = 0) (hd : decode cc pc = .ok (.irem, 1)) : zW1 cc pc (.int y :: .int x :: r) (pc + 1) (.int (x - x / y * y) :: r) := fun _ _ _ _ _ _ _ _ _ _ _ _ _ _ _ _ hexec hb k => lv_irem hexec hb hd hn k
theorem zw_ineg {x : Int32} (hd : decode cc pc = .ok (.ineg, 1)) : zW1 cc pc (.int x :: r) (pc + 1) (.int (-x) :: r) := fun _ _ _ _ _ _ _ _ _ _ _ _ _ _ _ _ hexec hb k => lv_ineg hexec hb hd k
theorem zw_ladd {x y : Int64} (hd : decode cc pc = .ok (.ladd, 1)) : zW1 cc pc (.long y :: .long x :: r) (pc + 1) (.long (x + y) :: r) := fun _ _ _ _ _ _ _ _ _ _ _ _ _ _ _ _ hexec hb k => lv_ladd hexec hb hd k
theorem zw_lsub {x y : Int64} (hd : decode cc pc = .ok (.lsub, 1)) : zW1 cc pc (.long y :: .long x :: r) (pc + 1) (.long (x - y) :: r) := fun _ _ _ _ _ _ _ _ _ _ _ _ _ _ _ _ hexec hb k => lv_lsub hexec hb hd k
theorem zw_lmul {x y : Int64} (hd : decode cc pc = .ok (.lmul, 1)) : zW1 cc pc (.long y :: .long x :: r) (pc + 1) (.long (x * y) :: r) := fun _ _ _ _ _ _ _ _ _ _ _ _ _ _ _ _ hexec hb k => lv_lmul hexec hb hd k
theorem zw_land {x y : Int64} (hd : decode cc pc = .ok (.land, 1)) : zW1 cc pc (.long y :: .long x :: r) (pc + 1) (.long (x &&& y) :: r) := fun _ _ _ _ _ _ _ _ _ _ _ _ _ _ _ _ hexec hb k => lv_land hexec hb hd k
theorem zw_lor {x y : Int64} (hd : decode cc pc = .ok (.lor, 1)) : zW1 cc pc (.long y :: .long x :: r) (pc + 1) (.long (x ||| y) :: r) := fun _ _ _ _ _ _ _ _ _ _ _ _ _ _ _ _ hexec hb k => lv_lor hexec hb hd k
theorem zw_ldiv {x y : Int64} (hn : ¬ y = 0) (hd : decode cc pc = .ok (.ldiv, 1)) : zW1 cc pc (.long y :: .long x :: r) (pc + 1) (.long (x / y) :: r) := fun _ _ _ _ _ _ _ _ _ _ _ _ _ _ _ _ hexec hb k => lv_ldiv hexec hb hd hn k
theorem zw_lrem {x y : Int64} (hn : ¬ y = 0) (hd : decode cc pc = .ok (.lrem, 1)) : zW1 cc pc (.long y :: .long x :: r) (pc + 1) (.long (x - x / y * y) :: r) := fun _ _ _ _ _ _ _ _ _ _ _ _ _ _ _ _ hexec hb k => lv_lrem hexec hb hd hn k
theorem zw_lneg {x : Int64} (hd : decode cc pc = .ok (.lneg, 1)) : zW1 cc pc (.long x :: r) (pc + 1) (.long (-x) :: r) := fun _ _ _ _ _ _ _ _ _ _ _ _ _ _ _ _ hexec hb k => lv_lneg hexec hb hd k
theorem zw_lshl {x : Int64} {y : Int32} (hd : decode cc pc = .ok (.lshl, 1)) : zW1 cc pc (.int y :: .long x :: r) (pc + 1) (.long (x <<< (y.toInt64 &&& 63)) :: r) := fun _ _ _ _ _ _ _ _ _ _ _ _ _ _ _ _ hexec hb k => lv_lshl hexec hb hd rfl k
theorem zw_lshr {x : Int64} {y : Int32} (hd : decode cc pc = .ok (.lshr, 1)) : zW1 cc pc (.int y :: .long x :: r) (pc + 1) (.long (x >>> (y.toInt64 &&& 63)) :: r) := fun _ _ _ _ _ _ _ _ _ _ _ _ _ _ _ _ hexec hb k => lv_lshr hexec hb hd rfl k
theorem zw_lcmp {x y : Int64} (hd : decode cc pc = .ok (.lcmp, 1)) : zW1 cc pc (.long y :: .long x :: r) (pc + 1) (.int (lg_cmp x y) :: r) := fun _ _ _ _ _ _ _ _ _ _ _ _ _ _ _ _ hexec hb k => W.lcmp hexec hb hd k
theorem zw_i2l {x : Int32} (hd : decode cc pc = .ok (.i2l, 1)) : zW1 cc pc (.int x :: r) (pc + 1) (.long x.toInt64 :: r) := fun _ _ _ _ _ _ _ _ _ _ _ _ _ _ _ _ hexec hb k => lv_i2l hexec hb hd rfl k
theorem zw_l2i {x : Int64} (hd : decode cc pc = .ok (.l2i, 1)) : zW1 cc pc (.long x :: r) (pc + 1) (.int x.toInt32 :: r) := fun _ _ _ _ _ _ _ _ _ _ _ _ _ _ _ _ hexec hb k => lv_l2i hexec hb hd rfl k
theorem zw_i2c {x : Int32} (hd : decode cc pc = .ok (.i2c, 1)) : zW1 cc pc (.int x :: r) (pc + 1) (.int (x.toUInt32 % 65536).toInt32 :: r) := fun _ _ _ _ _ _ _ _ _ _ _ _ _ _ _ _ hexec hb k => lv_i2c hexec hb hd rfl k
theorem zw_dup {v : Value} (hv : v.category = 1) (hd : decode cc pc = .ok (.dup, 1)) : zW1 cc pc (v :: r) (pc + 1) (v :: v :: r) := fun _ _ _ _ _ _ _ _ _ _ _ _ _ _ _ _ hexec hb k => lv_dup hexec hb hd hv k
theorem zw_dup2 {v w : Value} (hv : v.category = 1) (hw : w.category = 1) (hd : decode cc pc = .ok (.dup2, 1)) : zW1 cc pc (v :: w :: r) (pc + 1) (v :: w :: v :: w :: r) := fun _ _ _ _ _ _ _ _ _ _ _ _ _ _ _ _ hexec hb k => lv_dup2_11 hexec hb hd hv hw k
theorem zw_dup2J {v : Value} (hv : v.category = 2) (hd : decode cc pc = .ok (.dup2, 1)) : zW1 cc pc (v :: r) (pc + 1) (v :: v :: r) := fun _ _ _ _ _ _ _ _ _ _ _ _ _ _ _ _ hexec hb k => lv_dup2_2 hexec hb hd hv k
theorem zw_pop {v : Value} (hv : v.category = 1) (hd : decode cc pc = .ok (.pop, 1)) : zW1 cc pc (v :: r) (pc + 1) r := fun _ _ _ _ _ _ _ _ _ _ _ _ _ _ _ _ hexec hb k => lv_pop hexec hb hd hv k
theorem zw_goto {off : Int} {t : Nat} (ht : (pc : Int) + off = (t : Int)) (hd : decode cc pc = .ok (.goto off, 3)) : zW1 cc pc r t r := fun _ _ _ _ _ _ _ _ _ _ _ _ _ _ _ _ hexec hb k => lv_goto hexec hb hd ht k
theorem zw_if {o : ClassFile.Cond} {x : Int32} {off : Int} {t : Nat} (ht : (pc : Int) + off = (t : Int)) (hd : decode cc pc = .ok (.ifCond o off, 3)) : (zci o x 0 → zW1 cc pc (.int x :: r) t r) ∧ (¬ zci o x 0 → zW1 cc pc (.int x :: r) (pc + 3) r) :=
  ⟨fun h => fun _ _ _ _ _ _ _ _ _ _ _ _ _ _ _ _ hexec hb k => zif_row hexec hb hd ht (fun _ => k) (fun g => absurd h g), fun h => fun _ _ _ _ _ _ _ _ _ _ _ _ _ _ _ _ hexec hb k => zif_row hexec hb hd ht (fun g => absurd g h) (fun _ => k)⟩
theorem zw_icmp {o : ClassFile.Cond} {x y : Int32} {off : Int} {t : Nat} (ht : (pc : Int) + off = (t : Int)) (hd : decode cc pc = .ok (.if_icmp o off, 3)) : (zci o x y → zW1 cc pc (.int y :: .int x :: r) t r) ∧ (¬ zci o x y → zW1 cc pc (.int y :: .int x :: r) (pc + 3) r) :=
  ⟨fun h => fun _ _ _ _ _ _ _ _ _ _ _ _ _ _ _ _ hexec hb k => zicmp_row hexec hb hd ht (fun _ => k) (fun g => absurd h g), fun h => fun _ _ _ _ _ _ _ _ _ _ _ _ _ _ _ _ hexec hb k => zicmp_row hexec hb hd ht (fun g => absurd g h) (fun _ => k)⟩
theorem zw_tin {dflt lo hi : Int} {offs : Array Int} {len : Nat} {x : Int32} {off : Int} {t : Nat} (h1 : ¬ x.toInt < lo) (h2 : ¬ hi < x.toInt) (ho : offs[(x.toInt - lo).toNat]? = some off) (ht : (pc : Int) + off = (t : Int)) (hd : decode cc pc = .ok (.tableswitch dflt lo hi offs, len)) : zW1 cc pc (.int x :: r) t r :=
  fun _ _ _ _ _ _ _ _ _ _ _ _ _ _ _ _ hexec hb k => lv_tableIn hexec hb hd h1 h2 ho ht k
theorem zw_tout {dflt lo hi : Int} {offs : Array Int} {len : Nat} {x : Int32} {t : Nat} (h : x.toInt < lo ∨ hi < x.toInt) (ht : (pc : Int) + dflt = (t : Int)) (hd : decode cc pc = .ok (.tableswitch dflt lo hi offs, len)) : zW1 cc pc (.int x :: r) t r :=
  fun _ _ _ _ _ _ _ _ _ _ _ _ _ _ _ _ hexec hb k => lv_tableOut hexec hb hd h ht k
theorem zw_look {dflt : Int} {ps : Array (Int × Int)} {len : Nat} {x : Int32} {off : Int} {t : Nat} (hp : (ps.toList.zip (ps.toList.drop 1)).all (fun (a, next) => a.1 < next.1) = true) (ho : Op.lookupswitch.offset ps.toList dflt x.toInt = off) (ht : (pc : Int) + off = (t : Int)) (hd : decode cc pc = .ok (.lookupswitch dflt ps, len)) : zW1 cc pc (.int x :: r) t r :=
  fun _ _ _ _ _ _ _ _ _ _ _ _ _ _ _ _ hexec hb k => lv_lookup hexec hb hd hp ho ht k
end ZW
end CG
