/-! THE WORLD: every cell from B on; rows of the heap over it -/
def zat (D : va_G) (ca : Nat → ClassId) (a : Nat) (d : zC) (H : Heap) : Prop :=
  if d.1 < 64 then t_OB a (D.1 d.1) d.2.1 (D.2 d.1) H d.2.2 else if d.1 < 128 then H[a]? = some (arrV (ca d.1) d.2.1 d.2.2) else ∃ cell : Cell, H[a]? = some cell ∧ cell.vm = .none
def zP (D : va_G) (ca : Nat → ClassId) (B : Nat) (w : zW) (H : Heap) : Prop := H.size = w.1 ∧ B ≤ w.1 ∧ ∀ a, B ≤ a → a < w.1 → zat D ca a (w.2 a) H
theorem zat_kept {D : va_G} {ca : Nat → ClassId} {a : Nat} {d : zC} {H H1 : Heap} (h : zat D ca a d H) (hq : H1[a]? = H[a]?) : zat D ca a d H1 := by
  unfold zat at h ⊢
  split
  · rename_i h1
    rw [if_pos h1] at h
    exact h.kept hq
  · rename_i h1
    rw [if_neg h1] at h
    split
    · rename_i h2
      rw [if_pos h2] at h
      rw [hq]; exact h
    · rename_i h2
      rw [if_neg h2] at h
      rw [hq]; exact h
theorem zat_vm {D : va_G} {ca : Nat → ClassId} {a : Nat} {d : zC} {H : Heap} (h : zat D ca a d H) {cell : Cell} (hc : H[a]? = some cell) : cell.vm = .none := by
  unfold zat at h
  split at h
  · obtain ⟨c1, q1, -, q3, -⟩ := h
    cases q1.symm.trans hc
    exact q3
  · split at h
    · cases h.symm.trans hc
      rfl
    · obtain ⟨c1, q1, q3⟩ := h
      cases q1.symm.trans hc
      exact q3
theorem zP_set {D : va_G} {ca : Nat → ClassId} {B a k : Nat} {v : Value} {w : zW} {H H1 : Heap} (h : zP D ca B w H) (hz : H1.size = H.size) (ho : ∀ q, q ≠ a → H1[q]? = H[q]?)
    (ha : zat D ca a ((w.2 a).1, (w.2 a).2.1, updV (w.2 a).2.2 k v) H1) : zP D ca B (zset w a k v) H1 := by
  refine ⟨hz.trans h.1, h.2.1, fun q h1 h2 => ?_⟩
  show zat D ca q (if q = a then _ else _) H1
  by_cases e : q = a
  · rw [if_pos e, e]; exact ha
  · rw [if_neg e]
    exact zat_kept (h.2.2 q h1 h2) (ho q e)
theorem zP_new {D : va_G} {ca : Nat → ClassId} {B : Nat} {d : zC} {w : zW} {H H1 : Heap} (h : zP D ca B w H) (hz : H1.size = w.1 + 1) (ho : ∀ q, q < w.1 → H1[q]? = H[q]?) (ha : zat D ca w.1 d H1) : zP D ca B (znew w d) H1 := by
  refine ⟨hz, Nat.le_succ_of_le h.2.1, fun q h1 h2 => ?_⟩
  have h2' : q < w.1 + 1 := h2
  show zat D ca q (if q = w.1 then _ else _) H1
  by_cases e : q = w.1
  · rw [if_pos e, e]; exact ha
  · rw [if_neg e]
    exact zat_kept (h.2.2 q h1 (by omega)) (ho q (by omega))
theorem zat_o {D : va_G} {ca : Nat → ClassId} {a : Nat} {d : zC} {H : Heap} (h : zat D ca a d H) (ht : d.1 < 64) : t_OB a (D.1 d.1) d.2.1 (D.2 d.1) H d.2.2 := by
  unfold zat at h
  rw [if_pos ht] at h
  exact h
theorem zat_a {D : va_G} {ca : Nat → ClassId} {a : Nat} {d : zC} {H : Heap} (h : zat D ca a d H) (h1 : 64 ≤ d.1) (h2 : d.1 < 128) : H[a]? = some (arrV (ca d.1) d.2.1 d.2.2) := by
  unfold zat at h
  rw [if_neg (by omega), if_pos h2] at h
  exact h
theorem zat_oi {D : va_G} {ca : Nat → ClassId} {a t n : Nat} {f : Nat → Value} {H : Heap} (ht : t < 64) (h : t_OB a (D.1 t) n (D.2 t) H f) : zat D ca a (t, n, f) H := by
  unfold zat
  rw [if_pos ht]
  exact h
theorem zat_ai {D : va_G} {ca : Nat → ClassId} {a t n : Nat} {f : Nat → Value} {H : Heap} (h1 : 64 ≤ t) (h2 : t < 128) (h : H[a]? = some (arrV (ca t) n f)) : zat D ca a (t, n, f) H := by
  unfold zat
  rw [if_neg (by show ¬ t < 64; omega), if_pos h2]
  exact h
/-- how a field is spelled in the code that reads or writes it -/
def zlk (own : String) (ix : Nat) (C n d : String) (args : Array Value) (s : State) : Prop := (Cond.fieldLink own ix C n d).before args s = true ∨ ∃ h : String, (Cond.fieldLinkNest own ix C n d h).before args s = true
section ZR
variable {p : Program} {l : Launch} {e : Env} {R : Room} {s : State} {m : MethodId} {args : Array Value} {below : List Frame} {meth : Method} {c : Code} {H : Heap} {locs : List Loc} {cells slots : Nat} {Q : State → Prop}
variable {cc : ByteArray} {pc : Nat} {ls : Array Slot} {rest : List Value} {D : va_G} {ca : Nat → ClassId} {B a : Nat} {w : zW}
theorem z_get (hexec : p.tables.exec = Jvm.exec) (hb : c.code = cc) {own C : String} {T : u_T} {N ci ix k : Nat} {Ts : List Cond} (hts : ∀ w ∈ Ts, w.before args s = true) (hin : ∀ w ∈ u_ws C T N, w ∈ Ts) (hown : s.vm.findClass own = some m.cls)
    (hK : u_Kn s C T N (D.1 ci) (D.2 ci)) (hO : t_OB a (D.1 ci) N (D.2 ci) H (w.2 a).2.2) (hk : k < N) (hlink : zlk own ix C (T k).2.1 (T k).2.2.1 args s) (hC : (T k).1 = C) (hdg : decode cc pc = .ok (.getfield ix, 3))
    (kk : W p l e R s m args below meth c H locs cells slots Q (F0 m (pc + 3) ls ((w.2 a).2.2 k :: rest))) : W p l e R s m args below meth c H locs cells slots Q (F0 m pc ls (.ref a :: rest)) := by
  obtain ⟨cell, q1, q2, q3, q4⟩ := hO
  obtain ⟨hS, hfc, kC, hkC, hkind⟩ := hK
  obtain ⟨cf, kf, fi, f, hi, hsl⟩ := hS k hk
  have hst := (u_facts hfc hkC (u_lays hts hin hk) hi).1
  rw [hC] at hi
  have hsv : cell.slots[f.slot]? = some ((w.2 a).2.2 k) := by rw [hsl]; exact q4 k hk
  rcases hlink with h | ⟨host, h⟩
  · exact W.getf hexec hb hown h hi hst q1 (by rw [q3]; exact fun h => by cases h) hsv rfl rfl hdg kk
  · exact va_Wgetf hexec hb hown h hi hst q1 (by rw [q3]; exact fun h => by cases h) hsv rfl rfl hdg kk
theorem z_apart {C : String} {T : u_T} {N ci : Nat} {Ts : List Cond} (hts : ∀ w ∈ Ts, w.before args s = true) (hin : ∀ w ∈ u_ws C T N, w ∈ Ts) (ty : Nat → FieldType) (hty : ∀ k, k < N → parseFieldDescriptor (T k).2.2.1 = some (ty k)) (hnm : ∀ a, a < N → ∀ b, b < N → a ≠ b → (T a).2.1 ≠ (T b).2.1)
    (hK : u_Kn s C T N (D.1 ci) (D.2 ci)) : ∀ x y, x < N → y < N → x ≠ y → (D.2 ci) x ≠ (D.2 ci) y := by
  intro x y hx hy hne
  obtain ⟨hS, -⟩ := hK
  obtain ⟨_, _, _, fa, hia, ea⟩ := hS x hx
  obtain ⟨_, _, _, fb, hib, eb⟩ := hS y hy
  rw [← ea, ← eb]
  refine u_apart (u_lays hts hin hx) (u_lays hts hin hy) hia hib ?_
  rw [(State.fieldFound?_type hia (hty x hx)).1, (State.fieldFound?_type hib (hty y hy)).1]
  exact hnm x hx y hy hne
theorem z_put (hexec : p.tables.exec = Jvm.exec) (hb : c.code = cc) {own C : String} {T : u_T} {N ci ix k : Nat} {Ts : List Cond} (hts : ∀ w ∈ Ts, w.before args s = true) (hin : ∀ w ∈ u_ws C T N, w ∈ Ts) (ty0 : Nat → FieldType) (hty : ∀ k, k < N → parseFieldDescriptor (T k).2.2.1 = some (ty0 k))
    (hnm : ∀ a, a < N → ∀ b, b < N → a ≠ b → (T a).2.1 ≠ (T b).2.1) (hown : s.vm.findClass own = some m.cls) (hci : ci < 64) (hK : u_Kn s C T N (D.1 ci) (D.2 ci)) (hP : zP D ca B w H) (hS0 : va_S (fun q => B ≤ q) s.heap H locs) (haB : B ≤ a) (haw : a < w.1) (ht : (w.2 a).1 = ci) (hn : (w.2 a).2.1 = N)
    (hk : k < N) (hlink : zlk own ix C (T k).2.1 (T k).2.2.1 args s) (hC : (T k).1 = C) (hfin : (T k).2.2.2 = false ∨ ((Cond.fieldLink own ix C (T k).2.1 (T k).2.2.1).before args s = true ∧ (T k).2.2.2 = true ∧ meth.name = "<init>" ∧ C = own)) {v : Value} (hnar : narrow (ty0 k) v = v) (hfit : fits (ty0 k) v = true)
    (hdg : decode cc pc = .ok (.putfield ix, 3)) (kk : ∀ (H1 : Heap) (locs1 : List Loc), zP D ca B (zset w a k v) H1 → va_S (fun q => B ≤ q) s.heap H1 locs1 → W p l e R s m args below meth c H1 locs1 cells slots Q (F0 m (pc + 3) ls rest)) :
    W p l e R s m args below meth c H locs cells slots Q (F0 m pc ls (v :: .ref a :: rest)) := by
  have hap := z_apart hts hin ty0 hty hnm hK
  have hO := zat_o (hP.2.2 a haB haw) (by rw [ht]; exact hci)
  rw [ht, hn] at hO
  obtain ⟨cell, q1, q2, q3, q4⟩ := hO
  obtain ⟨hS, hfc, kC, hkC, hkind⟩ := hK
  obtain ⟨cf, kf, fi, f, hi, hsl⟩ := hS k hk
  have hlay := hts _ (hin _ (u_in_lay hk))
  unfold u_lay at hlay
  have hst := (u_facts hfc hkC (u_lays hts hin hk) hi).1
  have hlt : f.slot < cell.slots.size := by rw [hsl]; exact k2_hasslot (q4 k hk)
  have fin : ∀ H' : Heap, H'[a]? = some (cell.setSlot f.slot v) → H'.size = H.size → (∀ q, q ≠ a → H'[q]? = H[q]?) → W p l e R s m args below meth c H' (locs ++ [⟨a, f.slot⟩]) cells slots Q (F0 m (pc + 3) ls rest) := by
    intro H' e1 e2 e3
    rw [hsl] at e1 ⊢
    refine kk H' _ (zP_set hP e2 e3 ?_) (hS0.put e2 e3 haB)
    rw [ht, hn]
    exact zat_oi hci ⟨_, e1, q2, q3, t_set q4 hap hk v⟩
  by_cases hf : (T k).2.2.2 = true
  · rcases hfin with h | ⟨hl1, -, hin2, hCo⟩
    · rw [hf] at h; cases h
    · rw [if_pos hf] at hlay
      have hcf : m.cls = cf := by
        obtain ⟨_, _, c', _, _, _, -, -, hf', -, -, -, hown2, -⟩ := Cond.laysFinal_spec hlay
        have e1 : c' = cf := by have := hi.symm.trans hf'; simp at this; exact this.1.symm
        rw [hC, hCo] at hown2
        rw [← e1]; exact Option.some.inj (hown.symm.trans hown2)
      have h6 := u_fits hfc hkC hkind (Or.inr hlay) hi (hty k hk) hnar hfit
      rw [hC] at hi
      exact W.putFinK hexec hb hown hl1 hi hst hcf hin2 (by rw [q2]; exact h6) q1 q3 hlt rfl rfl hdg fin
  · rw [if_neg hf] at hlay
    have h6 := u_store hfc hkC hkind hlay hi (hty k hk) hnar hfit
    rw [hC] at hi
    rcases hlink with h | ⟨host, h⟩
    · exact W.putK hexec hb (f := f) ⟨hown, h, ⟨_, _, _, hi⟩, hst⟩ (by rw [q2]; exact h6) q1 q3 hlt rfl rfl hdg fin
    · exact va_WputK hexec hb (f := f) hown h hi hst (by rw [q2]; exact h6) q1 q3 hlt rfl rfl hdg fin
/-- an element is written, by a row of its kind -/
theorem z_elem (hP : zP D ca B w H) (hS0 : va_S (fun q => B ≤ q) s.heap H locs) (haB : B ≤ a) (haw : a < w.1) (h1 : 64 ≤ (w.2 a).1) (h2 : (w.2 a).1 < 128) {i : Nat} {v : Value} {H1 : Heap}
    (e : H1[a]? = some ((arrV (ca (w.2 a).1) (w.2 a).2.1 (w.2 a).2.2).setSlot i v)) (z : H1.size = H.size) (oq : ∀ q, q ≠ a → H1[q]? = H[q]?) : zP D ca B (zset w a i v) H1 ∧ va_S (fun q => B ≤ q) s.heap H1 (locs ++ [⟨a, i⟩]) := by
  refine ⟨zP_set hP z oq (zat_ai h1 h2 ?_), hS0.put z oq haB⟩
  rw [e, arrV_store]
theorem z_new (hexec : p.tables.exec = Jvm.exec) (hb : c.code = cc) {own C : String} {T : u_T} {N ci ix : Nat} {Ts : List Cond} (hts : ∀ w ∈ Ts, w.before args s = true) (hin : ∀ w ∈ u_ws C T N, w ∈ Ts) (ty : Nat → FieldType) (hty : ∀ k, k < N → parseFieldDescriptor (T k).2.2.1 = some (ty k)) (hown : s.vm.findClass own = some m.cls)
    (hcl : (Cond.classLink own ix C).before args s = true) (hinst : (Cond.instantiable C N).before args s = true) (hini : (Cond.initialized C).before args s = true) (hci : ci < 64) (hK : u_Kn s C T N (D.1 ci) (D.2 ci)) (hP : zP D ca B w H) (hS0 : va_S (fun q => B ≤ q) s.heap H locs)
    (hcells : cells + 1 ≤ R.cells) (hslots : slots + N ≤ R.slots) (hdg : decode cc pc = .ok (.new ix, 3))
    (kk : ∀ (H1 : Heap), zP D ca B (znew w (ci, N, fun k => defaultValue (ty k))) H1 → va_S (fun q => B ≤ q) s.heap H1 locs → W p l e R s m args below meth c H1 locs (cells + 1) (slots + N) Q (F0 m (pc + 3) ls (.ref w.1 :: rest))) : W p l e R s m args below meth c H locs cells slots Q (F0 m pc ls rest) := by
  refine W.newcK hexec hb hown hcl hinst hini rfl hdg hcells hslots hK.2.1 hP.1 fun H1 kC hkC e1 z1 o1 => ?_
  refine kk H1 (zP_new hP z1 o1 (zat_oi hci (u_born ty hts hin hK hkC e1 hty))) ⟨Nat.le_trans hS0.1 (by rw [hP.1, z1]; omega), fun x h1 h2 => (o1 x ?_).trans (hS0.2.1 x h1 h2), hS0.2.2⟩
  have := hS0.1
  rw [hP.1] at this
  omega
theorem z_newa (hexec : p.tables.exec = Jvm.exec) (hb : c.code = cc) {atype : ArrayType} (harr : (Cond.arrayClass (newarray.typeOf atype)).before args s = true) {tag : Nat} (h64 : 64 ≤ tag) (h128 : tag < 128) (hcA : s.vm.findClass ("[" ++ (newarray.typeOf atype).toString) = some (ca tag))
    (hP : zP D ca B w H) (hS0 : va_S (fun q => B ≤ q) s.heap H locs) {n : Int32} {N : Nat} (hn : ¬ n < 0) (hN : n.toNatClampNeg = N) (hbytes : N * componentBytes (newarray.typeOf atype) ≤ 536870912) (hcells : cells + 1 ≤ R.cells) (hslots : slots + N ≤ R.slots) (hdg : decode cc pc = .ok (.newarray atype, 2))
    (kk : ∀ (H1 : Heap), zP D ca B (znew w (tag, N, fun _ => defaultValue (newarray.typeOf atype))) H1 → va_S (fun q => B ≤ q) s.heap H1 locs → W p l e R s m args below meth c H1 locs (cells + 1) (slots + N) Q (F0 m (pc + 2) ls (.ref w.1 :: rest))) : W p l e R s m args below meth c H locs cells slots Q (F0 m pc ls (.int n :: rest)) := by
  refine va_newaK hexec hb harr rfl hdg rfl hn hN hbytes hcells hslots hP.1 fun H1 cA e1 z1 o1 hAr hNm => ?_
  have hc : cA = ca tag := Option.some.inj (hNm.symm.trans hcA)
  subst hc
  refine kk H1 (zP_new hP z1 o1 (zat_ai h64 h128 e1)) ⟨Nat.le_trans hS0.1 (by rw [hP.1, z1]; omega), fun x h1 h2 => (o1 x ?_).trans (hS0.2.1 x h1 h2), hS0.2.2⟩
  have := hS0.1
  rw [hP.1] at this
  omega
theorem z_anew (hexec : p.tables.exec = Jvm.exec) (hb : c.code = cc) {own C : String} {ix : Nat} (hown : s.vm.findClass own = some m.cls) (hcl : (Cond.classLink own ix C).before args s = true) (hover : (Cond.arrayOver (.object C)).before args s = true) {tag : Nat} (h64 : 64 ≤ tag) (h128 : tag < 128) (hcA : s.vm.findClass ("[" ++ (FieldType.object C).toString) = some (ca tag))
    (hP : zP D ca B w H) (hS0 : va_S (fun q => B ≤ q) s.heap H locs) {n : Int32} {N : Nat} (hn : ¬ n < 0) (hN : n.toNatClampNeg = N) (hbytes : N * 4 ≤ 536870912) (hcells : cells + 1 ≤ R.cells) (hslots : slots + N ≤ R.slots) (hdg : decode cc pc = .ok (.anewarray ix, 3))
    (kk : ∀ (H1 : Heap), zP D ca B (znew w (tag, N, fun _ => .null)) H1 → va_S (fun q => B ≤ q) s.heap H1 locs → W p l e R s m args below meth c H1 locs (cells + 1) (slots + N) Q (F0 m (pc + 3) ls (.ref w.1 :: rest))) : W p l e R s m args below meth c H locs cells slots Q (F0 m pc ls (.int n :: rest)) := by
  subst hN
  refine W.anew hexec hb hown hcl hover rfl hdg rfl hn hbytes hcells hslots fun cA kA comp f1 f2 f3 f4 => ?_
  have hc : cA = ca tag := Option.some.inj (f1.symm.trans hcA)
  subst hc
  generalize hH1 : H.push ({ cls := ca tag, slots := Array.replicate n.toNatClampNeg .null, vm := .none } : Cell) = H1
  have z1 : H1.size = w.1 + 1 := by rw [← hH1, Array.size_push, hP.1]
  have e1 : H1[w.1]? = some (arrV (ca tag) n.toNatClampNeg (fun _ => .null)) := by rw [← hH1, ← hP.1, Array.getElem?_push_size, ← arrV_new]
  have o1 : ∀ q, q < w.1 → H1[q]? = H[q]? := by
    intro q hq
    rw [← hH1, Array.getElem?_push, if_neg (by rw [hP.1]; omega)]
  rw [hP.1]
  refine kk H1 (zP_new hP z1 o1 (zat_ai h64 h128 e1)) ⟨Nat.le_trans hS0.1 (by rw [hP.1, z1]; omega), fun x h1 h2 => (o1 x ?_).trans (hS0.2.1 x h1 h2), hS0.2.2⟩
  have := hS0.1
  rw [hP.1] at this
  omega
end ZR
