/-! CALLS AND ENDS, on symbols; the whole of it -/
theorem zF2_app {α β : Type} {R : α → β → Prop} : ∀ {a b : List α} {c : List β}, zF2 R (a ++ b) c → ∃ c1 c2, c = c1 ++ c2 ∧ zF2 R a c1 ∧ zF2 R b c2
  | [], b, c, h => ⟨[], c, rfl, trivial, h⟩
  | x :: a, b, [], h => h.elim
  | x :: a, b, y :: c, h => by
    obtain ⟨c1, c2, e, h1, h2⟩ := zF2_app (a := a) h.2
    exact ⟨y :: c1, c2, by rw [e]; rfl, ⟨h.1, h1⟩, h2⟩
theorem zF2_snoc {α β : Type} {R : α → β → Prop} : ∀ {a : List α} {c : List β} {x : α} {y : β}, zF2 R a c → R x y → zF2 R (a ++ [x]) (c ++ [y])
  | [], [], _, _, _, h => ⟨h, trivial⟩
  | [], _ :: _, _, _, h, _ => h.elim
  | _ :: _, [], _, _, h, _ => h.elim
  | _ :: _, _ :: _, _, _, h, hx => ⟨h.1, zF2_snoc h.2 hx⟩
theorem zF2_rev {α β : Type} {R : α → β → Prop} : ∀ {a : List α} {c : List β}, zF2 R a c → zF2 R a.reverse c.reverse
  | [], [], _ => trivial
  | [], _ :: _, h => h.elim
  | _ :: _, [], h => h.elim
  | x :: a, y :: c, h => by
    rw [List.reverse_cons, List.reverse_cons]
    exact zF2_snoc (zF2_rev h.2) h.1
theorem zF2_len {α β : Type} {R : α → β → Prop} : ∀ {a : List α} {c : List β}, zF2 R a c → c.length = a.length
  | [], [], _ => rfl
  | [], _ :: _, h => h.elim
  | _ :: _, [], h => h.elim
  | _ :: a, _ :: c, h => by rw [List.length_cons, List.length_cons, zF2_len h.2]
theorem xtake_some : ∀ {n : Nat} {st acc as r : List xV}, xtake n st acc = some (as, r) → ∃ f, st = f ++ r ∧ as = f.reverse ++ acc ∧ f.length = n
  | 0, st, acc, as, r, h => by cases h; exact ⟨[], rfl, rfl, rfl⟩
  | n + 1, [], acc, as, r, h => by simp [xtake] at h
  | n + 1, x :: st, acc, as, r, h => by
    obtain ⟨f, h1, h2, h3⟩ := xtake_some (n := n) (st := st) (acc := x :: acc) h
    exact ⟨x :: f, by rw [h1]; rfl, by rw [h2, List.reverse_cons, List.append_assoc]; rfl, by rw [List.length_cons, h3]⟩
theorem xbind_some {f : xL → Option (List xL)} : ∀ {l lf : List xL}, xbind f l = some lf → ∀ q ∈ l, ∃ lq, f q = some lq ∧ ∀ x ∈ lq, x ∈ lf
  | [], lf, _, q, hq => by cases hq
  | x :: r, lf, h, q, hq => by
    unfold xbind at h
    cases h1 : f x with
    | none => rw [h1] at h; cases h
    | some l1 =>
      simp only [h1] at h
      cases h2 : xbind f r with
      | none => simp only [h2] at h; cases h
      | some l2 =>
        simp only [h2] at h
        cases h
        rcases List.mem_cons.mp hq with rfl | hq
        · exact ⟨l1, h1, fun y hy => List.mem_append_left _ hy⟩
        · obtain ⟨lq, g1, g2⟩ := xbind_some h2 q hq
          exact ⟨lq, g1, fun y hy => List.mem_append_right _ (g2 y hy)⟩
theorem zW_mono {p : Program} {l : Launch} {e : Env} {R : Room} {s : State} {m : MethodId} {args : Array Value} {below : List Frame} {meth : Method} {c : Code} {H : Heap} {locs : List Loc} {cells slots : Nat} {Q Q' : State → Prop} {g : JFrame}
    (k : W p l e R s m args below meth c H locs cells slots Q g) (h : ∀ t, Q t → Q' t) : W p l e R s m args below meth c H locs cells slots Q' g := fun T hT X => by
  obtain ⟨t, a, b⟩ := k T hT X
  exact ⟨t, a, h t b⟩
theorem sl_len {B b0 : Nat} {ν : Nat → Int} : ∀ {as : List xV} {vs : List Value}, xds B b0 ν as vs → (lg_sl vs).length = xcat as
  | [], [], _ => rfl
  | [], _ :: _, h => h.elim
  | _ :: _, [], h => h.elim
  | x :: as, v :: vs, h => by
    have ih := sl_len h.2
    have e := xden_cat h.1
    unfold lg_sl at ih ⊢
    rw [List.flatMap_cons, List.length_append, ih]
    show _ = (bif xJ x then 2 else 1) + xcat as
    rw [e]
    cases xJ x <;> rfl
section ZL
variable {M : xM} {Y : Nat → MethodName} {Bt : Nat → ByteArray} {Hh : Nat → List (Nat × Nat × Nat × Nat)} {Rt : Nat → Option FieldType} {Rm : Nat → Room} {Ex : Nat → String}
variable {l : Launch} {s0 : State} {D : va_G} {ca : Nat → ClassId} {b0 L : Nat} {xs : Nat → Int32} {ty : Nat → Nat → FieldType}
/-- how a run's ends are told to the caller -/
def zPo (s0 : State) (b0 : Nat) (ν : Nat → Int) (lf : List xL) : Option Value ⊕ Nat → zW → Prop := fun o u => ∃ q ∈ lf, xin ν q.1 ∧ xdw s0.heap.size b0 ν q.2.2 u ∧
  ((q.2.1.1 = 0 ∧ ∃ v, o = .inl (some v) ∧ xden s0.heap.size b0 ν q.2.1.2 v) ∨ (q.2.1.1 = 1 ∧ o = .inl none) ∨ (q.2.1.1 = 2 ∧ o = .inr q.2.1.2.1))
theorem zMQ_of {below : List Frame} {s : State} {args : Array Value} {mc ms cells slots : Nat} {P : Option Value ⊕ Nat → zW → Prop} {H : Heap} {v : Option Value} {u : zW} (hc : cells ≤ mc) (hs : slots ≤ ms) (hP : P (.inl v) u) (hz : zP D ca s0.heap.size u H) (hq : ∀ q, q < s0.heap.size → H[q]? = s.heap[q]?) (t : State)
    (h : MQ below (fun _ _ o t => o = .returned v ∧ t.heap = H) args s cells slots (fun q => s0.heap.size ≤ q) t) : zMQ Ex s0 D ca below s mc ms P t := by
  obtain ⟨o, h1, h2, ⟨rfl, h3⟩, L9, ⟨-, hW, hsm⟩, hL⟩ := h
  exact ⟨_, h1, h2, hW, fun q hq9 => by rw [h3]; exact hq q hq9, ⟨L9, hsm.mono hc hs, hL⟩, Or.inl ⟨v, u, rfl, hP, by rw [h3]; exact hz⟩⟩
theorem zexits_MQ (hl : l.stackTraces = false) {ν : Nat → Int} {lf : List xL} {mi : Nat} {p : Program} {e : Env} {s : State} {m : MethodId} {args : Array Value} {below : List Frame} {meth : Method} {c : Code} (C : zcx M Y Bt Hh Rt s0 mi p s m meth c) :
    zexits M Y Bt Hh Rt Rm Ex l s0 D ca b0 ν lf mi p e s m args below meth c (zMQ Ex s0 D ca below s (Rm mi).cells (Rm mi).slots (zPo s0 b0 ν lf)) := by
  intro q hq hi u hu
  have ret : ∀ v, zPo s0 b0 ν lf (.inl v) u → zret Bt Rt Rm l s0 D ca mi p e s m args below meth c (zMQ Ex s0 D ca below s (Rm mi).cells (Rm mi).slots (zPo s0 b0 ν lf)) v u := by
    intro v hv H locs ls pc cells slots hc hs hz hS hd
    have hq0 : ∀ q, q < s0.heap.size → H[q]? = s.heap[q]? := fun q hq => hS.2.1 q (Nat.lt_of_lt_of_le hq C.2.2.1) (Nat.not_le.mpr hq)
    have hrt := C.2.2.2.2.2.2.2.1
    have hlk := C.2.2.2.2.2.2.2.2.1
    rcases hd with ⟨z, rfl, hdg, hr⟩ | ⟨z, rfl, hdg, hr⟩ | ⟨rfl, hdg, hr⟩
    · rcases hr with hr | ⟨hr, h01⟩
      · exact zW_mono (W.iret (Qc := fun _ _ o t => o = .returned (some (.int z)) ∧ t.heap = H) (free := fun q => s0.heap.size ≤ q) C.1 C.2.2.2.2.2.1 (hrt.trans hr) (fun t ht _ => ⟨rfl, ht⟩) hS.2.2 hdg hlk) (zMQ_of hc hs hv hz hq0)
      · exact zW_mono (W.zret (ty := .boolean) (Qc := fun _ _ o t => o = .returned (some (.int z)) ∧ t.heap = H) (free := fun q => s0.heap.size ≤ q) C.1 C.2.2.2.2.2.1 (hrt.trans hr) (by rcases h01 with rfl | rfl <;> decide) (fun t ht _ => ⟨rfl, ht⟩) hS.2.2 hdg hlk) (zMQ_of hc hs hv hz hq0)
    · exact zW_mono (W.lret (Qc := fun _ _ o t => o = .returned (some (.long z)) ∧ t.heap = H) (free := fun q => s0.heap.size ≤ q) C.1 C.2.2.2.2.2.1 (hrt.trans hr) (fun t ht _ => ⟨rfl, ht⟩) hS.2.2 hdg hlk) (zMQ_of hc hs hv hz hq0)
    · exact zW_mono (W.vret (Qc := fun _ _ o t => o = .returned none ∧ t.heap = H) (free := fun q => s0.heap.size ≤ q) C.1 C.2.2.2.2.2.1 (hrt.trans hr) (fun t ht _ => ⟨rfl, ht⟩) hS.2.2 hdg hlk) (zMQ_of hc hs hv hz hq0)
  refine ⟨fun h0 v hv => ret _ ⟨q, hq, hi, hu, Or.inl ⟨h0, v, rfl, hv⟩⟩, fun h1 => ret _ ⟨q, hq, hi, hu, Or.inr (Or.inl ⟨h1, rfl⟩)⟩, fun h2 => ?_⟩
  intro u0 H locs ls pc cells slots rest hu0 hc hs hz hS hsz hth hfr hlo hH hrest
  intro T hT X
  subst hT
  have hq0 : ∀ q, q < s0.heap.size → T.heap[q]? = s.heap[q]? := fun q hq => hS.2.1 q (Nat.lt_of_lt_of_le hq C.2.2.1) (Nat.not_le.mpr hq)
  obtain ⟨U, ce, hst, hrun, hend, hW, hsm, hsize, hkeep, hce, hcv, hcl⟩ := z_throw (own := (Y mi).cls) (rest := rest) X C.1 C.2.2.2.2.2.1 hl C.2.2.2.2.1 C.2.1 (by rw [hz.1]; exact hz.2.1) (fun q hq => (hq0 q hq).trans (C.2.2.2.1 q hq)) hth (by rw [C.2.2.2.2.2.2.1]; exact hsz)
    (by rw [C.2.2.2.2.2.2.2.2.2.2, hH]; rfl) C.2.2.2.2.2.2.2.2.1 hfr (by omega) hc hs
  refine ⟨U, hst, .threw T.heap.size, hrun, hend, hW, fun q hq9 => ?_, ⟨locs, hsm.mono hc hs, hS.2.2⟩, Or.inr ⟨T.heap.size, q.2.1.2.1, u, ce, rfl, ⟨q, hq, hi, hu, Or.inr (Or.inr ⟨h2, rfl⟩)⟩, ?_, hce, hcv, hcl⟩⟩
  · rw [hkeep q (Nat.lt_of_lt_of_le hq9 (by rw [hz.1]; exact hz.2.1))]
    exact hq0 q hq9
  · rw [hu0]
    refine zP_new hz (by rw [hsize, hz.1]) (fun q hq => hkeep q (by rw [hz.1]; exact hq)) ?_
    unfold zat
    rw [if_neg (by decide), if_neg (by decide)]
    exact ⟨ce, by rw [← hz.1]; exact hce, hcv⟩
theorem zexits_sub {ν : Nat → Int} {l1 l2 : List xL} {mi : Nat} {p : Program} {e : Env} {s : State} {m : MethodId} {args : Array Value} {below : List Frame} {meth : Method} {c : Code} {Q : State → Prop}
    (h : zexits M Y Bt Hh Rt Rm Ex l s0 D ca b0 ν l1 mi p e s m args below meth c Q) (hs : ∀ x ∈ l2, x ∈ l1) : zexits M Y Bt Hh Rt Rm Ex l s0 D ca b0 ν l2 mi p e s m args below meth c Q := fun q hq => h q (hs q hq)
/-- which handler takes a throw, out of the tables -/
def zhnd (M : xM) (Y : Nat → MethodName) (Hh : Nat → List (Nat × Nat × Nat × Nat)) (Ex : Nat → String) (s0 : State) : Prop :=
  ∀ mi pc k h, M.2.2.2.2.2.2.2.2 mi pc k = some h → ∀ (s : State) (pl : Platform), s0.WarmedH s.vm → pl.magicAccessors = ({} : Platform).magicAccessors → ∀ d thrown, s.vm.findClass (Y mi).cls = some d → s.vm.findClass (Ex k) = some thrown → zsearch pl s d pc thrown (tableOf (Hh mi)) h
/-- what a call of mj at pc of mi rests on, but its kind -/
def zcal (M : xM) (Y : Nat → MethodName) (Bt : Nat → ByteArray) (Hh : Nat → List (Nat × Nat × Nat × Nat)) (Rt : Nat → Option FieldType) (Rm : Nat → Room) (s0 : State) (mi mj : Nat) : Prop :=
  plainFor (Y mj) = true ∧ zh s0 (zcode M.2.1 Y Bt Hh Rt mj) ∧ (Rm mj).frames + 1 ≤ (Rm mi).frames ∧ 8 + (M.2.1 mj + 11) + (Rm mj).locals ≤ (Rm mi).locals
theorem zg_call9 (hl : l.stackTraces = false) {rec : xK} (hr : zrec M Y Bt Hh Rt Rm Ex l s0 D ca b0 L xs rec) (hRm : ∀ mi, (Rm mi).cells = M.2.2.1 mi ∧ (Rm mi).slots = M.2.2.2.1 mi) (hH : zhnd M Y Hh Ex s0) {mi mj : Nat} {F : xF} {w : xW} {b : xB} {lf lc : List xL} {as r : List xV} {ig : Instr}
    (hd : decode (Bt mi) F.1 = .ok (ig, 3)) (hcal : zcal M Y Bt Hh Rt Rm s0 mi mj) (hcc : F.2.2.2.1 + M.2.2.1 mj ≤ M.2.2.1 mi) (hss : F.2.2.2.2 + M.2.2.2.1 mj ≤ M.2.2.2.1 mi) (hr8 : xcat r ≤ 8) (ha9 : xcat as ≤ M.2.1 mj)
    (hlc : rec mj (0, xargs 0 as, [], 0, 0) w b = some lc) (hbi : xbind (xaft M mj r rec mi F) lc = some lf) {ν : Nat → Int} (hv : xval ν) (hs : zscr L xs ν) (hi : xin ν b) {lv : List (Nat × Value)} {va vr : List Value} {u : zW} (h1 : xdl s0.heap.size b0 ν F.2.1 lv) (hva : xds s0.heap.size b0 ν as va) (hvr : xds s0.heap.size b0 ν r vr) (h3 : xdw s0.heap.size b0 ν w u)
    {p : Program} {e : Env} {s : State} {m : MethodId} {args : Array Value} {below : List Frame} {meth : Method} {c : Code} {Q : State → Prop} (C : zcx M Y Bt Hh Rt s0 mi p s m meth c) (hx : zexits M Y Bt Hh Rt Rm Ex l s0 D ca b0 ν lf mi p e s m args below meth c Q)
    {H : Heap} {locs : List Loc} {ls : Array Slot} (hP : zP D ca s0.heap.size u H) (hS : va_S (fun q => s0.heap.size ≤ q) s.heap H locs) (hL : lv_has ls (M.2.1 mi) lv) {st : List Value}
    (hgo : ∀ T : State, T.heap = H → Stand p l e (Rm mi) s m args below meth c T locs F.2.2.2.1 F.2.2.2.2 → zgoes p l e (Rm mi) s m args below meth c T locs F.2.2.2.1 F.2.2.2.2 (Y mj) (F0 m F.1 ls st) va vr) : W p l e (Rm mi) s m args below meth c H locs F.2.2.2.1 F.2.2.2.2 Q (F0 m F.1 ls st) := by
  intro T hT X
  obtain ⟨vm₁, mk, hnm, X₁, hstep⟩ := hgo T hT X
  have hh1 : (T.setVm vm₁).heap = H := hT
  have hq0 : ∀ q, q < s0.heap.size → H[q]? = s0.heap[q]? := fun q hq => (hS.2.1 q (Nat.lt_of_lt_of_le hq C.2.2.1) (Nat.not_le.mpr hq)).trans (C.2.2.2.1 q hq)
  have hcat := xcat_ok hvr
  have hgood := hr _ _ _ _ _ hlc
  have hcl : ∀ (s' : State) (meth' : Method) (c' : Code), zctx M.2.1 Y Bt Hh Rt s0 mj p s' mk meth' c' → s'.heap = (T.setVm vm₁).heap →
      W p l e (Rm mj) s' mk va.toArray (.java (F0 m F.1 ls vr) :: below) meth' c' (T.setVm vm₁).heap [] 0 0 (zMQ Ex s0 D ca (.java (F0 m F.1 ls vr) :: below) s' (Rm mj).cells (Rm mj).slots (zPo s0 b0 ν lc)) (entryFrame mk va.toArray (M.2.1 mj)) := by
    intro s' meth' c' C' hh'
    rw [lg_entry_eq]
    have hle := lv_entry va (n := M.2.1 mj) (by rw [sl_len hva]; exact ha9)
    exact hgood ν hv hs hi (lv_args 0 va) [] u (xargs_ok 0 hva) trivial h3 p e s' mk va.toArray (.java (F0 m F.1 ls vr) :: below) meth' c' _ C' (zexits_MQ hl C') (T.setVm vm₁).heap [] _ (by rw [hh1]; exact hP) (by rw [hh']; exact va_S.rf) hle
  obtain ⟨T', Lc, X', hLc, hqT, hsz, hout⟩ := z_back (nl := M.2.1) (Y := Y) (Bt := Bt) (Hh := Hh) (Rt := Rt) (Rm := Rm) (Ex := Ex) (s0 := s0) (D := D) (ca := ca) X₁ C.1 C.2.1 (by rw [hh1, hP.1]; exact hP.2.1) (fun q hq => by rw [hh1]; exact hq0 q hq) (g := F0 m F.1 ls vr) rfl (by rw [C.2.2.2.2.2.2.1]; exact hL.1) (by rw [C.2.2.2.2.2.1]; exact hd)
    (X₁.named hnm) hcal.1 (vs := va) (hcal.2.1 _ _ (State.WarmedH.trans C.2.1 X₁.warmed)) hcal.2.2.1 (by show 2 * 0 + _ + _ + _ ≤ _; rw [hcat]; have := hcal.2.2.2; omega) (by rw [(hRm mj).1, (hRm mi).1]; exact hcc) (by rw [(hRm mj).2, (hRm mi).2]; exact hss) hcl
  have hST : va_S (fun q => s0.heap.size ≤ q) s.heap T'.heap (locs ++ Lc) := by
    refine ⟨Nat.le_trans hS.1 (by rw [← hh1]; exact hsz), fun q h1 h2 => ?_, fun z hz => ?_⟩
    · rw [hqT q (Nat.not_le.mp h2), hh1]
      exact hS.2.1 q h1 h2
    · rcases List.mem_append.mp hz with h | h
      · exact hS.2.2 z h
      · exact hLc z h
  have e1 : (Rm mj).cells = M.2.2.1 mj := (hRm mj).1
  have e2 : (Rm mj).slots = M.2.2.2.1 mj := (hRm mj).2
  rcases hout with ⟨v, u9, ⟨q, hq, hqi, hqu, ho⟩, hz9, hsteps⟩ | ⟨a9, k, u9, ce, ⟨q, hq, hqi, hqu, ho⟩, hz9, hce, hcv, hcf, hsteps⟩
  · obtain ⟨lq, hlq, hsub⟩ := xbind_some hbi q hq
    have hx9 := zexits_sub hx hsub
    have fin : ∀ stn : List xV, rec mi (F.1 + 3, F.2.1, stn, F.2.2.2.1 + M.2.2.1 mj, F.2.2.2.2 + M.2.2.2.1 mj) q.2.2 q.1 = some lq → xds s0.heap.size b0 ν stn (v.toList ++ vr) → ∃ t, Steps p.tables e below (T.setTop (F0 m F.1 ls st)) t ∧ Q t := by
      intro stn hrc hdn
      have g := hr _ _ _ _ _ hrc ν hv hs hqi lv (v.toList ++ vr) u9 h1 hdn hqu p e s m args below meth c Q C hx9 T'.heap (locs ++ Lc) ls hz9 hST hL T' rfl (by
        show Stand p l e (Rm mi) s m args below meth c T' (locs ++ Lc) (F.2.2.2.1 + M.2.2.1 mj) (F.2.2.2.2 + M.2.2.2.1 mj)
        rw [← e1, ← e2]; exact X')
      obtain ⟨t, g1, g2⟩ := g
      exact ⟨t, hstep t (fun acts => (hsteps acts).trans g1), g2⟩
    rcases ho with ⟨h0, v9, e9, hdv⟩ | ⟨h0, e9⟩ | ⟨h0, e9⟩
    · cases e9
      unfold xaft at hlq
      rw [h0] at hlq
      exact fin _ hlq ⟨hdv, hvr⟩
    · cases e9
      unfold xaft at hlq
      rw [h0] at hlq
      exact fin _ hlq hvr
    · cases e9
  · obtain ⟨lq, hlq, hsub⟩ := xbind_some hbi q hq
    have hx9 := zexits_sub hx hsub
    rcases ho with ⟨h0, v9, e9, hdv⟩ | ⟨h0, e9⟩ | ⟨h0, e9⟩
    · cases e9
    · cases e9
    · cases e9
      unfold xaft at hlq
      rw [h0] at hlq
      replace hlq : (match M.2.2.2.2.2.2.2.2 mi F.1 q.2.1.2.1 with
        | some h => rec mi (h, F.2.1, [(6, 0, 0)], F.2.2.2.1 + M.2.2.1 mj, F.2.2.2.2 + M.2.2.2.1 mj) q.2.2 q.1
        | none => none) = some lq := hlq
      cases hh : M.2.2.2.2.2.2.2.2 mi F.1 q.2.1.2.1 with
      | none => simp only [hh] at hlq; cases hlq
      | some h =>
        simp only [hh] at hlq
        have hpl : e.platform.magicAccessors = ({} : Platform).magicAccessors := by rw [X.admits.platform]
        have hse := hH mi F.1 q.2.1.2.1 h hh s e.platform C.2.1 hpl m.cls ce.cls C.2.2.2.2.1 hcf
        obtain ⟨k9, hk9, -⟩ := Vm.findClass_spec hcf
        obtain ⟨vm', X9, st9⟩ := z_caught X' a9 (g := F0 m F.1 ls vr) rfl hce hcv hk9 (h := h) (by rw [C.2.2.2.2.2.2.2.2.2.2]; exact hse)
        have g := hr _ _ _ _ _ hlq ν hv hs hqi lv [.ref a9] u9 h1 ⟨⟨a9, rfl⟩, trivial⟩ hqu p e s m args below meth c Q C hx9 T'.heap (locs ++ Lc) ls hz9 hST hL (T'.setVm vm') rfl (by
          show Stand p l e (Rm mi) s m args below meth c (T'.setVm vm') (locs ++ Lc) (F.2.2.2.1 + M.2.2.1 mj) (F.2.2.2.2 + M.2.2.2.1 mj)
          rw [← e1, ← e2]; exact X9)
        obtain ⟨t, g1, g2⟩ := g
        exact ⟨t, hstep t (fun acts => (hsteps acts).trans (st9 t g1)), g2⟩
end ZL
