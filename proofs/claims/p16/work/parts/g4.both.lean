/-! THE TABLES HOLD: of the constructors' run and of all else -/
section ZB
variable {b : Addr} {s0 : State} {D : va_G} {ca : Nat → ClassId}
def wlit (s0 : State) (v : Value) : Prop := ∃ q t N byt, v = .ref q ∧ wL s0 q t N byt
theorem wlit_ref {v : Value} (h : wlit s0 v) : ∃ q : Nat, v = .ref q := by
  obtain ⟨q, -, -, -, h, -⟩ := h
  exact ⟨q, h⟩
theorem wok_2 {l : Launch} {mi pc : Nat} {e : xE} (hl : l.stackTraces = false) (hX : wfx s0 D ca) (hH : zhnd tM tY tHh tEx s0) (hS : wS s0) (hC : zh s0 (.native arraycopyName) ∧ zh s0 (.static arraycopyName) ∧ zh s0 (.initialized "java/lang/System")) (h : wok s0 D ca (wV s0) mi pc e) : zok2 tM tY tBt tHh tRt tRm tEx l s0 D ca tsb tty (wlit s0) mi pc e := by
  obtain ⟨op, a, bb, cc, k, ll⟩ := e
  obtain ⟨h1, h2, h3⟩ := h
  refine ⟨h1, ?_, h3⟩
  replace h2 : if 74 ≤ op ∧ op ≤ 76 then wxo s0 (wV s0) mi pc op else zmore tM tY tBt tHh tRt tRm tEx s0 D ca tty mi pc (op, a, bb, cc, k, ll) := h2
  by_cases hop : 74 ≤ op ∧ op ≤ 76
  · rw [if_pos hop] at h2
    have h9 : op = 74 ∨ op = 75 ∨ op = 76 := by omega
    rcases h9 with rfl | rfl | rfl
    · obtain ⟨ix, q1, q2, q3, q4⟩ := h2
      exact crCpy_of q1 q2 hC.1 hC.2.1 hC.2.2 q3 q4 hX.2.1.1 hX.2.1.2.1
    · obtain ⟨ix, q1, q2, q3, q4⟩ := h2
      refine crIdx_of hl hH hS q1 q2 q3 q4 (fun n hn => ?_)
      have g := tsb_le mi
      have e1 : (tRm mi).cells = yg tt_rc mi := rfl
      have e2 : (tRm mi).slots = yg tt_rs mi := rfl
      rw [e1] at hn
      rw [e2]
      omega
    · obtain ⟨ix, tx, q1, q2, q, t, N, byt, q3, q4⟩ := h2
      exact crStr_of (q := q) (tx := tx) q1 (by rw [q2]; exact q3) ⟨q, t, N, byt, rfl, q4⟩
  · rw [if_neg hop] at h2
    show zmo2 tM tY tBt tHh tRt tRm tEx l s0 D ca tsb tty (wlit s0) mi pc (op, a, bb, cc, k, ll)
    unfold zmo2
    split
    · rename_i g
      exact absurd (show 74 ≤ op ∧ op ≤ 76 from by replace g : op = 74 := g; omega) hop
    · rename_i g
      exact absurd (show 74 ≤ op ∧ op ≤ 76 from by replace g : op = 75 := g; omega) hop
    · rename_i g
      exact absurd (show 74 ≤ op ∧ op ≤ 76 from by replace g : op = 76 := g; omega) hop
    · exact h2
theorem zall_ok {l : Launch} {L : Nat} {xs : Nat → Int32} {grp : Nat → Nat} (hgr : aok grp) (hL : L ≤ 5120) (hl : l.stackTraces = false) (H : zts b s0) (hg : (Jvm.Cond.and given_1 narrow_1).before #[Value.ref b] s0 = true) (hx : va_X b L xs s0 s0.heap) (hb : b < s0.heap.size) :
    ∃ (D : va_G) (ca : Nat → ClassId), zall tM1 tY tBt tHh tRt tRm tEx l s0 D ca b L xs tty ∧ zall2 tM tY tBt tHh tRt tRm tEx l s0 D ca tsb b L xs tty grp (wlit s0) ∧ wfx s0 D ca := by
  obtain ⟨D, hD⟩ := ze_D (zK_all H)
  obtain ⟨ca, hA⟩ := ze_ca (zA_all H)
  have hX := wfx_ok H hD hA
  have hs := flat_of_before _ hg
  have i1 : zhS s0 zir1 := zhS_ir (H _ (List.mem_of_getElem? (i := 937) (by decide +kernel))) (hs zir1 (by decide +kernel))
  have i2 : zhS s0 zir2 := zhS_ir (H _ (List.mem_of_getElem? (i := 939) (by decide +kernel))) (hs zir2 (by decide +kernel))
  obtain ⟨cI, -, hfI, -⟩ := Cond.instantiable_spec (wd_112 H #[] s0 (State.WarmedH.refl s0))
  have hh := zhnd_ok H (zcst_ok H hg)
  refine ⟨D, ca, ⟨hl, fun mi => ⟨rfl, rfl⟩, hh, fun mi => ?_, hX.2.1, zO_t hX, hx, hb, wlast1 H hX (zB_all H)⟩, ⟨hl, fun mi => ⟨rfl, rfl⟩, hh, tRt_ok, hX.2.1, zO_t hX, hx, hb, fun mi pc e hp he => wok_2 hl hX hh (wS_ok H hg) (cpy_ok H) (wlast H hX (zB_all H) i1 i2 hfI (wVs_ok H hg) mi pc e hp he), hgr, fun v hv => wlit_ref hv, hL, tsb_le⟩, hX⟩
  exact ⟨(tRt_ok mi).1, (tRt_ok mi).2.1, (tRt_ok mi).2.2.1, (tRt_ok mi).2.2.2.1⟩
end ZB
