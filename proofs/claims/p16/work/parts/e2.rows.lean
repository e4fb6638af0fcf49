/-! THE ROWS THAT ARE NOT THIS CODE'S OWN: a literal, a copy -/
section GR
variable {M : xM} {Y : Nat → MethodName} {Bt : Nat → ByteArray} {Hh : Nat → List (Nat × Nat × Nat × Nat)} {Rt : Nat → Option FieldType} {Rm : Nat → Room} {Ex : Nat → String}
variable {l : Launch} {s0 : State} {D : va_G} {ca : Nat → ClassId} {sb : Nat → Nat} {b0 L : Nat} {grp : Nat → Nat} {lit : Value → Prop} {xs : Nat → Int32} {ty : Nat → Nat → FieldType}
variable {mi : Nat} {P : cP} {md : List (Nat × Int)} {u0 : zW} {ν0 : List Int}

theorem crStr_of {pc ix : Nat} {tx : String} {q : Nat} (hd : decode (Bt mi) pc = .ok (.ldc ix, 2)) (hR : vk_R (Y mi).cls ix tx q s0) (hq : lit (.ref q)) : crStr M Y Bt Hh Rt Rm Ex l s0 D ca sb lit mi pc := by
  intro lv st u n P g
  intro p e s m args below meth c Q C hx H locs ls hP hS hL
  exact va_ldcS C.1 C.2.2.2.2.2.1 C.2.2.2.2.1 (vk_R.warm C.2.1 hR) hd (g _ hq p e s m args below meth c Q C hx H locs ls hP hS hL)
theorem arrV_ext {cI : ClassId} {N : Nat} {f g : Nat → Value} (h : ∀ k, k < N → f k = g k) : arrV cI N f = arrV cI N g := by
  unfold arrV
  congr 1
  congr 1
  funext j
  exact h j.val j.isLt
theorem fits_chr {z : Int32} (h1 : 0 ≤ z.toInt) (h2 : z.toInt ≤ 65535) : fits .char (.int z) = true := by
  show (decide (0 ≤ z) && decide (z ≤ 65535)) = true
  rw [Bool.and_eq_true, decide_eq_true_eq, decide_eq_true_eq, Int32.le_iff_toInt_le, Int32.le_iff_toInt_le]
  exact ⟨h1, h2⟩
theorem zP_cpy {B : Nat} {u : zW} {a d : Nat} {H H1 : Heap} (h : zP D ca B u H) (hz : H1.size = H.size) (ho : ∀ q, q ≠ d → H1[q]? = H[q]?) (ha : zat D ca d ((u.2 d).1, (u.2 d).2.1, (u.2 a).2.2) H1) : zP D ca B (zcpy u a d) H1 := by
  refine ⟨hz.trans h.1, h.2.1, fun q h1 h2 => ?_⟩
  show zat D ca q (if q = d then _ else _) H1
  by_cases e : q = d
  · rw [if_pos e, e]; exact ha
  · rw [if_neg e]
    exact zat_kept (h.2.2 q h1 h2) (ho q e)
theorem crCpy_of {pc ix : Nat} (hd : decode (Bt mi) pc = .ok (.invokestatic ix, 3)) (hlink : zh s0 (.methodLink (Y mi).cls ix arraycopyName)) (hnat : zh s0 (.native arraycopyName)) (hstat : zh s0 (.static arraycopyName)) (hini : zh s0 (.initialized "java/lang/System")) (hfr : 1 ≤ (Rm mi).frames) (hlo : 40 ≤ (Rm mi).locals) (h64 : ztg s0 ca 64 .int) (h65 : ztg s0 ca 65 .char) : crCpy M Y Bt Hh Rt Rm Ex l s0 D ca sb mi pc := by
  intro lv st u n P a d N ha hdd htag g64 g65 hNa hNd hN hcat hval g
  intro p e s m args below meth c Q C hx H locs ls hP hS hL
  have hBa : s0.heap.size ≤ s0.heap.size + a := Nat.le_add_right _ _
  have hBd : s0.heap.size ≤ s0.heap.size + d := Nat.le_add_right _ _
  have hta := zat_a (hP.2.2 _ hBa ha) g64 (by omega)
  have htd := zat_a (hP.2.2 _ hBd hdd) (by omega) (by omega)
  rw [hNa] at hta
  rw [hNd, ← htag] at htd
  have hty : ∃ ty, ArrOfT s0 (ca (u.2 (s0.heap.size + a)).1) ty ∧ refKind ty = false ∧ ∀ k, k < N → fits ty ((u.2 (s0.heap.size + a)).2.2 k) = true := by
    by_cases h9 : (u.2 (s0.heap.size + a)).1 = 64
    · rw [h9]
      refine ⟨.int, h64.2.2.1, rfl, fun k hk => ?_⟩
      obtain ⟨z, hz, -⟩ := hval k hk
      rw [hz]
      rfl
    · have h8 : (u.2 (s0.heap.size + a)).1 = 65 := by omega
      refine ⟨.char, by rw [h8]; exact h65.2.2.1, rfl, fun k hk => ?_⟩
      obtain ⟨z, hz, hz2⟩ := hval k hk
      have hz3 := hz2 h8
      rw [hz]
      exact fits_chr hz3.1 hz3.2
  obtain ⟨ty, hA, hprim, hfit⟩ := hty
  generalize hfa : (u.2 (s0.heap.size + a)).2.2 = fa at hta hfit
  generalize hfd : (u.2 (s0.heap.size + d)).2.2 = fd at htd
  generalize hct : ca (u.2 (s0.heap.size + a)).1 = cA at hta htd hA
  intro T hT X
  obtain ⟨-, k0, hk0, cm0, hkk0⟩ := (arrOfT_moved C.2.1.alike hA) N fa
  have hn0 : ¬ Int32.ofInt (N : Int) < 0 := by
    rw [Int32.not_lt, Int32.le_iff_toInt_le, toI (by omega)]
    show (0 : Int) ≤ _
    omega
  have hnn : (Int32.ofInt (N : Int)).toNatClampNeg = N := by
    show (Int32.ofInt (N : Int)).toInt.toNat = N
    rw [toI (by omega)]
    rfl
  have hni : (Int32.ofInt (N : Int)).toInt = (N : Int) := toI (by omega)
  obtain ⟨vm', X', step⟩ := X.arraycopy C.1 (own := (Y mi).cls) (index := ix) C.2.2.2.2.1 (hlink args s C.2.1) (hnat args s C.2.1) (hstat args s C.2.1) (hini args s C.2.1) (src := s0.heap.size + a) (dst := s0.heap.size + d) (cs := arrV cA N fa) (cd := arrV cA N fd) (srcPos := 0) (destPos := 0) (n := Int32.ofInt (N : Int)) (by rw [hT]; exact hta) (by rw [hT]; exact htd)
    (fun _ h => by cases h) (fun _ h => by cases h) (fun h => by cases h) (fun h => by cases h) hk0 hk0 hkk0 hkk0 (by simp [hprim]) (by decide) (by decide) hn0
    (by rw [hni, arrV_size]; show ¬ (0 : Int) + (N : Int) > (N : Int); omega)
    (by rw [hni, arrV_size]; show ¬ (0 : Int) + (N : Int) > (N : Int); omega)
    (fun vm₁ _ i hi => by
      rw [hnn] at hi
      have e : (arrV cA N fa).slots.getD ((0 : Int32).toNatClampNeg + i) .null = fa i := by
        rw [show (0 : Int32).toNatClampNeg + i = i from Nat.zero_add i, Array.getD_eq_getD_getElem?, arrV_read _ _ hi]
        rfl
      rw [e]
      refine ⟨hfit i hi, ?_⟩
      obtain ⟨z, hz, -⟩ := hval i hi
      rw [hfa] at hz
      rw [hz]
      exact trivial)
    (g := F0 m pc ls (.int (Int32.ofInt (N : Int)) :: .int 0 :: .ref (s0.heap.size + d) :: .int 0 :: .ref (s0.heap.size + a) :: st)) rfl (by rw [C.2.2.2.2.2.2.1]; exact hL.1) (rest := st) rfl (by rw [C.2.2.2.2.2.1]; exact hd) hfr (by
      show 2 * 0 + _ + (nativeFrameWords "java/lang/System" "arraycopy" 5 + 11) ≤ _
      have : nativeFrameWords "java/lang/System" "arraycopy" 5 + 11 ≤ 32 := by decide +kernel
      omega)
  have e1 : copied (arrV cA N fa) (arrV cA N fd) 0 0 (Int32.ofInt (N : Int)) = arrV cA N fa := by
    have h9 := va_copied (fun z => z) cA cA (n0 := N) (n1 := N) (sp := 0) (dp := 0) (n := N) fa fd (by omega)
    have h8 : copied (arrV cA N fa) (arrV cA N fd) 0 0 (Int32.ofInt (N : Int)) = (arrV cA N fd).storeRun 0 ((arrV cA N fa).stretch 0 (Int32.ofInt (N : Int)).toNatClampNeg) := rfl
    rw [h8, hnn]
    refine h9.trans (arrV_ext fun k hk => ?_)
    unfold va_cpy
    rw [if_pos (by omega)]
    congr 1
    omega
  rw [e1] at X' step
  have hl : s0.heap.size + d < H.size := (Array.getElem?_eq_some_iff.mp htd).1
  have hheap : ((T.setVm vm').setCell (s0.heap.size + d) (arrV cA N fa)).heap = H.setIfInBounds (s0.heap.size + d) (arrV cA N fa) := by rw [← hT]; rfl
  have oq : ∀ q : Nat, q ≠ s0.heap.size + d → (H.setIfInBounds (s0.heap.size + d) (arrV cA N fa))[q]? = H[q]? := fun q hq => by simp [Array.getElem?_setIfInBounds, Ne.symm hq]
  have hzP : zP D ca s0.heap.size (zcpy u (s0.heap.size + a) (s0.heap.size + d)) (H.setIfInBounds (s0.heap.size + d) (arrV cA N fa)) := by
    refine zP_cpy hP (by simp) oq (zat_ai (by omega) (by omega) ?_)
    rw [hNd, ← htag, hct, hfa]
    simp [Array.getElem?_setIfInBounds, hl]
  have hzS : va_S (fun q => s0.heap.size ≤ q) s.heap (H.setIfInBounds (s0.heap.size + d) (arrV cA N fa)) (locs ++ ((arrV cA N fa).stretch (0 : Int32).toNatClampNeg (Int32.ofInt (N : Int)).toNatClampNeg).zipIdx.map fun q => ⟨s0.heap.size + d, (0 : Int32).toNatClampNeg + q.2⟩) := by
    refine ⟨by simp; exact hS.1, fun q g1 g2 => ?_, fun q hq => ?_⟩
    · rw [oq q (fun e => g2 (by show s0.heap.size ≤ q; omega))]
      exact hS.2.1 q g1 g2
    · rcases List.mem_append.mp hq with h | h
      · exact hS.2.2 q h
      · obtain ⟨z, -, hz⟩ := List.mem_map.mp h
        rw [← hz]
        exact hBd
  obtain ⟨t, a1, b1⟩ := g p e s m args below meth c Q C hx _ _ ls hzP hzS hL _ hheap X'
  exact ⟨t, step t a1, b1⟩
end GR
