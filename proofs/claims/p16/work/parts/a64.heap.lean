/-! rows for variables and for the heap -/
section CH
variable {M : xM} {Y : Nat → MethodName} {Bt : Nat → ByteArray} {Hh : Nat → List (Nat × Nat × Nat × Nat)} {Rt : Nat → Option FieldType} {Rm : Nat → Room} {Ex : Nat → String}
variable {l : Launch} {s0 : State} {D : va_G} {ca : Nat → ClassId} {sb : Nat → Nat} {b0 L : Nat} {xs : Nat → Int32} {ty : Nat → Nat → FieldType}
variable {mi pc n : Nat} {lv : List (Nat × Value)} {st : List Value} {u : zW} {P : cP}
theorem cg_iload_n {j : Fin 4} {k : Nat} {z : Int32} (hd : decode (Bt mi) pc = .ok (.iload_n j, 1)) (hk : lv[k]? = some (j.val, .int z)) (g : cG M Y Bt Hh Rt Rm Ex l s0 D ca sb mi (pc + 1) lv (.int z :: st) u n P) : cG M Y Bt Hh Rt Rm Ex l s0 D ca sb mi pc lv st u n P :=
  fun p e s m args below meth c Q C hx H locs ls hP hS hL => lv_iload_n C.1 C.2.2.2.2.2.1 hd rfl (lv_at hL k hk) (g p e s m args below meth c Q C hx H locs ls hP hS hL)
theorem cg_iload {j : Nat} {k : Nat} {z : Int32} (hd : decode (Bt mi) pc = .ok (.iload j, 2)) (hk : lv[k]? = some (j, .int z)) (g : cG M Y Bt Hh Rt Rm Ex l s0 D ca sb mi (pc + 2) lv (.int z :: st) u n P) : cG M Y Bt Hh Rt Rm Ex l s0 D ca sb mi pc lv st u n P :=
  fun p e s m args below meth c Q C hx H locs ls hP hS hL => lv_iload C.1 C.2.2.2.2.2.1 hd (lv_at hL k hk) (g p e s m args below meth c Q C hx H locs ls hP hS hL)
theorem cg_lload_n {j : Fin 4} {k : Nat} {z : Int64} (hd : decode (Bt mi) pc = .ok (.lload_n j, 1)) (hk : lv[k]? = some (j.val, .long z)) (g : cG M Y Bt Hh Rt Rm Ex l s0 D ca sb mi (pc + 1) lv (.long z :: st) u n P) : cG M Y Bt Hh Rt Rm Ex l s0 D ca sb mi pc lv st u n P :=
  fun p e s m args below meth c Q C hx H locs ls hP hS hL => lv_lload_n C.1 C.2.2.2.2.2.1 hd rfl (lv_at hL k hk) (g p e s m args below meth c Q C hx H locs ls hP hS hL)
theorem cg_lload {j : Nat} {k : Nat} {z : Int64} (hd : decode (Bt mi) pc = .ok (.lload j, 2)) (hk : lv[k]? = some (j, .long z)) (g : cG M Y Bt Hh Rt Rm Ex l s0 D ca sb mi (pc + 2) lv (.long z :: st) u n P) : cG M Y Bt Hh Rt Rm Ex l s0 D ca sb mi pc lv st u n P :=
  fun p e s m args below meth c Q C hx H locs ls hP hS hL => lv_lload C.1 C.2.2.2.2.2.1 hd (lv_at hL k hk) (g p e s m args below meth c Q C hx H locs ls hP hS hL)
theorem cg_aload_n {j : Fin 4} {k : Nat} {z : Nat} (hd : decode (Bt mi) pc = .ok (.aload_n j, 1)) (hk : lv[k]? = some (j.val, .ref z)) (g : cG M Y Bt Hh Rt Rm Ex l s0 D ca sb mi (pc + 1) lv (.ref z :: st) u n P) : cG M Y Bt Hh Rt Rm Ex l s0 D ca sb mi pc lv st u n P :=
  fun p e s m args below meth c Q C hx H locs ls hP hS hL => lv_aload_n C.1 C.2.2.2.2.2.1 hd rfl (lv_at hL k hk) (g p e s m args below meth c Q C hx H locs ls hP hS hL)
theorem cg_aload {j : Nat} {k : Nat} {z : Nat} (hd : decode (Bt mi) pc = .ok (.aload j, 2)) (hk : lv[k]? = some (j, .ref z)) (g : cG M Y Bt Hh Rt Rm Ex l s0 D ca sb mi (pc + 2) lv (.ref z :: st) u n P) : cG M Y Bt Hh Rt Rm Ex l s0 D ca sb mi pc lv st u n P :=
  fun p e s m args below meth c Q C hx H locs ls hP hS hL => lv_aload C.1 C.2.2.2.2.2.1 hd (lv_at hL k hk) (g p e s m args below meth c Q C hx H locs ls hP hS hL)
theorem cg_istore_n {j : Fin 4} {z : Int32} (hd : decode (Bt mi) pc = .ok (.istore_n j, 1)) (hj : j.val < M.2.1 mi) (g : cG M Y Bt Hh Rt Rm Ex l s0 D ca sb mi (pc + 1) ((j.val, .int z) :: lv.filter (fun q => !(q.1 == j.val) && !(q.1 + 1 == j.val && q.2.category == 2))) st u n P) : cG M Y Bt Hh Rt Rm Ex l s0 D ca sb mi pc lv (.int z :: st) u n P :=
  fun p e s m args below meth c Q C hx H locs ls hP hS hL => lv_istore_n C.1 C.2.2.2.2.2.1 hd rfl hL hj rfl (fun ls9 hL9 => g p e s m args below meth c Q C hx H locs ls9 hP hS hL9)
theorem cg_istore {j : Nat} {z : Int32} (hd : decode (Bt mi) pc = .ok (.istore j, 2)) (hj : j < M.2.1 mi) (g : cG M Y Bt Hh Rt Rm Ex l s0 D ca sb mi (pc + 2) ((j, .int z) :: lv.filter (fun q => !(q.1 == j) && !(q.1 + 1 == j && q.2.category == 2))) st u n P) : cG M Y Bt Hh Rt Rm Ex l s0 D ca sb mi pc lv (.int z :: st) u n P :=
  fun p e s m args below meth c Q C hx H locs ls hP hS hL => lv_istore C.1 C.2.2.2.2.2.1 hd hL hj rfl (fun ls9 hL9 => g p e s m args below meth c Q C hx H locs ls9 hP hS hL9)
theorem cg_lstore_n {j : Fin 4} {z : Int64} (hd : decode (Bt mi) pc = .ok (.lstore_n j, 1)) (hj : j.val + 1 < M.2.1 mi) (g : cG M Y Bt Hh Rt Rm Ex l s0 D ca sb mi (pc + 1) ((j.val, .long z) :: lv.filter (fun q => !(q.1 == j.val) && (!(q.1 == j.val + 1) && !(q.1 + 1 == j.val && q.2.category == 2)))) st u n P) : cG M Y Bt Hh Rt Rm Ex l s0 D ca sb mi pc lv (.long z :: st) u n P :=
  fun p e s m args below meth c Q C hx H locs ls hP hS hL => lv_lstore_n C.1 C.2.2.2.2.2.1 hd rfl hL hj rfl (fun ls9 hL9 => g p e s m args below meth c Q C hx H locs ls9 hP hS hL9)
theorem cg_lstore {j : Nat} {z : Int64} (hd : decode (Bt mi) pc = .ok (.lstore j, 2)) (hj : j + 1 < M.2.1 mi) (g : cG M Y Bt Hh Rt Rm Ex l s0 D ca sb mi (pc + 2) ((j, .long z) :: lv.filter (fun q => !(q.1 == j) && (!(q.1 == j + 1) && !(q.1 + 1 == j && q.2.category == 2)))) st u n P) : cG M Y Bt Hh Rt Rm Ex l s0 D ca sb mi pc lv (.long z :: st) u n P :=
  fun p e s m args below meth c Q C hx H locs ls hP hS hL => lv_lstore C.1 C.2.2.2.2.2.1 hd hL hj rfl (fun ls9 hL9 => g p e s m args below meth c Q C hx H locs ls9 hP hS hL9)
theorem cg_astore_n {j : Fin 4} {z : Nat} (hd : decode (Bt mi) pc = .ok (.astore_n j, 1)) (hj : j.val < M.2.1 mi) (g : cG M Y Bt Hh Rt Rm Ex l s0 D ca sb mi (pc + 1) ((j.val, .ref z) :: lv.filter (fun q => !(q.1 == j.val) && !(q.1 + 1 == j.val && q.2.category == 2))) st u n P) : cG M Y Bt Hh Rt Rm Ex l s0 D ca sb mi pc lv (.ref z :: st) u n P :=
  fun p e s m args below meth c Q C hx H locs ls hP hS hL => lv_astore_n C.1 C.2.2.2.2.2.1 hd rfl hL hj rfl (fun ls9 hL9 => g p e s m args below meth c Q C hx H locs ls9 hP hS hL9)
theorem cg_astore {j : Nat} {z : Nat} (hd : decode (Bt mi) pc = .ok (.astore j, 2)) (hj : j < M.2.1 mi) (g : cG M Y Bt Hh Rt Rm Ex l s0 D ca sb mi (pc + 2) ((j, .ref z) :: lv.filter (fun q => !(q.1 == j) && !(q.1 + 1 == j && q.2.category == 2))) st u n P) : cG M Y Bt Hh Rt Rm Ex l s0 D ca sb mi pc lv (.ref z :: st) u n P :=
  fun p e s m args below meth c Q C hx H locs ls hP hS hL => lv_astore C.1 C.2.2.2.2.2.1 hd hL hj rfl (fun ls9 hL9 => g p e s m args below meth c Q C hx H locs ls9 hP hS hL9)
theorem cg_iinc {j k : Nat} {a : Int} {x : Int32} (hd : decode (Bt mi) pc = .ok (.iinc j a, 3)) (hk : lv[k]? = some (j, .int x)) (hj : j < M.2.1 mi) (g : cG M Y Bt Hh Rt Rm Ex l s0 D ca sb mi (pc + 3) ((j, .int (x + Int32.ofInt a)) :: lv.filter (fun q => !(q.1 == j) && !(q.1 + 1 == j && q.2.category == 2))) st u n P) : cG M Y Bt Hh Rt Rm Ex l s0 D ca sb mi pc lv st u n P :=
  fun p e s m args below meth c Q C hx H locs ls hP hS hL => lv_iinc C.1 C.2.2.2.2.2.1 hd hL hk rfl hj rfl (fun ls9 hL9 => g p e s m args below meth c Q C hx H locs ls9 hP hS hL9)
theorem cg_ldc {ix : Nat} {a : Int} (hd : decode (Bt mi) pc = .ok (.ldc ix, 2)) (hw : zh s0 (.constant (Y mi).cls ix (Int32.ofInt a))) (g : cG M Y Bt Hh Rt Rm Ex l s0 D ca sb mi (pc + 2) lv (.int (Int32.ofInt a) :: st) u n P) : cG M Y Bt Hh Rt Rm Ex l s0 D ca sb mi pc lv st u n P :=
  fun p e s m args below meth c Q C hx H locs ls hP hS hL => lv_ldc C.1 C.2.2.2.2.2.1 C.2.2.2.2.1 (hw args s C.2.1) hd (g p e s m args below meth c Q C hx H locs ls hP hS hL)
theorem cg_ldc2 {ix : Nat} {a : Int} (hd : decode (Bt mi) pc = .ok (.ldc2_w ix, 3)) (hw : zh s0 (.constantLong (Y mi).cls ix (Int64.ofInt a))) (g : cG M Y Bt Hh Rt Rm Ex l s0 D ca sb mi (pc + 3) lv (.long (Int64.ofInt a) :: st) u n P) : cG M Y Bt Hh Rt Rm Ex l s0 D ca sb mi pc lv st u n P :=
  fun p e s m args below meth c Q C hx H locs ls hP hS hL => lv_ldc2 C.1 C.2.2.2.2.2.1 C.2.2.2.2.1 (hw args s C.2.1) hd (g p e s m args below meth c Q C hx H locs ls hP hS hL)
theorem cg_get {ci k ix N a : Nat} {C0 : String} {T : u_T} (hd : decode (Bt mi) pc = .ok (.getfield ix, 3)) (hz : zclo s0 D ty ci C0 T N) (hk : k < N) (hl : zlw s0 (Y mi).cls ix C0 (T k).2.1 (T k).2.2.1) (ha : s0.heap.size + a < u.1) (ht : (u.2 (s0.heap.size + a)).1 = ci) (hn : (u.2 (s0.heap.size + a)).2.1 = N)
    (g : cG M Y Bt Hh Rt Rm Ex l s0 D ca sb mi (pc + 3) lv (avl s0.heap.size u a k :: st) u n P) : cG M Y Bt Hh Rt Rm Ex l s0 D ca sb mi pc lv (.ref (s0.heap.size + a) :: st) u n P := by
  intro p e s m args below meth c Q Cx hx H locs ls hP hS hL
  have hO := zat_o (hP.2.2 (s0.heap.size + a) (Nat.le_add_right _ _) ha) (by rw [ht]; exact hz.1)
  rw [ht, hn] at hO
  exact z_get (T := T) (w := u) Cx.1 Cx.2.2.2.2.2.1 (Ts := u_ws C0 T N) (fun w hw => hz.2.2.1 w hw args s Cx.2.1) (fun w hw => hw) Cx.2.2.2.2.1 (u_Kn_moved Cx.2.1.alike hz.2.1) hO hk (zlw_at hl Cx.2.1) (hz.2.2.2.2.2 k hk) hd (g p e s m args below meth c Q Cx hx H locs ls hP hS hL)
theorem cg_put {ci k ix N a : Nat} {C0 : String} {T : u_T} {v : Value} (hd : decode (Bt mi) pc = .ok (.putfield ix, 3)) (hz : zclo s0 D ty ci C0 T N) (hk : k < N) (hl : zlw s0 (Y mi).cls ix C0 (T k).2.1 (T k).2.2.1) (hfin : (T k).2.2.2 = false ∨ (zh s0 (.fieldLink (Y mi).cls ix C0 (T k).2.1 (T k).2.2.1) ∧ (T k).2.2.2 = true ∧ (Y mi).name = "<init>" ∧ C0 = (Y mi).cls))
    (hn1 : narrow (ty ci k) v = v) (hn2 : fits (ty ci k) v = true) (ha : s0.heap.size + a < u.1) (ht : (u.2 (s0.heap.size + a)).1 = ci) (hn : (u.2 (s0.heap.size + a)).2.1 = N)
    (g : cG M Y Bt Hh Rt Rm Ex l s0 D ca sb mi (pc + 3) lv st (zset u (s0.heap.size + a) k v) n P) : cG M Y Bt Hh Rt Rm Ex l s0 D ca sb mi pc lv (v :: .ref (s0.heap.size + a) :: st) u n P := by
  intro p e s m args below meth c Q Cx hx H locs ls hP hS hL
  refine z_put (T := T) (w := u) Cx.1 Cx.2.2.2.2.2.1 (Ts := u_ws C0 T N) (fun w hw => hz.2.2.1 w hw args s Cx.2.1) (fun w hw => hw) (ty ci) hz.2.2.2.1 hz.2.2.2.2.1 Cx.2.2.2.2.1 hz.1 (u_Kn_moved Cx.2.1.alike hz.2.1) hP hS (Nat.le_add_right _ _) ha ht hn hk (zlw_at hl Cx.2.1) (hz.2.2.2.2.2 k hk) ?_ hn1 hn2 hd (fun H1 locs1 hP1 hS1 => g p e s m args below meth c Q Cx hx H1 locs1 ls hP1 hS1 hL)
  rcases hfin with h | ⟨g1, g2, g3, g4⟩
  · exact Or.inl h
  · exact Or.inr ⟨g1 args s Cx.2.1, g2, Cx.2.2.2.2.2.2.2.2.2.1 g3, g4⟩
theorem jdx {j m : Nat} (h : j < m) (h2 : j ≤ 2147483647) : ¬ (Int32.ofInt (j : Int) < 0 ∨ m ≤ (Int32.ofInt (j : Int)).toNatClampNeg) ∧ (Int32.ofInt (j : Int)).toNatClampNeg = j := by
  have := idx_ok (j := (j : Int)) (n := m) (by omega) (by omega) (by omega)
  exact ⟨this.1, this.2.trans (by omega)⟩
theorem cg_alen {a N : Nat} {t : FieldType} (hd : decode (Bt mi) pc = .ok (.arraylength, 1)) (ha : s0.heap.size + a < u.1) (h1 : 64 ≤ (u.2 (s0.heap.size + a)).1) (h2 : (u.2 (s0.heap.size + a)).1 ≤ 127) (htg : ztg s0 ca (u.2 (s0.heap.size + a)).1 t) (hn : (u.2 (s0.heap.size + a)).2.1 = N)
    (g : cG M Y Bt Hh Rt Rm Ex l s0 D ca sb mi (pc + 1) lv (.int (Int32.ofNat N) :: st) u n P) : cG M Y Bt Hh Rt Rm Ex l s0 D ca sb mi pc lv (.ref (s0.heap.size + a) :: st) u n P := by
  intro p e s m args below meth c Q Cx hx H locs ls hP hS hL
  have hat := zat_a (hP.2.2 (s0.heap.size + a) (Nat.le_add_right _ _) ha) h1 (by omega)
  rw [hn] at hat
  exact W.alen (n := Int32.ofNat N) Cx.1 Cx.2.2.2.2.2.1 hat (arrOfT_moved Cx.2.1.alike htg.2.2.1 _ _) (by rw [arrV_size] <;> rfl) rfl rfl hd (g p e s m args below meth c Q Cx hx H locs ls hP hS hL)
theorem cg_slen (hd : decode (Bt mi) pc = .ok (.arraylength, 1)) (hX : va_X b0 L xs s0 s0.heap) (hL0 : b0 < s0.heap.size) (g : cG M Y Bt Hh Rt Rm Ex l s0 D ca sb mi (pc + 1) lv (.int (Int32.ofNat L) :: st) u n P) : cG M Y Bt Hh Rt Rm Ex l s0 D ca sb mi pc lv (.ref b0 :: st) u n P :=
  fun p e s m args below meth c Q C hx H locs ls hP hS hL => va_slen (H0 := s.heap) (A := fun q => s0.heap.size ≤ q) C.1 C.2.2.2.2.2.1 (va_X.moved C.2.1.alike (hX.kept (C.2.2.2.1 b0 hL0))) (Nat.lt_of_lt_of_le hL0 C.2.2.1) (Nat.not_le.mpr hL0) hS hd (g p e s m args below meth c Q C hx H locs ls hP hS hL)
theorem cg_sld {j : Nat} (hd : decode (Bt mi) pc = .ok (.iaload, 1)) (hX : va_X b0 L xs s0 s0.heap) (hL0 : b0 < s0.heap.size) (hj : j < L) (hj2 : j ≤ 2147483647) (g : cG M Y Bt Hh Rt Rm Ex l s0 D ca sb mi (pc + 1) lv (.int (xs j) :: st) u n P) : cG M Y Bt Hh Rt Rm Ex l s0 D ca sb mi pc lv (.int (Int32.ofInt (j : Int)) :: .ref b0 :: st) u n P := by
  intro p e s m args below meth c Q C hx H locs ls hP hS hL
  obtain ⟨hin, hj9⟩ := jdx hj hj2
  refine va_sld (H0 := s.heap) (A := fun q => s0.heap.size ≤ q) C.1 C.2.2.2.2.2.1 (va_X.moved C.2.1.alike (hX.kept (C.2.2.2.1 b0 hL0))) (Nat.lt_of_lt_of_le hL0 C.2.2.1) (Nat.not_le.mpr hL0) hS hin hd ?_
  rw [hj9]
  exact g p e s m args below meth c Q C hx H locs ls hP hS hL
theorem cg_iald {a j : Nat} (hd : decode (Bt mi) pc = .ok (.iaload, 1)) (ha : s0.heap.size + a < u.1) (htg : ztg s0 ca (u.2 (s0.heap.size + a)).1 .int) (hj : j < (u.2 (s0.heap.size + a)).2.1) (hj2 : j ≤ 2147483647) (g : cG M Y Bt Hh Rt Rm Ex l s0 D ca sb mi (pc + 1) lv (avl s0.heap.size u a j :: st) u n P) : cG M Y Bt Hh Rt Rm Ex l s0 D ca sb mi pc lv (.int (Int32.ofInt (j : Int)) :: .ref (s0.heap.size + a) :: st) u n P := by
  intro p e s m args below meth c Q Cx hx H locs ls hP hS hL
  obtain ⟨hin, hj9⟩ := jdx hj hj2
  have hat := zat_a (hP.2.2 (s0.heap.size + a) (Nat.le_add_right _ _) ha) htg.1 htg.2.1
  exact W.iald Cx.1 Cx.2.2.2.2.2.1 hat (arrOfT_moved Cx.2.1.alike htg.2.2.1 _ _) (fun q => by cases q) (by rw [arrV_size]; exact hin) (by rw [hj9, arrV_read _ _ hj]; rfl) rfl rfl hd (g p e s m args below meth c Q Cx hx H locs ls hP hS hL)
theorem cg_cald {a j : Nat} (hd : decode (Bt mi) pc = .ok (.caload, 1)) (ha : s0.heap.size + a < u.1) (htg : ztg s0 ca (u.2 (s0.heap.size + a)).1 .char) (hj : j < (u.2 (s0.heap.size + a)).2.1) (hj2 : j ≤ 2147483647) (g : cG M Y Bt Hh Rt Rm Ex l s0 D ca sb mi (pc + 1) lv (avl s0.heap.size u a j :: st) u n P) : cG M Y Bt Hh Rt Rm Ex l s0 D ca sb mi pc lv (.int (Int32.ofInt (j : Int)) :: .ref (s0.heap.size + a) :: st) u n P := by
  intro p e s m args below meth c Q Cx hx H locs ls hP hS hL
  obtain ⟨hin, hj9⟩ := jdx hj hj2
  have hat := zat_a (hP.2.2 (s0.heap.size + a) (Nat.le_add_right _ _) ha) htg.1 htg.2.1
  exact W.cald Cx.1 Cx.2.2.2.2.2.1 hat (arrOfT_moved Cx.2.1.alike htg.2.2.1 _ _) (fun q => by cases q) (by rw [arrV_size]; exact hin) (by rw [hj9, arrV_read _ _ hj]; rfl) rfl rfl hd (g p e s m args below meth c Q Cx hx H locs ls hP hS hL)
theorem cg_zald {a j : Nat} (hd : decode (Bt mi) pc = .ok (.baload, 1)) (ha : s0.heap.size + a < u.1) (htg : ztg s0 ca (u.2 (s0.heap.size + a)).1 .boolean) (hj : j < (u.2 (s0.heap.size + a)).2.1) (hj2 : j ≤ 2147483647) (g : cG M Y Bt Hh Rt Rm Ex l s0 D ca sb mi (pc + 1) lv (avl s0.heap.size u a j :: st) u n P) : cG M Y Bt Hh Rt Rm Ex l s0 D ca sb mi pc lv (.int (Int32.ofInt (j : Int)) :: .ref (s0.heap.size + a) :: st) u n P := by
  intro p e s m args below meth c Q Cx hx H locs ls hP hS hL
  obtain ⟨hin, hj9⟩ := jdx hj hj2
  have hat := zat_a (hP.2.2 (s0.heap.size + a) (Nat.le_add_right _ _) ha) htg.1 htg.2.1
  exact W.zald Cx.1 Cx.2.2.2.2.2.1 hat (arrOfT_moved Cx.2.1.alike htg.2.2.1 _ _) (fun q => by cases q) (by rw [arrV_size]; exact hin) (by rw [hj9, arrV_read _ _ hj]; rfl) rfl rfl hd (g p e s m args below meth c Q Cx hx H locs ls hP hS hL)
theorem cg_lald {a j : Nat} (hd : decode (Bt mi) pc = .ok (.laload, 1)) (ha : s0.heap.size + a < u.1) (htg : ztg s0 ca (u.2 (s0.heap.size + a)).1 .long) (hj : j < (u.2 (s0.heap.size + a)).2.1) (hj2 : j ≤ 2147483647) (g : cG M Y Bt Hh Rt Rm Ex l s0 D ca sb mi (pc + 1) lv (avl s0.heap.size u a j :: st) u n P) : cG M Y Bt Hh Rt Rm Ex l s0 D ca sb mi pc lv (.int (Int32.ofInt (j : Int)) :: .ref (s0.heap.size + a) :: st) u n P := by
  intro p e s m args below meth c Q Cx hx H locs ls hP hS hL
  obtain ⟨hin, hj9⟩ := jdx hj hj2
  have hat := zat_a (hP.2.2 (s0.heap.size + a) (Nat.le_add_right _ _) ha) htg.1 htg.2.1
  exact W.lald Cx.1 Cx.2.2.2.2.2.1 hat (arrOfT_moved Cx.2.1.alike htg.2.2.1 _ _) (fun q => by cases q) (by rw [arrV_size]; exact hin) (by rw [hj9, arrV_read _ _ hj]; rfl) rfl rfl hd (g p e s m args below meth c Q Cx hx H locs ls hP hS hL)
theorem cg_aald {a j : Nat} {Cn : String} (hd : decode (Bt mi) pc = .ok (.aaload, 1)) (ha : s0.heap.size + a < u.1) (htg : ztg s0 ca (u.2 (s0.heap.size + a)).1 (.object Cn)) (hj : j < (u.2 (s0.heap.size + a)).2.1) (hj2 : j ≤ 2147483647) (g : cG M Y Bt Hh Rt Rm Ex l s0 D ca sb mi (pc + 1) lv (avl s0.heap.size u a j :: st) u n P) : cG M Y Bt Hh Rt Rm Ex l s0 D ca sb mi pc lv (.int (Int32.ofInt (j : Int)) :: .ref (s0.heap.size + a) :: st) u n P := by
  intro p e s m args below meth c Q Cx hx H locs ls hP hS hL
  obtain ⟨hin, hj9⟩ := jdx hj hj2
  have hat := zat_a (hP.2.2 (s0.heap.size + a) (Nat.le_add_right _ _) ha) htg.1 htg.2.1
  exact W.aald (ty := .object Cn) Cx.1 Cx.2.2.2.2.2.1 hat (arrOfT_moved Cx.2.1.alike htg.2.2.1 _ _) rfl (fun q => by cases q) (by rw [arrV_size]; exact hin) (by rw [hj9, arrV_read _ _ hj]; rfl) rfl rfl hd (g p e s m args below meth c Q Cx hx H locs ls hP hS hL)
theorem cg_iast {a j : Nat} {z : Int32} (hd : decode (Bt mi) pc = .ok (.iastore, 1)) (ha : s0.heap.size + a < u.1) (htg : ztg s0 ca (u.2 (s0.heap.size + a)).1 .int) (hj : j < (u.2 (s0.heap.size + a)).2.1) (hj2 : j ≤ 2147483647) (g : cG M Y Bt Hh Rt Rm Ex l s0 D ca sb mi (pc + 1) lv st (zset u (s0.heap.size + a) j (.int z)) n P) : cG M Y Bt Hh Rt Rm Ex l s0 D ca sb mi pc lv (.int z :: .int (Int32.ofInt (j : Int)) :: .ref (s0.heap.size + a) :: st) u n P := by
  intro p e s m args below meth c Q Cx hx H locs ls hP hS hL
  obtain ⟨hin, hj9⟩ := jdx hj hj2
  have hB : s0.heap.size ≤ s0.heap.size + a := Nat.le_add_right _ _
  have hat := zat_a (hP.2.2 _ hB ha) htg.1 htg.2.1
  refine W.iast Cx.1 Cx.2.2.2.2.2.1 hat (arrOfT_moved Cx.2.1.alike htg.2.2.1 _ _) (fun q => by cases q) (by rw [arrV_size]; exact hin) rfl rfl hd fun H1 e1 z1 o1 => ?_
  rw [hj9] at e1 ⊢
  obtain ⟨k1, k2⟩ := z_elem hP hS hB ha htg.1 htg.2.1 e1 z1 o1
  exact g p e s m args below meth c Q Cx hx H1 _ ls k1 k2 hL
theorem cg_cast {a j : Nat} {z : Int32} (hd : decode (Bt mi) pc = .ok (.castore, 1)) (ha : s0.heap.size + a < u.1) (htg : ztg s0 ca (u.2 (s0.heap.size + a)).1 .char) (hj : j < (u.2 (s0.heap.size + a)).2.1) (hj2 : j ≤ 2147483647) (g : cG M Y Bt Hh Rt Rm Ex l s0 D ca sb mi (pc + 1) lv st (zset u (s0.heap.size + a) j (narrow .char (.int z))) n P) : cG M Y Bt Hh Rt Rm Ex l s0 D ca sb mi pc lv (.int z :: .int (Int32.ofInt (j : Int)) :: .ref (s0.heap.size + a) :: st) u n P := by
  intro p e s m args below meth c Q Cx hx H locs ls hP hS hL
  obtain ⟨hin, hj9⟩ := jdx hj hj2
  have hB : s0.heap.size ≤ s0.heap.size + a := Nat.le_add_right _ _
  have hat := zat_a (hP.2.2 _ hB ha) htg.1 htg.2.1
  refine W.cast Cx.1 Cx.2.2.2.2.2.1 hat (arrOfT_moved Cx.2.1.alike htg.2.2.1 _ _) (fun q => by cases q) (by rw [arrV_size]; exact hin) rfl rfl hd fun H1 e1 z1 o1 => ?_
  rw [hj9] at e1 ⊢
  obtain ⟨k1, k2⟩ := z_elem hP hS hB ha htg.1 htg.2.1 e1 z1 o1
  exact g p e s m args below meth c Q Cx hx H1 _ ls k1 k2 hL
theorem cg_zast {a j : Nat} {z : Int32} (hd : decode (Bt mi) pc = .ok (.bastore, 1)) (ha : s0.heap.size + a < u.1) (htg : ztg s0 ca (u.2 (s0.heap.size + a)).1 .boolean) (hj : j < (u.2 (s0.heap.size + a)).2.1) (hj2 : j ≤ 2147483647) (g : cG M Y Bt Hh Rt Rm Ex l s0 D ca sb mi (pc + 1) lv st (zset u (s0.heap.size + a) j (narrow .boolean (.int z))) n P) : cG M Y Bt Hh Rt Rm Ex l s0 D ca sb mi pc lv (.int z :: .int (Int32.ofInt (j : Int)) :: .ref (s0.heap.size + a) :: st) u n P := by
  intro p e s m args below meth c Q Cx hx H locs ls hP hS hL
  obtain ⟨hin, hj9⟩ := jdx hj hj2
  have hB : s0.heap.size ≤ s0.heap.size + a := Nat.le_add_right _ _
  have hat := zat_a (hP.2.2 _ hB ha) htg.1 htg.2.1
  refine W.zast Cx.1 Cx.2.2.2.2.2.1 hat (arrOfT_moved Cx.2.1.alike htg.2.2.1 _ _) (fun q => by cases q) (by rw [arrV_size]; exact hin) rfl rfl hd fun H1 e1 z1 o1 => ?_
  rw [hj9] at e1 ⊢
  obtain ⟨k1, k2⟩ := z_elem hP hS hB ha htg.1 htg.2.1 e1 z1 o1
  exact g p e s m args below meth c Q Cx hx H1 _ ls k1 k2 hL
theorem cg_last {a j : Nat} {z : Int64} (hd : decode (Bt mi) pc = .ok (.lastore, 1)) (ha : s0.heap.size + a < u.1) (htg : ztg s0 ca (u.2 (s0.heap.size + a)).1 .long) (hj : j < (u.2 (s0.heap.size + a)).2.1) (hj2 : j ≤ 2147483647) (g : cG M Y Bt Hh Rt Rm Ex l s0 D ca sb mi (pc + 1) lv st (zset u (s0.heap.size + a) j (.long z)) n P) : cG M Y Bt Hh Rt Rm Ex l s0 D ca sb mi pc lv (.long z :: .int (Int32.ofInt (j : Int)) :: .ref (s0.heap.size + a) :: st) u n P := by
  intro p e s m args below meth c Q Cx hx H locs ls hP hS hL
  obtain ⟨hin, hj9⟩ := jdx hj hj2
  have hB : s0.heap.size ≤ s0.heap.size + a := Nat.le_add_right _ _
  have hat := zat_a (hP.2.2 _ hB ha) htg.1 htg.2.1
  refine W.last Cx.1 Cx.2.2.2.2.2.1 hat (arrOfT_moved Cx.2.1.alike htg.2.2.1 _ _) (fun q => by cases q) (by rw [arrV_size]; exact hin) rfl rfl hd fun H1 e1 z1 o1 => ?_
  rw [hj9] at e1 ⊢
  obtain ⟨k1, k2⟩ := z_elem hP hS hB ha htg.1 htg.2.1 e1 z1 o1
  exact g p e s m args below meth c Q Cx hx H1 _ ls k1 k2 hL
end CH
