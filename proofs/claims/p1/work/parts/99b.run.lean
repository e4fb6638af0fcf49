noncomputable def xone (o : Option (List xL)) : Bool := match o with
  | some l => l.all (fun q => Nat.beq q.2.1.1 1)
  | none => false
theorem tst_a : xone (xrun tM 3000 1 (0, [(0, (3, .ofNat 0, .ofNat 0))], [], 0, 0) (1, zput 11 (zemp xC 11) 0 (0, td_0.1, (2, .ofNat 0, .ofNat 0), td_0.2)) []) = true := by decide +kernel
theorem tst_b : xone (xrun tM 3000 17 (0, [(0, (3, .ofNat 0, .ofNat 0))], [], 0, 0) (1, zput 11 (zemp xC 11) 0 (3, td_3.1, (2, .ofNat 0, .ofNat 0), td_3.2)) []) = true := by decide +kernel
