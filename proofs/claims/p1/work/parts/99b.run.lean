/-! THE WHOLE RUN OF SYMBOLS -/
noncomputable def xall1 (o : Option (List xL)) : Bool := match o with
  | some l => l.all (fun q => Nat.beq q.2.1.1 0 && Nat.beq q.2.1.2.1 0 && ieq q.2.1.2.2.1 (.ofNat 1))
  | none => false
set_option maxRecDepth 100000 in
theorem trun : xall1 (xrun tM 5000 0 (0, [(0, (7, .ofNat 0, .ofNat 0))], [], 0, 0) (0, zemp xC 11) [(10, .ofNat 0, .ofNat 10), (11, .negSucc 9, .ofNat 0), (12, .ofNat 0, .ofNat 15)]) = true := by decide +kernel
