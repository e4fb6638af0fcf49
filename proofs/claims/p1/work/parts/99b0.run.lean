/-! THE RUN OF SYMBOLS, its first words 0 to 5 -/
noncomputable def xall1 (o : Option (List xL)) : Bool := match o with
  | some l => l.all (fun q => Nat.beq q.2.1.1 0 && Nat.beq q.2.1.2.1 0 && ieq q.2.1.2.2.1 (.ofNat 1))
  | none => false
noncomputable def xbox (lo hi : Nat) : xB := [(10, .ofNat 0, .ofNat 10), (11, .negSucc 9, .ofNat 0), (12, .ofNat lo, .ofNat hi)]
noncomputable def xtop (lo hi : Nat) : Option (List xL) := xrun tM 5000 0 (0, [(0, (7, .ofNat 0, .ofNat 0))], [], 0, 0) (0, zemp xC 11) (xbox lo hi)
set_option maxRecDepth 100000 in
theorem trun_0 : xall1 (xtop 0 5) = true := by decide +kernel
