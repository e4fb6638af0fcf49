/-! THE RUN ON FORMS: values (kind, group, form): 0 int, 1 long, 2 a comparison of longs, 3 a reference (its place), 4 a literal, 5 some reference, 6 the script (its length) -/
abbrev aV : Type := Nat × Nat × aF
abbrev aX : Type := Nat × aF × aF × aV
/-- facts, box, count of atoms, what holds among atoms, five marks -/
abbrev aZ : Type := List aX × aB × Nat × List aF × Bool × Bool × Option aF × Bool × aF
abbrev zfx (z : aZ) : List aX := z.1
abbrev zb (z : aZ) : aB := z.2.1
abbrev zn (z : aZ) : Nat := z.2.2.1
abbrev zc (z : aZ) : List aF := z.2.2.2.1
abbrev z1 (z : aZ) : Bool := z.2.2.2.2.1
abbrev z2 (z : aZ) : Bool := z.2.2.2.2.2.1
abbrev z3 (z : aZ) : Option aF := z.2.2.2.2.2.2.1
abbrev z4 (z : aZ) : Bool := z.2.2.2.2.2.2.2.1
abbrev zf (z : aZ) : aF := z.2.2.2.2.2.2.2.2
noncomputable def zsX (z : aZ) (x : List aX) : aZ := (x, z.2)
noncomputable def zsN (z : aZ) (n : Nat) (b : aB) : aZ := (z.1, b, n, z.2.2.2)
noncomputable def zsB (z : aZ) (b : aB) : aZ := (z.1, b, z.2.2)
noncomputable def zsC (z : aZ) (b : aB) (cs : List aF) : aZ := (z.1, b, z.2.2.1, cs, z.2.2.2.2)
noncomputable def zs1 (z : aZ) (f : Bool) : aZ := (z.1, z.2.1, z.2.2.1, z.2.2.2.1, f, z.2.2.2.2.2)
noncomputable def zs2 (z : aZ) (f : Bool) : aZ := (z.1, z.2.1, z.2.2.1, z.2.2.2.1, z.2.2.2.2.1, f, z.2.2.2.2.2.2)
noncomputable def zs3 (z : aZ) (f : Option aF) : aZ := (z.1, z.2.1, z.2.2.1, z.2.2.2.1, z.2.2.2.2.1, z.2.2.2.2.2.1, f, z.2.2.2.2.2.2.2)
noncomputable def zs4 (z : aZ) (f : Bool) (c : aF) : aZ := (z.1, z.2.1, z.2.2.1, z.2.2.2.1, z.2.2.2.2.1, z.2.2.2.2.2.1, z.2.2.2.2.2.2.1, f, c)
noncomputable def akc (n : Int) : aF := (n, [])
noncomputable def aat (i : Nat) : aF := (0, [(i, 1)])
noncomputable def afr (z : aZ) (lo hi : Int) : aF × aZ := bif ieq lo hi then ((lo, []), z) else ((0, [((zn z), 1)]), zsN z ((zn z) + 1) (((zn z), lo, hi) :: (zb z)))
noncomputable def afact (z : aZ) (q : aX) : aZ := zsX z (q :: (zfx z))
noncomputable def awit (z : aZ) (f : aF) (lo hi : Int) : Bool := awithin (zb z) (zc z) f lo hi
noncomputable def aprv (z : aZ) (f : aF) : Bool := prov (zb z) (zc z) f
noncomputable def aass (z : aZ) (f : aF) : Option aZ := match leR (zb z) f with
  | none => none
  | some b => (match f.2 with
    | _ :: _ :: _ => bif aprv z (fk (fsc f (-1)) 1) then none else some (zsC z b (f :: (zc z)))
    | _ => some (zsB z b))
noncomputable def aass2 (z : aZ) (f g : aF) : Option aZ := match aass z f with
  | none => none
  | some z => aass z g
/-- comparison n of the form with 0: 0 eq, 1 ne, 2 lt, 3 ge, 4 gt, 5 le -/
noncomputable def acne (z : aZ) (l : aF) : Option aZ := match rng (zb z) l with
  | none => some z
  | some p => bif ieq p.1 0 then (bif ieq p.2 0 then none else aass z (fk (fsc l (-1)) 1)) else bif ieq p.2 0 then aass z (fk l 1) else some z
noncomputable def acnd (n : Nat) (z : aZ) (l : aF) : Option aZ :=
  bif Nat.beq n 0 then aass2 z l (fsc l (-1)) else bif Nat.beq n 1 then acne z l else bif Nat.beq n 2 then aass z (fk l 1) else bif Nat.beq n 3 then aass z (fsc l (-1)) else bif Nat.beq n 4 then aass z (fk (fsc l (-1)) 1) else aass z l
noncomputable def aneg (n : Nat) : Nat := bif Nat.beq n 0 then 1 else bif Nat.beq n 1 then 0 else bif Nat.beq n 2 then 3 else bif Nat.beq n 3 then 2 else bif Nat.beq n 4 then 5 else 4
noncomputable def afit (z : aZ) (v : aV) (p : aP) : Bool := bif Nat.beq p.1 3 then Nat.beq v.1 3 && Nat.beq v.2.1 p.2.1 else Nat.beq v.1 p.1 && awit z v.2.2 p.2.2.1 p.2.2.2
noncomputable def aresL (m : Int) (l : List (Nat × Int)) : List (Nat × Int) := match l with
  | [] => []
  | q :: r => bif ieq (q.2 % m) 0 then aresL m r else q :: aresL m r
noncomputable def ares (b : aB) (f : aF) (m : Int) : Option (Int × Int) := match rng b (f.1, aresL m f.2) with
  | none => none
  | some p => bif ieq (p.1 / m) (p.2 / m) then some (p.1 % m, p.2 % m) else none
noncomputable def arsp (b : aB) (i : aF) (l : List aE) : Option aP := match l with
  | [] => none
  | e :: r => (match ares b i (Int.ofNat e.1) with
    | none => arsp b i r
    | some p => bif ile (Int.ofNat e.2.1) p.1 && ile p.2 (Int.ofNat e.2.2.1) then some e.2.2.2 else arsp b i r)
noncomputable def awsp (z : aZ) (i : aF) (v : aV) (l : List aE) : Bool := match l with
  | [] => true
  | e :: r => (match ares (zb z) i (Int.ofNat e.1) with
    | none => afit z v e.2.2.2
    | some p => bif ile p.1 (Int.ofNat e.2.2.1) && ile (Int.ofNat e.2.1) p.2 then afit z v e.2.2.2 else true) && awsp z i v r
noncomputable def alkL (l : List aX) (g : Nat) (a i : aF) : Option aV := match l with
  | [] => none
  | q :: r => bif Nat.beq q.1 g && feq q.2.1 a && feq q.2.2.1 i then some q.2.2.2 else alkL r g a i
noncomputable def alk (z : aZ) (g : Nat) (a i : aF) : Option aV := alkL (zfx z) g a i
noncomputable def amk (z : aZ) (p : aP) : aV × aZ := bif Nat.beq p.1 3 then (match aSG p.2.1 with
    | some a => ((3, p.2.1, ((Int.ofNat a), [])), z)
    | none => ((3, p.2.1, (afr z 0 (Int.ofNat aN0 - 1)).1), (afr z 0 (Int.ofNat aN0 - 1)).2))
  else ((p.1, 0, (afr z p.2.2.1 p.2.2.2).1), (afr z p.2.2.1 p.2.2.2).2)
/-- a plain read -/
noncomputable def ard0 (z : aZ) (g : Nat) (a i : aF) : Option (aV × aZ) := match alk z g a i with
  | some v => some (v, z)
  | none => (match arsp (zb z) i (aSP g) with
    | none => none
    | some p => some ((amk z p).1, afact (amk z p).2 (g, a, i, (amk z p).1)))
noncomputable def ainb (z : aZ) (g : Nat) (i : aF) : Bool := awit z i 0 (Int.ofNat (aLN g) - 1)
noncomputable def adiL (m : Int) (l : List (Nat × Int)) : Option (List (Nat × Int)) := match l with
  | [] => some []
  | q :: r => bif ieq (q.2 % m) 0 then (match adiL m r with
      | none => none
      | some t => some ((q.1, q.2 / m) :: t)) else none
noncomputable def adiv (m : Int) (f : aF) : Option aF := bif ieq (f.1 % m) 0 then (match adiL m f.2 with
    | none => none
    | some t => some (f.1 / m, t)) else none
/-- the count of rows of image j -/
noncomputable def acnt (z : aZ) (j : Nat) : Option aF := match alk z gC (Int.ofNat oC, []) (Int.ofNat j, []) with
  | some v => bif Nat.beq v.1 0 then some v.2.2 else none
  | none => none
noncomputable def alive (z : aZ) (k : aF) : Bool := bif awit z k 0 59 then (match acnt z 0 with
    | none => false
    | some c => aprv z (fk (fsub k c) 1)) else bif awit z k 60 119 then (match acnt z 1 with
    | none => false
    | some c => aprv z (fk (fsub (fk k (-60)) c) 1)) else false
/-- the first or the second mark's field: 0; or 1, and a row is free -/
noncomputable def ardO (z : aZ) (a i : aF) (j : Nat) : Option (List (aV × aZ)) := match ard0 (afact z (gM, a, i, (0, 0, (1, [])))) gC (Int.ofNat oC, []) (Int.ofNat j, []) with
  | none => none
  | some q => bif Nat.beq q.1.1 0 then (match aass q.2 (fk q.1.2.2 (-59)) with
    | none => some [((0, 0, (0, [])), afact z (gM, a, i, (0, 0, (0, []))))]
    | some z2 => some [((0, 0, (0, [])), afact z (gM, a, i, (0, 0, (0, [])))), ((0, 0, (1, [])), z2)]) else none
/-- a shape: 0 or 1; or 2 -/
noncomputable def ardS (z : aZ) (a i : aF) : Option (List (aV × aZ)) :=
  some [((0, 0, (afr z 0 1).1), afact (afr z 0 1).2 (gS, a, i, (0, 0, (afr z 0 1).1))), ((0, 0, (2, [])), afact z (gS, a, i, (0, 0, (2, []))))]
noncomputable def aIs2 (o : Option aV) : Bool := match o with
  | some v => Nat.beq v.1 0 && feq v.2.2 (2, [])
  | none => false
noncomputable def ardZ (z : aZ) (i : aF) : Bool := match adiv 2 i with
  | none => false
  | some h => (match (z3 z) with
    | none => true
    | some f => apart (zb z) h f) && aIs2 (alk z gS (Int.ofNat oS, []) h)
/-- the aperture of a row that is live -/
noncomputable def ardA (z : aZ) (a i : aF) : Option (List (aV × aZ)) := match ard0 z gO (Int.ofNat oO, []) (fk i (-2)) with
  | none => none
  | some q => some ((match aass q.2 (fk q.1.2.2 (-1)) with
      | none => []
      | some w => [((1, 0, (afr w 10 29).1), afact (afr w 10 29).2 (gO, a, i, (1, 0, (afr w 10 29).1)))]) ++
    (match aass q.2 (fk (fsc q.1.2.2 (-1)) 2) with
      | none => []
      | some w => [((1, 0, (-1, [])), afact w (gO, a, i, (1, 0, (-1, []))))]))
noncomputable def ardAq (z : aZ) (i : aF) : Bool := match adiv 45 (fk i (-2)) with
  | none => false
  | some k => (!(z4 z) || awit z k 60 119) && alive z k
noncomputable def ard1 (z : aZ) (g : Nat) (a i : aF) : Option (List (aV × aZ)) := match ard0 z g a i with
  | none => none
  | some q => some [q]
noncomputable def ard (z : aZ) (g : Nat) (a i : aF) : Option (List (aV × aZ)) := match alk z g a i with
  | some v => some [(v, z)]
  | none => bif Nat.beq g gM then (bif feq i (Int.ofNat kOpen, []) && !(z1 z) then ardO z a i 0 else bif feq i (Int.ofNat kIn, []) && !(z2 z) then ardO z a i 1 else ard1 z g a i)
    else bif Nat.beq g gS then ardS z a i
    else bif Nat.beq g gZ && ardZ z i then some [((1, 0, (afr z 0 4).1), afact (afr z 0 4).2 (gZ, a, i, (1, 0, (afr z 0 4).1)))]
    else bif Nat.beq g gO && ardAq z i then ardA z a i
    else ard1 z g a i
/-! writing -/
noncomputable def arow (z : aZ) (k : aF) : Bool := match alk z gO (Int.ofNat oO, []) (fsc k 45), alk z gO (Int.ofNat oO, []) (fk (fsc k 45) 2) with
  | some d, some p => (awit z d.2.2 0 1 && awit z p.2.2 10 29) || (awit z d.2.2 2 2 && awit z p.2.2 (-1) (-1))
  | _, _ => false
noncomputable def aveqs (v w : aV) : Bool := Nat.beq v.1 w.1 && Nat.beq v.2.1 w.2.1 && feq v.2.2 w.2.2
noncomputable def aIsV (o : Option aV) (v : aV) : Bool := match o with
  | some w => aveqs w v
  | none => false
noncomputable def acopy (z : aZ) (g : Nat) (i : aF) (v : aV) : Bool := Nat.beq g gO && aIsV (alk z gO (Int.ofNat oO, []) (fk i 2700)) v && awit z i 0 2699
noncomputable def adrop (b : aB) (g : Nat) (i : aF) (l : List aX) : List aX := match l with
  | [] => []
  | q :: r => bif Nat.beq q.1 g && !(apart b q.2.2.1 i) then adrop b g i r else q :: adrop b g i r
noncomputable def aset (z : aZ) (g : Nat) (a i : aF) (v : aV) : aZ := zsX z ((g, a, i, v) :: adrop (zb z) g i (zfx z))
/-- the count of image j is below 60 -/
noncomputable def afree (z : aZ) (j : Nat) : Bool := match acnt z j with
  | some c => awit z c 0 59
  | none => false
/-- that field is written -/
noncomputable def awO (z : aZ) (v : aV) (j : Nat) : Bool := feq v.2.2 (0, []) || afree z j
/-- the count of image j is written -/
noncomputable def awC1 (z : aZ) (v : aV) (j : Nat) : Bool := awit z v.2.2 0 59 || aIsV (alk z gM (Int.ofNat oM, []) (Int.ofNat (bif Nat.beq j 0 then kOpen else kIn), [])) (0, 0, (0, []))
noncomputable def awC2 (z : aZ) (v : aV) (j : Nat) : Bool := feq v.2.2 (0, []) || (match acnt z j with
  | some c => feq (fsub v.2.2 c) (1, []) && arow z (fk c (Int.ofNat (60 * j)))
  | none => false)
noncomputable def awC (z : aZ) (a i : aF) (v : aV) : Option aZ :=
  bif feq i (0, []) then
    (bif awC2 z v 0 && !((z4 z) && !(feq v.2.2 (0, []))) then some (zs4 (zs1 (aset z gC a i v) ((z1 z) || !(awC1 z v 0))) ((z4 z) && !(feq v.2.2 (0, []))) (zf z))
      else some (zs4 (zs1 (aset z gC a i v) ((z1 z) || !(awC1 z v 0))) true (0, [])))
  else bif feq i (1, []) then (bif awC2 z v 1 then some (zs2 (aset z gC a i v) ((z2 z) || !(awC1 z v 1))) else none)
  else none
noncomputable def af3 (o : Option aF) (i : aF) : Bool := match o with
  | none => true
  | some f => feq f i
noncomputable def af3c (o : Option aF) (i : aF) : Option aF := match o with
  | none => none
  | some f => bif feq f i then none else some f
noncomputable def awS (z : aZ) (a i : aF) (v : aV) : Option aZ :=
  bif awit z v.2.2 0 1 || (match alk z gZ (Int.ofNat oZ, []) (fsc i 2) with
    | some w => awit z w.2.2 0 4
    | none => false) then some (zs3 (aset z gS a i v) (af3c (z3 z) i))
  else bif af3 (z3 z) i then some (zs3 (aset z gS a i v) (some i)) else none
noncomputable def aodd (i : aF) : Bool := ieq (i.1 % 2) 1 && (match adiL 2 i.2 with
  | some _ => true
  | none => false)
noncomputable def awZ (z : aZ) (a i : aF) (v : aV) : Option aZ := match adiv 2 i with
  | none => bif aodd i then some (aset z gZ a i v) else none
  | some h => bif awit z v.2.2 0 4 || (match alk z gS (Int.ofNat oS, []) h with
      | some w => Nat.beq w.1 0 && awit z w.2.2 0 1
      | none => false) then some (zs3 (aset z gZ a i v) (af3c (z3 z) h))
    else bif af3 (z3 z) h then some (zs3 (aset z gZ a i v) (some h)) else none
/-- a row that is not live may be written -/
noncomputable def adead (z : aZ) (i : aF) (c : Int) : Bool := match adiv 45 (fk i (-c)) with
  | none => false
  | some k => bif awit z k 0 59 then (match acnt z 0 with
      | some o => aprv z (fsub o k)
      | none => false) else bif awit z k 60 119 then (match acnt z 1 with
      | some o => aprv z (fsub (fk o 60) k)
      | none => false) else false
noncomputable def awOok (z : aZ) (i : aF) : Bool := match ares (zb z) i 45 with
  | none => (z4 z) && awit z i 0 2699
  | some r => (!(ieq r.1 0) && !(ile r.1 2 && ile 2 r.2)) || ((z4 z) && awit z i 0 2699) || adead z i 0 || adead z i 2
noncomputable def awOb (z : aZ) (a i : aF) (v : aV) : Option aZ := bif awOok z i then some (zs4 (aset z gO a i v) (z4 z) (bif acopy z gO i v && feq (zf z) i then fk i 1 else (0, []))) else none
noncomputable def fcon (i : aF) : Bool := match i.2 with
  | [] => true
  | _ :: _ => false
noncomputable def awr (z : aZ) (g : Nat) (a i : aF) (v : aV) : Option aZ := bif acopy z g i v || awsp z i v (aSP g) then
    (bif Nat.beq g gM then (bif feq i (Int.ofNat kOpen, []) then (bif awO z v 0 then some (zs1 (aset z g a i v) false) else none) else bif feq i (Int.ofNat kIn, []) then (bif awO z v 1 then some (zs2 (aset z g a i v) false) else none) else bif fcon i then some (aset z g a i v) else none)
      else bif Nat.beq g gC then awC z a i v
      else bif Nat.beq g gS then awS z a i v
      else bif Nat.beq g gZ then awZ z a i v
      else bif Nat.beq g gO then awOb z a i v
      else some (aset z g a i v))
  else none
noncomputable def amd (md : List (Nat × Int)) (g : Nat) (i : aF) : Bool := match md with
  | [] => false
  | q :: r => (Nat.beq q.1 g && (ieq q.2 (-1) || feq i (q.2, []))) || amd r g i
