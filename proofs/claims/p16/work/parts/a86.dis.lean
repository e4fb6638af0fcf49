/-! the instruction behind a number, and what its words must say -/
noncomputable def zin2 (e : xE) : Option Instr := match e.1 with
  | 64 => some .ladd
  | 65 => some .lsub
  | 66 => some .lmul
  | 67 => some .idiv
  | 68 => some .irem
  | 69 => some .ldiv
  | 70 => some .lrem
  | 71 => some .lshr
  | 72 => some .ineg
  | 73 => some (.lookupswitch e.2.2.2.2.1 (apr2 e.2.2.2.2.2).toArray)
  | 74 => some (.invokestatic e.2.2.2.2.1.toNat)
  | 75 => some (.invokevirtual e.2.2.2.2.1.toNat)
  | 76 => some (.ldc e.2.1)
  | 77 => some .lneg
  | 78 => some (.if_icmp (xco e.2.1) e.2.2.2.2.1)
  | 79 => some .land
  | 80 => some .lshl
  | 81 => some .lor
  | 82 => some (.ifCond (xco e.2.1) e.2.2.2.2.1)
  | _ => zins e
def zln2 (n : Nat) : Nat := match n with
  | 64 => 1
  | 65 => 1
  | 66 => 1
  | 67 => 1
  | 68 => 1
  | 69 => 1
  | 70 => 1
  | 71 => 1
  | 72 => 1
  | 73 => 0
  | 74 => 3
  | 75 => 3
  | 76 => 2
  | 77 => 1
  | 78 => 3
  | 79 => 1
  | 80 => 1
  | 81 => 1
  | 82 => 3
  | n => zlnn n
noncomputable def adq_0_1 (M : xM) (sb : Nat → Nat) (ct : Nat → List aC) (md : List (Nat × Int)) (e : xE) (mi : Nat) (S : aS) : Option aR := bif Nat.ble e.1 0 then (aload aKI e.2.1 1 S) else (aload aKI e.2.1 2 S)
noncomputable def adq_0_2 (M : xM) (sb : Nat → Nat) (ct : Nat → List aC) (md : List (Nat × Int)) (e : xE) (mi : Nat) (S : aS) : Option aR := bif Nat.ble e.1 1 then (adq_0_1 M sb ct md e mi S) else (aload aKJ e.2.1 1 S)
noncomputable def adq_3_4 (M : xM) (sb : Nat → Nat) (ct : Nat → List aC) (md : List (Nat × Int)) (e : xE) (mi : Nat) (S : aS) : Option aR := bif Nat.ble e.1 3 then (aload aKJ e.2.1 2 S) else (aload aKR e.2.1 1 S)
noncomputable def adq_3_5 (M : xM) (sb : Nat → Nat) (ct : Nat → List aC) (md : List (Nat × Int)) (e : xE) (mi : Nat) (S : aS) : Option aR := bif Nat.ble e.1 4 then (adq_3_4 M sb ct md e mi S) else (aload aKR e.2.1 2 S)
noncomputable def adq_0_5 (M : xM) (sb : Nat → Nat) (ct : Nat → List aC) (md : List (Nat × Int)) (e : xE) (mi : Nat) (S : aS) : Option aR := bif Nat.ble e.1 2 then (adq_0_2 M sb ct md e mi S) else (adq_3_5 M sb ct md e mi S)
noncomputable def adq_6_7 (M : xM) (sb : Nat → Nat) (ct : Nat → List aC) (md : List (Nat × Int)) (e : xE) (mi : Nat) (S : aS) : Option aR := bif Nat.ble e.1 6 then (astor aKI false e.2.1 1 (M.2.1 mi) S) else (astor aKI false e.2.1 2 (M.2.1 mi) S)
noncomputable def adq_6_8 (M : xM) (sb : Nat → Nat) (ct : Nat → List aC) (md : List (Nat × Int)) (e : xE) (mi : Nat) (S : aS) : Option aR := bif Nat.ble e.1 7 then (adq_6_7 M sb ct md e mi S) else (astor aKJ true e.2.1 1 (M.2.1 mi) S)
noncomputable def adq_9_10 (M : xM) (sb : Nat → Nat) (ct : Nat → List aC) (md : List (Nat × Int)) (e : xE) (mi : Nat) (S : aS) : Option aR := bif Nat.ble e.1 9 then (astor aKJ true e.2.1 2 (M.2.1 mi) S) else (astor aKR false e.2.1 1 (M.2.1 mi) S)
noncomputable def adq_6_10 (M : xM) (sb : Nat → Nat) (ct : Nat → List aC) (md : List (Nat × Int)) (e : xE) (mi : Nat) (S : aS) : Option aR := bif Nat.ble e.1 8 then (adq_6_8 M sb ct md e mi S) else (adq_9_10 M sb ct md e mi S)
noncomputable def adq_0_10 (M : xM) (sb : Nat → Nat) (ct : Nat → List aC) (md : List (Nat × Int)) (e : xE) (mi : Nat) (S : aS) : Option aR := bif Nat.ble e.1 5 then (adq_0_5 M sb ct md e mi S) else (adq_6_10 M sb ct md e mi S)
noncomputable def adq_11_12 (M : xM) (sb : Nat → Nat) (ct : Nat → List aC) (md : List (Nat × Int)) (e : xE) (mi : Nat) (S : aS) : Option aR := bif Nat.ble e.1 11 then (astor aKR false e.2.1 2 (M.2.1 mi) S) else (ainc e.2.1 e.2.2.2.2.1 (M.2.1 mi) S)
noncomputable def adq_11_13 (M : xM) (sb : Nat → Nat) (ct : Nat → List aC) (md : List (Nat × Int)) (e : xE) (mi : Nat) (S : aS) : Option aR := bif Nat.ble e.1 12 then (adq_11_12 M sb ct md e mi S) else (aif e.2.1 e.2.2.2.2.1 S)
noncomputable def adq_14_15 (M : xM) (sb : Nat → Nat) (ct : Nat → List aC) (md : List (Nat × Int)) (e : xE) (mi : Nat) (S : aS) : Option aR := bif Nat.ble e.1 14 then (aicm e.2.1 e.2.2.2.2.1 S) else (agot e.2.2.2.2.1 S)
noncomputable def adq_11_15 (M : xM) (sb : Nat → Nat) (ct : Nat → List aC) (md : List (Nat × Int)) (e : xE) (mi : Nat) (S : aS) : Option aR := bif Nat.ble e.1 13 then (adq_11_13 M sb ct md e mi S) else (adq_14_15 M sb ct md e mi S)
noncomputable def adq_16_17 (M : xM) (sb : Nat → Nat) (ct : Nat → List aC) (md : List (Nat × Int)) (e : xE) (mi : Nat) (S : aS) : Option aR := bif Nat.ble e.1 16 then ((bif ieq (e.2.2.2.2.2.getD 1 0 - e.2.2.2.2.2.getD 0 0 + 1) (Int.ofNat (alen (e.2.2.2.2.2.drop 2))) then asw e.2.2.2.2.1 (aprs (e.2.2.2.2.2.getD 0 0) (e.2.2.2.2.2.drop 2)) S else none)) else (agf e.2.1 e.2.2.1 (e.2.2.2.1 / 16) S)
noncomputable def adq_16_18 (M : xM) (sb : Nat → Nat) (ct : Nat → List aC) (md : List (Nat × Int)) (e : xE) (mi : Nat) (S : aS) : Option aR := bif Nat.ble e.1 17 then (adq_16_17 M sb ct md e mi S) else (apf md e.2.1 e.2.2.1 (e.2.2.2.1 / 16) (e.2.2.2.1 % 16) S)
noncomputable def adq_19_20 (M : xM) (sb : Nat → Nat) (ct : Nat → List aC) (md : List (Nat × Int)) (e : xE) (mi : Nat) (S : aS) : Option aR := bif Nat.ble e.1 19 then (apsh 2 (inI e.2.2.2.2.1) (0, 0, (e.2.2.2.2.1, [])) S) else (apsh 3 (inJ e.2.2.2.2.1) (1, 0, (e.2.2.2.2.1, [])) S)
noncomputable def adq_16_20 (M : xM) (sb : Nat → Nat) (ct : Nat → List aC) (md : List (Nat × Int)) (e : xE) (mi : Nat) (S : aS) : Option aR := bif Nat.ble e.1 18 then (adq_16_18 M sb ct md e mi S) else (adq_19_20 M sb ct md e mi S)
noncomputable def adq_11_20 (M : xM) (sb : Nat → Nat) (ct : Nat → List aC) (md : List (Nat × Int)) (e : xE) (mi : Nat) (S : aS) : Option aR := bif Nat.ble e.1 15 then (adq_11_15 M sb ct md e mi S) else (adq_16_20 M sb ct md e mi S)
noncomputable def adq_0_20 (M : xM) (sb : Nat → Nat) (ct : Nat → List aC) (md : List (Nat × Int)) (e : xE) (mi : Nat) (S : aS) : Option aR := bif Nat.ble e.1 10 then (adq_0_10 M sb ct md e mi S) else (adq_11_20 M sb ct md e mi S)
noncomputable def adq_21_22 (M : xM) (sb : Nat → Nat) (ct : Nat → List aC) (md : List (Nat × Int)) (e : xE) (mi : Nat) (S : aS) : Option aR := bif Nat.ble e.1 21 then (aaln S) else (aalI S)
noncomputable def adq_21_23 (M : xM) (sb : Nat → Nat) (ct : Nat → List aC) (md : List (Nat × Int)) (e : xE) (mi : Nat) (S : aS) : Option aR := bif Nat.ble e.1 22 then (adq_21_22 M sb ct md e mi S) else (aal 65 65 S)
noncomputable def adq_24_25 (M : xM) (sb : Nat → Nat) (ct : Nat → List aC) (md : List (Nat × Int)) (e : xE) (mi : Nat) (S : aS) : Option aR := bif Nat.ble e.1 24 then (aal 66 66 S) else (aal 67 67 S)
noncomputable def adq_24_26 (M : xM) (sb : Nat → Nat) (ct : Nat → List aC) (md : List (Nat × Int)) (e : xE) (mi : Nat) (S : aS) : Option aR := bif Nat.ble e.1 25 then (adq_24_25 M sb ct md e mi S) else (aal 68 100 S)
noncomputable def adq_21_26 (M : xM) (sb : Nat → Nat) (ct : Nat → List aC) (md : List (Nat × Int)) (e : xE) (mi : Nat) (S : aS) : Option aR := bif Nat.ble e.1 23 then (adq_21_23 M sb ct md e mi S) else (adq_24_26 M sb ct md e mi S)
noncomputable def adq_27_28 (M : xM) (sb : Nat → Nat) (ct : Nat → List aC) (md : List (Nat × Int)) (e : xE) (mi : Nat) (S : aS) : Option aR := bif Nat.ble e.1 27 then (aas md 64 0 S) else (aas md 65 4 S)
noncomputable def adq_27_29 (M : xM) (sb : Nat → Nat) (ct : Nat → List aC) (md : List (Nat × Int)) (e : xE) (mi : Nat) (S : aS) : Option aR := bif Nat.ble e.1 28 then (adq_27_28 M sb ct md e mi S) else (aas md 66 1 S)
noncomputable def adq_30_31 (M : xM) (sb : Nat → Nat) (ct : Nat → List aC) (md : List (Nat × Int)) (e : xE) (mi : Nat) (S : aS) : Option aR := bif Nat.ble e.1 30 then (aas md 67 2 S) else none
noncomputable def adq_27_31 (M : xM) (sb : Nat → Nat) (ct : Nat → List aC) (md : List (Nat × Int)) (e : xE) (mi : Nat) (S : aS) : Option aR := bif Nat.ble e.1 29 then (adq_27_29 M sb ct md e mi S) else (adq_30_31 M sb ct md e mi S)
noncomputable def adq_21_31 (M : xM) (sb : Nat → Nat) (ct : Nat → List aC) (md : List (Nat × Int)) (e : xE) (mi : Nat) (S : aS) : Option aR := bif Nat.ble e.1 26 then (adq_21_26 M sb ct md e mi S) else (adq_27_31 M sb ct md e mi S)
noncomputable def adq_32_33 (M : xM) (sb : Nat → Nat) (ct : Nat → List aC) (md : List (Nat × Int)) (e : xE) (mi : Nat) (S : aS) : Option aR := bif Nat.ble e.1 32 then none else (athr e.2.1 (M.2.2.1 mi) S)
noncomputable def adq_32_34 (M : xM) (sb : Nat → Nat) (ct : Nat → List aC) (md : List (Nat × Int)) (e : xE) (mi : Nat) (S : aS) : Option aR := bif Nat.ble e.1 33 then (adq_32_33 M sb ct md e mi S) else none
noncomputable def adq_35_36 (M : xM) (sb : Nat → Nat) (ct : Nat → List aC) (md : List (Nat × Int)) (e : xE) (mi : Nat) (S : aS) : Option aR := bif Nat.ble e.1 35 then none else (acll M sb ct md false e.2.1 e.2.2.1 mi S)
noncomputable def adq_32_36 (M : xM) (sb : Nat → Nat) (ct : Nat → List aC) (md : List (Nat × Int)) (e : xE) (mi : Nat) (S : aS) : Option aR := bif Nat.ble e.1 34 then (adq_32_34 M sb ct md e mi S) else (adq_35_36 M sb ct md e mi S)
noncomputable def adq_37_38 (M : xM) (sb : Nat → Nat) (ct : Nat → List aC) (md : List (Nat × Int)) (e : xE) (mi : Nat) (S : aS) : Option aR := bif Nat.ble e.1 37 then none else (acll M sb ct md true e.2.1 e.2.2.1 mi S)
noncomputable def adq_37_39 (M : xM) (sb : Nat → Nat) (ct : Nat → List aC) (md : List (Nat × Int)) (e : xE) (mi : Nat) (S : aS) : Option aR := bif Nat.ble e.1 38 then (adq_37_38 M sb ct md e mi S) else none
noncomputable def adq_40_41 (M : xM) (sb : Nat → Nat) (ct : Nat → List aC) (md : List (Nat × Int)) (e : xE) (mi : Nat) (S : aS) : Option aR := bif Nat.ble e.1 40 then none else (aretI (M.2.2.2.2.1 mi) S)
noncomputable def adq_37_41 (M : xM) (sb : Nat → Nat) (ct : Nat → List aC) (md : List (Nat × Int)) (e : xE) (mi : Nat) (S : aS) : Option aR := bif Nat.ble e.1 39 then (adq_37_39 M sb ct md e mi S) else (adq_40_41 M sb ct md e mi S)
noncomputable def adq_32_41 (M : xM) (sb : Nat → Nat) (ct : Nat → List aC) (md : List (Nat × Int)) (e : xE) (mi : Nat) (S : aS) : Option aR := bif Nat.ble e.1 36 then (adq_32_36 M sb ct md e mi S) else (adq_37_41 M sb ct md e mi S)
noncomputable def adq_21_41 (M : xM) (sb : Nat → Nat) (ct : Nat → List aC) (md : List (Nat × Int)) (e : xE) (mi : Nat) (S : aS) : Option aR := bif Nat.ble e.1 31 then (adq_21_31 M sb ct md e mi S) else (adq_32_41 M sb ct md e mi S)
noncomputable def adq_0_41 (M : xM) (sb : Nat → Nat) (ct : Nat → List aC) (md : List (Nat × Int)) (e : xE) (mi : Nat) (S : aS) : Option aR := bif Nat.ble e.1 20 then (adq_0_20 M sb ct md e mi S) else (adq_21_41 M sb ct md e mi S)
noncomputable def adq_42_43 (M : xM) (sb : Nat → Nat) (ct : Nat → List aC) (md : List (Nat × Int)) (e : xE) (mi : Nat) (S : aS) : Option aR := bif Nat.ble e.1 42 then (aretJ (M.2.2.2.2.1 mi) S) else (aretV (M.2.2.2.2.1 mi) S)
noncomputable def adq_42_44 (M : xM) (sb : Nat → Nat) (ct : Nat → List aC) (md : List (Nat × Int)) (e : xE) (mi : Nat) (S : aS) : Option aR := bif Nat.ble e.1 43 then (adq_42_43 M sb ct md e mi S) else (abI aaddI S)
noncomputable def adq_45_46 (M : xM) (sb : Nat → Nat) (ct : Nat → List aC) (md : List (Nat × Int)) (e : xE) (mi : Nat) (S : aS) : Option aR := bif Nat.ble e.1 45 then (abI asubI S) else (apsh 1 (inI e.2.2.2.2.1) (0, 0, (e.2.2.2.2.1, [])) S)
noncomputable def adq_45_47 (M : xM) (sb : Nat → Nat) (ct : Nat → List aC) (md : List (Nat × Int)) (e : xE) (mi : Nat) (S : aS) : Option aR := bif Nat.ble e.1 46 then (adq_45_46 M sb ct md e mi S) else (apsh 2 (ile (-128) e.2.2.2.2.1 && ile e.2.2.2.2.1 127) (0, 0, (e.2.2.2.2.1, [])) S)
noncomputable def adq_42_47 (M : xM) (sb : Nat → Nat) (ct : Nat → List aC) (md : List (Nat × Int)) (e : xE) (mi : Nat) (S : aS) : Option aR := bif Nat.ble e.1 44 then (adq_42_44 M sb ct md e mi S) else (adq_45_47 M sb ct md e mi S)
noncomputable def adq_48_49 (M : xM) (sb : Nat → Nat) (ct : Nat → List aC) (md : List (Nat × Int)) (e : xE) (mi : Nat) (S : aS) : Option aR := bif Nat.ble e.1 48 then (apsh 3 (ile (-32768) e.2.2.2.2.1 && ile e.2.2.2.2.1 32767) (0, 0, (e.2.2.2.2.1, [])) S) else (apsh 1 true (1, 0, (Int.ofNat (e.2.1 % 2), [])) S)
noncomputable def adq_48_50 (M : xM) (sb : Nat → Nat) (ct : Nat → List aC) (md : List (Nat × Int)) (e : xE) (mi : Nat) (S : aS) : Option aR := bif Nat.ble e.1 49 then (adq_48_49 M sb ct md e mi S) else none
noncomputable def adq_51_52 (M : xM) (sb : Nat → Nat) (ct : Nat → List aC) (md : List (Nat × Int)) (e : xE) (mi : Nat) (S : aS) : Option aR := bif Nat.ble e.1 51 then (abI amulI S) else (abI aanyI S)
noncomputable def adq_48_52 (M : xM) (sb : Nat → Nat) (ct : Nat → List aC) (md : List (Nat × Int)) (e : xE) (mi : Nat) (S : aS) : Option aR := bif Nat.ble e.1 50 then (adq_48_50 M sb ct md e mi S) else (adq_51_52 M sb ct md e mi S)
noncomputable def adq_42_52 (M : xM) (sb : Nat → Nat) (ct : Nat → List aC) (md : List (Nat × Int)) (e : xE) (mi : Nat) (S : aS) : Option aR := bif Nat.ble e.1 47 then (adq_42_47 M sb ct md e mi S) else (adq_48_52 M sb ct md e mi S)
noncomputable def adq_53_54 (M : xM) (sb : Nat → Nat) (ct : Nat → List aC) (md : List (Nat × Int)) (e : xE) (mi : Nat) (S : aS) : Option aR := bif Nat.ble e.1 53 then (abJ aanyJ S) else (abJ aanyJ S)
noncomputable def adq_53_55 (M : xM) (sb : Nat → Nat) (ct : Nat → List aC) (md : List (Nat × Int)) (e : xE) (mi : Nat) (S : aS) : Option aR := bif Nat.ble e.1 54 then (adq_53_54 M sb ct md e mi S) else (abS S)
noncomputable def adq_56_57 (M : xM) (sb : Nat → Nat) (ct : Nat → List aC) (md : List (Nat × Int)) (e : xE) (mi : Nat) (S : aS) : Option aR := bif Nat.ble e.1 56 then (abJ acmpJ S) else (au1 aKI ai2l S)
noncomputable def adq_53_57 (M : xM) (sb : Nat → Nat) (ct : Nat → List aC) (md : List (Nat × Int)) (e : xE) (mi : Nat) (S : aS) : Option aR := bif Nat.ble e.1 55 then (adq_53_55 M sb ct md e mi S) else (adq_56_57 M sb ct md e mi S)
noncomputable def adq_58_59 (M : xM) (sb : Nat → Nat) (ct : Nat → List aC) (md : List (Nat × Int)) (e : xE) (mi : Nat) (S : aS) : Option aR := bif Nat.ble e.1 58 then (au1 aKJ al2i S) else (au1 aKI ai2c S)
noncomputable def adq_58_60 (M : xM) (sb : Nat → Nat) (ct : Nat → List aC) (md : List (Nat × Int)) (e : xE) (mi : Nat) (S : aS) : Option aR := bif Nat.ble e.1 59 then (adq_58_59 M sb ct md e mi S) else (adup S)
noncomputable def adq_61_62 (M : xM) (sb : Nat → Nat) (ct : Nat → List aC) (md : List (Nat × Int)) (e : xE) (mi : Nat) (S : aS) : Option aR := bif Nat.ble e.1 61 then none else (adup2 S)
noncomputable def adq_58_62 (M : xM) (sb : Nat → Nat) (ct : Nat → List aC) (md : List (Nat × Int)) (e : xE) (mi : Nat) (S : aS) : Option aR := bif Nat.ble e.1 60 then (adq_58_60 M sb ct md e mi S) else (adq_61_62 M sb ct md e mi S)
noncomputable def adq_53_62 (M : xM) (sb : Nat → Nat) (ct : Nat → List aC) (md : List (Nat × Int)) (e : xE) (mi : Nat) (S : aS) : Option aR := bif Nat.ble e.1 57 then (adq_53_57 M sb ct md e mi S) else (adq_58_62 M sb ct md e mi S)
noncomputable def adq_42_62 (M : xM) (sb : Nat → Nat) (ct : Nat → List aC) (md : List (Nat × Int)) (e : xE) (mi : Nat) (S : aS) : Option aR := bif Nat.ble e.1 52 then (adq_42_52 M sb ct md e mi S) else (adq_53_62 M sb ct md e mi S)
noncomputable def adq_63_64 (M : xM) (sb : Nat → Nat) (ct : Nat → List aC) (md : List (Nat × Int)) (e : xE) (mi : Nat) (S : aS) : Option aR := bif Nat.ble e.1 63 then (apop S) else (abJ aaddJ S)
noncomputable def adq_63_65 (M : xM) (sb : Nat → Nat) (ct : Nat → List aC) (md : List (Nat × Int)) (e : xE) (mi : Nat) (S : aS) : Option aR := bif Nat.ble e.1 64 then (adq_63_64 M sb ct md e mi S) else (abJ asubJ S)
noncomputable def adq_66_67 (M : xM) (sb : Nat → Nat) (ct : Nat → List aC) (md : List (Nat × Int)) (e : xE) (mi : Nat) (S : aS) : Option aR := bif Nat.ble e.1 66 then (abJ amulJ S) else (abI adivI S)
noncomputable def adq_63_67 (M : xM) (sb : Nat → Nat) (ct : Nat → List aC) (md : List (Nat × Int)) (e : xE) (mi : Nat) (S : aS) : Option aR := bif Nat.ble e.1 65 then (adq_63_65 M sb ct md e mi S) else (adq_66_67 M sb ct md e mi S)
noncomputable def adq_68_69 (M : xM) (sb : Nat → Nat) (ct : Nat → List aC) (md : List (Nat × Int)) (e : xE) (mi : Nat) (S : aS) : Option aR := bif Nat.ble e.1 68 then (abI aremI S) else (abJ adivJ S)
noncomputable def adq_68_70 (M : xM) (sb : Nat → Nat) (ct : Nat → List aC) (md : List (Nat × Int)) (e : xE) (mi : Nat) (S : aS) : Option aR := bif Nat.ble e.1 69 then (adq_68_69 M sb ct md e mi S) else (abJ aremJ S)
noncomputable def adq_71_72 (M : xM) (sb : Nat → Nat) (ct : Nat → List aC) (md : List (Nat × Int)) (e : xE) (mi : Nat) (S : aS) : Option aR := bif Nat.ble e.1 71 then (abS S) else (au1 aKI anegI S)
noncomputable def adq_68_72 (M : xM) (sb : Nat → Nat) (ct : Nat → List aC) (md : List (Nat × Int)) (e : xE) (mi : Nat) (S : aS) : Option aR := bif Nat.ble e.1 70 then (adq_68_70 M sb ct md e mi S) else (adq_71_72 M sb ct md e mi S)
noncomputable def adq_63_72 (M : xM) (sb : Nat → Nat) (ct : Nat → List aC) (md : List (Nat × Int)) (e : xE) (mi : Nat) (S : aS) : Option aR := bif Nat.ble e.1 67 then (adq_63_67 M sb ct md e mi S) else (adq_68_72 M sb ct md e mi S)
noncomputable def adq_73_74 (M : xM) (sb : Nat → Nat) (ct : Nat → List aC) (md : List (Nat × Int)) (e : xE) (mi : Nat) (S : aS) : Option aR := bif Nat.ble e.1 73 then ((bif ((apr2 e.2.2.2.2.2).zip ((apr2 e.2.2.2.2.2).drop 1)).all (fun (x, y) => x.1 < y.1) then asw e.2.2.2.2.1 (apr2 e.2.2.2.2.2) S else none)) else (acpy md S)
noncomputable def adq_73_75 (M : xM) (sb : Nat → Nat) (ct : Nat → List aC) (md : List (Nat × Int)) (e : xE) (mi : Nat) (S : aS) : Option aR := bif Nat.ble e.1 74 then (adq_73_74 M sb ct md e mi S) else (aidx (M.2.2.1 mi) S)
noncomputable def adq_76_77 (M : xM) (sb : Nat → Nat) (ct : Nat → List aC) (md : List (Nat × Int)) (e : xE) (mi : Nat) (S : aS) : Option aR := bif Nat.ble e.1 76 then (apsh 2 true (4, 0, (0, [])) S) else (au1 aKJ anegJ S)
noncomputable def adq_73_77 (M : xM) (sb : Nat → Nat) (ct : Nat → List aC) (md : List (Nat × Int)) (e : xE) (mi : Nat) (S : aS) : Option aR := bif Nat.ble e.1 75 then (adq_73_75 M sb ct md e mi S) else (adq_76_77 M sb ct md e mi S)
noncomputable def adq_78_79 (M : xM) (sb : Nat → Nat) (ct : Nat → List aC) (md : List (Nat × Int)) (e : xE) (mi : Nat) (S : aS) : Option aR := bif Nat.ble e.1 78 then (aic3 e.2.1 e.2.2.2.2.1 S) else (alan S)
noncomputable def adq_78_80 (M : xM) (sb : Nat → Nat) (ct : Nat → List aC) (md : List (Nat × Int)) (e : xE) (mi : Nat) (S : aS) : Option aR := bif Nat.ble e.1 79 then (adq_78_79 M sb ct md e mi S) else (alsh S)
noncomputable def adq_81_82 (M : xM) (sb : Nat → Nat) (ct : Nat → List aC) (md : List (Nat × Int)) (e : xE) (mi : Nat) (S : aS) : Option aR := bif Nat.ble e.1 81 then (alor S) else (aif3 e.2.1 e.2.2.2.2.1 S)
noncomputable def adq_78_82 (M : xM) (sb : Nat → Nat) (ct : Nat → List aC) (md : List (Nat × Int)) (e : xE) (mi : Nat) (S : aS) : Option aR := bif Nat.ble e.1 80 then (adq_78_80 M sb ct md e mi S) else (adq_81_82 M sb ct md e mi S)
noncomputable def adq_73_82 (M : xM) (sb : Nat → Nat) (ct : Nat → List aC) (md : List (Nat × Int)) (e : xE) (mi : Nat) (S : aS) : Option aR := bif Nat.ble e.1 77 then (adq_73_77 M sb ct md e mi S) else (adq_78_82 M sb ct md e mi S)
noncomputable def adq_63_82 (M : xM) (sb : Nat → Nat) (ct : Nat → List aC) (md : List (Nat × Int)) (e : xE) (mi : Nat) (S : aS) : Option aR := bif Nat.ble e.1 72 then (adq_63_72 M sb ct md e mi S) else (adq_73_82 M sb ct md e mi S)
noncomputable def adq_42_82 (M : xM) (sb : Nat → Nat) (ct : Nat → List aC) (md : List (Nat × Int)) (e : xE) (mi : Nat) (S : aS) : Option aR := bif Nat.ble e.1 62 then (adq_42_62 M sb ct md e mi S) else (adq_63_82 M sb ct md e mi S)
noncomputable def adq_0_82 (M : xM) (sb : Nat → Nat) (ct : Nat → List aC) (md : List (Nat × Int)) (e : xE) (mi : Nat) (S : aS) : Option aR := bif Nat.ble e.1 41 then (adq_0_41 M sb ct md e mi S) else (adq_42_82 M sb ct md e mi S)
noncomputable def adis (M : xM) (sb : Nat → Nat) (ct : Nat → List aC) (md : List (Nat × Int)) (e : xE) (mi : Nat) (S : aS) : Option aR := bif Nat.ble e.1 82 then (adq_0_82 M sb ct md e mi S) else none
theorem alen_eq {α : Type} : ∀ (q : List α), alen q = q.length
  | [] => rfl
  | _ :: r => by rw [alen, alen_eq r, List.length_cons]
section GZ
variable (M : xM) (Y : Nat → MethodName) (Bt : Nat → ByteArray) (Hh : Nat → List (Nat × Nat × Nat × Nat)) (Rt : Nat → Option FieldType) (Rm : Nat → Room) (Ex : Nat → String)
variable (l : Launch) (s0 : State) (D : va_G) (ca : Nat → ClassId) (sb : Nat → Nat) (b0 L : Nat) (xs : Nat → Int32) (ty : Nat → Nat → FieldType) (grp : Nat → Nat) (lit : Value → Prop)
def zmo2 (mi pc : Nat) (e : xE) : Prop := match e.1 with
  | 74 => crCpy M Y Bt Hh Rt Rm Ex l s0 D ca sb mi pc
  | 75 => crIdx M Y Bt Hh Rt Rm Ex l s0 D ca sb lit mi pc
  | 76 => crStr M Y Bt Hh Rt Rm Ex l s0 D ca sb lit mi pc
  | _ => zmore M Y Bt Hh Rt Rm Ex s0 D ca ty mi pc e
def zok2 (mi pc : Nat) (e : xE) : Prop := (∃ i n, zin2 e = some i ∧ decode (Bt mi) pc = .ok (i, n) ∧ (e.1 = 16 ∨ e.1 = 73 ∨ n = zln2 e.1)) ∧ zmo2 M Y Bt Hh Rt Rm Ex l s0 D ca sb ty lit mi pc e ∧ ((e.1 = 36 ∨ e.1 = 38) → sb e.2.1 = 0)
def zall2 : Prop := l.stackTraces = false ∧ (∀ mi, (Rm mi).cells = M.2.2.1 mi ∧ (Rm mi).slots = M.2.2.2.1 mi) ∧ zhnd M Y Hh Ex s0 ∧
  (∀ mi, (M.2.2.2.2.1 mi = 0 → Rt mi = none) ∧ (M.2.2.2.2.1 mi = 1 → Rt mi = some .int) ∧ (M.2.2.2.2.1 mi = 2 → Rt mi = some .boolean) ∧ (M.2.2.2.2.1 mi = 3 → Rt mi = some .long) ∧ (M.2.2.2.2.1 mi = 4 → Rt mi = some .char)) ∧
  (ztg s0 ca 64 .int ∧ ztg s0 ca 65 .char ∧ ztg s0 ca 66 .boolean ∧ ztg s0 ca 67 .long) ∧ (∀ tag, 68 ≤ tag → tag ≤ 127 → ∃ (C : String) (T : u_T) (N : Nat), ztg s0 ca tag (.object C) ∧ zclo s0 D ty (M.2.2.2.2.2.2.2.1 tag) C T N) ∧
  va_X b0 L xs s0 s0.heap ∧ b0 < s0.heap.size ∧ (∀ mi pc e, pc < 2048 → zget 11 (M.1 mi) pc = some e → zok2 M Y Bt Hh Rt Rm Ex l s0 D ca sb ty lit mi pc e) ∧ aok grp ∧ (∀ v, lit v → ∃ q : Nat, v = .ref q) ∧ L ≤ 5120 ∧ ∀ mi, sb mi + 6 * M.2.2.1 mi ≤ M.2.2.2.1 mi
end GZ
section GY
variable {M : xM} {Y : Nat → MethodName} {Bt : Nat → ByteArray} {Hh : Nat → List (Nat × Nat × Nat × Nat)} {Rt : Nat → Option FieldType} {Rm : Nat → Room} {Ex : Nat → String}
variable {l : Launch} {s0 : State} {D : va_G} {ca : Nat → ClassId} {sb : Nat → Nat} {b0 L : Nat} {grp : Nat → Nat} {lit : Value → Prop} {xs : Nat → Int32} {ty : Nat → Nat → FieldType}
variable {mi : Nat} {P : cP} {md : List (Nat × Int)} {u0 : zW} {ν0 : List Int}

/-- one step: goes on; or an end that is looked up -/
def aGS (M : xM) (Y : Nat → MethodName) (Bt : Nat → ByteArray) (Hh : Nat → List (Nat × Nat × Nat × Nat)) (Rt : Nat → Option FieldType) (Rm : Nat → Room) (Ex : Nat → String) (l : Launch) (s0 : State) (D : va_G) (ca : Nat → ClassId) (sb : Nat → Nat) (b0 L : Nat) (xs : Nat → Int32) (grp : Nat → Nat) (lit : Value → Prop) (mi : Nat) (P : cP) (md : List (Nat × Int)) (u0 : zW) (ν0 : List Int) (S : aS) (R : aR) : Prop :=
  (R.1 = 0 ∧ ((∀ S' ∈ R.2.1, aGd M Y Bt Hh Rt Rm Ex l s0 D ca sb b0 L xs grp lit mi P md u0 ν0 S') → aGd M Y Bt Hh Rt Rm Ex l s0 D ca sb b0 L xs grp lit mi P md u0 ν0 S)) ∨ (R.1 = 1 ∧ ((∀ (ν : List Int) (sc : List Value) (u : zW) (n : Nat) (v : Option Value), aext ν0 ν → aγ s0.heap.size b0 L grp lit ν S.2.2.2.1 u → dS s0.heap.size b0 L grp lit ν S.2.2.1 sc → aFr s0.heap.size grp md u0 u → ev ν S.2.2.2.2.1 = some (n : Int) → sc = v.toList → P (.inl v) u n) → aGd M Y Bt Hh Rt Rm Ex l s0 D ca sb b0 L xs grp lit mi P md u0 ν0 S)) ∨
  (R.1 = 2 ∧ ((∀ (ν : List Int) (u : zW) (n : Nat), aext ν0 ν → aγ s0.heap.size b0 L grp lit ν S.2.2.2.1 u → aFr s0.heap.size grp md u0 u → ev ν S.2.2.2.2.1 = some (n : Int) → P (.inr R.2.2.2) (znew u (200, 0, fun _ => .null)) (n + 1)) → aGd M Y Bt Hh Rt Rm Ex l s0 D ca sb b0 L xs grp lit mi P md u0 ν0 S))
set_option maxHeartbeats 1600000 in
theorem adis_ok {ct : Nat → List aC} (A : zall2 M Y Bt Hh Rt Rm Ex l s0 D ca sb b0 L xs ty grp lit) (hct : ∀ mj, ∀ c ∈ ct mj, aval M Y Bt Hh Rt Rm Ex l s0 D ca sb b0 L grp lit mj c) {S : aS} {R : aR} (op a bb cc : Nat) (k : Int) (ll : List Int) (hok : zok2 M Y Bt Hh Rt Rm Ex l s0 D ca sb ty lit mi S.1 (op, a, bb, cc, k, ll)) (h : adis M sb ct md (op, a, bb, cc, k, ll) mi S = some R) :
    aGS M Y Bt Hh Rt Rm Ex l s0 D ca sb b0 L xs grp lit mi P md u0 ν0 S R := by
  have hg := A.2.2.2.2.2.2.2.2.2.1
  have hl9 := A.2.2.2.2.2.2.2.2.2.2.1
  obtain ⟨⟨i, n, hi, hd, hn⟩, hm, h36⟩ := hok
  match op with
  | 0 =>
    have hn : n = 1 := hn.elim (fun g => absurd (show 0 = 16 from g) (by decide)) (fun g => g.elim (fun g => absurd (show 0 = 73 from g) (by decide)) (fun g => g))
    subst hn
    have hj : a < 4 := by
      by_cases hj : a < 4
      · exact hj
      · rw [show zin2 (0, a, bb, cc, k, ll) = (if h : a < 4 then some (.iload_n ⟨a, h⟩) else none) from rfl, dif_neg hj] at hi
        cases hi
    rw [show zin2 (0, a, bb, cc, k, ll) = (if h : a < 4 then some (.iload_n ⟨a, h⟩) else none) from rfl, dif_pos hj] at hi
    cases hi
    refine Or.inl (aload_ok (fun ν x v lc k9 n9 sc u hk hv h1 g => ?_) h)
    obtain ⟨z, -, rfl, -⟩ := dV_0 hv (aKI_k hk)
    exact cg_iload_n hd h1 g
  | 1 =>
    have hn : n = 2 := hn.elim (fun g => absurd (show 1 = 16 from g) (by decide)) (fun g => g.elim (fun g => absurd (show 1 = 73 from g) (by decide)) (fun g => g))
    subst hn
    cases hi
    refine Or.inl (aload_ok (fun ν x v lc k9 n9 sc u hk hv h1 g => ?_) h)
    obtain ⟨z, -, rfl, -⟩ := dV_0 hv (aKI_k hk)
    exact cg_iload hd h1 g
  | 2 =>
    have hn : n = 1 := hn.elim (fun g => absurd (show 2 = 16 from g) (by decide)) (fun g => g.elim (fun g => absurd (show 2 = 73 from g) (by decide)) (fun g => g))
    subst hn
    have hj : a < 4 := by
      by_cases hj : a < 4
      · exact hj
      · rw [show zin2 (2, a, bb, cc, k, ll) = (if h : a < 4 then some (.lload_n ⟨a, h⟩) else none) from rfl, dif_neg hj] at hi
        cases hi
    rw [show zin2 (2, a, bb, cc, k, ll) = (if h : a < 4 then some (.lload_n ⟨a, h⟩) else none) from rfl, dif_pos hj] at hi
    cases hi
    refine Or.inl (aload_ok (fun ν x v lc k9 n9 sc u hk hv h1 g => ?_) h)
    obtain ⟨z, -, rfl, -⟩ := dV_1 hv (aKJ_k hk)
    exact cg_lload_n hd h1 g
  | 3 =>
    have hn : n = 2 := hn.elim (fun g => absurd (show 3 = 16 from g) (by decide)) (fun g => g.elim (fun g => absurd (show 3 = 73 from g) (by decide)) (fun g => g))
    subst hn
    cases hi
    refine Or.inl (aload_ok (fun ν x v lc k9 n9 sc u hk hv h1 g => ?_) h)
    obtain ⟨z, -, rfl, -⟩ := dV_1 hv (aKJ_k hk)
    exact cg_lload hd h1 g
  | 4 =>
    have hn : n = 1 := hn.elim (fun g => absurd (show 4 = 16 from g) (by decide)) (fun g => g.elim (fun g => absurd (show 4 = 73 from g) (by decide)) (fun g => g))
    subst hn
    have hj : a < 4 := by
      by_cases hj : a < 4
      · exact hj
      · rw [show zin2 (4, a, bb, cc, k, ll) = (if h : a < 4 then some (.aload_n ⟨a, h⟩) else none) from rfl, dif_neg hj] at hi
        cases hi
    rw [show zin2 (4, a, bb, cc, k, ll) = (if h : a < 4 then some (.aload_n ⟨a, h⟩) else none) from rfl, dif_pos hj] at hi
    cases hi
    refine Or.inl (aload_ok (fun ν x v lc k9 n9 sc u hk hv h1 g => ?_) h)
    obtain ⟨z, rfl⟩ := dV_R hl9 hv hk
    exact cg_aload_n hd h1 g
  | 5 =>
    have hn : n = 2 := hn.elim (fun g => absurd (show 5 = 16 from g) (by decide)) (fun g => g.elim (fun g => absurd (show 5 = 73 from g) (by decide)) (fun g => g))
    subst hn
    cases hi
    refine Or.inl (aload_ok (fun ν x v lc k9 n9 sc u hk hv h1 g => ?_) h)
    obtain ⟨z, rfl⟩ := dV_R hl9 hv hk
    exact cg_aload hd h1 g
  | 6 =>
    have hn : n = 1 := hn.elim (fun g => absurd (show 6 = 16 from g) (by decide)) (fun g => g.elim (fun g => absurd (show 6 = 73 from g) (by decide)) (fun g => g))
    subst hn
    have hj : a < 4 := by
      by_cases hj : a < 4
      · exact hj
      · rw [show zin2 (6, a, bb, cc, k, ll) = (if h : a < 4 then some (.istore_n ⟨a, h⟩) else none) from rfl, dif_neg hj] at hi
        cases hi
    rw [show zin2 (6, a, bb, cc, k, ll) = (if h : a < 4 then some (.istore_n ⟨a, h⟩) else none) from rfl, dif_pos hj] at hi
    cases hi
    refine Or.inl (astor_ok hl9 (fun ν x v lc n9 sc u hk hv hj9 g => ?_) h)
    obtain ⟨z, -, rfl, -⟩ := dV_0 hv (aKI_k hk)
    exact cg_istore_n hd (by first | exact hj9 | (show a + 1 < _; omega)) g
  | 7 =>
    have hn : n = 2 := hn.elim (fun g => absurd (show 7 = 16 from g) (by decide)) (fun g => g.elim (fun g => absurd (show 7 = 73 from g) (by decide)) (fun g => g))
    subst hn
    cases hi
    refine Or.inl (astor_ok hl9 (fun ν x v lc n9 sc u hk hv hj9 g => ?_) h)
    obtain ⟨z, -, rfl, -⟩ := dV_0 hv (aKI_k hk)
    exact cg_istore hd (by first | exact hj9 | (show a + 1 < _; omega)) g
  | 8 =>
    have hn : n = 1 := hn.elim (fun g => absurd (show 8 = 16 from g) (by decide)) (fun g => g.elim (fun g => absurd (show 8 = 73 from g) (by decide)) (fun g => g))
    subst hn
    have hj : a < 4 := by
      by_cases hj : a < 4
      · exact hj
      · rw [show zin2 (8, a, bb, cc, k, ll) = (if h : a < 4 then some (.lstore_n ⟨a, h⟩) else none) from rfl, dif_neg hj] at hi
        cases hi
    rw [show zin2 (8, a, bb, cc, k, ll) = (if h : a < 4 then some (.lstore_n ⟨a, h⟩) else none) from rfl, dif_pos hj] at hi
    cases hi
    refine Or.inl (astor2_ok hl9 (fun ν x v lc n9 sc u hk hv hj9 g => ?_) h)
    obtain ⟨z, -, rfl, -⟩ := dV_1 hv (aKJ_k hk)
    exact cg_lstore_n hd (by first | exact hj9 | (show a + 1 < _; omega)) g
  | 9 =>
    have hn : n = 2 := hn.elim (fun g => absurd (show 9 = 16 from g) (by decide)) (fun g => g.elim (fun g => absurd (show 9 = 73 from g) (by decide)) (fun g => g))
    subst hn
    cases hi
    refine Or.inl (astor2_ok hl9 (fun ν x v lc n9 sc u hk hv hj9 g => ?_) h)
    obtain ⟨z, -, rfl, -⟩ := dV_1 hv (aKJ_k hk)
    exact cg_lstore hd (by first | exact hj9 | (show a + 1 < _; omega)) g
  | 10 =>
    have hn : n = 1 := hn.elim (fun g => absurd (show 10 = 16 from g) (by decide)) (fun g => g.elim (fun g => absurd (show 10 = 73 from g) (by decide)) (fun g => g))
    subst hn
    have hj : a < 4 := by
      by_cases hj : a < 4
      · exact hj
      · rw [show zin2 (10, a, bb, cc, k, ll) = (if h : a < 4 then some (.astore_n ⟨a, h⟩) else none) from rfl, dif_neg hj] at hi
        cases hi
    rw [show zin2 (10, a, bb, cc, k, ll) = (if h : a < 4 then some (.astore_n ⟨a, h⟩) else none) from rfl, dif_pos hj] at hi
    cases hi
    refine Or.inl (astor_ok hl9 (fun ν x v lc n9 sc u hk hv hj9 g => ?_) h)
    obtain ⟨z, rfl⟩ := dV_R hl9 hv hk
    exact cg_astore_n hd (by first | exact hj9 | (show a + 1 < _; omega)) g
  | 11 =>
    have hn : n = 2 := hn.elim (fun g => absurd (show 11 = 16 from g) (by decide)) (fun g => g.elim (fun g => absurd (show 11 = 73 from g) (by decide)) (fun g => g))
    subst hn
    cases hi
    refine Or.inl (astor_ok hl9 (fun ν x v lc n9 sc u hk hv hj9 g => ?_) h)
    obtain ⟨z, rfl⟩ := dV_R hl9 hv hk
    exact cg_astore hd (by first | exact hj9 | (show a + 1 < _; omega)) g
  | 12 =>
    have hn : n = 3 := hn.elim (fun g => absurd (show 12 = 16 from g) (by decide)) (fun g => g.elim (fun g => absurd (show 12 = 73 from g) (by decide)) (fun g => g))
    subst hn
    cases hi
    exact Or.inl (ainc_ok hl9 hd h)
  | 13 =>
    have hn : n = 3 := hn.elim (fun g => absurd (show 13 = 16 from g) (by decide)) (fun g => g.elim (fun g => absurd (show 13 = 73 from g) (by decide)) (fun g => g))
    subst hn
    cases hi
    exact Or.inl (aif_ok hd h)
  | 14 =>
    have hn : n = 3 := hn.elim (fun g => absurd (show 14 = 16 from g) (by decide)) (fun g => g.elim (fun g => absurd (show 14 = 73 from g) (by decide)) (fun g => g))
    subst hn
    cases hi
    exact Or.inl (aicm_ok hd h)
  | 15 =>
    have hn : n = 3 := hn.elim (fun g => absurd (show 15 = 16 from g) (by decide)) (fun g => g.elim (fun g => absurd (show 15 = 73 from g) (by decide)) (fun g => g))
    subst hn
    cases hi
    exact Or.inl (agot_ok hd h)
  | 16 =>
    cases hi
    have h : (bif ieq (ll.getD 1 0 - ll.getD 0 0 + 1) (Int.ofNat (alen (ll.drop 2))) then asw k (aprs (ll.getD 0 0) (ll.drop 2)) S else none) = some R := h
    obtain ⟨hk, h⟩ := cnd_t h
    rw [ieq_iff, alen_eq] at hk
    exact Or.inl (atab_ok hk hd h)
  | 17 =>
    have hn : n = 3 := hn.elim (fun g => absurd (show 17 = 16 from g) (by decide)) (fun g => g.elim (fun g => absurd (show 17 = 73 from g) (by decide)) (fun g => g))
    subst hn
    cases hi
    obtain ⟨C0, T, z1, z2, z3⟩ := hm
    exact Or.inl (agf_ok hg hl9 hd z1 z3 h)
  | 18 =>
    have hn : n = 3 := hn.elim (fun g => absurd (show 18 = 16 from g) (by decide)) (fun g => g.elim (fun g => absurd (show 18 = 73 from g) (by decide)) (fun g => g))
    subst hn
    cases hi
    obtain ⟨C0, T, z1, z2, z3, z4, z5⟩ := hm
    exact Or.inl (apf_ok hg hl9 hd z1 z3 z4 z5 h)
  | 19 =>
    have hn : n = 2 := hn.elim (fun g => absurd (show 19 = 16 from g) (by decide)) (fun g => g.elim (fun g => absurd (show 19 = 73 from g) (by decide)) (fun g => g))
    subst hn
    cases hi
    obtain ⟨hk, h9⟩ := cnd_t (show (bif inI k then aon S (S.1 + 2) ((0, 0, (k, [])) :: S.2.2.1) S.2.2.2.1 else none) = some R from h)
    cases h9
    refine Or.inl ⟨rfl, fun hs => ?_⟩
    intro ν lc sc u n h0 hγ hL hS hF hn
    exact cg_ldc hd hm (hs _ List.mem_cons_self ν lc _ u n h0 hγ hL ⟨dV_i ν k (inI_iff.mp hk).1 (inI_iff.mp hk).2, hS⟩ hF hn)
  | 20 =>
    have hn : n = 3 := hn.elim (fun g => absurd (show 20 = 16 from g) (by decide)) (fun g => g.elim (fun g => absurd (show 20 = 73 from g) (by decide)) (fun g => g))
    subst hn
    cases hi
    obtain ⟨hk, h9⟩ := cnd_t (show (bif inJ k then aon S (S.1 + 3) ((1, 0, (k, [])) :: S.2.2.1) S.2.2.2.1 else none) = some R from h)
    cases h9
    refine Or.inl ⟨rfl, fun hs => ?_⟩
    intro ν lc sc u n h0 hγ hL hS hF hn
    exact cg_ldc2 hd hm (hs _ List.mem_cons_self ν lc _ u n h0 hγ hL ⟨dV_j ν k (inJ_iff.mp hk).1 (inJ_iff.mp hk).2, hS⟩ hF hn)
  | 21 =>
    have hn : n = 1 := hn.elim (fun g => absurd (show 21 = 16 from g) (by decide)) (fun g => g.elim (fun g => absurd (show 21 = 73 from g) (by decide)) (fun g => g))
    subst hn
    cases hi
    exact Or.inl (aaln_ok (by have := A.2.2.2.2.2.2.2.2.2.2.2.1; omega) A.2.2.2.2.2.2.1 A.2.2.2.2.2.2.2.1 (ztg_all A.2.2.2.2.1 A.2.2.2.2.2.1) hd h)
  | 22 =>
    have hn : n = 1 := hn.elim (fun g => absurd (show 22 = 16 from g) (by decide)) (fun g => g.elim (fun g => absurd (show 22 = 73 from g) (by decide)) (fun g => g))
    subst hn
    cases hi
    exact Or.inl (aalI_ok hg hl9 (by have := A.2.2.2.2.2.2.2.2.2.2.2.1; omega) A.2.2.2.2.2.2.1 A.2.2.2.2.2.2.2.1 A.2.2.2.2.1.1 hd h)
  | 23 =>
    have hn : n = 1 := hn.elim (fun g => absurd (show 23 = 16 from g) (by decide)) (fun g => g.elim (fun g => absurd (show 23 = 73 from g) (by decide)) (fun g => g))
    subst hn
    cases hi
    exact Or.inl (aal_ok hg hl9 (fun lc us u n a j h1 h2 h3 h4 h5 g => cg_cald hd h1 (by rw [show (u.2 (s0.heap.size + a)).1 = 65 by omega]; exact A.2.2.2.2.1.2.1) h4 h5 g) h)
  | 24 =>
    have hn : n = 1 := hn.elim (fun g => absurd (show 24 = 16 from g) (by decide)) (fun g => g.elim (fun g => absurd (show 24 = 73 from g) (by decide)) (fun g => g))
    subst hn
    cases hi
    exact Or.inl (aal_ok hg hl9 (fun lc us u n a j h1 h2 h3 h4 h5 g => cg_zald hd h1 (by rw [show (u.2 (s0.heap.size + a)).1 = 66 by omega]; exact A.2.2.2.2.1.2.2.1) h4 h5 g) h)
  | 25 =>
    have hn : n = 1 := hn.elim (fun g => absurd (show 25 = 16 from g) (by decide)) (fun g => g.elim (fun g => absurd (show 25 = 73 from g) (by decide)) (fun g => g))
    subst hn
    cases hi
    exact Or.inl (aal_ok hg hl9 (fun lc us u n a j h1 h2 h3 h4 h5 g => cg_lald hd h1 (by rw [show (u.2 (s0.heap.size + a)).1 = 67 by omega]; exact A.2.2.2.2.1.2.2.2) h4 h5 g) h)
  | 26 =>
    have hn : n = 1 := hn.elim (fun g => absurd (show 26 = 16 from g) (by decide)) (fun g => g.elim (fun g => absurd (show 26 = 73 from g) (by decide)) (fun g => g))
    subst hn
    cases hi
    exact Or.inl (aal_ok hg hl9 (fun lc us u n a j h1 h2 h3 h4 h5 g => by
      obtain ⟨Cn, _, _, t1, _⟩ := A.2.2.2.2.2.1 _ h2 (by omega)
      exact cg_aald hd h1 t1 h4 h5 g) h)
  | 27 =>
    have hn : n = 1 := hn.elim (fun g => absurd (show 27 = 16 from g) (by decide)) (fun g => g.elim (fun g => absurd (show 27 = 73 from g) (by decide)) (fun g => g))
    subst hn
    cases hi
    refine Or.inl (aas_ok hg hl9 (fun ν v w lc us u n a9 j hγ hk hv h1 h2 h3 h4 g => ?_) h)
    obtain ⟨x, x1, rfl, x3⟩ := dV_0 hv (aKI_k (show aKI v = true from hk))
    exact cg_iast hd h1 (by rw [h2]; exact A.2.2.2.2.1.1) h3 h4 g
  | 28 =>
    have hn : n = 1 := hn.elim (fun g => absurd (show 28 = 16 from g) (by decide)) (fun g => g.elim (fun g => absurd (show 28 = 73 from g) (by decide)) (fun g => g))
    subst hn
    cases hi
    refine Or.inl (aas_ok hg hl9 (fun ν v w lc us u n a9 j hγ hk hv h1 h2 h3 h4 g => ?_) h)
    have hk : (aKI v && awit S.2.2.2.1 v.2.2 0 65535) = true := hk
    rw [Bool.and_eq_true] at hk
    obtain ⟨x, x1, rfl, x3⟩ := dV_0 hv (aKI_k hk.1)
    have hr := awit_at hγ hk.2 x1
    refine cg_cast hd h1 (by rw [h2]; exact A.2.2.2.2.1.2.1) h3 h4 ?_
    have e2 : narrow .char (.int (Int32.ofInt x)) = .int ((Int32.ofInt x).toUInt32 % 65536).toInt32 := rfl
    rw [e2, chr_id (by omega) (by omega)]
    exact g
  | 29 =>
    have hn : n = 1 := hn.elim (fun g => absurd (show 29 = 16 from g) (by decide)) (fun g => g.elim (fun g => absurd (show 29 = 73 from g) (by decide)) (fun g => g))
    subst hn
    cases hi
    refine Or.inl (aas_ok hg hl9 (fun ν v w lc us u n a9 j hγ hk hv h1 h2 h3 h4 g => ?_) h)
    have hk : (aKI v && awit S.2.2.2.1 v.2.2 0 1) = true := hk
    rw [Bool.and_eq_true] at hk
    obtain ⟨x, x1, rfl, x3⟩ := dV_0 hv (aKI_k hk.1)
    have hr := awit_at hγ hk.2 x1
    refine cg_zast hd h1 (by rw [h2]; exact A.2.2.2.2.1.2.2.1) h3 h4 ?_
    have e2 : narrow .boolean (.int (Int32.ofInt x)) = .int (Int32.ofInt x) := by
      have : x = 0 ∨ x = 1 := by omega
      rcases this with rfl | rfl <;> decide
    rw [e2]
    exact g
  | 30 =>
    have hn : n = 1 := hn.elim (fun g => absurd (show 30 = 16 from g) (by decide)) (fun g => g.elim (fun g => absurd (show 30 = 73 from g) (by decide)) (fun g => g))
    subst hn
    cases hi
    refine Or.inl (aas_ok hg hl9 (fun ν v w lc us u n a9 j hγ hk hv h1 h2 h3 h4 g => ?_) h)
    obtain ⟨x, x1, rfl, x3⟩ := dV_1 hv (aKJ_k (show aKJ v = true from hk))
    exact cg_last hd h1 (by rw [h2]; exact A.2.2.2.2.1.2.2.2) h3 h4 g
  | 31 => cases h
  | 32 => cases h
  | 33 =>
    have hn : n = 3 := hn.elim (fun g => absurd (show 33 = 16 from g) (by decide)) (fun g => g.elim (fun g => absurd (show 33 = 73 from g) (by decide)) (fun g => g))
    subst hn
    cases hi
    have h : athr a (M.2.2.1 mi) S = some R := h
    unfold athr at h
    obtain ⟨hk, h⟩ := cnd_t h
    cases h
    simp only [Bool.and_eq_true, Nat.ble_eq] at hk
    refine Or.inr (Or.inr ⟨rfl, fun hp => ?_⟩)
    intro ν lc sc u n h0 hγ hL hS hF hn
    have hc := (awit_at hγ hk.2 hn.1).2
    simp only [Int.ofNat_eq_natCast] at hc
    have hsb := A.2.2.2.2.2.2.2.2.2.2.2.2 mi
    have r1 := (A.2.1 mi).1
    have r2 := (A.2.1 mi).2
    have hk1 := hk.1.2
    exact cg_thr (hp ν u n h0 hγ hF hn.1) (by omega) (by omega) hm.1 hm.2.1 hm.2.2.1 hm.2.2.2 (by rw [acat_ok hl9 hS]; exact hk.1.1)
  | 34 => cases h
  | 35 => cases h
  | 36 =>
    have hn : n = 3 := hn.elim (fun g => absurd (show 36 = 16 from g) (by decide)) (fun g => g.elim (fun g => absurd (show 36 = 73 from g) (by decide)) (fun g => g))
    subst hn
    cases hi
    obtain ⟨c1, c2, c3, c4, c5, c6⟩ := hm
    refine Or.inl (acll_ok hg hl9 A.1 A.2.2.1 A.2.1 hd c1 (h36 (Or.inl rfl)) (hct a) ?_ h)
    intro ν as va vr sc u n hγ has hsc hlen _ p e s m args below meth c H locs ls T C hP hT X
    exact z_goS X C.1 C.2.1 C.2.2.2.2.1 c2 c4 c5 c1.2.1 c3 c6 rfl hlen hsc (by rw [C.2.2.2.2.2.1]; exact hd)
  | 37 => cases h
  | 38 =>
    have hn : n = 3 := hn.elim (fun g => absurd (show 38 = 16 from g) (by decide)) (fun g => g.elim (fun g => absurd (show 38 = 73 from g) (by decide)) (fun g => g))
    subst hn
    cases hi
    obtain ⟨c1, c2, c3, c4, c5, c6, Tj, Nj, c7⟩ := hm
    refine Or.inl (acll_ok hg hl9 A.1 A.2.2.1 A.2.1 hd c1 (h36 (Or.inr rfl)) (hct a) ?_ h)
    intro ν as va vr sc u n hγ has hsc hlen hv p e s m args below meth c H locs ls T C hP hT X
    have hv := hv rfl
    cases as with
    | nil => cases hv
    | cons x as' =>
      replace hv : (Nat.beq x.1 3 && Nat.beq (aTG x.2.1) (M.2.2.2.2.2.1 a) && Nat.ble (M.2.2.2.2.2.1 a + 1) 64) = true := hv
      simp only [Bool.and_eq_true, Nat.beq_eq, Nat.ble_eq] at hv
      obtain ⟨v0, va', rfl, hx, hva'⟩ := dS_c has
      obtain ⟨b9, b1, rfl, b3, b4⟩ := dV_3 hx hv.1.1
      obtain ⟨d1, d2, d3⟩ := dI_cell hγ.2.2.2.2.1 b3
      rw [b4, hv.1.2] at d2
      have hO := zat_o (hP.2.2 (s0.heap.size + b9) (Nat.le_add_right _ _) d1) (by rw [d2]; omega)
      rw [d2] at hO
      obtain ⟨cellB, q1, q2, q3, -⟩ := hO
      have hcls := (u_Kn_moved C.2.1.alike c7.2.1).2.1
      have hn2 : (parseMethodDescriptor (Y a).desc).map (fun d => d.parameters.length) = some va'.length := by
        cases hpd : parseMethodDescriptor (Y a).desc with
        | none => rw [hpd] at c6; cases c6
        | some sg =>
          rw [hpd] at c6
          have c6 : sg.parameters.length + 1 = bb := Option.some.inj c6
          rw [List.length_cons] at hlen
          have hlen : va'.length + 1 = bb := hlen
          show some sg.parameters.length = _
          congr 1
          omega
      have hsc' : sc = va'.reverse ++ .ref (s0.heap.size + b9) :: vr := by rw [hsc, List.reverse_cons, List.append_assoc]; rfl
      exact z_goV X C.1 C.2.1 C.2.2.2.2.1 c2 c4 c5 c1.2.1 c3 hn2 (by rw [hT]; exact q1) q3 (by rw [q2]; exact hcls) rfl rfl hsc' (by rw [C.2.2.2.2.2.1]; exact hd)
  | 39 => cases h
  | 40 => cases h
  | 41 =>
    have hn : n = 1 := hn.elim (fun g => absurd (show 41 = 16 from g) (by decide)) (fun g => g.elim (fun g => absurd (show 41 = 73 from g) (by decide)) (fun g => g))
    subst hn
    cases hi
    have h : aretI (M.2.2.2.2.1 mi) S = some R := h
    unfold aretI at h
    match hst : S.2.2.1 with
    | [] => rw [hst] at h; cases h
    | _ :: _ :: _ => rw [hst] at h; cases h
    | [v] =>
      rw [hst] at h
      obtain ⟨hk, h⟩ := cnd_t h
      cases h
      simp only [Bool.and_eq_true, Bool.or_eq_true, Nat.beq_eq] at hk
      refine Or.inr (Or.inl ⟨rfl, fun hp => ?_⟩)
      intro ν lc sc u n h0 hγ hL hS hF hn
      have hS9 := hS
      rw [hst] at hS9
      obtain ⟨w, us, rfl, hw, hS1⟩ := dS_c hS9
      have := dS_n hS1
      subst this
      obtain ⟨a9, a1, rfl, a3⟩ := dV_0 hw (aKI_k hk.1)
      refine cg_ret (v := some (.int (Int32.ofInt a9))) (hp ν _ u n _ h0 hγ hS hF hn.1 rfl) (Or.inl ⟨_, rfl, hd, ?_⟩)
      rcases hk.2 with (g | ⟨g, g2⟩) | ⟨g, g2⟩
      · exact Or.inl ((A.2.2.2.1 mi).2.1 g)
      rotate_left
      · exact Or.inr (Or.inr ⟨.char, (A.2.2.2.1 mi).2.2.2.2 g, by
          have hr := awit_at hγ g2 a1
          have e2 : narrow .char (.int (Int32.ofInt a9)) = .int ((Int32.ofInt a9).toUInt32 % 65536).toInt32 := rfl
          rw [e2, chr_id (by omega) (by omega)]⟩)
      · refine Or.inr (Or.inl ⟨(A.2.2.2.1 mi).2.2.1 g, ?_⟩)
        have := awit_at hγ g2 a1
        have : a9 = 0 ∨ a9 = 1 := by omega
        rcases this with rfl | rfl
        · exact Or.inl rfl
        · exact Or.inr rfl
  | 42 =>
    have hn : n = 1 := hn.elim (fun g => absurd (show 42 = 16 from g) (by decide)) (fun g => g.elim (fun g => absurd (show 42 = 73 from g) (by decide)) (fun g => g))
    subst hn
    cases hi
    have h : aretJ (M.2.2.2.2.1 mi) S = some R := h
    unfold aretJ at h
    match hst : S.2.2.1 with
    | [] => rw [hst] at h; cases h
    | _ :: _ :: _ => rw [hst] at h; cases h
    | [v] =>
      rw [hst] at h
      obtain ⟨hk, h⟩ := cnd_t h
      cases h
      rw [Bool.and_eq_true, Nat.beq_eq] at hk
      refine Or.inr (Or.inl ⟨rfl, fun hp => ?_⟩)
      intro ν lc sc u n h0 hγ hL hS hF hn
      have hS9 := hS
      rw [hst] at hS9
      obtain ⟨w, us, rfl, hw, hS1⟩ := dS_c hS9
      have := dS_n hS1
      subst this
      obtain ⟨a9, a1, rfl, a3⟩ := dV_1 hw (aKJ_k hk.1)
      exact cg_ret (v := some (.long (Int64.ofInt a9))) (hp ν _ u n _ h0 hγ hS hF hn.1 rfl) (Or.inr (Or.inl ⟨_, rfl, hd, (A.2.2.2.1 mi).2.2.2.1 hk.2⟩))
  | 43 =>
    have hn : n = 1 := hn.elim (fun g => absurd (show 43 = 16 from g) (by decide)) (fun g => g.elim (fun g => absurd (show 43 = 73 from g) (by decide)) (fun g => g))
    subst hn
    cases hi
    have h : aretV (M.2.2.2.2.1 mi) S = some R := h
    unfold aretV at h
    match hst : S.2.2.1 with
    | _ :: _ => rw [hst] at h; cases h
    | [] =>
      rw [hst] at h
      obtain ⟨hk, h⟩ := cnd_t h
      cases h
      refine Or.inr (Or.inl ⟨rfl, fun hp => ?_⟩)
      intro ν lc sc u n h0 hγ hL hS hF hn
      have hS9 := hS
      rw [hst] at hS9
      have := dS_n hS9
      subst this
      exact cg_ret (v := none) (hp ν _ u n _ h0 hγ hS hF hn.1 rfl) (Or.inr (Or.inr ⟨rfl, hd, (A.2.2.2.1 mi).1 (Nat.beq_eq.mp hk)⟩))
  | 44 =>
    have hn : n = 1 := hn.elim (fun g => absurd (show 44 = 16 from g) (by decide)) (fun g => g.elim (fun g => absurd (show 44 = 73 from g) (by decide)) (fun g => g))
    subst hn
    cases hi
    exact Or.inl (abI_ok (gI_add hd) h)
  | 45 =>
    have hn : n = 1 := hn.elim (fun g => absurd (show 45 = 16 from g) (by decide)) (fun g => g.elim (fun g => absurd (show 45 = 73 from g) (by decide)) (fun g => g))
    subst hn
    cases hi
    exact Or.inl (abI_ok (gI_sub hd) h)
  | 46 =>
    have hn : n = 1 := hn.elim (fun g => absurd (show 46 = 16 from g) (by decide)) (fun g => g.elim (fun g => absurd (show 46 = 73 from g) (by decide)) (fun g => g))
    subst hn
    cases hi
    exact Or.inl (apsh_ok (w := .int (Int32.ofInt k)) (fun _ r => zw_iconst hd) (fun o ν => dV_i ν k (inI_iff.mp o).1 (inI_iff.mp o).2) h)
  | 47 =>
    have hn : n = 2 := hn.elim (fun g => absurd (show 47 = 16 from g) (by decide)) (fun g => g.elim (fun g => absurd (show 47 = 73 from g) (by decide)) (fun g => g))
    subst hn
    cases hi
    exact Or.inl (apsh_ok (w := .int (Int32.ofInt k)) (fun o r => by simp only [Bool.and_eq_true, ile_iff] at o; exact zw_bipush o.1 o.2 hd) (fun o ν => by simp only [Bool.and_eq_true, ile_iff] at o; exact dV_i ν k (by omega) (by omega)) h)
  | 48 =>
    have hn : n = 3 := hn.elim (fun g => absurd (show 48 = 16 from g) (by decide)) (fun g => g.elim (fun g => absurd (show 48 = 73 from g) (by decide)) (fun g => g))
    subst hn
    cases hi
    exact Or.inl (apsh_ok (w := .int (Int32.ofInt k)) (fun o r => by simp only [Bool.and_eq_true, ile_iff] at o; exact zw_sipush o.1 o.2 hd) (fun o ν => by simp only [Bool.and_eq_true, ile_iff] at o; exact dV_i ν k (by omega) (by omega)) h)
  | 49 =>
    have hn : n = 1 := hn.elim (fun g => absurd (show 49 = 16 from g) (by decide)) (fun g => g.elim (fun g => absurd (show 49 = 73 from g) (by decide)) (fun g => g))
    subst hn
    cases hi
    exact Or.inl (apsh_ok (w := .long (Int64.ofInt (Int.ofNat (a % 2)))) (fun _ r => zw_lconst hd) (fun o ν => dV_j ν _ (by have : Int.ofNat (a % 2) = ((a % 2 : Nat) : Int) := rfl; omega) (by have : Int.ofNat (a % 2) = ((a % 2 : Nat) : Int) := rfl; omega)) h)
  | 50 => cases h
  | 51 =>
    have hn : n = 1 := hn.elim (fun g => absurd (show 51 = 16 from g) (by decide)) (fun g => g.elim (fun g => absurd (show 51 = 73 from g) (by decide)) (fun g => g))
    subst hn
    cases hi
    exact Or.inl (abI_ok (gI_mul hd) h)
  | 52 =>
    have hn : n = 1 := hn.elim (fun g => absurd (show 52 = 16 from g) (by decide)) (fun g => g.elim (fun g => absurd (show 52 = 73 from g) (by decide)) (fun g => g))
    subst hn
    cases hi
    exact Or.inl (abI_ok (gI_and hd) h)
  | 53 =>
    have hn : n = 1 := hn.elim (fun g => absurd (show 53 = 16 from g) (by decide)) (fun g => g.elim (fun g => absurd (show 53 = 73 from g) (by decide)) (fun g => g))
    subst hn
    cases hi
    exact Or.inl (abJ_ok (gJ_and hd) h)
  | 54 =>
    have hn : n = 1 := hn.elim (fun g => absurd (show 54 = 16 from g) (by decide)) (fun g => g.elim (fun g => absurd (show 54 = 73 from g) (by decide)) (fun g => g))
    subst hn
    cases hi
    exact Or.inl (abJ_ok (gJ_or hd) h)
  | 55 =>
    have hn : n = 1 := hn.elim (fun g => absurd (show 55 = 16 from g) (by decide)) (fun g => g.elim (fun g => absurd (show 55 = 73 from g) (by decide)) (fun g => g))
    subst hn
    cases hi
    exact Or.inl (abS_ok (Or.inl hd) h)
  | 56 =>
    have hn : n = 1 := hn.elim (fun g => absurd (show 56 = 16 from g) (by decide)) (fun g => g.elim (fun g => absurd (show 56 = 73 from g) (by decide)) (fun g => g))
    subst hn
    cases hi
    exact Or.inl (abJ_ok (gJ_cmp hd) h)
  | 57 =>
    have hn : n = 1 := hn.elim (fun g => absurd (show 57 = 16 from g) (by decide)) (fun g => g.elim (fun g => absurd (show 57 = 73 from g) (by decide)) (fun g => g))
    subst hn
    cases hi
    exact Or.inl (au1_ok (gU_i2l hd) h)
  | 58 =>
    have hn : n = 1 := hn.elim (fun g => absurd (show 58 = 16 from g) (by decide)) (fun g => g.elim (fun g => absurd (show 58 = 73 from g) (by decide)) (fun g => g))
    subst hn
    cases hi
    exact Or.inl (au1_ok (gU_l2i hd) h)
  | 59 =>
    have hn : n = 1 := hn.elim (fun g => absurd (show 59 = 16 from g) (by decide)) (fun g => g.elim (fun g => absurd (show 59 = 73 from g) (by decide)) (fun g => g))
    subst hn
    cases hi
    exact Or.inl (au1_ok (gU_i2c hd) h)
  | 60 =>
    have hn : n = 1 := hn.elim (fun g => absurd (show 60 = 16 from g) (by decide)) (fun g => g.elim (fun g => absurd (show 60 = 73 from g) (by decide)) (fun g => g))
    subst hn
    cases hi
    exact Or.inl (adup_ok hl9 hd h)
  | 61 => cases h
  | 62 =>
    have hn : n = 1 := hn.elim (fun g => absurd (show 62 = 16 from g) (by decide)) (fun g => g.elim (fun g => absurd (show 62 = 73 from g) (by decide)) (fun g => g))
    subst hn
    cases hi
    exact Or.inl (adup2_ok hl9 hd h)
  | 63 =>
    have hn : n = 1 := hn.elim (fun g => absurd (show 63 = 16 from g) (by decide)) (fun g => g.elim (fun g => absurd (show 63 = 73 from g) (by decide)) (fun g => g))
    subst hn
    cases hi
    exact Or.inl (apop_ok hl9 hd h)
  | 64 =>
    have hn : n = 1 := hn.elim (fun g => absurd (show 64 = 16 from g) (by decide)) (fun g => g.elim (fun g => absurd (show 64 = 73 from g) (by decide)) (fun g => g))
    subst hn
    cases hi
    exact Or.inl (abJ_ok (gJ_add hd) h)
  | 65 =>
    have hn : n = 1 := hn.elim (fun g => absurd (show 65 = 16 from g) (by decide)) (fun g => g.elim (fun g => absurd (show 65 = 73 from g) (by decide)) (fun g => g))
    subst hn
    cases hi
    exact Or.inl (abJ_ok (gJ_sub hd) h)
  | 66 =>
    have hn : n = 1 := hn.elim (fun g => absurd (show 66 = 16 from g) (by decide)) (fun g => g.elim (fun g => absurd (show 66 = 73 from g) (by decide)) (fun g => g))
    subst hn
    cases hi
    exact Or.inl (abJ_ok (gJ_mul hd) h)
  | 67 =>
    have hn : n = 1 := hn.elim (fun g => absurd (show 67 = 16 from g) (by decide)) (fun g => g.elim (fun g => absurd (show 67 = 73 from g) (by decide)) (fun g => g))
    subst hn
    cases hi
    exact Or.inl (abI_ok (gI_div hd) h)
  | 68 =>
    have hn : n = 1 := hn.elim (fun g => absurd (show 68 = 16 from g) (by decide)) (fun g => g.elim (fun g => absurd (show 68 = 73 from g) (by decide)) (fun g => g))
    subst hn
    cases hi
    exact Or.inl (abI_ok (gI_rem hd) h)
  | 69 =>
    have hn : n = 1 := hn.elim (fun g => absurd (show 69 = 16 from g) (by decide)) (fun g => g.elim (fun g => absurd (show 69 = 73 from g) (by decide)) (fun g => g))
    subst hn
    cases hi
    exact Or.inl (abJ_ok (gJ_div hd) h)
  | 70 =>
    have hn : n = 1 := hn.elim (fun g => absurd (show 70 = 16 from g) (by decide)) (fun g => g.elim (fun g => absurd (show 70 = 73 from g) (by decide)) (fun g => g))
    subst hn
    cases hi
    exact Or.inl (abJ_ok (gJ_rem hd) h)
  | 71 =>
    have hn : n = 1 := hn.elim (fun g => absurd (show 71 = 16 from g) (by decide)) (fun g => g.elim (fun g => absurd (show 71 = 73 from g) (by decide)) (fun g => g))
    subst hn
    cases hi
    exact Or.inl (abS_ok (Or.inr hd) h)
  | 72 =>
    have hn : n = 1 := hn.elim (fun g => absurd (show 72 = 16 from g) (by decide)) (fun g => g.elim (fun g => absurd (show 72 = 73 from g) (by decide)) (fun g => g))
    subst hn
    cases hi
    exact Or.inl (au1_ok (gU_ineg hd) h)
  | 73 =>
    cases hi
    have h : (bif ((apr2 ll).zip ((apr2 ll).drop 1)).all (fun (x, y) => x.1 < y.1) then asw k (apr2 ll) S else none) = some R := h
    obtain ⟨hk, h⟩ := cnd_t h
    exact Or.inl (alok_ok hk hd h)
  | 74 =>
    have hn : n = 3 := hn.elim (fun g => absurd (show 74 = 16 from g) (by decide)) (fun g => g.elim (fun g => absurd (show 74 = 73 from g) (by decide)) (fun g => g))
    subst hn
    cases hi
    exact Or.inl (acpy_ok hg hl9 hm h)
  | 75 =>
    have hn : n = 3 := hn.elim (fun g => absurd (show 75 = 16 from g) (by decide)) (fun g => g.elim (fun g => absurd (show 75 = 73 from g) (by decide)) (fun g => g))
    subst hn
    cases hi
    exact Or.inl (aidx_ok (A.2.1 mi).1 hl9 hm h)
  | 76 =>
    have hn : n = 2 := hn.elim (fun g => absurd (show 76 = 16 from g) (by decide)) (fun g => g.elim (fun g => absurd (show 76 = 73 from g) (by decide)) (fun g => g))
    subst hn
    cases hi
    exact Or.inl (astr_ok hm h)
  | 77 =>
    have hn : n = 1 := hn.elim (fun g => absurd (show 77 = 16 from g) (by decide)) (fun g => g.elim (fun g => absurd (show 77 = 73 from g) (by decide)) (fun g => g))
    subst hn
    cases hi
    exact Or.inl (au1_ok (gU_lneg hd) h)
  | 78 =>
    have hn : n = 3 := hn.elim (fun g => absurd (show 78 = 16 from g) (by decide)) (fun g => g.elim (fun g => absurd (show 78 = 73 from g) (by decide)) (fun g => g))
    subst hn
    cases hi
    exact Or.inl (aic3_ok hd h)
  | 79 =>
    have hn : n = 1 := hn.elim (fun g => absurd (show 79 = 16 from g) (by decide)) (fun g => g.elim (fun g => absurd (show 79 = 73 from g) (by decide)) (fun g => g))
    subst hn
    cases hi
    exact Or.inl (alan_ok hd h)
  | 80 =>
    have hn : n = 1 := hn.elim (fun g => absurd (show 80 = 16 from g) (by decide)) (fun g => g.elim (fun g => absurd (show 80 = 73 from g) (by decide)) (fun g => g))
    subst hn
    cases hi
    exact Or.inl (alsh_ok hd h)
  | 81 =>
    have hn : n = 1 := hn.elim (fun g => absurd (show 81 = 16 from g) (by decide)) (fun g => g.elim (fun g => absurd (show 81 = 73 from g) (by decide)) (fun g => g))
    subst hn
    cases hi
    exact Or.inl (alor_ok hd h)
  | 82 =>
    have hn : n = 3 := hn.elim (fun g => absurd (show 82 = 16 from g) (by decide)) (fun g => g.elim (fun g => absurd (show 82 = 73 from g) (by decide)) (fun g => g))
    subst hn
    cases hi
    exact Or.inl (aif3_ok hd h)
  | n9 + 83 =>
    replace h : (bif Nat.ble (n9 + 83) 82 then _ else none) = some R := h
    have hb : Nat.ble (n9 + 83) 82 = false := by
      cases hq : Nat.ble (n9 + 83) 82 with
      | false => rfl
      | true => have := Nat.le_of_ble_eq_true hq; omega
    rw [hb] at h
    cases h
end GY
