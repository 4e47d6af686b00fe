/-! ===== what the start says of the statics: paths into the tree of its conditions ===== -/
def cp : Nat → Nat → Cond → Cond
  | 0, _, c => c
  | f + 1, n, c => if n = 1 then c else match c with
    | .and a b => if n % 2 = 0 then cp f (n / 2) a else cp f (n / 2) b
    | c => c
theorem cp_ok {args : Array Value} {s : State} : ∀ (f n : Nat) (c : Cond), c.before args s = true → (cp f n c).before args s = true
  | 0, _, _, h => h
  | f + 1, n, c, h => by
    unfold cp
    split
    · exact h
    · split
      · rw [Cond.before_and, Bool.and_eq_true] at h
        split
        · exact cp_ok f _ _ h.1
        · exact cp_ok f _ _ h.2
      · exact h
theorem cp_is {args : Array Value} {s : State} {n : Nat} {c : Cond} (h : narrow_1.before args s = true) (e : cp 16 n narrow_1 = c) : c.before args s = true := by
  rw [← e]; exact cp_ok 16 n _ h
def kndN (i : Nat) : String := ["SINE", "POLAR", "TIMES", "OVER", "BOW", "POWER", "LOG", "ROOT", "TURN"].getD i ""
def pcsN (i : Nat) : String := ["WIDTH", "GUARD", "STAGES", "PIPE", "FOLD", "NEAR"].getD i ""
def knT (i : Nat) : Term := .static "TurnShifts$Kind" (kndN i) "LTurnShifts$Kind;"
def pcT (i : Nat) : Term := .static "TurnShifts$Piece" (pcsN i) "LTurnShifts$Piece;"
def sTm (i : Nat) : Term := ([.string "TurnShifts$Kind" 68, .string "TurnShifts$Kind" 74, .string "TurnShifts$Kind" 77, .string "TurnShifts$Kind" 80, .string "TurnShifts$Kind" 83, .string "TurnShifts$Kind" 86, .string "TurnShifts$Kind" 89, .string "TurnShifts$Kind" 92, .string "TurnShifts$Kind" 95, .string "TurnShifts$Piece" 53, .string "TurnShifts$Piece" 59, .string "TurnShifts$Piece" 62, .string "TurnShifts$Piece" 65, .string "TurnShifts$Piece" 68, .string "TurnShifts$Piece" 71, .string "TurnShiftsModel" 42, .string "TurnShiftsModel" 48, .string "TurnShiftsModel" 50, .string "TurnShiftsModel" 52, .string "TurnShiftsModel" 54, .string "TurnShiftsModel" 56, .string "TurnShiftsModel" 99, .string "TurnShiftsModel" 101, .string "TurnShiftsModel" 103, .string "TurnShiftsModel" 105, .string "TurnShiftsModel" 107, .string "TurnShiftsModel" 109, .string "TurnShiftsModel" 111, .string "TurnShiftsModel" 113, .string "TurnShiftsModel" 115, .string "TurnShifts" 255] : List Term).getD i (.int 0)
theorem nk_ex : ∀ i, i < 9 → cp 16 (([844, 2028, 956, 546, 722, 586, 922, 902, 598] : List Nat).getD i 1) narrow_1 = .exactly (knT i) "TurnShifts$Kind" := by decide +kernel
theorem np_ex : ∀ i, i < 6 → cp 16 (([888, 772, 1476, 868, 596, 628] : List Nat).getD i 1) narrow_1 = .exactly (pcT i) "TurnShifts$Piece" := by decide +kernel
theorem nk_or : ∀ i, i < 9 → cp 16 (([716, 540, 636, 802, 1490, 842, 602, 582, 854] : List Nat).getD i 1) narrow_1 = .eq (.field (knT i) "java/lang/Enum" "ordinal" "I") (.int (Int32.ofNat i)) := by decide +kernel
theorem nk_wo : ∀ i, i < 9 → cp 16 (([1484, 796, 892, 674, 2002, 714, 858, 838, 726] : List Nat).getD i 1) narrow_1 = .eq (.field (knT i) "TurnShifts$Kind" "word" "Ljava/lang/String;") (sTm i) := by decide +kernel
theorem nk_na : ∀ i, i < 9 → cp 16 (([1996, 668, 764, 930, 562, 1482, 730, 710, 1494] : List Nat).getD i 1) narrow_1 = .eq (.field (knT i) "TurnShifts$Kind" "names" "I") (.int (kNames i)) := by decide +kernel
theorem nk_mo : ∀ i, i < 9 → cp 16 (([556, 924, 1532, 610, 818, 1994, 1498, 1478, 2006] : List Nat).getD i 1) narrow_1 = .eq (.field (knT i) "TurnShifts$Kind" "mode" "I") (.int (kMode i)) := by decide +kernel
theorem nk_tu : ∀ i, i < 9 → cp 16 (([812, 604, 2044, 866, 690, 554, 2010, 1990, 566] : List Nat).getD i 1) narrow_1 = .eq (.field (knT i) "TurnShifts$Kind" "turning" "Z") (.int (bI (kTurn i))) := by decide +kernel
theorem np_or : ∀ i, i < 6 → cp 16 (([760, 644, 1988, 740, 852, 884] : List Nat).getD i 1) narrow_1 = .eq (.field (pcT i) "java/lang/Enum" "ordinal" "I") (.int (Int32.ofNat i)) := by decide +kernel
theorem np_wo : ∀ i, i < 6 → cp 16 (([1528, 900, 548, 1508, 724, 756] : List Nat).getD i 1) narrow_1 = .eq (.field (pcT i) "TurnShifts$Piece" "word" "Ljava/lang/String;") (sTm (9 + i)) := by decide +kernel
theorem np_le : ∀ i, i < 6 → cp 16 (([2040, 580, 804, 2020, 1492, 1524] : List Nat).getD i 1) narrow_1 = .eq (.field (pcT i) "TurnShifts$Piece" "least" "I") (.int (pLeast i)) := by decide +kernel
theorem np_gr : ∀ i, i < 6 → cp 16 (([516, 836, 676, 532, 2004, 2036] : List Nat).getD i 1) narrow_1 = .eq (.field (pcT i) "TurnShifts$Piece" "greatest" "I") (.int (pGreat i)) := by decide +kernel
theorem ns_ex : ∀ i, i < 31 → cp 16 (([859, 891, 711, 1511, 1495, 759, 1487, 751, 735, 771, 675, 915, 883, 843, 875, 657, 689, 649, 937, 665, 825, 517, 1989, 2021, 2005, 1525, 845, 877, 925, 701, 2030] : List Nat).getD i 1) narrow_1 = .exactly (sTm i) "java/lang/String" := by decide +kernel
theorem ns_co : ∀ i, i < 31 → cp 16 (([731, 763, 1479, 2023, 2007, 1527, 1999, 1519, 1503, 643, 931, 595, 755, 715, 747, 913, 945, 905, 617, 921, 697, 773, 549, 533, 565, 2037, 717, 749, 605, 957, 542] : List Nat).getD i 1) narrow_1 = .eq (.field (sTm i) "java/lang/String" "coder" "B") (.int 0) := by decide +kernel
theorem ns_ar : ∀ i, i < 31 → cp 16 (([1499, 1531, 1991, 535, 567, 2039, 559, 2031, 2015, 899, 611, 851, 1523, 1483, 1515, 593, 625, 585, 873, 601, 953, 645, 805, 789, 821, 525, 1485, 1517, 861, 637, 798] : List Nat).getD i 1) narrow_1 = .arrayOf (.field (sTm i) "java/lang/String" "value" "[B") .byte := by decide +kernel
theorem ns_le : ∀ i, i < 31 → cp 16 (([2011, 2043, 551, 791, 823, 527, 815, 543, 575, 579, 867, 723, 2035, 1995, 2027, 849, 881, 841, 745, 857, 633, 901, 677, 661, 693, 781, 1997, 2029, 733, 893, 670] : List Nat).getD i 1) narrow_1 = .eq (.length (.field (sTm i) "java/lang/String" "value" "[B")) (.int (Int32.ofNat (sL i))) := by decide +kernel
def nsE : List (List Nat) := [[571, 827, 699, 955], [519, 775, 647, 903, 583], [807, 679, 935, 615, 871], [663, 919, 599, 855], [695, 951, 631], [783, 655, 911, 591, 847], [687, 943, 623], [799, 671, 927, 607], [831, 703, 959, 639], [835, 707, 1475, 1987, 547], [739, 1507, 2019, 531, 787], [1491, 2003, 563, 819, 691, 947], [523, 779, 651, 907], [555, 811, 683, 939], [539, 795, 667, 923], [721, 1489, 2001, 561, 817], [753, 1521, 2033, 521, 777], [713, 1481, 1993, 553, 809, 681], [1513, 2025, 537, 793], [729, 1497, 2009, 569], [889, 761, 1529, 2041], [581, 837, 709, 1477], [933, 613, 869, 741, 1509], [917, 597, 853, 725, 1493], [949, 629, 885, 757], [653, 909, 589], [557, 813, 685, 941, 621], [541, 797, 669], [1501, 2013, 573, 829], [765, 1533, 2045, 515], [926, 606, 862, 734, 1502, 2014, 574, 830, 702, 958, 638, 894, 766, 1534, 2046, 513, 769, 641, 897, 577, 833, 705, 961, 545, 801, 673, 929, 609, 865, 737, 1505, 2017, 529, 785]]
theorem ns_el : ∀ i, i < 31 → ∀ j, j < sL i → cp 16 ((nsE.getD i []).getD j 1) narrow_1 = .eq (.elem (.field (sTm i) "java/lang/String" "value" "[B") (.int (Int32.ofNat j))) (.int (sCh i j)) := by decide +kernel
theorem ka_ar : cp 16 944 narrow_1 = .arrayOf (.static "TurnShifts" "KINDS" "[LTurnShifts$Kind;") (.object "TurnShifts$Kind") := by decide +kernel
theorem ka_le : cp 16 624 narrow_1 = .eq (.length (.static "TurnShifts" "KINDS" "[LTurnShifts$Kind;")) (.int (Int32.ofNat 9)) := by decide +kernel
theorem ka_el : ∀ i, i < 9 → cp 16 (([752, 1520, 2032, 520, 776, 648, 904, 584, 840] : List Nat).getD i 1) narrow_1 = .eq (.elem (.static "TurnShifts" "KINDS" "[LTurnShifts$Kind;") (.int (Int32.ofNat i))) (knT i) := by decide +kernel
theorem pa_ar : cp 16 576 narrow_1 = .arrayOf (.static "TurnShifts" "PIECES" "[LTurnShifts$Piece;") (.object "TurnShifts$Piece") := by decide +kernel
theorem pa_le : cp 16 832 narrow_1 = .eq (.length (.static "TurnShifts" "PIECES" "[LTurnShifts$Piece;")) (.int (Int32.ofNat 6)) := by decide +kernel
theorem pa_el : ∀ i, i < 6 → cp 16 (([960, 544, 800, 672, 928, 608] : List Nat).getD i 1) narrow_1 = .eq (.elem (.static "TurnShifts" "PIECES" "[LTurnShifts$Piece;") (.int (Int32.ofNat i))) (pcT i) := by decide +kernel
theorem wk_ar : cp 16 1480 narrow_1 = .arrayOf (.static "TurnShifts$1" "$SwitchMap$TurnShifts$Kind" "[I") .int := by decide +kernel
theorem wk_le : cp 16 1992 narrow_1 = .eq (.length (.static "TurnShifts$1" "$SwitchMap$TurnShifts$Kind" "[I")) (.int (Int32.ofNat 9)) := by decide +kernel
theorem wk_el : ∀ i, i < 9 → cp 16 (([552, 808, 680, 936, 616, 872, 744, 1512, 2024] : List Nat).getD i 1) narrow_1 = .eq (.elem (.static "TurnShifts$1" "$SwitchMap$TurnShifts$Kind" "[I") (.int (Int32.ofNat i))) (.int (swK i)) := by decide +kernel
theorem wq_ar : cp 16 656 narrow_1 = .arrayOf (.static "TurnShifts$1" "$SwitchMap$TurnShifts$Piece" "[I") .int := by decide +kernel
theorem wq_le : cp 16 912 narrow_1 = .eq (.length (.static "TurnShifts$1" "$SwitchMap$TurnShifts$Piece" "[I")) (.int (Int32.ofNat 6)) := by decide +kernel
theorem wq_el : ∀ i, i < 6 → cp 16 (([592, 848, 720, 1488, 2000, 560] : List Nat).getD i 1) narrow_1 = .eq (.elem (.static "TurnShifts$1" "$SwitchMap$TurnShifts$Piece" "[I") (.int (Int32.ofNat i))) (.int (swP i)) := by decide +kernel
theorem mo_ar : cp 16 920 narrow_1 = .arrayOf (.static "TurnShiftsModel" "MODE_OF" "[I") .int := by decide +kernel
theorem mo_le : cp 16 600 narrow_1 = .eq (.length (.static "TurnShiftsModel" "MODE_OF" "[I")) (.int (Int32.ofNat 9)) := by decide +kernel
theorem mo_el : ∀ i, i < 9 → cp 16 (([856, 728, 1496, 2008, 568, 824, 696, 952, 632] : List Nat).getD i 1) narrow_1 = .eq (.elem (.static "TurnShiftsModel" "MODE_OF" "[I") (.int (Int32.ofNat i))) (.int (mdOf i)) := by decide +kernel
theorem cs_eq : cp 16 864 narrow_1 = .eq (.static "java/lang/String" "COMPACT_STRINGS" "Z") (.int 1) := by decide +kernel
theorem si_rf : cp 16 736 narrow_1 = .isRef (.static "jdk/internal/util/Preconditions" "SIOOBE_FORMATTER" "Ljava/util/function/BiFunction;") := by decide +kernel
theorem un_rf : cp 16 536 narrow_1 = .isRef (.static Bundle.tN "UNASSIGNED_STACK" Bundle.steD) := by decide +kernel
theorem se_rf : cp 16 792 narrow_1 = .isRef (.static Bundle.tN "SUPPRESSED_SENTINEL" Bundle.listD) := by decide +kernel
