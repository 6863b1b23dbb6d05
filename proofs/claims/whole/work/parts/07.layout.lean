/-! ===== the layout of the two systems ===== -/
def kdCl : List (Nat × Nat × Nat) := [(0, 10, 9), (0, 3, 5), (0, 8, 2), (1, 1500, 0), (0, 2, 3), (1, 21, 0), (1, 21, 0), (0, 2, 3), (1, 61, 0), (1, 61, 0), (0, 2, 3), (1, 61, 0), (1, 61, 0), (0, 2, 3), (1, 13, 0), (1, 13, 0), (0, 3, 5), (0, 8, 2), (1, 1500, 0), (0, 2, 3), (1, 21, 0), (1, 21, 0), (0, 2, 3), (1, 61, 0), (1, 61, 0), (0, 2, 3), (1, 61, 0), (1, 61, 0), (0, 2, 3), (1, 13, 0), (1, 13, 0), (0, 4, 6), (1, 256, 0), (0, 7, 14), (1, 64, 0), (1, 64, 0), (1, 18, 0), (1, 61, 0), (1, 61, 0), (1, 21, 0), (3, 8, 2), (4, 13, 17), (0, 6, 7), (1, 4, 0), (0, 6, 7), (1, 4, 0), (0, 6, 7), (1, 4, 0), (0, 6, 7), (1, 4, 0), (0, 6, 7), (1, 4, 0), (0, 6, 7), (1, 4, 0), (0, 6, 7), (1, 4, 0), (0, 6, 7), (1, 4, 0), (0, 0, 7), (0, 0, 7), (0, 0, 7), (0, 0, 7), (0, 0, 7), (0, 0, 7), (0, 0, 7), (0, 0, 7), (0, 0, 7), (0, 0, 7), (0, 0, 7), (0, 0, 7), (0, 0, 7), (0, 7, 14), (1, 64, 0), (1, 64, 0), (1, 18, 0), (1, 61, 0), (1, 61, 0), (1, 21, 0), (3, 8, 2), (4, 13, 17), (0, 6, 7), (1, 4, 0), (0, 6, 7), (1, 4, 0), (0, 6, 7), (1, 4, 0), (0, 6, 7), (1, 4, 0), (0, 6, 7), (1, 4, 0), (0, 6, 7), (1, 4, 0), (0, 6, 7), (1, 4, 0), (0, 6, 7), (1, 4, 0), (0, 0, 7), (0, 0, 7), (0, 0, 7), (0, 0, 7), (0, 0, 7), (0, 0, 7), (0, 0, 7), (0, 0, 7), (0, 0, 7), (0, 0, 7), (0, 0, 7), (0, 0, 7), (0, 0, 7), (0, 1, 6), (1, 21, 0), (1, 336, 0), (1, 336, 0), (1, 336, 0), (1, 336, 0), (1, 336, 0), (0, 9, 7), (1, 16, 0), (0, 5, 10), (1, 4, 0)]
def kdC (k : Nat) : Nat × Nat × Nat := kdCl.getD k (9, 0, 0)
def rlCl : List (List (Option (Bool × Nat))) := [[none, none, none, none, none, none, none], [some (true, 1), some (true, 2), some (true, 3), some (true, 4), some (true, 5), some (true, 6)], [some (true, 1), some (true, 2), none], [some (true, 1), some (true, 3), some (true, 6), some (true, 9), some (true, 12)], [none, none, some (false, 1), some (true, 1), none, none], [some (false, 16), some (false, 109), some (false, 33), some (false, 116), some (true, 1), none, none, none, none, none], [none, none, none, none, none, none, some (true, 1)], [none, none, none, none, none, none, some (true, 1), some (true, 2), some (true, 3), some (true, 4), some (true, 5), some (true, 6), some (true, 7), some (true, 8)], [some (true, 1), none], [some (false, 16), some (false, 109), some (false, 33), some (true, 1), none, none, none], [some (false, 1), some (false, 16), some (false, 31), some (false, 33), some (false, 71), some (false, 109), some (false, 116), some (false, 118), none], []]
def rlC (ci j : Nat) : Option (Bool × Nat) := (rlCl.getD ci []).getD j none
def YC : Lay := (120, kdC, rlC)
def kdMl : List (Nat × Nat × Nat) := [(0, 11, 40), (1, 6000, 0), (1, 6000, 0), (2, 21, 0), (1, 21, 0), (1, 1344, 0), (1, 61, 0), (1, 61, 0), (2, 61, 0), (1, 183, 0), (1, 61, 0), (1, 61, 0), (2, 13, 0), (2, 256, 0), (2, 256, 0), (1, 781, 0), (1, 781, 0), (1, 16, 0), (1, 4, 0), (1, 4, 0)]
def kdM (k : Nat) : Nat × Nat × Nat := kdMl.getD k (9, 0, 0)
def rlMl : List (Option (Bool × Nat)) := [none, some (true, 1), none, some (true, 2), none, none, none, none, none, some (true, 3), some (true, 4), some (true, 5), some (true, 6), some (true, 7), some (true, 8), some (true, 9), some (true, 10), some (true, 11), some (true, 12), none, none, some (true, 13), none, none, some (true, 14), none, none, some (true, 15), some (true, 16), none, some (true, 17), none, none, none, none, none, none, some (true, 18), none, none]
def rlM (ci j : Nat) : Option (Bool × Nat) := if ci = 11 then rlMl.getD j none else none
/-- the model's, with the row that judge makes, or without -/
def YM (b : Bool) : Lay := (if b then 20 else 19, kdM, rlM)
def lenC (k : Nat) : Nat := (kdC k).2.1
def posCl : List (List Nat) := [[58, 59, 60, 61, 62, 63, 64, 65, 66, 67, 68, 69, 70, 96, 97, 98, 99, 100, 101, 102, 103, 104, 105, 106, 107, 108], [109], [4, 7, 10, 13, 19, 22, 25, 28], [1, 16], [31], [118], [42, 44, 46, 48, 50, 52, 54, 56, 80, 82, 84, 86, 88, 90, 92, 94], [33, 71], [2, 17], [116], [0], []]
def isO (ci q : Nat) : Prop := q ∈ posCl.getD ci []
theorem kc_0 : YC.2.1 0 = (0, 10, 9) := rfl
theorem lc_0 : 0 < YC.1 := by decide
theorem kc_1 : YC.2.1 1 = (0, 3, 5) := rfl
theorem lc_1 : 1 < YC.1 := by decide
theorem kc_2 : YC.2.1 2 = (0, 8, 2) := rfl
theorem lc_2 : 2 < YC.1 := by decide
theorem kc_3 : YC.2.1 3 = (1, 1500, 0) := rfl
theorem lc_3 : 3 < YC.1 := by decide
theorem kc_4 : YC.2.1 4 = (0, 2, 3) := rfl
theorem lc_4 : 4 < YC.1 := by decide
theorem kc_5 : YC.2.1 5 = (1, 21, 0) := rfl
theorem lc_5 : 5 < YC.1 := by decide
theorem kc_6 : YC.2.1 6 = (1, 21, 0) := rfl
theorem lc_6 : 6 < YC.1 := by decide
theorem kc_7 : YC.2.1 7 = (0, 2, 3) := rfl
theorem lc_7 : 7 < YC.1 := by decide
theorem kc_8 : YC.2.1 8 = (1, 61, 0) := rfl
theorem lc_8 : 8 < YC.1 := by decide
theorem kc_9 : YC.2.1 9 = (1, 61, 0) := rfl
theorem lc_9 : 9 < YC.1 := by decide
theorem kc_10 : YC.2.1 10 = (0, 2, 3) := rfl
theorem lc_10 : 10 < YC.1 := by decide
theorem kc_11 : YC.2.1 11 = (1, 61, 0) := rfl
theorem lc_11 : 11 < YC.1 := by decide
theorem kc_12 : YC.2.1 12 = (1, 61, 0) := rfl
theorem lc_12 : 12 < YC.1 := by decide
theorem kc_13 : YC.2.1 13 = (0, 2, 3) := rfl
theorem lc_13 : 13 < YC.1 := by decide
theorem kc_14 : YC.2.1 14 = (1, 13, 0) := rfl
theorem lc_14 : 14 < YC.1 := by decide
theorem kc_15 : YC.2.1 15 = (1, 13, 0) := rfl
theorem lc_15 : 15 < YC.1 := by decide
theorem kc_16 : YC.2.1 16 = (0, 3, 5) := rfl
theorem lc_16 : 16 < YC.1 := by decide
theorem kc_17 : YC.2.1 17 = (0, 8, 2) := rfl
theorem lc_17 : 17 < YC.1 := by decide
theorem kc_18 : YC.2.1 18 = (1, 1500, 0) := rfl
theorem lc_18 : 18 < YC.1 := by decide
theorem kc_19 : YC.2.1 19 = (0, 2, 3) := rfl
theorem lc_19 : 19 < YC.1 := by decide
theorem kc_20 : YC.2.1 20 = (1, 21, 0) := rfl
theorem lc_20 : 20 < YC.1 := by decide
theorem kc_21 : YC.2.1 21 = (1, 21, 0) := rfl
theorem lc_21 : 21 < YC.1 := by decide
theorem kc_22 : YC.2.1 22 = (0, 2, 3) := rfl
theorem lc_22 : 22 < YC.1 := by decide
theorem kc_23 : YC.2.1 23 = (1, 61, 0) := rfl
theorem lc_23 : 23 < YC.1 := by decide
theorem kc_24 : YC.2.1 24 = (1, 61, 0) := rfl
theorem lc_24 : 24 < YC.1 := by decide
theorem kc_25 : YC.2.1 25 = (0, 2, 3) := rfl
theorem lc_25 : 25 < YC.1 := by decide
theorem kc_26 : YC.2.1 26 = (1, 61, 0) := rfl
theorem lc_26 : 26 < YC.1 := by decide
theorem kc_27 : YC.2.1 27 = (1, 61, 0) := rfl
theorem lc_27 : 27 < YC.1 := by decide
theorem kc_28 : YC.2.1 28 = (0, 2, 3) := rfl
theorem lc_28 : 28 < YC.1 := by decide
theorem kc_29 : YC.2.1 29 = (1, 13, 0) := rfl
theorem lc_29 : 29 < YC.1 := by decide
theorem kc_30 : YC.2.1 30 = (1, 13, 0) := rfl
theorem lc_30 : 30 < YC.1 := by decide
theorem kc_31 : YC.2.1 31 = (0, 4, 6) := rfl
theorem lc_31 : 31 < YC.1 := by decide
theorem kc_32 : YC.2.1 32 = (1, 256, 0) := rfl
theorem lc_32 : 32 < YC.1 := by decide
theorem kc_33 : YC.2.1 33 = (0, 7, 14) := rfl
theorem lc_33 : 33 < YC.1 := by decide
theorem kc_34 : YC.2.1 34 = (1, 64, 0) := rfl
theorem lc_34 : 34 < YC.1 := by decide
theorem kc_35 : YC.2.1 35 = (1, 64, 0) := rfl
theorem lc_35 : 35 < YC.1 := by decide
theorem kc_36 : YC.2.1 36 = (1, 18, 0) := rfl
theorem lc_36 : 36 < YC.1 := by decide
theorem kc_37 : YC.2.1 37 = (1, 61, 0) := rfl
theorem lc_37 : 37 < YC.1 := by decide
theorem kc_38 : YC.2.1 38 = (1, 61, 0) := rfl
theorem lc_38 : 38 < YC.1 := by decide
theorem kc_39 : YC.2.1 39 = (1, 21, 0) := rfl
theorem lc_39 : 39 < YC.1 := by decide
theorem kc_40 : YC.2.1 40 = (3, 8, 2) := rfl
theorem lc_40 : 40 < YC.1 := by decide
theorem kc_41 : YC.2.1 41 = (4, 13, 17) := rfl
theorem lc_41 : 41 < YC.1 := by decide
theorem kc_42 : YC.2.1 42 = (0, 6, 7) := rfl
theorem lc_42 : 42 < YC.1 := by decide
theorem kc_43 : YC.2.1 43 = (1, 4, 0) := rfl
theorem lc_43 : 43 < YC.1 := by decide
theorem kc_44 : YC.2.1 44 = (0, 6, 7) := rfl
theorem lc_44 : 44 < YC.1 := by decide
theorem kc_45 : YC.2.1 45 = (1, 4, 0) := rfl
theorem lc_45 : 45 < YC.1 := by decide
theorem kc_46 : YC.2.1 46 = (0, 6, 7) := rfl
theorem lc_46 : 46 < YC.1 := by decide
theorem kc_47 : YC.2.1 47 = (1, 4, 0) := rfl
theorem lc_47 : 47 < YC.1 := by decide
theorem kc_48 : YC.2.1 48 = (0, 6, 7) := rfl
theorem lc_48 : 48 < YC.1 := by decide
theorem kc_49 : YC.2.1 49 = (1, 4, 0) := rfl
theorem lc_49 : 49 < YC.1 := by decide
theorem kc_50 : YC.2.1 50 = (0, 6, 7) := rfl
theorem lc_50 : 50 < YC.1 := by decide
theorem kc_51 : YC.2.1 51 = (1, 4, 0) := rfl
theorem lc_51 : 51 < YC.1 := by decide
theorem kc_52 : YC.2.1 52 = (0, 6, 7) := rfl
theorem lc_52 : 52 < YC.1 := by decide
theorem kc_53 : YC.2.1 53 = (1, 4, 0) := rfl
theorem lc_53 : 53 < YC.1 := by decide
theorem kc_54 : YC.2.1 54 = (0, 6, 7) := rfl
theorem lc_54 : 54 < YC.1 := by decide
theorem kc_55 : YC.2.1 55 = (1, 4, 0) := rfl
theorem lc_55 : 55 < YC.1 := by decide
theorem kc_56 : YC.2.1 56 = (0, 6, 7) := rfl
theorem lc_56 : 56 < YC.1 := by decide
theorem kc_57 : YC.2.1 57 = (1, 4, 0) := rfl
theorem lc_57 : 57 < YC.1 := by decide
theorem kc_58 : YC.2.1 58 = (0, 0, 7) := rfl
theorem lc_58 : 58 < YC.1 := by decide
theorem kc_59 : YC.2.1 59 = (0, 0, 7) := rfl
theorem lc_59 : 59 < YC.1 := by decide
theorem kc_60 : YC.2.1 60 = (0, 0, 7) := rfl
theorem lc_60 : 60 < YC.1 := by decide
theorem kc_61 : YC.2.1 61 = (0, 0, 7) := rfl
theorem lc_61 : 61 < YC.1 := by decide
theorem kc_62 : YC.2.1 62 = (0, 0, 7) := rfl
theorem lc_62 : 62 < YC.1 := by decide
theorem kc_63 : YC.2.1 63 = (0, 0, 7) := rfl
theorem lc_63 : 63 < YC.1 := by decide
theorem kc_64 : YC.2.1 64 = (0, 0, 7) := rfl
theorem lc_64 : 64 < YC.1 := by decide
theorem kc_65 : YC.2.1 65 = (0, 0, 7) := rfl
theorem lc_65 : 65 < YC.1 := by decide
theorem kc_66 : YC.2.1 66 = (0, 0, 7) := rfl
theorem lc_66 : 66 < YC.1 := by decide
theorem kc_67 : YC.2.1 67 = (0, 0, 7) := rfl
theorem lc_67 : 67 < YC.1 := by decide
theorem kc_68 : YC.2.1 68 = (0, 0, 7) := rfl
theorem lc_68 : 68 < YC.1 := by decide
theorem kc_69 : YC.2.1 69 = (0, 0, 7) := rfl
theorem lc_69 : 69 < YC.1 := by decide
theorem kc_70 : YC.2.1 70 = (0, 0, 7) := rfl
theorem lc_70 : 70 < YC.1 := by decide
theorem kc_71 : YC.2.1 71 = (0, 7, 14) := rfl
theorem lc_71 : 71 < YC.1 := by decide
theorem kc_72 : YC.2.1 72 = (1, 64, 0) := rfl
theorem lc_72 : 72 < YC.1 := by decide
theorem kc_73 : YC.2.1 73 = (1, 64, 0) := rfl
theorem lc_73 : 73 < YC.1 := by decide
theorem kc_74 : YC.2.1 74 = (1, 18, 0) := rfl
theorem lc_74 : 74 < YC.1 := by decide
theorem kc_75 : YC.2.1 75 = (1, 61, 0) := rfl
theorem lc_75 : 75 < YC.1 := by decide
theorem kc_76 : YC.2.1 76 = (1, 61, 0) := rfl
theorem lc_76 : 76 < YC.1 := by decide
theorem kc_77 : YC.2.1 77 = (1, 21, 0) := rfl
theorem lc_77 : 77 < YC.1 := by decide
theorem kc_78 : YC.2.1 78 = (3, 8, 2) := rfl
theorem lc_78 : 78 < YC.1 := by decide
theorem kc_79 : YC.2.1 79 = (4, 13, 17) := rfl
theorem lc_79 : 79 < YC.1 := by decide
theorem kc_80 : YC.2.1 80 = (0, 6, 7) := rfl
theorem lc_80 : 80 < YC.1 := by decide
theorem kc_81 : YC.2.1 81 = (1, 4, 0) := rfl
theorem lc_81 : 81 < YC.1 := by decide
theorem kc_82 : YC.2.1 82 = (0, 6, 7) := rfl
theorem lc_82 : 82 < YC.1 := by decide
theorem kc_83 : YC.2.1 83 = (1, 4, 0) := rfl
theorem lc_83 : 83 < YC.1 := by decide
theorem kc_84 : YC.2.1 84 = (0, 6, 7) := rfl
theorem lc_84 : 84 < YC.1 := by decide
theorem kc_85 : YC.2.1 85 = (1, 4, 0) := rfl
theorem lc_85 : 85 < YC.1 := by decide
theorem kc_86 : YC.2.1 86 = (0, 6, 7) := rfl
theorem lc_86 : 86 < YC.1 := by decide
theorem kc_87 : YC.2.1 87 = (1, 4, 0) := rfl
theorem lc_87 : 87 < YC.1 := by decide
theorem kc_88 : YC.2.1 88 = (0, 6, 7) := rfl
theorem lc_88 : 88 < YC.1 := by decide
theorem kc_89 : YC.2.1 89 = (1, 4, 0) := rfl
theorem lc_89 : 89 < YC.1 := by decide
theorem kc_90 : YC.2.1 90 = (0, 6, 7) := rfl
theorem lc_90 : 90 < YC.1 := by decide
theorem kc_91 : YC.2.1 91 = (1, 4, 0) := rfl
theorem lc_91 : 91 < YC.1 := by decide
theorem kc_92 : YC.2.1 92 = (0, 6, 7) := rfl
theorem lc_92 : 92 < YC.1 := by decide
theorem kc_93 : YC.2.1 93 = (1, 4, 0) := rfl
theorem lc_93 : 93 < YC.1 := by decide
theorem kc_94 : YC.2.1 94 = (0, 6, 7) := rfl
theorem lc_94 : 94 < YC.1 := by decide
theorem kc_95 : YC.2.1 95 = (1, 4, 0) := rfl
theorem lc_95 : 95 < YC.1 := by decide
theorem kc_96 : YC.2.1 96 = (0, 0, 7) := rfl
theorem lc_96 : 96 < YC.1 := by decide
theorem kc_97 : YC.2.1 97 = (0, 0, 7) := rfl
theorem lc_97 : 97 < YC.1 := by decide
theorem kc_98 : YC.2.1 98 = (0, 0, 7) := rfl
theorem lc_98 : 98 < YC.1 := by decide
theorem kc_99 : YC.2.1 99 = (0, 0, 7) := rfl
theorem lc_99 : 99 < YC.1 := by decide
theorem kc_100 : YC.2.1 100 = (0, 0, 7) := rfl
theorem lc_100 : 100 < YC.1 := by decide
theorem kc_101 : YC.2.1 101 = (0, 0, 7) := rfl
theorem lc_101 : 101 < YC.1 := by decide
theorem kc_102 : YC.2.1 102 = (0, 0, 7) := rfl
theorem lc_102 : 102 < YC.1 := by decide
theorem kc_103 : YC.2.1 103 = (0, 0, 7) := rfl
theorem lc_103 : 103 < YC.1 := by decide
theorem kc_104 : YC.2.1 104 = (0, 0, 7) := rfl
theorem lc_104 : 104 < YC.1 := by decide
theorem kc_105 : YC.2.1 105 = (0, 0, 7) := rfl
theorem lc_105 : 105 < YC.1 := by decide
theorem kc_106 : YC.2.1 106 = (0, 0, 7) := rfl
theorem lc_106 : 106 < YC.1 := by decide
theorem kc_107 : YC.2.1 107 = (0, 0, 7) := rfl
theorem lc_107 : 107 < YC.1 := by decide
theorem kc_108 : YC.2.1 108 = (0, 0, 7) := rfl
theorem lc_108 : 108 < YC.1 := by decide
theorem kc_109 : YC.2.1 109 = (0, 1, 6) := rfl
theorem lc_109 : 109 < YC.1 := by decide
theorem kc_110 : YC.2.1 110 = (1, 21, 0) := rfl
theorem lc_110 : 110 < YC.1 := by decide
theorem kc_111 : YC.2.1 111 = (1, 336, 0) := rfl
theorem lc_111 : 111 < YC.1 := by decide
theorem kc_112 : YC.2.1 112 = (1, 336, 0) := rfl
theorem lc_112 : 112 < YC.1 := by decide
theorem kc_113 : YC.2.1 113 = (1, 336, 0) := rfl
theorem lc_113 : 113 < YC.1 := by decide
theorem kc_114 : YC.2.1 114 = (1, 336, 0) := rfl
theorem lc_114 : 114 < YC.1 := by decide
theorem kc_115 : YC.2.1 115 = (1, 336, 0) := rfl
theorem lc_115 : 115 < YC.1 := by decide
theorem kc_116 : YC.2.1 116 = (0, 9, 7) := rfl
theorem lc_116 : 116 < YC.1 := by decide
theorem kc_117 : YC.2.1 117 = (1, 16, 0) := rfl
theorem lc_117 : 117 < YC.1 := by decide
theorem kc_118 : YC.2.1 118 = (0, 5, 10) := rfl
theorem lc_118 : 118 < YC.1 := by decide
theorem kc_119 : YC.2.1 119 = (1, 4, 0) := rfl
theorem lc_119 : 119 < YC.1 := by decide
theorem km_0 (b : Bool) : (YM b).2.1 0 = (0, 11, 40) := rfl
theorem lm_0 (b : Bool) : 0 < (YM b).1 := by cases b <;> decide
theorem km_1 (b : Bool) : (YM b).2.1 1 = (1, 6000, 0) := rfl
theorem lm_1 (b : Bool) : 1 < (YM b).1 := by cases b <;> decide
theorem km_2 (b : Bool) : (YM b).2.1 2 = (1, 6000, 0) := rfl
theorem lm_2 (b : Bool) : 2 < (YM b).1 := by cases b <;> decide
theorem km_3 (b : Bool) : (YM b).2.1 3 = (2, 21, 0) := rfl
theorem lm_3 (b : Bool) : 3 < (YM b).1 := by cases b <;> decide
theorem km_4 (b : Bool) : (YM b).2.1 4 = (1, 21, 0) := rfl
theorem lm_4 (b : Bool) : 4 < (YM b).1 := by cases b <;> decide
theorem km_5 (b : Bool) : (YM b).2.1 5 = (1, 1344, 0) := rfl
theorem lm_5 (b : Bool) : 5 < (YM b).1 := by cases b <;> decide
theorem km_6 (b : Bool) : (YM b).2.1 6 = (1, 61, 0) := rfl
theorem lm_6 (b : Bool) : 6 < (YM b).1 := by cases b <;> decide
theorem km_7 (b : Bool) : (YM b).2.1 7 = (1, 61, 0) := rfl
theorem lm_7 (b : Bool) : 7 < (YM b).1 := by cases b <;> decide
theorem km_8 (b : Bool) : (YM b).2.1 8 = (2, 61, 0) := rfl
theorem lm_8 (b : Bool) : 8 < (YM b).1 := by cases b <;> decide
theorem km_9 (b : Bool) : (YM b).2.1 9 = (1, 183, 0) := rfl
theorem lm_9 (b : Bool) : 9 < (YM b).1 := by cases b <;> decide
theorem km_10 (b : Bool) : (YM b).2.1 10 = (1, 61, 0) := rfl
theorem lm_10 (b : Bool) : 10 < (YM b).1 := by cases b <;> decide
theorem km_11 (b : Bool) : (YM b).2.1 11 = (1, 61, 0) := rfl
theorem lm_11 (b : Bool) : 11 < (YM b).1 := by cases b <;> decide
theorem km_12 (b : Bool) : (YM b).2.1 12 = (2, 13, 0) := rfl
theorem lm_12 (b : Bool) : 12 < (YM b).1 := by cases b <;> decide
theorem km_13 (b : Bool) : (YM b).2.1 13 = (2, 256, 0) := rfl
theorem lm_13 (b : Bool) : 13 < (YM b).1 := by cases b <;> decide
theorem km_14 (b : Bool) : (YM b).2.1 14 = (2, 256, 0) := rfl
theorem lm_14 (b : Bool) : 14 < (YM b).1 := by cases b <;> decide
theorem km_15 (b : Bool) : (YM b).2.1 15 = (1, 781, 0) := rfl
theorem lm_15 (b : Bool) : 15 < (YM b).1 := by cases b <;> decide
theorem km_16 (b : Bool) : (YM b).2.1 16 = (1, 781, 0) := rfl
theorem lm_16 (b : Bool) : 16 < (YM b).1 := by cases b <;> decide
theorem km_17 (b : Bool) : (YM b).2.1 17 = (1, 16, 0) := rfl
theorem lm_17 (b : Bool) : 17 < (YM b).1 := by cases b <;> decide
theorem km_18 (b : Bool) : (YM b).2.1 18 = (1, 4, 0) := rfl
theorem lm_18 (b : Bool) : 18 < (YM b).1 := by cases b <;> decide
theorem km_19 (b : Bool) : (YM b).2.1 19 = (1, 4, 0) := rfl
theorem rc_8_0 : YC.2.2 8 0 = some (true, 1) := rfl
theorem rc_8_1 : YC.2.2 8 1 = none := rfl
theorem rc_3_0 : YC.2.2 3 0 = some (true, 1) := rfl
theorem rc_3_1 : YC.2.2 3 1 = some (true, 3) := rfl
theorem rc_3_2 : YC.2.2 3 2 = some (true, 6) := rfl
theorem rc_3_3 : YC.2.2 3 3 = some (true, 9) := rfl
theorem rc_3_4 : YC.2.2 3 4 = some (true, 12) := rfl
theorem rc_2_0 : YC.2.2 2 0 = some (true, 1) := rfl
theorem rc_2_1 : YC.2.2 2 1 = some (true, 2) := rfl
theorem rc_2_2 : YC.2.2 2 2 = none := rfl
theorem rc_7_0 : YC.2.2 7 0 = none := rfl
theorem rc_7_1 : YC.2.2 7 1 = none := rfl
theorem rc_7_2 : YC.2.2 7 2 = none := rfl
theorem rc_7_3 : YC.2.2 7 3 = none := rfl
theorem rc_7_4 : YC.2.2 7 4 = none := rfl
theorem rc_7_5 : YC.2.2 7 5 = none := rfl
theorem rc_7_6 : YC.2.2 7 6 = some (true, 1) := rfl
theorem rc_7_7 : YC.2.2 7 7 = some (true, 2) := rfl
theorem rc_7_8 : YC.2.2 7 8 = some (true, 3) := rfl
theorem rc_7_9 : YC.2.2 7 9 = some (true, 4) := rfl
theorem rc_7_10 : YC.2.2 7 10 = some (true, 5) := rfl
theorem rc_7_11 : YC.2.2 7 11 = some (true, 6) := rfl
theorem rc_7_12 : YC.2.2 7 12 = some (true, 7) := rfl
theorem rc_7_13 : YC.2.2 7 13 = some (true, 8) := rfl
theorem rc_6_0 : YC.2.2 6 0 = none := rfl
theorem rc_6_1 : YC.2.2 6 1 = none := rfl
theorem rc_6_2 : YC.2.2 6 2 = none := rfl
theorem rc_6_3 : YC.2.2 6 3 = none := rfl
theorem rc_6_4 : YC.2.2 6 4 = none := rfl
theorem rc_6_5 : YC.2.2 6 5 = none := rfl
theorem rc_6_6 : YC.2.2 6 6 = some (true, 1) := rfl
theorem rc_1_0 : YC.2.2 1 0 = some (true, 1) := rfl
theorem rc_1_1 : YC.2.2 1 1 = some (true, 2) := rfl
theorem rc_1_2 : YC.2.2 1 2 = some (true, 3) := rfl
theorem rc_1_3 : YC.2.2 1 3 = some (true, 4) := rfl
theorem rc_1_4 : YC.2.2 1 4 = some (true, 5) := rfl
theorem rc_1_5 : YC.2.2 1 5 = some (true, 6) := rfl
theorem rc_10_0 : YC.2.2 10 0 = some (false, 1) := rfl
theorem rc_10_1 : YC.2.2 10 1 = some (false, 16) := rfl
theorem rc_10_2 : YC.2.2 10 2 = some (false, 31) := rfl
theorem rc_10_3 : YC.2.2 10 3 = some (false, 33) := rfl
theorem rc_10_4 : YC.2.2 10 4 = some (false, 71) := rfl
theorem rc_10_5 : YC.2.2 10 5 = some (false, 109) := rfl
theorem rc_10_6 : YC.2.2 10 6 = some (false, 116) := rfl
theorem rc_10_7 : YC.2.2 10 7 = some (false, 118) := rfl
theorem rc_10_8 : YC.2.2 10 8 = none := rfl
theorem rc_4_0 : YC.2.2 4 0 = none := rfl
theorem rc_4_1 : YC.2.2 4 1 = none := rfl
theorem rc_4_2 : YC.2.2 4 2 = some (false, 1) := rfl
theorem rc_4_3 : YC.2.2 4 3 = some (true, 1) := rfl
theorem rc_4_4 : YC.2.2 4 4 = none := rfl
theorem rc_4_5 : YC.2.2 4 5 = none := rfl
theorem rc_9_0 : YC.2.2 9 0 = some (false, 16) := rfl
theorem rc_9_1 : YC.2.2 9 1 = some (false, 109) := rfl
theorem rc_9_2 : YC.2.2 9 2 = some (false, 33) := rfl
theorem rc_9_3 : YC.2.2 9 3 = some (true, 1) := rfl
theorem rc_9_4 : YC.2.2 9 4 = none := rfl
theorem rc_9_5 : YC.2.2 9 5 = none := rfl
theorem rc_9_6 : YC.2.2 9 6 = none := rfl
theorem rc_5_0 : YC.2.2 5 0 = some (false, 16) := rfl
theorem rc_5_1 : YC.2.2 5 1 = some (false, 109) := rfl
theorem rc_5_2 : YC.2.2 5 2 = some (false, 33) := rfl
theorem rc_5_3 : YC.2.2 5 3 = some (false, 116) := rfl
theorem rc_5_4 : YC.2.2 5 4 = some (true, 1) := rfl
theorem rc_5_5 : YC.2.2 5 5 = none := rfl
theorem rc_5_6 : YC.2.2 5 6 = none := rfl
theorem rc_5_7 : YC.2.2 5 7 = none := rfl
theorem rc_5_8 : YC.2.2 5 8 = none := rfl
theorem rc_5_9 : YC.2.2 5 9 = none := rfl
theorem rc_0_0 : YC.2.2 0 0 = none := rfl
theorem rc_0_1 : YC.2.2 0 1 = none := rfl
theorem rc_0_2 : YC.2.2 0 2 = none := rfl
theorem rc_0_3 : YC.2.2 0 3 = none := rfl
theorem rc_0_4 : YC.2.2 0 4 = none := rfl
theorem rc_0_5 : YC.2.2 0 5 = none := rfl
theorem rc_0_6 : YC.2.2 0 6 = none := rfl
theorem rm_0 (b : Bool) : (YM b).2.2 11 0 = none := rfl
theorem rm_1 (b : Bool) : (YM b).2.2 11 1 = some (true, 1) := rfl
theorem rm_2 (b : Bool) : (YM b).2.2 11 2 = none := rfl
theorem rm_3 (b : Bool) : (YM b).2.2 11 3 = some (true, 2) := rfl
theorem rm_4 (b : Bool) : (YM b).2.2 11 4 = none := rfl
theorem rm_5 (b : Bool) : (YM b).2.2 11 5 = none := rfl
theorem rm_6 (b : Bool) : (YM b).2.2 11 6 = none := rfl
theorem rm_7 (b : Bool) : (YM b).2.2 11 7 = none := rfl
theorem rm_8 (b : Bool) : (YM b).2.2 11 8 = none := rfl
theorem rm_9 (b : Bool) : (YM b).2.2 11 9 = some (true, 3) := rfl
theorem rm_10 (b : Bool) : (YM b).2.2 11 10 = some (true, 4) := rfl
theorem rm_11 (b : Bool) : (YM b).2.2 11 11 = some (true, 5) := rfl
theorem rm_12 (b : Bool) : (YM b).2.2 11 12 = some (true, 6) := rfl
theorem rm_13 (b : Bool) : (YM b).2.2 11 13 = some (true, 7) := rfl
theorem rm_14 (b : Bool) : (YM b).2.2 11 14 = some (true, 8) := rfl
theorem rm_15 (b : Bool) : (YM b).2.2 11 15 = some (true, 9) := rfl
theorem rm_16 (b : Bool) : (YM b).2.2 11 16 = some (true, 10) := rfl
theorem rm_17 (b : Bool) : (YM b).2.2 11 17 = some (true, 11) := rfl
theorem rm_18 (b : Bool) : (YM b).2.2 11 18 = some (true, 12) := rfl
theorem rm_19 (b : Bool) : (YM b).2.2 11 19 = none := rfl
theorem rm_20 (b : Bool) : (YM b).2.2 11 20 = none := rfl
theorem rm_21 (b : Bool) : (YM b).2.2 11 21 = some (true, 13) := rfl
theorem rm_22 (b : Bool) : (YM b).2.2 11 22 = none := rfl
theorem rm_23 (b : Bool) : (YM b).2.2 11 23 = none := rfl
theorem rm_24 (b : Bool) : (YM b).2.2 11 24 = some (true, 14) := rfl
theorem rm_25 (b : Bool) : (YM b).2.2 11 25 = none := rfl
theorem rm_26 (b : Bool) : (YM b).2.2 11 26 = none := rfl
theorem rm_27 (b : Bool) : (YM b).2.2 11 27 = some (true, 15) := rfl
theorem rm_28 (b : Bool) : (YM b).2.2 11 28 = some (true, 16) := rfl
theorem rm_29 (b : Bool) : (YM b).2.2 11 29 = none := rfl
theorem rm_30 (b : Bool) : (YM b).2.2 11 30 = some (true, 17) := rfl
theorem rm_31 (b : Bool) : (YM b).2.2 11 31 = none := rfl
theorem rm_32 (b : Bool) : (YM b).2.2 11 32 = none := rfl
theorem rm_33 (b : Bool) : (YM b).2.2 11 33 = none := rfl
theorem rm_34 (b : Bool) : (YM b).2.2 11 34 = none := rfl
theorem rm_35 (b : Bool) : (YM b).2.2 11 35 = none := rfl
theorem rm_36 (b : Bool) : (YM b).2.2 11 36 = none := rfl
theorem rm_37 (b : Bool) : (YM b).2.2 11 37 = some (true, 18) := rfl
theorem rm_38 (b : Bool) : (YM b).2.2 11 38 = none := rfl
theorem rm_39 (b : Bool) : (YM b).2.2 11 39 = none := rfl
theorem pk_8_0 : ∀ q, isO 8 q → YC.2.1 (q) = (0, 8, 2) := by unfold isO; decide
theorem pl_8_0 : ∀ q, isO 8 q → q < YC.1 := by unfold isO; decide
theorem pk_8_1 : ∀ q, isO 8 q → YC.2.1 (q + 1) = (1, 1500, 0) := by unfold isO; decide
theorem pl_8_1 : ∀ q, isO 8 q → q + 1 < YC.1 := by unfold isO; decide
theorem io_8_2 : isO 8 2 := by unfold isO; decide
theorem io_8_17 : isO 8 17 := by unfold isO; decide
theorem pk_2_0 : ∀ q, isO 2 q → YC.2.1 (q) = (0, 2, 3) := by unfold isO; decide
theorem pl_2_0 : ∀ q, isO 2 q → q < YC.1 := by unfold isO; decide
theorem pk_2_1 : ∀ q, isO 2 q → YC.2.1 (q + 1) = (1, lenC (q + 1), 0) := by unfold isO; decide
theorem pl_2_1 : ∀ q, isO 2 q → q + 1 < YC.1 := by unfold isO; decide
theorem pk_2_2 : ∀ q, isO 2 q → YC.2.1 (q + 2) = (1, lenC (q + 2), 0) := by unfold isO; decide
theorem pl_2_2 : ∀ q, isO 2 q → q + 2 < YC.1 := by unfold isO; decide
theorem io_2_4 : isO 2 4 := by unfold isO; decide
theorem io_2_7 : isO 2 7 := by unfold isO; decide
theorem io_2_10 : isO 2 10 := by unfold isO; decide
theorem io_2_13 : isO 2 13 := by unfold isO; decide
theorem io_2_19 : isO 2 19 := by unfold isO; decide
theorem io_2_22 : isO 2 22 := by unfold isO; decide
theorem io_2_25 : isO 2 25 := by unfold isO; decide
theorem io_2_28 : isO 2 28 := by unfold isO; decide
theorem pk_6_0 : ∀ q, isO 6 q → YC.2.1 (q) = (0, 6, 7) := by unfold isO; decide
theorem pl_6_0 : ∀ q, isO 6 q → q < YC.1 := by unfold isO; decide
theorem pk_6_1 : ∀ q, isO 6 q → YC.2.1 (q + 1) = (1, 4, 0) := by unfold isO; decide
theorem pl_6_1 : ∀ q, isO 6 q → q + 1 < YC.1 := by unfold isO; decide
theorem io_6_42 : isO 6 42 := by unfold isO; decide
theorem io_6_44 : isO 6 44 := by unfold isO; decide
theorem io_6_46 : isO 6 46 := by unfold isO; decide
theorem io_6_48 : isO 6 48 := by unfold isO; decide
theorem io_6_50 : isO 6 50 := by unfold isO; decide
theorem io_6_52 : isO 6 52 := by unfold isO; decide
theorem io_6_54 : isO 6 54 := by unfold isO; decide
theorem io_6_56 : isO 6 56 := by unfold isO; decide
theorem io_6_80 : isO 6 80 := by unfold isO; decide
theorem io_6_82 : isO 6 82 := by unfold isO; decide
theorem io_6_84 : isO 6 84 := by unfold isO; decide
theorem io_6_86 : isO 6 86 := by unfold isO; decide
theorem io_6_88 : isO 6 88 := by unfold isO; decide
theorem io_6_90 : isO 6 90 := by unfold isO; decide
theorem io_6_92 : isO 6 92 := by unfold isO; decide
theorem io_6_94 : isO 6 94 := by unfold isO; decide
theorem pk_0_0 : ∀ q, isO 0 q → YC.2.1 (q) = (0, 0, 7) := by unfold isO; decide
theorem pl_0_0 : ∀ q, isO 0 q → q < YC.1 := by unfold isO; decide
theorem io_0_58 : isO 0 58 := by unfold isO; decide
theorem io_0_59 : isO 0 59 := by unfold isO; decide
theorem io_0_60 : isO 0 60 := by unfold isO; decide
theorem io_0_61 : isO 0 61 := by unfold isO; decide
theorem io_0_62 : isO 0 62 := by unfold isO; decide
theorem io_0_63 : isO 0 63 := by unfold isO; decide
theorem io_0_64 : isO 0 64 := by unfold isO; decide
theorem io_0_65 : isO 0 65 := by unfold isO; decide
theorem io_0_66 : isO 0 66 := by unfold isO; decide
theorem io_0_67 : isO 0 67 := by unfold isO; decide
theorem io_0_68 : isO 0 68 := by unfold isO; decide
theorem io_0_69 : isO 0 69 := by unfold isO; decide
theorem io_0_70 : isO 0 70 := by unfold isO; decide
theorem io_0_96 : isO 0 96 := by unfold isO; decide
theorem io_0_97 : isO 0 97 := by unfold isO; decide
theorem io_0_98 : isO 0 98 := by unfold isO; decide
theorem io_0_99 : isO 0 99 := by unfold isO; decide
theorem io_0_100 : isO 0 100 := by unfold isO; decide
theorem io_0_101 : isO 0 101 := by unfold isO; decide
theorem io_0_102 : isO 0 102 := by unfold isO; decide
theorem io_0_103 : isO 0 103 := by unfold isO; decide
theorem io_0_104 : isO 0 104 := by unfold isO; decide
theorem io_0_105 : isO 0 105 := by unfold isO; decide
theorem io_0_106 : isO 0 106 := by unfold isO; decide
theorem io_0_107 : isO 0 107 := by unfold isO; decide
theorem io_0_108 : isO 0 108 := by unfold isO; decide
theorem pk_3_0 : ∀ q, isO 3 q → YC.2.1 (q) = (0, 3, 5) := by unfold isO; decide
theorem pl_3_0 : ∀ q, isO 3 q → q < YC.1 := by unfold isO; decide
theorem pk_3_1 : ∀ q, isO 3 q → YC.2.1 (q + 1) = (0, 8, 2) := by unfold isO; decide
theorem pl_3_1 : ∀ q, isO 3 q → q + 1 < YC.1 := by unfold isO; decide
theorem ps_3_1 : ∀ q, isO 3 q → isO 8 (q + 1) := by unfold isO; decide
theorem pk_3_2 : ∀ q, isO 3 q → YC.2.1 (q + 2) = (1, 1500, 0) := by unfold isO; decide
theorem pl_3_2 : ∀ q, isO 3 q → q + 2 < YC.1 := by unfold isO; decide
theorem pk_3_3 : ∀ q, isO 3 q → YC.2.1 (q + 3) = (0, 2, 3) := by unfold isO; decide
theorem pl_3_3 : ∀ q, isO 3 q → q + 3 < YC.1 := by unfold isO; decide
theorem ps_3_3 : ∀ q, isO 3 q → isO 2 (q + 3) := by unfold isO; decide
theorem pk_3_4 : ∀ q, isO 3 q → YC.2.1 (q + 4) = (1, 21, 0) := by unfold isO; decide
theorem pl_3_4 : ∀ q, isO 3 q → q + 4 < YC.1 := by unfold isO; decide
theorem pk_3_5 : ∀ q, isO 3 q → YC.2.1 (q + 5) = (1, 21, 0) := by unfold isO; decide
theorem pl_3_5 : ∀ q, isO 3 q → q + 5 < YC.1 := by unfold isO; decide
theorem pk_3_6 : ∀ q, isO 3 q → YC.2.1 (q + 6) = (0, 2, 3) := by unfold isO; decide
theorem pl_3_6 : ∀ q, isO 3 q → q + 6 < YC.1 := by unfold isO; decide
theorem ps_3_6 : ∀ q, isO 3 q → isO 2 (q + 6) := by unfold isO; decide
theorem pk_3_7 : ∀ q, isO 3 q → YC.2.1 (q + 7) = (1, 61, 0) := by unfold isO; decide
theorem pl_3_7 : ∀ q, isO 3 q → q + 7 < YC.1 := by unfold isO; decide
theorem pk_3_8 : ∀ q, isO 3 q → YC.2.1 (q + 8) = (1, 61, 0) := by unfold isO; decide
theorem pl_3_8 : ∀ q, isO 3 q → q + 8 < YC.1 := by unfold isO; decide
theorem pk_3_9 : ∀ q, isO 3 q → YC.2.1 (q + 9) = (0, 2, 3) := by unfold isO; decide
theorem pl_3_9 : ∀ q, isO 3 q → q + 9 < YC.1 := by unfold isO; decide
theorem ps_3_9 : ∀ q, isO 3 q → isO 2 (q + 9) := by unfold isO; decide
theorem pk_3_10 : ∀ q, isO 3 q → YC.2.1 (q + 10) = (1, 61, 0) := by unfold isO; decide
theorem pl_3_10 : ∀ q, isO 3 q → q + 10 < YC.1 := by unfold isO; decide
theorem pk_3_11 : ∀ q, isO 3 q → YC.2.1 (q + 11) = (1, 61, 0) := by unfold isO; decide
theorem pl_3_11 : ∀ q, isO 3 q → q + 11 < YC.1 := by unfold isO; decide
theorem pk_3_12 : ∀ q, isO 3 q → YC.2.1 (q + 12) = (0, 2, 3) := by unfold isO; decide
theorem pl_3_12 : ∀ q, isO 3 q → q + 12 < YC.1 := by unfold isO; decide
theorem ps_3_12 : ∀ q, isO 3 q → isO 2 (q + 12) := by unfold isO; decide
theorem pk_3_13 : ∀ q, isO 3 q → YC.2.1 (q + 13) = (1, 13, 0) := by unfold isO; decide
theorem pl_3_13 : ∀ q, isO 3 q → q + 13 < YC.1 := by unfold isO; decide
theorem pk_3_14 : ∀ q, isO 3 q → YC.2.1 (q + 14) = (1, 13, 0) := by unfold isO; decide
theorem pl_3_14 : ∀ q, isO 3 q → q + 14 < YC.1 := by unfold isO; decide
theorem io_3_1 : isO 3 1 := by unfold isO; decide
theorem io_3_16 : isO 3 16 := by unfold isO; decide
theorem pk_7_0 : ∀ q, isO 7 q → YC.2.1 (q) = (0, 7, 14) := by unfold isO; decide
theorem pl_7_0 : ∀ q, isO 7 q → q < YC.1 := by unfold isO; decide
theorem pk_7_1 : ∀ q, isO 7 q → YC.2.1 (q + 1) = (1, 64, 0) := by unfold isO; decide
theorem pl_7_1 : ∀ q, isO 7 q → q + 1 < YC.1 := by unfold isO; decide
theorem pk_7_2 : ∀ q, isO 7 q → YC.2.1 (q + 2) = (1, 64, 0) := by unfold isO; decide
theorem pl_7_2 : ∀ q, isO 7 q → q + 2 < YC.1 := by unfold isO; decide
theorem pk_7_3 : ∀ q, isO 7 q → YC.2.1 (q + 3) = (1, 18, 0) := by unfold isO; decide
theorem pl_7_3 : ∀ q, isO 7 q → q + 3 < YC.1 := by unfold isO; decide
theorem pk_7_4 : ∀ q, isO 7 q → YC.2.1 (q + 4) = (1, 61, 0) := by unfold isO; decide
theorem pl_7_4 : ∀ q, isO 7 q → q + 4 < YC.1 := by unfold isO; decide
theorem pk_7_5 : ∀ q, isO 7 q → YC.2.1 (q + 5) = (1, 61, 0) := by unfold isO; decide
theorem pl_7_5 : ∀ q, isO 7 q → q + 5 < YC.1 := by unfold isO; decide
theorem pk_7_6 : ∀ q, isO 7 q → YC.2.1 (q + 6) = (1, 21, 0) := by unfold isO; decide
theorem pl_7_6 : ∀ q, isO 7 q → q + 6 < YC.1 := by unfold isO; decide
theorem pk_7_7 : ∀ q, isO 7 q → YC.2.1 (q + 7) = (3, 8, 2) := by unfold isO; decide
theorem pl_7_7 : ∀ q, isO 7 q → q + 7 < YC.1 := by unfold isO; decide
theorem pe_7_7 : ∀ q, isO 7 q → ∀ z, (∃ j, j < 8 ∧ z = q + 7 + 2 + 2 * j) → isO 6 z := by
  have h : ∀ q, isO 7 q → ∀ j, j < 8 → isO 6 (q + 7 + 2 + 2 * j) := by unfold isO; decide
  rintro q hq z ⟨j, hj, rfl⟩
  exact h q hq j hj
theorem pk_7_8 : ∀ q, isO 7 q → YC.2.1 (q + 8) = (4, 13, 17) := by unfold isO; decide
theorem pl_7_8 : ∀ q, isO 7 q → q + 8 < YC.1 := by unfold isO; decide
theorem pe_7_8 : ∀ q, isO 7 q → ∀ z, (∃ j, j < 13 ∧ z = q + 8 + 17 + j) → isO 0 z := by
  have h : ∀ q, isO 7 q → ∀ j, j < 13 → isO 0 (q + 8 + 17 + j) := by unfold isO; decide
  rintro q hq z ⟨j, hj, rfl⟩
  exact h q hq j hj
theorem pk_7_9 : ∀ q, isO 7 q → YC.2.1 (q + 9) = (0, 6, 7) := by unfold isO; decide
theorem pl_7_9 : ∀ q, isO 7 q → q + 9 < YC.1 := by unfold isO; decide
theorem ps_7_9 : ∀ q, isO 7 q → isO 6 (q + 9) := by unfold isO; decide
theorem pk_7_10 : ∀ q, isO 7 q → YC.2.1 (q + 10) = (1, 4, 0) := by unfold isO; decide
theorem pl_7_10 : ∀ q, isO 7 q → q + 10 < YC.1 := by unfold isO; decide
theorem pk_7_11 : ∀ q, isO 7 q → YC.2.1 (q + 11) = (0, 6, 7) := by unfold isO; decide
theorem pl_7_11 : ∀ q, isO 7 q → q + 11 < YC.1 := by unfold isO; decide
theorem ps_7_11 : ∀ q, isO 7 q → isO 6 (q + 11) := by unfold isO; decide
theorem pk_7_12 : ∀ q, isO 7 q → YC.2.1 (q + 12) = (1, 4, 0) := by unfold isO; decide
theorem pl_7_12 : ∀ q, isO 7 q → q + 12 < YC.1 := by unfold isO; decide
theorem pk_7_13 : ∀ q, isO 7 q → YC.2.1 (q + 13) = (0, 6, 7) := by unfold isO; decide
theorem pl_7_13 : ∀ q, isO 7 q → q + 13 < YC.1 := by unfold isO; decide
theorem ps_7_13 : ∀ q, isO 7 q → isO 6 (q + 13) := by unfold isO; decide
theorem pk_7_14 : ∀ q, isO 7 q → YC.2.1 (q + 14) = (1, 4, 0) := by unfold isO; decide
theorem pl_7_14 : ∀ q, isO 7 q → q + 14 < YC.1 := by unfold isO; decide
theorem pk_7_15 : ∀ q, isO 7 q → YC.2.1 (q + 15) = (0, 6, 7) := by unfold isO; decide
theorem pl_7_15 : ∀ q, isO 7 q → q + 15 < YC.1 := by unfold isO; decide
theorem ps_7_15 : ∀ q, isO 7 q → isO 6 (q + 15) := by unfold isO; decide
theorem pk_7_16 : ∀ q, isO 7 q → YC.2.1 (q + 16) = (1, 4, 0) := by unfold isO; decide
theorem pl_7_16 : ∀ q, isO 7 q → q + 16 < YC.1 := by unfold isO; decide
theorem pk_7_17 : ∀ q, isO 7 q → YC.2.1 (q + 17) = (0, 6, 7) := by unfold isO; decide
theorem pl_7_17 : ∀ q, isO 7 q → q + 17 < YC.1 := by unfold isO; decide
theorem ps_7_17 : ∀ q, isO 7 q → isO 6 (q + 17) := by unfold isO; decide
theorem pk_7_18 : ∀ q, isO 7 q → YC.2.1 (q + 18) = (1, 4, 0) := by unfold isO; decide
theorem pl_7_18 : ∀ q, isO 7 q → q + 18 < YC.1 := by unfold isO; decide
theorem pk_7_19 : ∀ q, isO 7 q → YC.2.1 (q + 19) = (0, 6, 7) := by unfold isO; decide
theorem pl_7_19 : ∀ q, isO 7 q → q + 19 < YC.1 := by unfold isO; decide
theorem ps_7_19 : ∀ q, isO 7 q → isO 6 (q + 19) := by unfold isO; decide
theorem pk_7_20 : ∀ q, isO 7 q → YC.2.1 (q + 20) = (1, 4, 0) := by unfold isO; decide
theorem pl_7_20 : ∀ q, isO 7 q → q + 20 < YC.1 := by unfold isO; decide
theorem pk_7_21 : ∀ q, isO 7 q → YC.2.1 (q + 21) = (0, 6, 7) := by unfold isO; decide
theorem pl_7_21 : ∀ q, isO 7 q → q + 21 < YC.1 := by unfold isO; decide
theorem ps_7_21 : ∀ q, isO 7 q → isO 6 (q + 21) := by unfold isO; decide
theorem pk_7_22 : ∀ q, isO 7 q → YC.2.1 (q + 22) = (1, 4, 0) := by unfold isO; decide
theorem pl_7_22 : ∀ q, isO 7 q → q + 22 < YC.1 := by unfold isO; decide
theorem pk_7_23 : ∀ q, isO 7 q → YC.2.1 (q + 23) = (0, 6, 7) := by unfold isO; decide
theorem pl_7_23 : ∀ q, isO 7 q → q + 23 < YC.1 := by unfold isO; decide
theorem ps_7_23 : ∀ q, isO 7 q → isO 6 (q + 23) := by unfold isO; decide
theorem pk_7_24 : ∀ q, isO 7 q → YC.2.1 (q + 24) = (1, 4, 0) := by unfold isO; decide
theorem pl_7_24 : ∀ q, isO 7 q → q + 24 < YC.1 := by unfold isO; decide
theorem pk_7_25 : ∀ q, isO 7 q → YC.2.1 (q + 25) = (0, 0, 7) := by unfold isO; decide
theorem pl_7_25 : ∀ q, isO 7 q → q + 25 < YC.1 := by unfold isO; decide
theorem ps_7_25 : ∀ q, isO 7 q → isO 0 (q + 25) := by unfold isO; decide
theorem pk_7_26 : ∀ q, isO 7 q → YC.2.1 (q + 26) = (0, 0, 7) := by unfold isO; decide
theorem pl_7_26 : ∀ q, isO 7 q → q + 26 < YC.1 := by unfold isO; decide
theorem ps_7_26 : ∀ q, isO 7 q → isO 0 (q + 26) := by unfold isO; decide
theorem pk_7_27 : ∀ q, isO 7 q → YC.2.1 (q + 27) = (0, 0, 7) := by unfold isO; decide
theorem pl_7_27 : ∀ q, isO 7 q → q + 27 < YC.1 := by unfold isO; decide
theorem ps_7_27 : ∀ q, isO 7 q → isO 0 (q + 27) := by unfold isO; decide
theorem pk_7_28 : ∀ q, isO 7 q → YC.2.1 (q + 28) = (0, 0, 7) := by unfold isO; decide
theorem pl_7_28 : ∀ q, isO 7 q → q + 28 < YC.1 := by unfold isO; decide
theorem ps_7_28 : ∀ q, isO 7 q → isO 0 (q + 28) := by unfold isO; decide
theorem pk_7_29 : ∀ q, isO 7 q → YC.2.1 (q + 29) = (0, 0, 7) := by unfold isO; decide
theorem pl_7_29 : ∀ q, isO 7 q → q + 29 < YC.1 := by unfold isO; decide
theorem ps_7_29 : ∀ q, isO 7 q → isO 0 (q + 29) := by unfold isO; decide
theorem pk_7_30 : ∀ q, isO 7 q → YC.2.1 (q + 30) = (0, 0, 7) := by unfold isO; decide
theorem pl_7_30 : ∀ q, isO 7 q → q + 30 < YC.1 := by unfold isO; decide
theorem ps_7_30 : ∀ q, isO 7 q → isO 0 (q + 30) := by unfold isO; decide
theorem pk_7_31 : ∀ q, isO 7 q → YC.2.1 (q + 31) = (0, 0, 7) := by unfold isO; decide
theorem pl_7_31 : ∀ q, isO 7 q → q + 31 < YC.1 := by unfold isO; decide
theorem ps_7_31 : ∀ q, isO 7 q → isO 0 (q + 31) := by unfold isO; decide
theorem pk_7_32 : ∀ q, isO 7 q → YC.2.1 (q + 32) = (0, 0, 7) := by unfold isO; decide
theorem pl_7_32 : ∀ q, isO 7 q → q + 32 < YC.1 := by unfold isO; decide
theorem ps_7_32 : ∀ q, isO 7 q → isO 0 (q + 32) := by unfold isO; decide
theorem pk_7_33 : ∀ q, isO 7 q → YC.2.1 (q + 33) = (0, 0, 7) := by unfold isO; decide
theorem pl_7_33 : ∀ q, isO 7 q → q + 33 < YC.1 := by unfold isO; decide
theorem ps_7_33 : ∀ q, isO 7 q → isO 0 (q + 33) := by unfold isO; decide
theorem pk_7_34 : ∀ q, isO 7 q → YC.2.1 (q + 34) = (0, 0, 7) := by unfold isO; decide
theorem pl_7_34 : ∀ q, isO 7 q → q + 34 < YC.1 := by unfold isO; decide
theorem ps_7_34 : ∀ q, isO 7 q → isO 0 (q + 34) := by unfold isO; decide
theorem pk_7_35 : ∀ q, isO 7 q → YC.2.1 (q + 35) = (0, 0, 7) := by unfold isO; decide
theorem pl_7_35 : ∀ q, isO 7 q → q + 35 < YC.1 := by unfold isO; decide
theorem ps_7_35 : ∀ q, isO 7 q → isO 0 (q + 35) := by unfold isO; decide
theorem pk_7_36 : ∀ q, isO 7 q → YC.2.1 (q + 36) = (0, 0, 7) := by unfold isO; decide
theorem pl_7_36 : ∀ q, isO 7 q → q + 36 < YC.1 := by unfold isO; decide
theorem ps_7_36 : ∀ q, isO 7 q → isO 0 (q + 36) := by unfold isO; decide
theorem pk_7_37 : ∀ q, isO 7 q → YC.2.1 (q + 37) = (0, 0, 7) := by unfold isO; decide
theorem pl_7_37 : ∀ q, isO 7 q → q + 37 < YC.1 := by unfold isO; decide
theorem ps_7_37 : ∀ q, isO 7 q → isO 0 (q + 37) := by unfold isO; decide
theorem io_7_33 : isO 7 33 := by unfold isO; decide
theorem io_7_71 : isO 7 71 := by unfold isO; decide
/-! loops -/
def itr0 {ω : Type} (f : Nat → (Mem → Option ω) → Mem → Option ω) : Nat → Mem → Option ω
  | 0 => fun _ => none
  | n + 1 => f n (itr0 f n)
def itr1 {ω T0 : Type} (f : Nat → (T0 → Mem → Option ω) → T0 → Mem → Option ω) : Nat → T0 → Mem → Option ω
  | 0 => fun _ _ => none
  | n + 1 => f n (itr1 f n)
def itr2 {ω T0 T1 : Type} (f : Nat → (T0 → T1 → Mem → Option ω) → T0 → T1 → Mem → Option ω) : Nat → T0 → T1 → Mem → Option ω
  | 0 => fun _ _ _ => none
  | n + 1 => f n (itr2 f n)
def itr3 {ω T0 T1 T2 : Type} (f : Nat → (T0 → T1 → T2 → Mem → Option ω) → T0 → T1 → T2 → Mem → Option ω) : Nat → T0 → T1 → T2 → Mem → Option ω
  | 0 => fun _ _ _ _ => none
  | n + 1 => f n (itr3 f n)
def itr4 {ω T0 T1 T2 T3 : Type} (f : Nat → (T0 → T1 → T2 → T3 → Mem → Option ω) → T0 → T1 → T2 → T3 → Mem → Option ω) : Nat → T0 → T1 → T2 → T3 → Mem → Option ω
  | 0 => fun _ _ _ _ _ => none
  | n + 1 => f n (itr4 f n)
def itr5 {ω T0 T1 T2 T3 T4 : Type} (f : Nat → (T0 → T1 → T2 → T3 → T4 → Mem → Option ω) → T0 → T1 → T2 → T3 → T4 → Mem → Option ω) : Nat → T0 → T1 → T2 → T3 → T4 → Mem → Option ω
  | 0 => fun _ _ _ _ _ _ => none
  | n + 1 => f n (itr5 f n)
def itr6 {ω T0 T1 T2 T3 T4 T5 : Type} (f : Nat → (T0 → T1 → T2 → T3 → T4 → T5 → Mem → Option ω) → T0 → T1 → T2 → T3 → T4 → T5 → Mem → Option ω) : Nat → T0 → T1 → T2 → T3 → T4 → T5 → Mem → Option ω
  | 0 => fun _ _ _ _ _ _ _ => none
  | n + 1 => f n (itr6 f n)
def itr7 {ω T0 T1 T2 T3 T4 T5 T6 : Type} (f : Nat → (T0 → T1 → T2 → T3 → T4 → T5 → T6 → Mem → Option ω) → T0 → T1 → T2 → T3 → T4 → T5 → T6 → Mem → Option ω) : Nat → T0 → T1 → T2 → T3 → T4 → T5 → T6 → Mem → Option ω
  | 0 => fun _ _ _ _ _ _ _ _ => none
  | n + 1 => f n (itr7 f n)
def itr8 {ω T0 T1 T2 T3 T4 T5 T6 T7 : Type} (f : Nat → (T0 → T1 → T2 → T3 → T4 → T5 → T6 → T7 → Mem → Option ω) → T0 → T1 → T2 → T3 → T4 → T5 → T6 → T7 → Mem → Option ω) : Nat → T0 → T1 → T2 → T3 → T4 → T5 → T6 → T7 → Mem → Option ω
  | 0 => fun _ _ _ _ _ _ _ _ _ => none
  | n + 1 => f n (itr8 f n)
def itr9 {ω T0 T1 T2 T3 T4 T5 T6 T7 T8 : Type} (f : Nat → (T0 → T1 → T2 → T3 → T4 → T5 → T6 → T7 → T8 → Mem → Option ω) → T0 → T1 → T2 → T3 → T4 → T5 → T6 → T7 → T8 → Mem → Option ω) : Nat → T0 → T1 → T2 → T3 → T4 → T5 → T6 → T7 → T8 → Mem → Option ω
  | 0 => fun _ _ _ _ _ _ _ _ _ _ => none
  | n + 1 => f n (itr9 f n)
def itr10 {ω T0 T1 T2 T3 T4 T5 T6 T7 T8 T9 : Type} (f : Nat → (T0 → T1 → T2 → T3 → T4 → T5 → T6 → T7 → T8 → T9 → Mem → Option ω) → T0 → T1 → T2 → T3 → T4 → T5 → T6 → T7 → T8 → T9 → Mem → Option ω) : Nat → T0 → T1 → T2 → T3 → T4 → T5 → T6 → T7 → T8 → T9 → Mem → Option ω
  | 0 => fun _ _ _ _ _ _ _ _ _ _ _ => none
  | n + 1 => f n (itr10 f n)
theorem inT_0 : ∀ w ∈ u_ws RX0 TX0 7, w ∈ TT := by
  have h : ∀ w ∈ u_ws RX0 TX0 7, w ∈ lw_tbl ∧ goodWord w = true := by decide +kernel
  exact fun w hw => List.mem_filter.mpr (h w hw)
theorem kX0 : KI 0 RX0 TX0 7 tyX0 := ⟨rfl, inT_0, tyX0_ok, nmX0⟩
theorem inT_1 : ∀ w ∈ u_ws RX1 TX1 6, w ∈ TT := by
  have h : ∀ w ∈ u_ws RX1 TX1 6, w ∈ lw_tbl ∧ goodWord w = true := by decide +kernel
  exact fun w hw => List.mem_filter.mpr (h w hw)
theorem kX1 : KI 1 RX1 TX1 6 tyX1 := ⟨rfl, inT_1, tyX1_ok, nmX1⟩
theorem inT_2 : ∀ w ∈ u_ws RX2 TX2 3, w ∈ TT := by
  have h : ∀ w ∈ u_ws RX2 TX2 3, w ∈ lw_tbl ∧ goodWord w = true := by decide +kernel
  exact fun w hw => List.mem_filter.mpr (h w hw)
theorem kX2 : KI 2 RX2 TX2 3 tyX2 := ⟨rfl, inT_2, tyX2_ok, nmX2⟩
theorem inT_3 : ∀ w ∈ u_ws RX3 TX3 5, w ∈ TT := by
  have h : ∀ w ∈ u_ws RX3 TX3 5, w ∈ lw_tbl ∧ goodWord w = true := by decide +kernel
  exact fun w hw => List.mem_filter.mpr (h w hw)
theorem kX3 : KI 3 RX3 TX3 5 tyX3 := ⟨rfl, inT_3, tyX3_ok, nmX3⟩
theorem inT_4 : ∀ w ∈ u_ws RX4 TX4 6, w ∈ TT := by
  have h : ∀ w ∈ u_ws RX4 TX4 6, w ∈ lw_tbl ∧ goodWord w = true := by decide +kernel
  exact fun w hw => List.mem_filter.mpr (h w hw)
theorem kX4 : KI 4 RX4 TX4 6 tyX4 := ⟨rfl, inT_4, tyX4_ok, nmX4⟩
theorem inT_5 : ∀ w ∈ u_ws RX5 TX5 10, w ∈ TT := by
  have h : ∀ w ∈ u_ws RX5 TX5 10, w ∈ lw_tbl ∧ goodWord w = true := by decide +kernel
  exact fun w hw => List.mem_filter.mpr (h w hw)
theorem kX5 : KI 5 RX5 TX5 10 tyX5 := ⟨rfl, inT_5, tyX5_ok, nmX5⟩
theorem inT_6 : ∀ w ∈ u_ws RX6 TX6 7, w ∈ TT := by
  have h : ∀ w ∈ u_ws RX6 TX6 7, w ∈ lw_tbl ∧ goodWord w = true := by decide +kernel
  exact fun w hw => List.mem_filter.mpr (h w hw)
theorem kX6 : KI 6 RX6 TX6 7 tyX6 := ⟨rfl, inT_6, tyX6_ok, nmX6⟩
theorem inT_7 : ∀ w ∈ u_ws RX7 TX7 14, w ∈ TT := by
  have h : ∀ w ∈ u_ws RX7 TX7 14, w ∈ lw_tbl ∧ goodWord w = true := by decide +kernel
  exact fun w hw => List.mem_filter.mpr (h w hw)
theorem kX7 : KI 7 RX7 TX7 14 tyX7 := ⟨rfl, inT_7, tyX7_ok, nmX7⟩
theorem inT_8 : ∀ w ∈ u_ws RX8 TX8 2, w ∈ TT := by
  have h : ∀ w ∈ u_ws RX8 TX8 2, w ∈ lw_tbl ∧ goodWord w = true := by decide +kernel
  exact fun w hw => List.mem_filter.mpr (h w hw)
theorem kX8 : KI 8 RX8 TX8 2 tyX8 := ⟨rfl, inT_8, tyX8_ok, nmX8⟩
theorem inT_9 : ∀ w ∈ u_ws RX9 TX9 7, w ∈ TT := by
  have h : ∀ w ∈ u_ws RX9 TX9 7, w ∈ lw_tbl ∧ goodWord w = true := by decide +kernel
  exact fun w hw => List.mem_filter.mpr (h w hw)
theorem kX9 : KI 9 RX9 TX9 7 tyX9 := ⟨rfl, inT_9, tyX9_ok, nmX9⟩
theorem inT_10 : ∀ w ∈ u_ws RX10 TX10 9, w ∈ TT := by
  have h : ∀ w ∈ u_ws RX10 TX10 9, w ∈ lw_tbl ∧ goodWord w = true := by decide +kernel
  exact fun w hw => List.mem_filter.mpr (h w hw)
theorem kX10 : KI 10 RX10 TX10 9 tyX10 := ⟨rfl, inT_10, tyX10_ok, nmX10⟩
theorem inT_11 : ∀ w ∈ u_ws RX11 TX11 40, w ∈ TT := by
  have h : ∀ w ∈ u_ws RX11 TX11 40, w ∈ lw_tbl ∧ goodWord w = true := by decide +kernel
  exact fun w hw => List.mem_filter.mpr (h w hw)
theorem kX11 : KI 11 RX11 TX11 40 tyX11 := ⟨rfl, inT_11, tyX11_ok, nmX11⟩
theorem pn_2_1 : ∀ q, isO 2 q → lenC (q + 1) ≤ 10000 := by unfold isO; decide
theorem pn_2_2 : ∀ q, isO 2 q → lenC (q + 2) ≤ 10000 := by unfold isO; decide
/-! Arrays.fill -/
def fillM (s : Mem) (q n : Nat) (v : Int32) : Mem := rwM s q (fun j => if j < n then v else s q j)
def fillF (s : Mem) (q n : Nat) (v : Int32) : Option Mem := some (fillM s q n v)
def flp (q n : Nat) (v : Int32) : Nat → Int32 → Mem → Option Mem
  | 0, _, _ => none
  | m + 1, i, s => if (Int32.ofNat n) ≤ i then some s else ck (inb i n) (lt (stM s q i.toNatClampNeg v) (fun s1 => lt (i + Int32.ofInt 1) (fun x => flp q n v m x s1)))
theorem flp_eq (q n : Nat) (v : Int32) (hn : n ≤ 10000) : ∀ (m i : Nat) (s : Mem), i ≤ n → n + 1 ≤ i + m → flp q n v m (nI i) s = some (rwM s q (fun j => if i ≤ j ∧ j < n then v else s q j)) := by
  intro m
  induction m with
  | zero => intro i s h1 h2; omega
  | succ m ih =>
    intro i s h1 h2
    unfold flp
    rw [show Int32.ofNat n = nI n from rfl]
    by_cases h : n ≤ i
    · rw [if_pos (nI_le h (by omega))]
      congr 1
      funext a b
      by_cases ha : a = q
      · subst ha
        simp only [rwM, if_true]
        rw [if_neg (by omega)]
      · simp [rwM, ha]
    · rw [if_neg (nI_ge (a := i) (b := n) (by omega) (by omega))]
      have hin : inb (nI i) n := by
        rw [inb, nI_toInt (by omega)]
        omega
      rw [ck, if_pos hin, lt, lt, show Int32.ofInt 1 = 1 from rfl, nI_1, ih (i + 1) _ (by omega) (by omega), nI_clamp (by omega)]
      congr 1
      funext a b
      by_cases ha : a = q
      · subst ha
        simp only [rwM, if_true, stM]
        by_cases hb : b = i
        · subst hb
          simp only [if_true]
          rw [if_neg (by omega), if_pos (by omega)]
        · simp only [if_neg hb]
          by_cases h3 : i ≤ b ∧ b < n
          · rw [if_pos (by omega), if_pos h3]
          · rw [if_neg (by omega), if_neg h3]
      · simp [rwM, stM, ha]
def rm_fill : Room := { frames := 0, cells := 0, slots := 0, locals := 0 }
theorem jl_fill {Y : Lay} {X : CtxT Mem} (C : Cx Y X 4 cJ7_fill_53178 RJ7 none rm_fill) (CR : CRn Y X) {q n o : Nat} (hk : Y.2.1 q = (1, n, o)) (hq : q < Y.1) (v : Int32) : ∀ (m : Nat) (i : Int32) (s : Mem), J Y X 4 (flp q n v m i s) 5 [(0, .ref (adX X q)), (1, .int v), (2, .int i), (3, .int (Int32.ofNat n))] [] s := by
  intro m
  induction m with
  | zero => intros; exact j_none
  | succ m ih =>
    intro i s
    unfold flp
    refine j_iload_n C dJ7_fill_53178_5 2 rfl rfl ?_
    refine j_iload_n C dJ7_fill_53178_6 3 rfl rfl ?_
    refine j_icmp_ge (tgt := 20) C dJ7_fill_53178_7 (by decide) ?_ ?_
    · exact j_vret C CR dJ7_fill_53178_20
    · refine j_aload_n C dJ7_fill_53178_10 0 rfl rfl ?_
      refine j_iload_n C dJ7_fill_53178_11 2 rfl rfl ?_
      refine j_iload_n C dJ7_fill_53178_12 1 rfl rfl ?_
      refine j_iast C hk hq dJ7_fill_53178_13 (fun s1 => ?_)
      refine j_iinc (L2 := fun x2 => [(0, .ref (adX X q)), (1, .int v), (2, .int x2), (3, .int (Int32.ofNat n))]) C dJ7_fill_53178_14 2 rfl (by decide) [1, 2, 0, 3] (fun _ => rfl) (fun x2 => ?_)
      refine j_goto (tgt := 5) C dJ7_fill_53178_17 (by decide) ?_
      exact ih x2 s1
theorem c_fill {Y : Lay} {q n o : Nat} (hk : Y.2.1 q = (1, n, o)) (hq : q < Y.1) (hn : n ≤ 10000) (v : Int32) (s : Mem) : CTn Y yJ7_fill_53178 cJ7_fill_53178 4 none rm_fill (fun ad => [.ref (ad q), .int v]) s (fillF s q n v) := by
  have e : fillF s q n v = flp q n v (n + 1) (0 : Int32) s := by
    rw [show (0 : Int32) = nI 0 from rfl, flp_eq q n v hn (n + 1) 0 s (by omega) (by omega)]
    simp [fillF, fillM]
  rw [e]
  refine CTn_of (by decide) (fun _ => Nat.le_of_ble_eq_true rfl) (fun X C CR => ?_)
  show J Y X 4 (flp q n v (n + 1) (0 : Int32) s) 0 [(0, .ref (adX X q)), (1, .int v)] [] s
  refine j_iconst (v := (0 : Int32)) C dJ7_fill_53178_0 (by decide) ?_
  refine j_istore_n C dJ7_fill_53178_1 rfl (by decide) [1, 2, 0] rfl ?_
  refine j_aload_n C dJ7_fill_53178_2 0 rfl rfl ?_
  refine j_alen (v := Int32.ofNat n) C hk hq rfl dJ7_fill_53178_3 ?_
  refine j_istore_n C dJ7_fill_53178_4 rfl (by decide) [1, 2, 3, 0] rfl ?_
  exact jl_fill C CR hk hq v (n + 1) (0 : Int32) s
