/-! the heap behind the two constructors: 0 the class, 80 the reference; a shape, and the references, which stay (but for the two of Reader) -/
def cF (a : Nat) : Nat := ([8, 7, 12, 1, 1, 1, 1, 1, 1, 1, 7, 12, 1, 1, 1, 1, 1, 1, 1, 7, 12, 1, 1, 1, 1, 1, 1, 1, 4, 11, 10, 10, 10, 10, 2, 7, 12, 1, 1, 1, 1, 1, 1, 1, 4, 11, 10, 10, 10, 10, 10, 10, 6, 4, 11, 10, 10, 10, 10, 3, 0, 10, 13, 10, 5, 11, 5, 11, 5, 11, 5, 11, 5, 11, 5, 11, 5, 11, 5, 11, 9, 10, 10, 10, 10, 10, 10, 10, 10, 10, 10, 10, 10, 10, 10, 11, 11, 10, 10, 10, 10, 10, 10, 10, 10, 10, 10, 10] : List Nat).getD a 0
def lF (a : Nat) : Nat := ([0, 0, 7, 0, 0, 0, 0, 0, 0, 0, 0, 7, 0, 0, 0, 0, 0, 0, 0, 0, 7, 0, 0, 0, 0, 0, 0, 0, 0, 7, 7, 7, 7, 7, 0, 0, 7, 0, 0, 0, 0, 0, 0, 0, 0, 7, 7, 7, 7, 7, 36, 36, 0, 0, 7, 7, 7, 7, 7, 0, 0, 20, 8, 8, 0, 160, 0, 160, 0, 160, 0, 160, 0, 160, 0, 160, 0, 160, 0, 160, 0, 8, 7, 7, 7, 7, 7, 7, 7, 36, 36, 8, 8, 8, 8, 1280, 160, 47, 7, 6, 6, 130, 130, 130, 36, 36, 7, 20] : List Nat).getD a 0
def rF (a k : Nat) : Option Nat := (([[some 1, some 10, some 19, none, some 28, some 34, some 52, some 59, some 60, some 62, some 63], [some 2], [some 3, some 4, some 5, some 6, some 7, some 8, some 9], [], [], [], [], [], [], [], [some 11], [some 12, some 13, some 14, some 15, some 16, some 17, some 18], [], [], [], [], [], [], [], [some 20], [some 21, some 22, some 23, some 24, some 25, some 26, some 27], [], [], [], [], [], [], [], [some 29, some 30, some 31, some 32, some 33], [], [], [], [], [], [some 35, some 44, some 50, some 51], [some 36], [some 37, some 38, some 39, some 40, some 41, some 42, some 43], [], [], [], [], [], [], [], [some 45, some 46, some 47, some 48, some 49], [], [], [], [], [], [], [], [some 53], [some 54, some 55, some 56, some 57, some 58], [], [], [], [], [], [], [some 61], [], [some 64, some 66, some 68, some 70, some 72, some 74, some 76, some 78], [], [none, none, none, some 65], [], [none, none, none, some 67], [], [none, none, none, some 69], [], [none, none, none, some 71], [], [none, none, none, some 73], [], [none, none, none, some 75], [], [none, none, none, some 77], [], [none, none, none, some 79], [], [none, none, none, none, none, none, none, none, some 81, some 82, some 83, some 84, some 85, some 86, some 87, some 88, some 89, some 90, some 91, some 92, some 93, some 94, some 95, some 96, some 97, some 98, some 99, some 100, none, none, none, none, none, some 101, some 102, some 103, none, some 104, some 105, some 106, none, some 107], [], [], [], [], [], [], [], [], [], [], [], [], [], [], [], [], [], [], [], [], [], [], [], [], [], [], []] : List (List (Option Nat))).getD a []).getD k none
def SH : SShp := (108, (0, 0), cF, lF)
def RS (p q : Option Nat) : Nat → Nat → Option Nat := fun a k => if a = 59 then (if k = 0 then p else if k = 1 then q else none) else rF a k
theorem sh_n : SH.1 = 108 := rfl
theorem sh_c0 : SH.2.2.1 0 = 8 := rfl
theorem sh_c1 : SH.2.2.1 1 = 7 := rfl
theorem sh_c2 : SH.2.2.1 2 = 12 := rfl
theorem sh_l2 : SH.2.2.2 2 = 7 := rfl
theorem sh_c3 : SH.2.2.1 3 = 1 := rfl
theorem sh_c4 : SH.2.2.1 4 = 1 := rfl
theorem sh_c5 : SH.2.2.1 5 = 1 := rfl
theorem sh_c6 : SH.2.2.1 6 = 1 := rfl
theorem sh_c7 : SH.2.2.1 7 = 1 := rfl
theorem sh_c8 : SH.2.2.1 8 = 1 := rfl
theorem sh_c9 : SH.2.2.1 9 = 1 := rfl
theorem sh_c10 : SH.2.2.1 10 = 7 := rfl
theorem sh_c11 : SH.2.2.1 11 = 12 := rfl
theorem sh_l11 : SH.2.2.2 11 = 7 := rfl
theorem sh_c12 : SH.2.2.1 12 = 1 := rfl
theorem sh_c13 : SH.2.2.1 13 = 1 := rfl
theorem sh_c14 : SH.2.2.1 14 = 1 := rfl
theorem sh_c15 : SH.2.2.1 15 = 1 := rfl
theorem sh_c16 : SH.2.2.1 16 = 1 := rfl
theorem sh_c17 : SH.2.2.1 17 = 1 := rfl
theorem sh_c18 : SH.2.2.1 18 = 1 := rfl
theorem sh_c19 : SH.2.2.1 19 = 7 := rfl
theorem sh_c20 : SH.2.2.1 20 = 12 := rfl
theorem sh_l20 : SH.2.2.2 20 = 7 := rfl
theorem sh_c21 : SH.2.2.1 21 = 1 := rfl
theorem sh_c22 : SH.2.2.1 22 = 1 := rfl
theorem sh_c23 : SH.2.2.1 23 = 1 := rfl
theorem sh_c24 : SH.2.2.1 24 = 1 := rfl
theorem sh_c25 : SH.2.2.1 25 = 1 := rfl
theorem sh_c26 : SH.2.2.1 26 = 1 := rfl
theorem sh_c27 : SH.2.2.1 27 = 1 := rfl
theorem sh_c28 : SH.2.2.1 28 = 4 := rfl
theorem sh_c29 : SH.2.2.1 29 = 11 := rfl
theorem sh_l29 : SH.2.2.2 29 = 7 := rfl
theorem sh_c30 : SH.2.2.1 30 = 10 := rfl
theorem sh_l30 : SH.2.2.2 30 = 7 := rfl
theorem sh_c31 : SH.2.2.1 31 = 10 := rfl
theorem sh_l31 : SH.2.2.2 31 = 7 := rfl
theorem sh_c32 : SH.2.2.1 32 = 10 := rfl
theorem sh_l32 : SH.2.2.2 32 = 7 := rfl
theorem sh_c33 : SH.2.2.1 33 = 10 := rfl
theorem sh_l33 : SH.2.2.2 33 = 7 := rfl
theorem sh_c34 : SH.2.2.1 34 = 2 := rfl
theorem sh_c35 : SH.2.2.1 35 = 7 := rfl
theorem sh_c36 : SH.2.2.1 36 = 12 := rfl
theorem sh_l36 : SH.2.2.2 36 = 7 := rfl
theorem sh_c37 : SH.2.2.1 37 = 1 := rfl
theorem sh_c38 : SH.2.2.1 38 = 1 := rfl
theorem sh_c39 : SH.2.2.1 39 = 1 := rfl
theorem sh_c40 : SH.2.2.1 40 = 1 := rfl
theorem sh_c41 : SH.2.2.1 41 = 1 := rfl
theorem sh_c42 : SH.2.2.1 42 = 1 := rfl
theorem sh_c43 : SH.2.2.1 43 = 1 := rfl
theorem sh_c44 : SH.2.2.1 44 = 4 := rfl
theorem sh_c45 : SH.2.2.1 45 = 11 := rfl
theorem sh_l45 : SH.2.2.2 45 = 7 := rfl
theorem sh_c46 : SH.2.2.1 46 = 10 := rfl
theorem sh_l46 : SH.2.2.2 46 = 7 := rfl
theorem sh_c47 : SH.2.2.1 47 = 10 := rfl
theorem sh_l47 : SH.2.2.2 47 = 7 := rfl
theorem sh_c48 : SH.2.2.1 48 = 10 := rfl
theorem sh_l48 : SH.2.2.2 48 = 7 := rfl
theorem sh_c49 : SH.2.2.1 49 = 10 := rfl
theorem sh_l49 : SH.2.2.2 49 = 7 := rfl
theorem sh_c50 : SH.2.2.1 50 = 10 := rfl
theorem sh_l50 : SH.2.2.2 50 = 36 := rfl
theorem sh_c51 : SH.2.2.1 51 = 10 := rfl
theorem sh_l51 : SH.2.2.2 51 = 36 := rfl
theorem sh_c52 : SH.2.2.1 52 = 6 := rfl
theorem sh_c53 : SH.2.2.1 53 = 4 := rfl
theorem sh_c54 : SH.2.2.1 54 = 11 := rfl
theorem sh_l54 : SH.2.2.2 54 = 7 := rfl
theorem sh_c55 : SH.2.2.1 55 = 10 := rfl
theorem sh_l55 : SH.2.2.2 55 = 7 := rfl
theorem sh_c56 : SH.2.2.1 56 = 10 := rfl
theorem sh_l56 : SH.2.2.2 56 = 7 := rfl
theorem sh_c57 : SH.2.2.1 57 = 10 := rfl
theorem sh_l57 : SH.2.2.2 57 = 7 := rfl
theorem sh_c58 : SH.2.2.1 58 = 10 := rfl
theorem sh_l58 : SH.2.2.2 58 = 7 := rfl
theorem sh_c59 : SH.2.2.1 59 = 3 := rfl
theorem sh_c60 : SH.2.2.1 60 = 0 := rfl
theorem sh_c61 : SH.2.2.1 61 = 10 := rfl
theorem sh_l61 : SH.2.2.2 61 = 20 := rfl
theorem sh_c62 : SH.2.2.1 62 = 13 := rfl
theorem sh_l62 : SH.2.2.2 62 = 8 := rfl
theorem sh_c63 : SH.2.2.1 63 = 10 := rfl
theorem sh_l63 : SH.2.2.2 63 = 8 := rfl
theorem sh_c64 : SH.2.2.1 64 = 5 := rfl
theorem sh_c65 : SH.2.2.1 65 = 11 := rfl
theorem sh_l65 : SH.2.2.2 65 = 160 := rfl
theorem sh_c66 : SH.2.2.1 66 = 5 := rfl
theorem sh_c67 : SH.2.2.1 67 = 11 := rfl
theorem sh_l67 : SH.2.2.2 67 = 160 := rfl
theorem sh_c68 : SH.2.2.1 68 = 5 := rfl
theorem sh_c69 : SH.2.2.1 69 = 11 := rfl
theorem sh_l69 : SH.2.2.2 69 = 160 := rfl
theorem sh_c70 : SH.2.2.1 70 = 5 := rfl
theorem sh_c71 : SH.2.2.1 71 = 11 := rfl
theorem sh_l71 : SH.2.2.2 71 = 160 := rfl
theorem sh_c72 : SH.2.2.1 72 = 5 := rfl
theorem sh_c73 : SH.2.2.1 73 = 11 := rfl
theorem sh_l73 : SH.2.2.2 73 = 160 := rfl
theorem sh_c74 : SH.2.2.1 74 = 5 := rfl
theorem sh_c75 : SH.2.2.1 75 = 11 := rfl
theorem sh_l75 : SH.2.2.2 75 = 160 := rfl
theorem sh_c76 : SH.2.2.1 76 = 5 := rfl
theorem sh_c77 : SH.2.2.1 77 = 11 := rfl
theorem sh_l77 : SH.2.2.2 77 = 160 := rfl
theorem sh_c78 : SH.2.2.1 78 = 5 := rfl
theorem sh_c79 : SH.2.2.1 79 = 11 := rfl
theorem sh_l79 : SH.2.2.2 79 = 160 := rfl
theorem sh_c80 : SH.2.2.1 80 = 9 := rfl
theorem sh_c81 : SH.2.2.1 81 = 10 := rfl
theorem sh_l81 : SH.2.2.2 81 = 8 := rfl
theorem sh_c82 : SH.2.2.1 82 = 10 := rfl
theorem sh_l82 : SH.2.2.2 82 = 7 := rfl
theorem sh_c83 : SH.2.2.1 83 = 10 := rfl
theorem sh_l83 : SH.2.2.2 83 = 7 := rfl
theorem sh_c84 : SH.2.2.1 84 = 10 := rfl
theorem sh_l84 : SH.2.2.2 84 = 7 := rfl
theorem sh_c85 : SH.2.2.1 85 = 10 := rfl
theorem sh_l85 : SH.2.2.2 85 = 7 := rfl
theorem sh_c86 : SH.2.2.1 86 = 10 := rfl
theorem sh_l86 : SH.2.2.2 86 = 7 := rfl
theorem sh_c87 : SH.2.2.1 87 = 10 := rfl
theorem sh_l87 : SH.2.2.2 87 = 7 := rfl
theorem sh_c88 : SH.2.2.1 88 = 10 := rfl
theorem sh_l88 : SH.2.2.2 88 = 7 := rfl
theorem sh_c89 : SH.2.2.1 89 = 10 := rfl
theorem sh_l89 : SH.2.2.2 89 = 36 := rfl
theorem sh_c90 : SH.2.2.1 90 = 10 := rfl
theorem sh_l90 : SH.2.2.2 90 = 36 := rfl
theorem sh_c91 : SH.2.2.1 91 = 10 := rfl
theorem sh_l91 : SH.2.2.2 91 = 8 := rfl
theorem sh_c92 : SH.2.2.1 92 = 10 := rfl
theorem sh_l92 : SH.2.2.2 92 = 8 := rfl
theorem sh_c93 : SH.2.2.1 93 = 10 := rfl
theorem sh_l93 : SH.2.2.2 93 = 8 := rfl
theorem sh_c94 : SH.2.2.1 94 = 10 := rfl
theorem sh_l94 : SH.2.2.2 94 = 8 := rfl
theorem sh_c95 : SH.2.2.1 95 = 11 := rfl
theorem sh_l95 : SH.2.2.2 95 = 1280 := rfl
theorem sh_c96 : SH.2.2.1 96 = 11 := rfl
theorem sh_l96 : SH.2.2.2 96 = 160 := rfl
theorem sh_c97 : SH.2.2.1 97 = 10 := rfl
theorem sh_l97 : SH.2.2.2 97 = 47 := rfl
theorem sh_c98 : SH.2.2.1 98 = 10 := rfl
theorem sh_l98 : SH.2.2.2 98 = 7 := rfl
theorem sh_c99 : SH.2.2.1 99 = 10 := rfl
theorem sh_l99 : SH.2.2.2 99 = 6 := rfl
theorem sh_c100 : SH.2.2.1 100 = 10 := rfl
theorem sh_l100 : SH.2.2.2 100 = 6 := rfl
theorem sh_c101 : SH.2.2.1 101 = 10 := rfl
theorem sh_l101 : SH.2.2.2 101 = 130 := rfl
theorem sh_c102 : SH.2.2.1 102 = 10 := rfl
theorem sh_l102 : SH.2.2.2 102 = 130 := rfl
theorem sh_c103 : SH.2.2.1 103 = 10 := rfl
theorem sh_l103 : SH.2.2.2 103 = 130 := rfl
theorem sh_c104 : SH.2.2.1 104 = 10 := rfl
theorem sh_l104 : SH.2.2.2 104 = 36 := rfl
theorem sh_c105 : SH.2.2.1 105 = 10 := rfl
theorem sh_l105 : SH.2.2.2 105 = 36 := rfl
theorem sh_c106 : SH.2.2.1 106 = 10 := rfl
theorem sh_l106 : SH.2.2.2 106 = 7 := rfl
theorem sh_c107 : SH.2.2.1 107 = 10 := rfl
theorem sh_l107 : SH.2.2.2 107 = 20 := rfl
theorem rs_0_0 (p q : Option Nat) : RS p q 0 0 = some 1 := rfl
theorem rs_0_1 (p q : Option Nat) : RS p q 0 1 = some 10 := rfl
theorem rs_0_2 (p q : Option Nat) : RS p q 0 2 = some 19 := rfl
theorem rs_0_4 (p q : Option Nat) : RS p q 0 4 = some 28 := rfl
theorem rs_0_5 (p q : Option Nat) : RS p q 0 5 = some 34 := rfl
theorem rs_0_6 (p q : Option Nat) : RS p q 0 6 = some 52 := rfl
theorem rs_0_7 (p q : Option Nat) : RS p q 0 7 = some 59 := rfl
theorem rs_0_8 (p q : Option Nat) : RS p q 0 8 = some 60 := rfl
theorem rs_0_9 (p q : Option Nat) : RS p q 0 9 = some 62 := rfl
theorem rs_0_10 (p q : Option Nat) : RS p q 0 10 = some 63 := rfl
theorem rs_1_0 (p q : Option Nat) : RS p q 1 0 = some 2 := rfl
theorem rs_2_0 (p q : Option Nat) : RS p q 2 0 = some 3 := rfl
theorem rs_2_1 (p q : Option Nat) : RS p q 2 1 = some 4 := rfl
theorem rs_2_2 (p q : Option Nat) : RS p q 2 2 = some 5 := rfl
theorem rs_2_3 (p q : Option Nat) : RS p q 2 3 = some 6 := rfl
theorem rs_2_4 (p q : Option Nat) : RS p q 2 4 = some 7 := rfl
theorem rs_2_5 (p q : Option Nat) : RS p q 2 5 = some 8 := rfl
theorem rs_2_6 (p q : Option Nat) : RS p q 2 6 = some 9 := rfl
theorem rs_10_0 (p q : Option Nat) : RS p q 10 0 = some 11 := rfl
theorem rs_11_0 (p q : Option Nat) : RS p q 11 0 = some 12 := rfl
theorem rs_11_1 (p q : Option Nat) : RS p q 11 1 = some 13 := rfl
theorem rs_11_2 (p q : Option Nat) : RS p q 11 2 = some 14 := rfl
theorem rs_11_3 (p q : Option Nat) : RS p q 11 3 = some 15 := rfl
theorem rs_11_4 (p q : Option Nat) : RS p q 11 4 = some 16 := rfl
theorem rs_11_5 (p q : Option Nat) : RS p q 11 5 = some 17 := rfl
theorem rs_11_6 (p q : Option Nat) : RS p q 11 6 = some 18 := rfl
theorem rs_19_0 (p q : Option Nat) : RS p q 19 0 = some 20 := rfl
theorem rs_20_0 (p q : Option Nat) : RS p q 20 0 = some 21 := rfl
theorem rs_20_1 (p q : Option Nat) : RS p q 20 1 = some 22 := rfl
theorem rs_20_2 (p q : Option Nat) : RS p q 20 2 = some 23 := rfl
theorem rs_20_3 (p q : Option Nat) : RS p q 20 3 = some 24 := rfl
theorem rs_20_4 (p q : Option Nat) : RS p q 20 4 = some 25 := rfl
theorem rs_20_5 (p q : Option Nat) : RS p q 20 5 = some 26 := rfl
theorem rs_20_6 (p q : Option Nat) : RS p q 20 6 = some 27 := rfl
theorem rs_28_0 (p q : Option Nat) : RS p q 28 0 = some 29 := rfl
theorem rs_28_1 (p q : Option Nat) : RS p q 28 1 = some 30 := rfl
theorem rs_28_2 (p q : Option Nat) : RS p q 28 2 = some 31 := rfl
theorem rs_28_3 (p q : Option Nat) : RS p q 28 3 = some 32 := rfl
theorem rs_28_4 (p q : Option Nat) : RS p q 28 4 = some 33 := rfl
theorem rs_34_0 (p q : Option Nat) : RS p q 34 0 = some 35 := rfl
theorem rs_34_1 (p q : Option Nat) : RS p q 34 1 = some 44 := rfl
theorem rs_34_2 (p q : Option Nat) : RS p q 34 2 = some 50 := rfl
theorem rs_34_3 (p q : Option Nat) : RS p q 34 3 = some 51 := rfl
theorem rs_35_0 (p q : Option Nat) : RS p q 35 0 = some 36 := rfl
theorem rs_36_0 (p q : Option Nat) : RS p q 36 0 = some 37 := rfl
theorem rs_36_1 (p q : Option Nat) : RS p q 36 1 = some 38 := rfl
theorem rs_36_2 (p q : Option Nat) : RS p q 36 2 = some 39 := rfl
theorem rs_36_3 (p q : Option Nat) : RS p q 36 3 = some 40 := rfl
theorem rs_36_4 (p q : Option Nat) : RS p q 36 4 = some 41 := rfl
theorem rs_36_5 (p q : Option Nat) : RS p q 36 5 = some 42 := rfl
theorem rs_36_6 (p q : Option Nat) : RS p q 36 6 = some 43 := rfl
theorem rs_44_0 (p q : Option Nat) : RS p q 44 0 = some 45 := rfl
theorem rs_44_1 (p q : Option Nat) : RS p q 44 1 = some 46 := rfl
theorem rs_44_2 (p q : Option Nat) : RS p q 44 2 = some 47 := rfl
theorem rs_44_3 (p q : Option Nat) : RS p q 44 3 = some 48 := rfl
theorem rs_44_4 (p q : Option Nat) : RS p q 44 4 = some 49 := rfl
theorem rs_52_0 (p q : Option Nat) : RS p q 52 0 = some 53 := rfl
theorem rs_53_0 (p q : Option Nat) : RS p q 53 0 = some 54 := rfl
theorem rs_53_1 (p q : Option Nat) : RS p q 53 1 = some 55 := rfl
theorem rs_53_2 (p q : Option Nat) : RS p q 53 2 = some 56 := rfl
theorem rs_53_3 (p q : Option Nat) : RS p q 53 3 = some 57 := rfl
theorem rs_53_4 (p q : Option Nat) : RS p q 53 4 = some 58 := rfl
theorem rs_60_0 (p q : Option Nat) : RS p q 60 0 = some 61 := rfl
theorem rs_62_0 (p q : Option Nat) : RS p q 62 0 = some 64 := rfl
theorem rs_62_1 (p q : Option Nat) : RS p q 62 1 = some 66 := rfl
theorem rs_62_2 (p q : Option Nat) : RS p q 62 2 = some 68 := rfl
theorem rs_62_3 (p q : Option Nat) : RS p q 62 3 = some 70 := rfl
theorem rs_62_4 (p q : Option Nat) : RS p q 62 4 = some 72 := rfl
theorem rs_62_5 (p q : Option Nat) : RS p q 62 5 = some 74 := rfl
theorem rs_62_6 (p q : Option Nat) : RS p q 62 6 = some 76 := rfl
theorem rs_62_7 (p q : Option Nat) : RS p q 62 7 = some 78 := rfl
theorem rs_64_3 (p q : Option Nat) : RS p q 64 3 = some 65 := rfl
theorem rs_66_3 (p q : Option Nat) : RS p q 66 3 = some 67 := rfl
theorem rs_68_3 (p q : Option Nat) : RS p q 68 3 = some 69 := rfl
theorem rs_70_3 (p q : Option Nat) : RS p q 70 3 = some 71 := rfl
theorem rs_72_3 (p q : Option Nat) : RS p q 72 3 = some 73 := rfl
theorem rs_74_3 (p q : Option Nat) : RS p q 74 3 = some 75 := rfl
theorem rs_76_3 (p q : Option Nat) : RS p q 76 3 = some 77 := rfl
theorem rs_78_3 (p q : Option Nat) : RS p q 78 3 = some 79 := rfl
theorem rs_80_8 (p q : Option Nat) : RS p q 80 8 = some 81 := rfl
theorem rs_80_9 (p q : Option Nat) : RS p q 80 9 = some 82 := rfl
theorem rs_80_10 (p q : Option Nat) : RS p q 80 10 = some 83 := rfl
theorem rs_80_11 (p q : Option Nat) : RS p q 80 11 = some 84 := rfl
theorem rs_80_12 (p q : Option Nat) : RS p q 80 12 = some 85 := rfl
theorem rs_80_13 (p q : Option Nat) : RS p q 80 13 = some 86 := rfl
theorem rs_80_14 (p q : Option Nat) : RS p q 80 14 = some 87 := rfl
theorem rs_80_15 (p q : Option Nat) : RS p q 80 15 = some 88 := rfl
theorem rs_80_16 (p q : Option Nat) : RS p q 80 16 = some 89 := rfl
theorem rs_80_17 (p q : Option Nat) : RS p q 80 17 = some 90 := rfl
theorem rs_80_18 (p q : Option Nat) : RS p q 80 18 = some 91 := rfl
theorem rs_80_19 (p q : Option Nat) : RS p q 80 19 = some 92 := rfl
theorem rs_80_20 (p q : Option Nat) : RS p q 80 20 = some 93 := rfl
theorem rs_80_21 (p q : Option Nat) : RS p q 80 21 = some 94 := rfl
theorem rs_80_22 (p q : Option Nat) : RS p q 80 22 = some 95 := rfl
theorem rs_80_23 (p q : Option Nat) : RS p q 80 23 = some 96 := rfl
theorem rs_80_24 (p q : Option Nat) : RS p q 80 24 = some 97 := rfl
theorem rs_80_25 (p q : Option Nat) : RS p q 80 25 = some 98 := rfl
theorem rs_80_26 (p q : Option Nat) : RS p q 80 26 = some 99 := rfl
theorem rs_80_27 (p q : Option Nat) : RS p q 80 27 = some 100 := rfl
theorem rs_80_33 (p q : Option Nat) : RS p q 80 33 = some 101 := rfl
theorem rs_80_34 (p q : Option Nat) : RS p q 80 34 = some 102 := rfl
theorem rs_80_35 (p q : Option Nat) : RS p q 80 35 = some 103 := rfl
theorem rs_80_37 (p q : Option Nat) : RS p q 80 37 = some 104 := rfl
theorem rs_80_38 (p q : Option Nat) : RS p q 80 38 = some 105 := rfl
theorem rs_80_39 (p q : Option Nat) : RS p q 80 39 = some 106 := rfl
theorem rs_80_41 (p q : Option Nat) : RS p q 80 41 = some 107 := rfl
theorem rs_59_0 (p q : Option Nat) : RS p q 59 0 = p := rfl
theorem rs_59_1 (p q : Option Nat) : RS p q 59 1 = q := rfl
/-! the memory's two tables, by address and place -/
def uI (I : Nat → Nat → Int32) (a k : Nat) (x : Int32) : Nat → Nat → Int32 := fun b j => if b = a ∧ j = k then x else I b j
def uJ (J : Nat → Nat → Int64) (a k : Nat) (x : Int64) : Nat → Nat → Int64 := fun b j => if b = a ∧ j = k then x else J b j
theorem s_uI_t (I : Nat → Nat → Int32) (J : Nat → Nat → Int64) (R : Nat → Nat → Option Nat) (a k : Nat) (x : Int32) : s_uI (I, J, R) a k x = (uI I a k x, J, R) := rfl
theorem s_uJ_t (I : Nat → Nat → Int32) (J : Nat → Nat → Int64) (R : Nat → Nat → Option Nat) (a k : Nat) (x : Int64) : s_uJ (I, J, R) a k x = (I, uJ J a k x, R) := rfl
theorem s_uR_0 (I : Nat → Nat → Int32) (J : Nat → Nat → Int64) (p q : Option Nat) (x : Option Nat) : s_uR (I, J, RS p q) 59 0 x = (I, J, RS x q) := by
  have e : (fun b j => if b = 59 ∧ j = 0 then x else RS p q b j) = RS x q := by
    funext b j
    by_cases hb : b = 59
    · by_cases hj : j = 0 <;> simp [RS, hb, hj]
    · simp [RS, hb]
  simp [s_uR, e]
theorem s_uR_1 (I : Nat → Nat → Int32) (J : Nat → Nat → Int64) (p q : Option Nat) (x : Option Nat) : s_uR (I, J, RS p q) 59 1 x = (I, J, RS p x) := by
  have e : (fun b j => if b = 59 ∧ j = 1 then x else RS p q b j) = RS p x := by
    funext b j
    by_cases hb : b = 59
    · by_cases hj : j = 1 <;> simp [RS, hb, hj]
    · simp [RS, hb]
  simp [s_uR, e]
theorem uI_s (I : Nat → Nat → Int32) (a k : Nat) (x : Int32) : uI I a k x a k = x := by simp [uI]
theorem uI_a {I : Nat → Nat → Int32} {a k b j : Nat} {x : Int32} (h : b ≠ a) : uI I a k x b j = I b j := by simp [uI, h]
theorem uI_k {I : Nat → Nat → Int32} {a k b j : Nat} {x : Int32} (h : j ≠ k) : uI I a k x b j = I b j := by simp [uI, h]
theorem uJ_s (J : Nat → Nat → Int64) (a k : Nat) (x : Int64) : uJ J a k x a k = x := by simp [uJ]
theorem uJ_a {J : Nat → Nat → Int64} {a k b j : Nat} {x : Int64} (h : b ≠ a) : uJ J a k x b j = J b j := by simp [uJ, h]
theorem uJ_k {J : Nat → Nat → Int64} {a k b j : Nat} {x : Int64} (h : j ≠ k) : uJ J a k x b j = J b j := by simp [uJ, h]
theorem n6 : ((6 : Int32) = 0) = False := by decide
theorem n9 : ((9 : Int32) = 0) = False := by decide
theorem n2 : ((2 : Int32) = 0) = False := by decide
theorem n4 : ((4 : Int32) = 0) = False := by decide
theorem n5 : ((5 : Int32) = 0) = False := by decide
theorem n10 : ((10 : Int32) = 0) = False := by decide
theorem n64 : ((64 : Int32) = 0) = False := by decide
theorem n1000 : ((1000 : Int32) = 0) = False := by decide
