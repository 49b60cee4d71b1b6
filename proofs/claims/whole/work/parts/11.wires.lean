/-! ===== the wires, as the constructors lay them ===== -/
def q_rfA : qm := fun _ _ => -1
def q_meA : qm := fun _ _ => 0
def q_rf0 : qm := q_z (ct28r (q_z (ct1r (q_z q_rfA 0 (-1))) 188 (-1))) 225 (-1)
def q_mem0 : qm := q_z (ct28m (q_z (ct1m (q_z q_meA 0 0)) 188 0)) 225 0
/-- the wires, with the row that the reference reads just now -/
def q_rb (b : Int) : qm := q_up q_rf0 188 18 b
theorem qw0_0 {b : Int} : q_rb b 0 0 = 1 := by unfold q_rb q_up; rw [if_neg (by decide)]; decide +kernel
theorem qw0_1 {b : Int} : q_rb b 0 1 = 5 := by unfold q_rb q_up; rw [if_neg (by decide)]; decide +kernel
theorem qw0_2 {b : Int} : q_rb b 0 2 = 14 := by unfold q_rb q_up; rw [if_neg (by decide)]; decide +kernel
theorem qw0_3 {b : Int} : q_rb b 0 3 = 23 := by unfold q_rb q_up; rw [if_neg (by decide)]; decide +kernel
theorem qw0_4 {b : Int} : q_rb b 0 4 = 26 := by unfold q_rb q_up; rw [if_neg (by decide)]; decide +kernel
theorem qw0_5 {b : Int} : q_rb b 0 5 = 33 := by unfold q_rb q_up; rw [if_neg (by decide)]; decide +kernel
theorem qw0_6 {b : Int} : q_rb b 0 6 = 143 := by unfold q_rb q_up; rw [if_neg (by decide)]; decide +kernel
theorem qw0_7 {b : Int} : q_rb b 0 7 = 144 := by unfold q_rb q_up; rw [if_neg (by decide)]; decide +kernel
theorem qw0_8 {b : Int} : q_rb b 0 8 = 145 := by unfold q_rb q_up; rw [if_neg (by decide)]; decide +kernel
theorem qw0_9 {b : Int} : q_rb b 0 9 = 147 := by unfold q_rb q_up; rw [if_neg (by decide)]; decide +kernel
theorem qw0_10 {b : Int} : q_rb b 0 10 = 149 := by unfold q_rb q_up; rw [if_neg (by decide)]; decide +kernel
theorem qw0_11 {b : Int} : q_rb b 0 11 = 154 := by unfold q_rb q_up; rw [if_neg (by decide)]; decide +kernel
theorem qw0_12 {b : Int} : q_rb b 0 12 = 159 := by unfold q_rb q_up; rw [if_neg (by decide)]; decide +kernel
theorem qw0_13 {b : Int} : q_rb b 0 13 = 163 := by unfold q_rb q_up; rw [if_neg (by decide)]; decide +kernel
theorem qw0_14 {b : Int} : q_rb b 0 14 = 168 := by unfold q_rb q_up; rw [if_neg (by decide)]; decide +kernel
theorem qw0_15 {b : Int} : q_rb b 0 15 = 169 := by unfold q_rb q_up; rw [if_neg (by decide)]; decide +kernel
theorem qw1_0 {b : Int} : q_rb b 1 0 = 2 := by unfold q_rb q_up; rw [if_neg (by decide)]; decide +kernel
theorem qw1_1 {b : Int} : q_rb b 1 1 = 3 := by unfold q_rb q_up; rw [if_neg (by decide)]; decide +kernel
theorem qw1_2 {b : Int} : q_rb b 1 2 = 4 := by unfold q_rb q_up; rw [if_neg (by decide)]; decide +kernel
theorem qw5_0 {b : Int} : q_rb b 5 0 = 6 := by unfold q_rb q_up; rw [if_neg (by decide)]; decide +kernel
theorem qw5_1 {b : Int} : q_rb b 5 1 = 7 := by unfold q_rb q_up; rw [if_neg (by decide)]; decide +kernel
theorem qw5_2 {b : Int} : q_rb b 5 2 = 8 := by unfold q_rb q_up; rw [if_neg (by decide)]; decide +kernel
theorem qw5_3 {b : Int} : q_rb b 5 3 = 9 := by unfold q_rb q_up; rw [if_neg (by decide)]; decide +kernel
theorem qw5_4 {b : Int} : q_rb b 5 4 = 10 := by unfold q_rb q_up; rw [if_neg (by decide)]; decide +kernel
theorem qw5_5 {b : Int} : q_rb b 5 5 = 11 := by unfold q_rb q_up; rw [if_neg (by decide)]; decide +kernel
theorem qw5_6 {b : Int} : q_rb b 5 6 = 12 := by unfold q_rb q_up; rw [if_neg (by decide)]; decide +kernel
theorem qw5_7 {b : Int} : q_rb b 5 7 = 13 := by unfold q_rb q_up; rw [if_neg (by decide)]; decide +kernel
theorem qw14_0 {b : Int} : q_rb b 14 0 = 15 := by unfold q_rb q_up; rw [if_neg (by decide)]; decide +kernel
theorem qw14_1 {b : Int} : q_rb b 14 1 = 16 := by unfold q_rb q_up; rw [if_neg (by decide)]; decide +kernel
theorem qw14_2 {b : Int} : q_rb b 14 2 = 17 := by unfold q_rb q_up; rw [if_neg (by decide)]; decide +kernel
theorem qw14_3 {b : Int} : q_rb b 14 3 = 18 := by unfold q_rb q_up; rw [if_neg (by decide)]; decide +kernel
theorem qw14_4 {b : Int} : q_rb b 14 4 = 19 := by unfold q_rb q_up; rw [if_neg (by decide)]; decide +kernel
theorem qw14_5 {b : Int} : q_rb b 14 5 = 20 := by unfold q_rb q_up; rw [if_neg (by decide)]; decide +kernel
theorem qw14_6 {b : Int} : q_rb b 14 6 = 21 := by unfold q_rb q_up; rw [if_neg (by decide)]; decide +kernel
theorem qw14_7 {b : Int} : q_rb b 14 7 = 22 := by unfold q_rb q_up; rw [if_neg (by decide)]; decide +kernel
theorem qw23_0 {b : Int} : q_rb b 23 0 = 1 := by unfold q_rb q_up; rw [if_neg (by decide)]; decide +kernel
theorem qw23_1 {b : Int} : q_rb b 23 1 = 24 := by unfold q_rb q_up; rw [if_neg (by decide)]; decide +kernel
theorem qw23_2 {b : Int} : q_rb b 23 2 = 25 := by unfold q_rb q_up; rw [if_neg (by decide)]; decide +kernel
theorem qw26_0 {b : Int} : q_rb b 26 0 = 1 := by unfold q_rb q_up; rw [if_neg (by decide)]; decide +kernel
theorem qw26_1 {b : Int} : q_rb b 26 1 = 27 := by unfold q_rb q_up; rw [if_neg (by decide)]; decide +kernel
theorem qw26_2 {b : Int} : q_rb b 26 2 = 28 := by unfold q_rb q_up; rw [if_neg (by decide)]; decide +kernel
theorem qw26_3 {b : Int} : q_rb b 26 3 = 29 := by unfold q_rb q_up; rw [if_neg (by decide)]; decide +kernel
theorem qw26_4 {b : Int} : q_rb b 26 4 = 30 := by unfold q_rb q_up; rw [if_neg (by decide)]; decide +kernel
theorem qw26_5 {b : Int} : q_rb b 26 5 = 31 := by unfold q_rb q_up; rw [if_neg (by decide)]; decide +kernel
theorem qw26_6 {b : Int} : q_rb b 26 6 = 32 := by unfold q_rb q_up; rw [if_neg (by decide)]; decide +kernel
theorem qw33_0 {b : Int} : q_rb b 33 0 = 34 := by unfold q_rb q_up; rw [if_neg (by decide)]; decide +kernel
theorem qw34_0 {b : Int} : q_rb b 34 0 = 35 := by unfold q_rb q_up; rw [if_neg (by decide)]; decide +kernel
theorem qw34_1 {b : Int} : q_rb b 34 1 = 44 := by unfold q_rb q_up; rw [if_neg (by decide)]; decide +kernel
theorem qw34_2 {b : Int} : q_rb b 34 2 = 53 := by unfold q_rb q_up; rw [if_neg (by decide)]; decide +kernel
theorem qw34_3 {b : Int} : q_rb b 34 3 = 62 := by unfold q_rb q_up; rw [if_neg (by decide)]; decide +kernel
theorem qw34_4 {b : Int} : q_rb b 34 4 = 71 := by unfold q_rb q_up; rw [if_neg (by decide)]; decide +kernel
theorem qw34_5 {b : Int} : q_rb b 34 5 = 80 := by unfold q_rb q_up; rw [if_neg (by decide)]; decide +kernel
theorem qw34_6 {b : Int} : q_rb b 34 6 = 89 := by unfold q_rb q_up; rw [if_neg (by decide)]; decide +kernel
theorem qw34_7 {b : Int} : q_rb b 34 7 = 98 := by unfold q_rb q_up; rw [if_neg (by decide)]; decide +kernel
theorem qw34_8 {b : Int} : q_rb b 34 8 = 107 := by unfold q_rb q_up; rw [if_neg (by decide)]; decide +kernel
theorem qw34_9 {b : Int} : q_rb b 34 9 = 116 := by unfold q_rb q_up; rw [if_neg (by decide)]; decide +kernel
theorem qw34_10 {b : Int} : q_rb b 34 10 = 125 := by unfold q_rb q_up; rw [if_neg (by decide)]; decide +kernel
theorem qw34_11 {b : Int} : q_rb b 34 11 = 134 := by unfold q_rb q_up; rw [if_neg (by decide)]; decide +kernel
theorem qw35_0 {b : Int} : q_rb b 35 0 = 36 := by unfold q_rb q_up; rw [if_neg (by decide)]; decide +kernel
theorem qw35_1 {b : Int} : q_rb b 35 1 = 37 := by unfold q_rb q_up; rw [if_neg (by decide)]; decide +kernel
theorem qw35_2 {b : Int} : q_rb b 35 2 = 38 := by unfold q_rb q_up; rw [if_neg (by decide)]; decide +kernel
theorem qw35_3 {b : Int} : q_rb b 35 3 = 39 := by unfold q_rb q_up; rw [if_neg (by decide)]; decide +kernel
theorem qw35_4 {b : Int} : q_rb b 35 4 = 40 := by unfold q_rb q_up; rw [if_neg (by decide)]; decide +kernel
theorem qw35_5 {b : Int} : q_rb b 35 5 = 41 := by unfold q_rb q_up; rw [if_neg (by decide)]; decide +kernel
theorem qw35_6 {b : Int} : q_rb b 35 6 = 42 := by unfold q_rb q_up; rw [if_neg (by decide)]; decide +kernel
theorem qw35_7 {b : Int} : q_rb b 35 7 = 43 := by unfold q_rb q_up; rw [if_neg (by decide)]; decide +kernel
theorem qw44_0 {b : Int} : q_rb b 44 0 = 45 := by unfold q_rb q_up; rw [if_neg (by decide)]; decide +kernel
theorem qw44_1 {b : Int} : q_rb b 44 1 = 46 := by unfold q_rb q_up; rw [if_neg (by decide)]; decide +kernel
theorem qw44_2 {b : Int} : q_rb b 44 2 = 47 := by unfold q_rb q_up; rw [if_neg (by decide)]; decide +kernel
theorem qw44_3 {b : Int} : q_rb b 44 3 = 48 := by unfold q_rb q_up; rw [if_neg (by decide)]; decide +kernel
theorem qw44_4 {b : Int} : q_rb b 44 4 = 49 := by unfold q_rb q_up; rw [if_neg (by decide)]; decide +kernel
theorem qw44_5 {b : Int} : q_rb b 44 5 = 50 := by unfold q_rb q_up; rw [if_neg (by decide)]; decide +kernel
theorem qw44_6 {b : Int} : q_rb b 44 6 = 51 := by unfold q_rb q_up; rw [if_neg (by decide)]; decide +kernel
theorem qw44_7 {b : Int} : q_rb b 44 7 = 52 := by unfold q_rb q_up; rw [if_neg (by decide)]; decide +kernel
theorem qw53_0 {b : Int} : q_rb b 53 0 = 54 := by unfold q_rb q_up; rw [if_neg (by decide)]; decide +kernel
theorem qw53_1 {b : Int} : q_rb b 53 1 = 55 := by unfold q_rb q_up; rw [if_neg (by decide)]; decide +kernel
theorem qw53_2 {b : Int} : q_rb b 53 2 = 56 := by unfold q_rb q_up; rw [if_neg (by decide)]; decide +kernel
theorem qw53_3 {b : Int} : q_rb b 53 3 = 57 := by unfold q_rb q_up; rw [if_neg (by decide)]; decide +kernel
theorem qw53_4 {b : Int} : q_rb b 53 4 = 58 := by unfold q_rb q_up; rw [if_neg (by decide)]; decide +kernel
theorem qw53_5 {b : Int} : q_rb b 53 5 = 59 := by unfold q_rb q_up; rw [if_neg (by decide)]; decide +kernel
theorem qw53_6 {b : Int} : q_rb b 53 6 = 60 := by unfold q_rb q_up; rw [if_neg (by decide)]; decide +kernel
theorem qw53_7 {b : Int} : q_rb b 53 7 = 61 := by unfold q_rb q_up; rw [if_neg (by decide)]; decide +kernel
theorem qw62_0 {b : Int} : q_rb b 62 0 = 63 := by unfold q_rb q_up; rw [if_neg (by decide)]; decide +kernel
theorem qw62_1 {b : Int} : q_rb b 62 1 = 64 := by unfold q_rb q_up; rw [if_neg (by decide)]; decide +kernel
theorem qw62_2 {b : Int} : q_rb b 62 2 = 65 := by unfold q_rb q_up; rw [if_neg (by decide)]; decide +kernel
theorem qw62_3 {b : Int} : q_rb b 62 3 = 66 := by unfold q_rb q_up; rw [if_neg (by decide)]; decide +kernel
theorem qw62_4 {b : Int} : q_rb b 62 4 = 67 := by unfold q_rb q_up; rw [if_neg (by decide)]; decide +kernel
theorem qw62_5 {b : Int} : q_rb b 62 5 = 68 := by unfold q_rb q_up; rw [if_neg (by decide)]; decide +kernel
theorem qw62_6 {b : Int} : q_rb b 62 6 = 69 := by unfold q_rb q_up; rw [if_neg (by decide)]; decide +kernel
theorem qw62_7 {b : Int} : q_rb b 62 7 = 70 := by unfold q_rb q_up; rw [if_neg (by decide)]; decide +kernel
theorem qw71_0 {b : Int} : q_rb b 71 0 = 72 := by unfold q_rb q_up; rw [if_neg (by decide)]; decide +kernel
theorem qw71_1 {b : Int} : q_rb b 71 1 = 73 := by unfold q_rb q_up; rw [if_neg (by decide)]; decide +kernel
theorem qw71_2 {b : Int} : q_rb b 71 2 = 74 := by unfold q_rb q_up; rw [if_neg (by decide)]; decide +kernel
theorem qw71_3 {b : Int} : q_rb b 71 3 = 75 := by unfold q_rb q_up; rw [if_neg (by decide)]; decide +kernel
theorem qw71_4 {b : Int} : q_rb b 71 4 = 76 := by unfold q_rb q_up; rw [if_neg (by decide)]; decide +kernel
theorem qw71_5 {b : Int} : q_rb b 71 5 = 77 := by unfold q_rb q_up; rw [if_neg (by decide)]; decide +kernel
theorem qw71_6 {b : Int} : q_rb b 71 6 = 78 := by unfold q_rb q_up; rw [if_neg (by decide)]; decide +kernel
theorem qw71_7 {b : Int} : q_rb b 71 7 = 79 := by unfold q_rb q_up; rw [if_neg (by decide)]; decide +kernel
theorem qw80_0 {b : Int} : q_rb b 80 0 = 81 := by unfold q_rb q_up; rw [if_neg (by decide)]; decide +kernel
theorem qw80_1 {b : Int} : q_rb b 80 1 = 82 := by unfold q_rb q_up; rw [if_neg (by decide)]; decide +kernel
theorem qw80_2 {b : Int} : q_rb b 80 2 = 83 := by unfold q_rb q_up; rw [if_neg (by decide)]; decide +kernel
theorem qw80_3 {b : Int} : q_rb b 80 3 = 84 := by unfold q_rb q_up; rw [if_neg (by decide)]; decide +kernel
theorem qw80_4 {b : Int} : q_rb b 80 4 = 85 := by unfold q_rb q_up; rw [if_neg (by decide)]; decide +kernel
theorem qw80_5 {b : Int} : q_rb b 80 5 = 86 := by unfold q_rb q_up; rw [if_neg (by decide)]; decide +kernel
theorem qw80_6 {b : Int} : q_rb b 80 6 = 87 := by unfold q_rb q_up; rw [if_neg (by decide)]; decide +kernel
theorem qw80_7 {b : Int} : q_rb b 80 7 = 88 := by unfold q_rb q_up; rw [if_neg (by decide)]; decide +kernel
theorem qw89_0 {b : Int} : q_rb b 89 0 = 90 := by unfold q_rb q_up; rw [if_neg (by decide)]; decide +kernel
theorem qw89_1 {b : Int} : q_rb b 89 1 = 91 := by unfold q_rb q_up; rw [if_neg (by decide)]; decide +kernel
theorem qw89_2 {b : Int} : q_rb b 89 2 = 92 := by unfold q_rb q_up; rw [if_neg (by decide)]; decide +kernel
theorem qw89_3 {b : Int} : q_rb b 89 3 = 93 := by unfold q_rb q_up; rw [if_neg (by decide)]; decide +kernel
theorem qw89_4 {b : Int} : q_rb b 89 4 = 94 := by unfold q_rb q_up; rw [if_neg (by decide)]; decide +kernel
theorem qw89_5 {b : Int} : q_rb b 89 5 = 95 := by unfold q_rb q_up; rw [if_neg (by decide)]; decide +kernel
theorem qw89_6 {b : Int} : q_rb b 89 6 = 96 := by unfold q_rb q_up; rw [if_neg (by decide)]; decide +kernel
theorem qw89_7 {b : Int} : q_rb b 89 7 = 97 := by unfold q_rb q_up; rw [if_neg (by decide)]; decide +kernel
theorem qw98_0 {b : Int} : q_rb b 98 0 = 99 := by unfold q_rb q_up; rw [if_neg (by decide)]; decide +kernel
theorem qw98_1 {b : Int} : q_rb b 98 1 = 100 := by unfold q_rb q_up; rw [if_neg (by decide)]; decide +kernel
theorem qw98_2 {b : Int} : q_rb b 98 2 = 101 := by unfold q_rb q_up; rw [if_neg (by decide)]; decide +kernel
theorem qw98_3 {b : Int} : q_rb b 98 3 = 102 := by unfold q_rb q_up; rw [if_neg (by decide)]; decide +kernel
theorem qw98_4 {b : Int} : q_rb b 98 4 = 103 := by unfold q_rb q_up; rw [if_neg (by decide)]; decide +kernel
theorem qw98_5 {b : Int} : q_rb b 98 5 = 104 := by unfold q_rb q_up; rw [if_neg (by decide)]; decide +kernel
theorem qw98_6 {b : Int} : q_rb b 98 6 = 105 := by unfold q_rb q_up; rw [if_neg (by decide)]; decide +kernel
theorem qw98_7 {b : Int} : q_rb b 98 7 = 106 := by unfold q_rb q_up; rw [if_neg (by decide)]; decide +kernel
theorem qw107_0 {b : Int} : q_rb b 107 0 = 108 := by unfold q_rb q_up; rw [if_neg (by decide)]; decide +kernel
theorem qw107_1 {b : Int} : q_rb b 107 1 = 109 := by unfold q_rb q_up; rw [if_neg (by decide)]; decide +kernel
theorem qw107_2 {b : Int} : q_rb b 107 2 = 110 := by unfold q_rb q_up; rw [if_neg (by decide)]; decide +kernel
theorem qw107_3 {b : Int} : q_rb b 107 3 = 111 := by unfold q_rb q_up; rw [if_neg (by decide)]; decide +kernel
theorem qw107_4 {b : Int} : q_rb b 107 4 = 112 := by unfold q_rb q_up; rw [if_neg (by decide)]; decide +kernel
theorem qw107_5 {b : Int} : q_rb b 107 5 = 113 := by unfold q_rb q_up; rw [if_neg (by decide)]; decide +kernel
theorem qw107_6 {b : Int} : q_rb b 107 6 = 114 := by unfold q_rb q_up; rw [if_neg (by decide)]; decide +kernel
theorem qw107_7 {b : Int} : q_rb b 107 7 = 115 := by unfold q_rb q_up; rw [if_neg (by decide)]; decide +kernel
theorem qw116_0 {b : Int} : q_rb b 116 0 = 117 := by unfold q_rb q_up; rw [if_neg (by decide)]; decide +kernel
theorem qw116_1 {b : Int} : q_rb b 116 1 = 118 := by unfold q_rb q_up; rw [if_neg (by decide)]; decide +kernel
theorem qw116_2 {b : Int} : q_rb b 116 2 = 119 := by unfold q_rb q_up; rw [if_neg (by decide)]; decide +kernel
theorem qw116_3 {b : Int} : q_rb b 116 3 = 120 := by unfold q_rb q_up; rw [if_neg (by decide)]; decide +kernel
theorem qw116_4 {b : Int} : q_rb b 116 4 = 121 := by unfold q_rb q_up; rw [if_neg (by decide)]; decide +kernel
theorem qw116_5 {b : Int} : q_rb b 116 5 = 122 := by unfold q_rb q_up; rw [if_neg (by decide)]; decide +kernel
theorem qw116_6 {b : Int} : q_rb b 116 6 = 123 := by unfold q_rb q_up; rw [if_neg (by decide)]; decide +kernel
theorem qw116_7 {b : Int} : q_rb b 116 7 = 124 := by unfold q_rb q_up; rw [if_neg (by decide)]; decide +kernel
theorem qw125_0 {b : Int} : q_rb b 125 0 = 126 := by unfold q_rb q_up; rw [if_neg (by decide)]; decide +kernel
theorem qw125_1 {b : Int} : q_rb b 125 1 = 127 := by unfold q_rb q_up; rw [if_neg (by decide)]; decide +kernel
theorem qw125_2 {b : Int} : q_rb b 125 2 = 128 := by unfold q_rb q_up; rw [if_neg (by decide)]; decide +kernel
theorem qw125_3 {b : Int} : q_rb b 125 3 = 129 := by unfold q_rb q_up; rw [if_neg (by decide)]; decide +kernel
theorem qw125_4 {b : Int} : q_rb b 125 4 = 130 := by unfold q_rb q_up; rw [if_neg (by decide)]; decide +kernel
theorem qw125_5 {b : Int} : q_rb b 125 5 = 131 := by unfold q_rb q_up; rw [if_neg (by decide)]; decide +kernel
theorem qw125_6 {b : Int} : q_rb b 125 6 = 132 := by unfold q_rb q_up; rw [if_neg (by decide)]; decide +kernel
theorem qw125_7 {b : Int} : q_rb b 125 7 = 133 := by unfold q_rb q_up; rw [if_neg (by decide)]; decide +kernel
theorem qw134_0 {b : Int} : q_rb b 134 0 = 135 := by unfold q_rb q_up; rw [if_neg (by decide)]; decide +kernel
theorem qw134_1 {b : Int} : q_rb b 134 1 = 136 := by unfold q_rb q_up; rw [if_neg (by decide)]; decide +kernel
theorem qw134_2 {b : Int} : q_rb b 134 2 = 137 := by unfold q_rb q_up; rw [if_neg (by decide)]; decide +kernel
theorem qw134_3 {b : Int} : q_rb b 134 3 = 138 := by unfold q_rb q_up; rw [if_neg (by decide)]; decide +kernel
theorem qw134_4 {b : Int} : q_rb b 134 4 = 139 := by unfold q_rb q_up; rw [if_neg (by decide)]; decide +kernel
theorem qw134_5 {b : Int} : q_rb b 134 5 = 140 := by unfold q_rb q_up; rw [if_neg (by decide)]; decide +kernel
theorem qw134_6 {b : Int} : q_rb b 134 6 = 141 := by unfold q_rb q_up; rw [if_neg (by decide)]; decide +kernel
theorem qw134_7 {b : Int} : q_rb b 134 7 = 142 := by unfold q_rb q_up; rw [if_neg (by decide)]; decide +kernel
theorem qw143_0 {b : Int} : q_rb b 143 0 = 170 := by unfold q_rb q_up; rw [if_neg (by decide)]; decide +kernel
theorem qw143_1 {b : Int} : q_rb b 143 1 = 179 := by unfold q_rb q_up; rw [if_neg (by decide)]; decide +kernel
theorem qw145_0 {b : Int} : q_rb b 145 0 = 146 := by unfold q_rb q_up; rw [if_neg (by decide)]; decide +kernel
theorem qw147_0 {b : Int} : q_rb b 147 0 = 145 := by unfold q_rb q_up; rw [if_neg (by decide)]; decide +kernel
theorem qw147_1 {b : Int} : q_rb b 147 1 = 1 := by unfold q_rb q_up; rw [if_neg (by decide)]; decide +kernel
theorem qw147_2 {b : Int} : q_rb b 147 2 = 5 := by unfold q_rb q_up; rw [if_neg (by decide)]; decide +kernel
theorem qw147_3 {b : Int} : q_rb b 147 3 = 148 := by unfold q_rb q_up; rw [if_neg (by decide)]; decide +kernel
theorem qw149_0 {b : Int} : q_rb b 149 0 = 150 := by unfold q_rb q_up; rw [if_neg (by decide)]; decide +kernel
theorem qw149_1 {b : Int} : q_rb b 149 1 = 151 := by unfold q_rb q_up; rw [if_neg (by decide)]; decide +kernel
theorem qw149_2 {b : Int} : q_rb b 149 2 = 152 := by unfold q_rb q_up; rw [if_neg (by decide)]; decide +kernel
theorem qw149_3 {b : Int} : q_rb b 149 3 = 153 := by unfold q_rb q_up; rw [if_neg (by decide)]; decide +kernel
theorem qw154_0 {b : Int} : q_rb b 154 0 = 155 := by unfold q_rb q_up; rw [if_neg (by decide)]; decide +kernel
theorem qw154_1 {b : Int} : q_rb b 154 1 = 156 := by unfold q_rb q_up; rw [if_neg (by decide)]; decide +kernel
theorem qw154_2 {b : Int} : q_rb b 154 2 = 157 := by unfold q_rb q_up; rw [if_neg (by decide)]; decide +kernel
theorem qw154_3 {b : Int} : q_rb b 154 3 = 158 := by unfold q_rb q_up; rw [if_neg (by decide)]; decide +kernel
theorem qw159_0 {b : Int} : q_rb b 159 0 = 160 := by unfold q_rb q_up; rw [if_neg (by decide)]; decide +kernel
theorem qw159_1 {b : Int} : q_rb b 159 1 = 161 := by unfold q_rb q_up; rw [if_neg (by decide)]; decide +kernel
theorem qw159_2 {b : Int} : q_rb b 159 2 = 162 := by unfold q_rb q_up; rw [if_neg (by decide)]; decide +kernel
theorem qw163_0 {b : Int} : q_rb b 163 0 = 1 := by unfold q_rb q_up; rw [if_neg (by decide)]; decide +kernel
theorem qw163_1 {b : Int} : q_rb b 163 1 = 164 := by unfold q_rb q_up; rw [if_neg (by decide)]; decide +kernel
theorem qw163_2 {b : Int} : q_rb b 163 2 = 165 := by unfold q_rb q_up; rw [if_neg (by decide)]; decide +kernel
theorem qw163_3 {b : Int} : q_rb b 163 3 = 166 := by unfold q_rb q_up; rw [if_neg (by decide)]; decide +kernel
theorem qw163_4 {b : Int} : q_rb b 163 4 = 167 := by unfold q_rb q_up; rw [if_neg (by decide)]; decide +kernel
theorem qw170_0 {b : Int} : q_rb b 170 0 = 171 := by unfold q_rb q_up; rw [if_neg (by decide)]; decide +kernel
theorem qw170_1 {b : Int} : q_rb b 170 1 = 172 := by unfold q_rb q_up; rw [if_neg (by decide)]; decide +kernel
theorem qw170_2 {b : Int} : q_rb b 170 2 = 173 := by unfold q_rb q_up; rw [if_neg (by decide)]; decide +kernel
theorem qw170_3 {b : Int} : q_rb b 170 3 = 174 := by unfold q_rb q_up; rw [if_neg (by decide)]; decide +kernel
theorem qw170_4 {b : Int} : q_rb b 170 4 = 175 := by unfold q_rb q_up; rw [if_neg (by decide)]; decide +kernel
theorem qw170_5 {b : Int} : q_rb b 170 5 = 176 := by unfold q_rb q_up; rw [if_neg (by decide)]; decide +kernel
theorem qw170_6 {b : Int} : q_rb b 170 6 = 177 := by unfold q_rb q_up; rw [if_neg (by decide)]; decide +kernel
theorem qw170_7 {b : Int} : q_rb b 170 7 = 178 := by unfold q_rb q_up; rw [if_neg (by decide)]; decide +kernel
theorem qw179_0 {b : Int} : q_rb b 179 0 = 180 := by unfold q_rb q_up; rw [if_neg (by decide)]; decide +kernel
theorem qw179_1 {b : Int} : q_rb b 179 1 = 181 := by unfold q_rb q_up; rw [if_neg (by decide)]; decide +kernel
theorem qw179_2 {b : Int} : q_rb b 179 2 = 182 := by unfold q_rb q_up; rw [if_neg (by decide)]; decide +kernel
theorem qw179_3 {b : Int} : q_rb b 179 3 = 183 := by unfold q_rb q_up; rw [if_neg (by decide)]; decide +kernel
theorem qw179_4 {b : Int} : q_rb b 179 4 = 184 := by unfold q_rb q_up; rw [if_neg (by decide)]; decide +kernel
theorem qw179_5 {b : Int} : q_rb b 179 5 = 185 := by unfold q_rb q_up; rw [if_neg (by decide)]; decide +kernel
theorem qw179_6 {b : Int} : q_rb b 179 6 = 186 := by unfold q_rb q_up; rw [if_neg (by decide)]; decide +kernel
theorem qw179_7 {b : Int} : q_rb b 179 7 = 187 := by unfold q_rb q_up; rw [if_neg (by decide)]; decide +kernel
theorem qw188_1 {b : Int} : q_rb b 188 1 = 189 := by unfold q_rb q_up; rw [if_neg (by decide)]; decide +kernel
theorem qw188_2 {b : Int} : q_rb b 188 2 = 190 := by unfold q_rb q_up; rw [if_neg (by decide)]; decide +kernel
theorem qw188_3 {b : Int} : q_rb b 188 3 = 191 := by unfold q_rb q_up; rw [if_neg (by decide)]; decide +kernel
theorem qw188_4 {b : Int} : q_rb b 188 4 = 192 := by unfold q_rb q_up; rw [if_neg (by decide)]; decide +kernel
theorem qw188_5 {b : Int} : q_rb b 188 5 = 193 := by unfold q_rb q_up; rw [if_neg (by decide)]; decide +kernel
theorem qw188_6 {b : Int} : q_rb b 188 6 = 194 := by unfold q_rb q_up; rw [if_neg (by decide)]; decide +kernel
theorem qw188_7 {b : Int} : q_rb b 188 7 = 195 := by unfold q_rb q_up; rw [if_neg (by decide)]; decide +kernel
theorem qw188_8 {b : Int} : q_rb b 188 8 = 196 := by unfold q_rb q_up; rw [if_neg (by decide)]; decide +kernel
theorem qw188_9 {b : Int} : q_rb b 188 9 = 197 := by unfold q_rb q_up; rw [if_neg (by decide)]; decide +kernel
theorem qw188_13 {b : Int} : q_rb b 188 13 = 198 := by unfold q_rb q_up; rw [if_neg (by decide)]; decide +kernel
theorem qw188_15 {b : Int} : q_rb b 188 15 = 199 := by unfold q_rb q_up; rw [if_neg (by decide)]; decide +kernel
theorem qw188_18 {b : Int} : q_rb b 188 18 = b := by unfold q_rb q_up; rw [if_pos ⟨rfl, rfl⟩]
theorem qw188_23 {b : Int} : q_rb b 188 23 = 200 := by unfold q_rb q_up; rw [if_neg (by decide)]; decide +kernel
theorem qw188_24 {b : Int} : q_rb b 188 24 = 201 := by unfold q_rb q_up; rw [if_neg (by decide)]; decide +kernel
theorem qw188_27 {b : Int} : q_rb b 188 27 = 202 := by unfold q_rb q_up; rw [if_neg (by decide)]; decide +kernel
theorem qw188_28 {b : Int} : q_rb b 188 28 = 203 := by unfold q_rb q_up; rw [if_neg (by decide)]; decide +kernel
theorem qw188_29 {b : Int} : q_rb b 188 29 = 204 := by unfold q_rb q_up; rw [if_neg (by decide)]; decide +kernel
theorem qw188_31 {b : Int} : q_rb b 188 31 = 205 := by unfold q_rb q_up; rw [if_neg (by decide)]; decide +kernel
theorem qw188_32 {b : Int} : q_rb b 188 32 = 206 := by unfold q_rb q_up; rw [if_neg (by decide)]; decide +kernel
theorem qw188_33 {b : Int} : q_rb b 188 33 = 207 := by unfold q_rb q_up; rw [if_neg (by decide)]; decide +kernel
theorem qw188_34 {b : Int} : q_rb b 188 34 = 208 := by unfold q_rb q_up; rw [if_neg (by decide)]; decide +kernel
theorem qw188_35 {b : Int} : q_rb b 188 35 = 209 := by unfold q_rb q_up; rw [if_neg (by decide)]; decide +kernel
theorem qw188_37 {b : Int} : q_rb b 188 37 = 210 := by unfold q_rb q_up; rw [if_neg (by decide)]; decide +kernel
theorem qw188_38 {b : Int} : q_rb b 188 38 = 211 := by unfold q_rb q_up; rw [if_neg (by decide)]; decide +kernel
theorem qw188_39 {b : Int} : q_rb b 188 39 = 212 := by unfold q_rb q_up; rw [if_neg (by decide)]; decide +kernel
theorem qw188_40 {b : Int} : q_rb b 188 40 = 213 := by unfold q_rb q_up; rw [if_neg (by decide)]; decide +kernel
theorem qw188_41 {b : Int} : q_rb b 188 41 = 214 := by unfold q_rb q_up; rw [if_neg (by decide)]; decide +kernel
theorem qw188_43 {b : Int} : q_rb b 188 43 = 215 := by unfold q_rb q_up; rw [if_neg (by decide)]; decide +kernel
theorem qw188_44 {b : Int} : q_rb b 188 44 = 216 := by unfold q_rb q_up; rw [if_neg (by decide)]; decide +kernel
theorem qw188_45 {b : Int} : q_rb b 188 45 = 217 := by unfold q_rb q_up; rw [if_neg (by decide)]; decide +kernel
theorem qw188_46 {b : Int} : q_rb b 188 46 = 218 := by unfold q_rb q_up; rw [if_neg (by decide)]; decide +kernel
theorem qw188_47 {b : Int} : q_rb b 188 47 = 219 := by unfold q_rb q_up; rw [if_neg (by decide)]; decide +kernel
theorem qw188_48 {b : Int} : q_rb b 188 48 = 220 := by unfold q_rb q_up; rw [if_neg (by decide)]; decide +kernel
theorem qw188_50 {b : Int} : q_rb b 188 50 = 221 := by unfold q_rb q_up; rw [if_neg (by decide)]; decide +kernel
theorem qw188_52 {b : Int} : q_rb b 188 52 = 222 := by unfold q_rb q_up; rw [if_neg (by decide)]; decide +kernel
theorem qw188_53 {b : Int} : q_rb b 188 53 = 223 := by unfold q_rb q_up; rw [if_neg (by decide)]; decide +kernel
theorem qw188_54 {b : Int} : q_rb b 188 54 = 224 := by unfold q_rb q_up; rw [if_neg (by decide)]; decide +kernel
theorem qsw0 {s b : Int} (hs : q_st s) : q_rb b s 0 = s + 1 := by
  have h1 : s ≠ 188 := q_st_cases (P := fun s => s ≠ 188) (by decide) hs
  have h2 : q_rf0 s 0 = s + 1 := q_st_cases (P := fun s => q_rf0 s 0 = s + 1) (by decide +kernel) hs
  unfold q_rb q_up; rw [if_neg (by omega)]; exact h2
theorem qsw1 {s b : Int} (hs : q_st s) : q_rb b s 1 = s + 2 := by
  have h1 : s ≠ 188 := q_st_cases (P := fun s => s ≠ 188) (by decide) hs
  have h2 : q_rf0 s 1 = s + 2 := q_st_cases (P := fun s => q_rf0 s 1 = s + 2) (by decide +kernel) hs
  unfold q_rb q_up; rw [if_neg (by omega)]; exact h2
theorem qsw2 {s b : Int} (hs : q_st s) : q_rb b s 2 = s + 3 := by
  have h1 : s ≠ 188 := q_st_cases (P := fun s => s ≠ 188) (by decide) hs
  have h2 : q_rf0 s 2 = s + 3 := q_st_cases (P := fun s => q_rf0 s 2 = s + 3) (by decide +kernel) hs
  unfold q_rb q_up; rw [if_neg (by omega)]; exact h2
theorem qsw3 {s b : Int} (hs : q_st s) : q_rb b s 3 = s + 4 := by
  have h1 : s ≠ 188 := q_st_cases (P := fun s => s ≠ 188) (by decide) hs
  have h2 : q_rf0 s 3 = s + 4 := q_st_cases (P := fun s => q_rf0 s 3 = s + 4) (by decide +kernel) hs
  unfold q_rb q_up; rw [if_neg (by omega)]; exact h2
theorem qsw4 {s b : Int} (hs : q_st s) : q_rb b s 4 = s + 5 := by
  have h1 : s ≠ 188 := q_st_cases (P := fun s => s ≠ 188) (by decide) hs
  have h2 : q_rf0 s 4 = s + 5 := q_st_cases (P := fun s => q_rf0 s 4 = s + 5) (by decide +kernel) hs
  unfold q_rb q_up; rw [if_neg (by omega)]; exact h2
theorem qsw5 {s b : Int} (hs : q_st s) : q_rb b s 5 = s + 6 := by
  have h1 : s ≠ 188 := q_st_cases (P := fun s => s ≠ 188) (by decide) hs
  have h2 : q_rf0 s 5 = s + 6 := q_st_cases (P := fun s => q_rf0 s 5 = s + 6) (by decide +kernel) hs
  unfold q_rb q_up; rw [if_neg (by omega)]; exact h2
theorem qsw6 {s b : Int} (hs : q_st s) : q_rb b s 6 = s + 7 := by
  have h1 : s ≠ 188 := q_st_cases (P := fun s => s ≠ 188) (by decide) hs
  have h2 : q_rf0 s 6 = s + 7 := q_st_cases (P := fun s => q_rf0 s 6 = s + 7) (by decide +kernel) hs
  unfold q_rb q_up; rw [if_neg (by omega)]; exact h2
theorem qsw7 {s b : Int} (hs : q_st s) : q_rb b s 7 = s + 8 := by
  have h1 : s ≠ 188 := q_st_cases (P := fun s => s ≠ 188) (by decide) hs
  have h2 : q_rf0 s 7 = s + 8 := q_st_cases (P := fun s => q_rf0 s 7 = s + 8) (by decide +kernel) hs
  unfold q_rb q_up; rw [if_neg (by omega)]; exact h2
