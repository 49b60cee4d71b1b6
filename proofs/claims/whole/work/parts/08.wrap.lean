/-! ===== the cells of the made objects: shape, wires ===== -/
def q_sh0 : List (Nat × Nat) := [(16, 17), (14, 4), (0, 9), (0, 9), (0, 9), (12, 10), (0, 540), (0, 9), (0, 9), (0, 9), (0, 9), (0, 9), (0, 36), (0, 7), (12, 10), (0, 540), (0, 9), (0, 9), (0, 9), (0, 9), (0, 9), (0, 36), (0, 7), (5, 3), (0, 81), (0, 9), (6, 9), (0, 9), (0, 9), (0, 9), (0, 9), (0, 9), (0, 9), (8, 3), (4, 12), (12, 10), (0, 540), (0, 9), (0, 9), (0, 9), (0, 9), (0, 9), (0, 36), (0, 7), (12, 10), (0, 540), (0, 9), (0, 9), (0, 9), (0, 9), (0, 9), (0, 36), (0, 7), (12, 10), (0, 540), (0, 9), (0, 9), (0, 9), (0, 9), (0, 9), (0, 36), (0, 7), (12, 10), (0, 540), (0, 9), (0, 9), (0, 9), (0, 9), (0, 9), (0, 36), (0, 7), (12, 10), (0, 540), (0, 9), (0, 9), (0, 9), (0, 9), (0, 9), (0, 36), (0, 7), (12, 10), (0, 540), (0, 9), (0, 9), (0, 9), (0, 9), (0, 9), (0, 36), (0, 7), (12, 10), (0, 540), (0, 9), (0, 9), (0, 9), (0, 9), (0, 9), (0, 36), (0, 7), (12, 10), (0, 540), (0, 9), (0, 9), (0, 9), (0, 9), (0, 9), (0, 36), (0, 7), (12, 10), (0, 540), (0, 9), (0, 9), (0, 9), (0, 9), (0, 9), (0, 36), (0, 7), (12, 10), (0, 540), (0, 9), (0, 9), (0, 9), (0, 9), (0, 9), (0, 36), (0, 7), (12, 10), (0, 540), (0, 9), (0, 9), (0, 9), (0, 9), (0, 9), (0, 36), (0, 7), (12, 10), (0, 540), (0, 9), (0, 9), (0, 9), (0, 9), (0, 9), (0, 36), (0, 7), (4, 2), (0, 2), (11, 5), (0, 80), (15, 5), (0, 36), (7, 6), (0, 40), (0, 40), (0, 40), (0, 10), (13, 5), (0, 60), (0, 60), (0, 60), (0, 60), (10, 4), (0, 10), (0, 10), (0, 10), (9, 6), (1, 21007), (0, 3000), (0, 3000), (0, 4096), (0, 90), (0, 10), (12, 10), (0, 540), (0, 9), (0, 9), (0, 9), (0, 9), (0, 9), (0, 36), (0, 7), (12, 10), (0, 540), (0, 9), (0, 9), (0, 9), (0, 9), (0, 9), (0, 36), (0, 7), (17, 55), (0, 9), (0, 9), (0, 9), (0, 9), (0, 9), (0, 9), (0, 9), (0, 540), (0, 36), (2, 80), (0, 16), (0, 240), (2, 40), (0, 9), (0, 81), (0, 7164), (0, 597), (0, 320), (0, 9), (0, 9), (0, 9), (0, 9), (0, 135000), (0, 3000), (0, 3000), (0, 3000), (0, 8192), (0, 36), (0, 3000), (0, 7), (0, 7), (0, 30), (0, 90), (0, 1230), (3, 2), (0, 2), (1, 1)]
theorem q_sh0_len : q_sh0.length = 226 := by decide +kernel
theorem qs0 : q_sh0[(0 : Int).toNat]? = some (16, 17) := rfl
theorem qs1 : q_sh0[(1 : Int).toNat]? = some (14, 4) := rfl
theorem qs2 : q_sh0[(2 : Int).toNat]? = some (0, 9) := rfl
theorem qs3 : q_sh0[(3 : Int).toNat]? = some (0, 9) := rfl
theorem qs4 : q_sh0[(4 : Int).toNat]? = some (0, 9) := rfl
theorem qs5 : q_sh0[(5 : Int).toNat]? = some (12, 10) := rfl
theorem qs6 : q_sh0[(6 : Int).toNat]? = some (0, 540) := rfl
theorem qs7 : q_sh0[(7 : Int).toNat]? = some (0, 9) := rfl
theorem qs8 : q_sh0[(8 : Int).toNat]? = some (0, 9) := rfl
theorem qs9 : q_sh0[(9 : Int).toNat]? = some (0, 9) := rfl
theorem qs10 : q_sh0[(10 : Int).toNat]? = some (0, 9) := rfl
theorem qs11 : q_sh0[(11 : Int).toNat]? = some (0, 9) := rfl
theorem qs12 : q_sh0[(12 : Int).toNat]? = some (0, 36) := rfl
theorem qs13 : q_sh0[(13 : Int).toNat]? = some (0, 7) := rfl
theorem qs14 : q_sh0[(14 : Int).toNat]? = some (12, 10) := rfl
theorem qs15 : q_sh0[(15 : Int).toNat]? = some (0, 540) := rfl
theorem qs16 : q_sh0[(16 : Int).toNat]? = some (0, 9) := rfl
theorem qs17 : q_sh0[(17 : Int).toNat]? = some (0, 9) := rfl
theorem qs18 : q_sh0[(18 : Int).toNat]? = some (0, 9) := rfl
theorem qs19 : q_sh0[(19 : Int).toNat]? = some (0, 9) := rfl
theorem qs20 : q_sh0[(20 : Int).toNat]? = some (0, 9) := rfl
theorem qs21 : q_sh0[(21 : Int).toNat]? = some (0, 36) := rfl
theorem qs22 : q_sh0[(22 : Int).toNat]? = some (0, 7) := rfl
theorem qs23 : q_sh0[(23 : Int).toNat]? = some (5, 3) := rfl
theorem qs24 : q_sh0[(24 : Int).toNat]? = some (0, 81) := rfl
theorem qs25 : q_sh0[(25 : Int).toNat]? = some (0, 9) := rfl
theorem qs26 : q_sh0[(26 : Int).toNat]? = some (6, 9) := rfl
theorem qs27 : q_sh0[(27 : Int).toNat]? = some (0, 9) := rfl
theorem qs28 : q_sh0[(28 : Int).toNat]? = some (0, 9) := rfl
theorem qs29 : q_sh0[(29 : Int).toNat]? = some (0, 9) := rfl
theorem qs30 : q_sh0[(30 : Int).toNat]? = some (0, 9) := rfl
theorem qs31 : q_sh0[(31 : Int).toNat]? = some (0, 9) := rfl
theorem qs32 : q_sh0[(32 : Int).toNat]? = some (0, 9) := rfl
theorem qs33 : q_sh0[(33 : Int).toNat]? = some (8, 3) := rfl
theorem qs34 : q_sh0[(34 : Int).toNat]? = some (4, 12) := rfl
theorem qs35 : q_sh0[(35 : Int).toNat]? = some (12, 10) := rfl
theorem qs36 : q_sh0[(36 : Int).toNat]? = some (0, 540) := rfl
theorem qs37 : q_sh0[(37 : Int).toNat]? = some (0, 9) := rfl
theorem qs38 : q_sh0[(38 : Int).toNat]? = some (0, 9) := rfl
theorem qs39 : q_sh0[(39 : Int).toNat]? = some (0, 9) := rfl
theorem qs40 : q_sh0[(40 : Int).toNat]? = some (0, 9) := rfl
theorem qs41 : q_sh0[(41 : Int).toNat]? = some (0, 9) := rfl
theorem qs42 : q_sh0[(42 : Int).toNat]? = some (0, 36) := rfl
theorem qs43 : q_sh0[(43 : Int).toNat]? = some (0, 7) := rfl
theorem qs44 : q_sh0[(44 : Int).toNat]? = some (12, 10) := rfl
theorem qs45 : q_sh0[(45 : Int).toNat]? = some (0, 540) := rfl
theorem qs46 : q_sh0[(46 : Int).toNat]? = some (0, 9) := rfl
theorem qs47 : q_sh0[(47 : Int).toNat]? = some (0, 9) := rfl
theorem qs48 : q_sh0[(48 : Int).toNat]? = some (0, 9) := rfl
theorem qs49 : q_sh0[(49 : Int).toNat]? = some (0, 9) := rfl
theorem qs50 : q_sh0[(50 : Int).toNat]? = some (0, 9) := rfl
theorem qs51 : q_sh0[(51 : Int).toNat]? = some (0, 36) := rfl
theorem qs52 : q_sh0[(52 : Int).toNat]? = some (0, 7) := rfl
theorem qs53 : q_sh0[(53 : Int).toNat]? = some (12, 10) := rfl
theorem qs54 : q_sh0[(54 : Int).toNat]? = some (0, 540) := rfl
theorem qs55 : q_sh0[(55 : Int).toNat]? = some (0, 9) := rfl
theorem qs56 : q_sh0[(56 : Int).toNat]? = some (0, 9) := rfl
theorem qs57 : q_sh0[(57 : Int).toNat]? = some (0, 9) := rfl
theorem qs58 : q_sh0[(58 : Int).toNat]? = some (0, 9) := rfl
theorem qs59 : q_sh0[(59 : Int).toNat]? = some (0, 9) := rfl
theorem qs60 : q_sh0[(60 : Int).toNat]? = some (0, 36) := rfl
theorem qs61 : q_sh0[(61 : Int).toNat]? = some (0, 7) := rfl
theorem qs62 : q_sh0[(62 : Int).toNat]? = some (12, 10) := rfl
theorem qs63 : q_sh0[(63 : Int).toNat]? = some (0, 540) := rfl
theorem qs64 : q_sh0[(64 : Int).toNat]? = some (0, 9) := rfl
theorem qs65 : q_sh0[(65 : Int).toNat]? = some (0, 9) := rfl
theorem qs66 : q_sh0[(66 : Int).toNat]? = some (0, 9) := rfl
theorem qs67 : q_sh0[(67 : Int).toNat]? = some (0, 9) := rfl
theorem qs68 : q_sh0[(68 : Int).toNat]? = some (0, 9) := rfl
theorem qs69 : q_sh0[(69 : Int).toNat]? = some (0, 36) := rfl
theorem qs70 : q_sh0[(70 : Int).toNat]? = some (0, 7) := rfl
theorem qs71 : q_sh0[(71 : Int).toNat]? = some (12, 10) := rfl
theorem qs72 : q_sh0[(72 : Int).toNat]? = some (0, 540) := rfl
theorem qs73 : q_sh0[(73 : Int).toNat]? = some (0, 9) := rfl
theorem qs74 : q_sh0[(74 : Int).toNat]? = some (0, 9) := rfl
theorem qs75 : q_sh0[(75 : Int).toNat]? = some (0, 9) := rfl
theorem qs76 : q_sh0[(76 : Int).toNat]? = some (0, 9) := rfl
theorem qs77 : q_sh0[(77 : Int).toNat]? = some (0, 9) := rfl
theorem qs78 : q_sh0[(78 : Int).toNat]? = some (0, 36) := rfl
theorem qs79 : q_sh0[(79 : Int).toNat]? = some (0, 7) := rfl
theorem qs80 : q_sh0[(80 : Int).toNat]? = some (12, 10) := rfl
theorem qs81 : q_sh0[(81 : Int).toNat]? = some (0, 540) := rfl
theorem qs82 : q_sh0[(82 : Int).toNat]? = some (0, 9) := rfl
theorem qs83 : q_sh0[(83 : Int).toNat]? = some (0, 9) := rfl
theorem qs84 : q_sh0[(84 : Int).toNat]? = some (0, 9) := rfl
theorem qs85 : q_sh0[(85 : Int).toNat]? = some (0, 9) := rfl
theorem qs86 : q_sh0[(86 : Int).toNat]? = some (0, 9) := rfl
theorem qs87 : q_sh0[(87 : Int).toNat]? = some (0, 36) := rfl
theorem qs88 : q_sh0[(88 : Int).toNat]? = some (0, 7) := rfl
theorem qs89 : q_sh0[(89 : Int).toNat]? = some (12, 10) := rfl
theorem qs90 : q_sh0[(90 : Int).toNat]? = some (0, 540) := rfl
theorem qs91 : q_sh0[(91 : Int).toNat]? = some (0, 9) := rfl
theorem qs92 : q_sh0[(92 : Int).toNat]? = some (0, 9) := rfl
theorem qs93 : q_sh0[(93 : Int).toNat]? = some (0, 9) := rfl
theorem qs94 : q_sh0[(94 : Int).toNat]? = some (0, 9) := rfl
theorem qs95 : q_sh0[(95 : Int).toNat]? = some (0, 9) := rfl
theorem qs96 : q_sh0[(96 : Int).toNat]? = some (0, 36) := rfl
theorem qs97 : q_sh0[(97 : Int).toNat]? = some (0, 7) := rfl
theorem qs98 : q_sh0[(98 : Int).toNat]? = some (12, 10) := rfl
theorem qs99 : q_sh0[(99 : Int).toNat]? = some (0, 540) := rfl
theorem qs100 : q_sh0[(100 : Int).toNat]? = some (0, 9) := rfl
theorem qs101 : q_sh0[(101 : Int).toNat]? = some (0, 9) := rfl
theorem qs102 : q_sh0[(102 : Int).toNat]? = some (0, 9) := rfl
theorem qs103 : q_sh0[(103 : Int).toNat]? = some (0, 9) := rfl
theorem qs104 : q_sh0[(104 : Int).toNat]? = some (0, 9) := rfl
theorem qs105 : q_sh0[(105 : Int).toNat]? = some (0, 36) := rfl
theorem qs106 : q_sh0[(106 : Int).toNat]? = some (0, 7) := rfl
theorem qs107 : q_sh0[(107 : Int).toNat]? = some (12, 10) := rfl
theorem qs108 : q_sh0[(108 : Int).toNat]? = some (0, 540) := rfl
theorem qs109 : q_sh0[(109 : Int).toNat]? = some (0, 9) := rfl
theorem qs110 : q_sh0[(110 : Int).toNat]? = some (0, 9) := rfl
theorem qs111 : q_sh0[(111 : Int).toNat]? = some (0, 9) := rfl
theorem qs112 : q_sh0[(112 : Int).toNat]? = some (0, 9) := rfl
theorem qs113 : q_sh0[(113 : Int).toNat]? = some (0, 9) := rfl
theorem qs114 : q_sh0[(114 : Int).toNat]? = some (0, 36) := rfl
theorem qs115 : q_sh0[(115 : Int).toNat]? = some (0, 7) := rfl
theorem qs116 : q_sh0[(116 : Int).toNat]? = some (12, 10) := rfl
theorem qs117 : q_sh0[(117 : Int).toNat]? = some (0, 540) := rfl
theorem qs118 : q_sh0[(118 : Int).toNat]? = some (0, 9) := rfl
theorem qs119 : q_sh0[(119 : Int).toNat]? = some (0, 9) := rfl
theorem qs120 : q_sh0[(120 : Int).toNat]? = some (0, 9) := rfl
theorem qs121 : q_sh0[(121 : Int).toNat]? = some (0, 9) := rfl
theorem qs122 : q_sh0[(122 : Int).toNat]? = some (0, 9) := rfl
theorem qs123 : q_sh0[(123 : Int).toNat]? = some (0, 36) := rfl
theorem qs124 : q_sh0[(124 : Int).toNat]? = some (0, 7) := rfl
theorem qs125 : q_sh0[(125 : Int).toNat]? = some (12, 10) := rfl
theorem qs126 : q_sh0[(126 : Int).toNat]? = some (0, 540) := rfl
theorem qs127 : q_sh0[(127 : Int).toNat]? = some (0, 9) := rfl
theorem qs128 : q_sh0[(128 : Int).toNat]? = some (0, 9) := rfl
theorem qs129 : q_sh0[(129 : Int).toNat]? = some (0, 9) := rfl
theorem qs130 : q_sh0[(130 : Int).toNat]? = some (0, 9) := rfl
theorem qs131 : q_sh0[(131 : Int).toNat]? = some (0, 9) := rfl
theorem qs132 : q_sh0[(132 : Int).toNat]? = some (0, 36) := rfl
theorem qs133 : q_sh0[(133 : Int).toNat]? = some (0, 7) := rfl
theorem qs134 : q_sh0[(134 : Int).toNat]? = some (12, 10) := rfl
theorem qs135 : q_sh0[(135 : Int).toNat]? = some (0, 540) := rfl
theorem qs136 : q_sh0[(136 : Int).toNat]? = some (0, 9) := rfl
theorem qs137 : q_sh0[(137 : Int).toNat]? = some (0, 9) := rfl
theorem qs138 : q_sh0[(138 : Int).toNat]? = some (0, 9) := rfl
theorem qs139 : q_sh0[(139 : Int).toNat]? = some (0, 9) := rfl
theorem qs140 : q_sh0[(140 : Int).toNat]? = some (0, 9) := rfl
theorem qs141 : q_sh0[(141 : Int).toNat]? = some (0, 36) := rfl
theorem qs142 : q_sh0[(142 : Int).toNat]? = some (0, 7) := rfl
theorem qs143 : q_sh0[(143 : Int).toNat]? = some (4, 2) := rfl
theorem qs144 : q_sh0[(144 : Int).toNat]? = some (0, 2) := rfl
theorem qs145 : q_sh0[(145 : Int).toNat]? = some (11, 5) := rfl
theorem qs146 : q_sh0[(146 : Int).toNat]? = some (0, 80) := rfl
theorem qs147 : q_sh0[(147 : Int).toNat]? = some (15, 5) := rfl
theorem qs148 : q_sh0[(148 : Int).toNat]? = some (0, 36) := rfl
theorem qs149 : q_sh0[(149 : Int).toNat]? = some (7, 6) := rfl
theorem qs150 : q_sh0[(150 : Int).toNat]? = some (0, 40) := rfl
theorem qs151 : q_sh0[(151 : Int).toNat]? = some (0, 40) := rfl
theorem qs152 : q_sh0[(152 : Int).toNat]? = some (0, 40) := rfl
theorem qs153 : q_sh0[(153 : Int).toNat]? = some (0, 10) := rfl
theorem qs154 : q_sh0[(154 : Int).toNat]? = some (13, 5) := rfl
theorem qs155 : q_sh0[(155 : Int).toNat]? = some (0, 60) := rfl
theorem qs156 : q_sh0[(156 : Int).toNat]? = some (0, 60) := rfl
theorem qs157 : q_sh0[(157 : Int).toNat]? = some (0, 60) := rfl
theorem qs158 : q_sh0[(158 : Int).toNat]? = some (0, 60) := rfl
theorem qs159 : q_sh0[(159 : Int).toNat]? = some (10, 4) := rfl
theorem qs160 : q_sh0[(160 : Int).toNat]? = some (0, 10) := rfl
theorem qs161 : q_sh0[(161 : Int).toNat]? = some (0, 10) := rfl
theorem qs162 : q_sh0[(162 : Int).toNat]? = some (0, 10) := rfl
theorem qs163 : q_sh0[(163 : Int).toNat]? = some (9, 6) := rfl
theorem qs164 : q_sh0[(164 : Int).toNat]? = some (1, 21007) := rfl
theorem qs165 : q_sh0[(165 : Int).toNat]? = some (0, 3000) := rfl
theorem qs166 : q_sh0[(166 : Int).toNat]? = some (0, 3000) := rfl
theorem qs167 : q_sh0[(167 : Int).toNat]? = some (0, 4096) := rfl
theorem qs168 : q_sh0[(168 : Int).toNat]? = some (0, 90) := rfl
theorem qs169 : q_sh0[(169 : Int).toNat]? = some (0, 10) := rfl
theorem qs170 : q_sh0[(170 : Int).toNat]? = some (12, 10) := rfl
theorem qs171 : q_sh0[(171 : Int).toNat]? = some (0, 540) := rfl
theorem qs172 : q_sh0[(172 : Int).toNat]? = some (0, 9) := rfl
theorem qs173 : q_sh0[(173 : Int).toNat]? = some (0, 9) := rfl
theorem qs174 : q_sh0[(174 : Int).toNat]? = some (0, 9) := rfl
theorem qs175 : q_sh0[(175 : Int).toNat]? = some (0, 9) := rfl
theorem qs176 : q_sh0[(176 : Int).toNat]? = some (0, 9) := rfl
theorem qs177 : q_sh0[(177 : Int).toNat]? = some (0, 36) := rfl
theorem qs178 : q_sh0[(178 : Int).toNat]? = some (0, 7) := rfl
theorem qs179 : q_sh0[(179 : Int).toNat]? = some (12, 10) := rfl
theorem qs180 : q_sh0[(180 : Int).toNat]? = some (0, 540) := rfl
theorem qs181 : q_sh0[(181 : Int).toNat]? = some (0, 9) := rfl
theorem qs182 : q_sh0[(182 : Int).toNat]? = some (0, 9) := rfl
theorem qs183 : q_sh0[(183 : Int).toNat]? = some (0, 9) := rfl
theorem qs184 : q_sh0[(184 : Int).toNat]? = some (0, 9) := rfl
theorem qs185 : q_sh0[(185 : Int).toNat]? = some (0, 9) := rfl
theorem qs186 : q_sh0[(186 : Int).toNat]? = some (0, 36) := rfl
theorem qs187 : q_sh0[(187 : Int).toNat]? = some (0, 7) := rfl
theorem qs188 : q_sh0[(188 : Int).toNat]? = some (17, 55) := rfl
theorem qs189 : q_sh0[(189 : Int).toNat]? = some (0, 9) := rfl
theorem qs190 : q_sh0[(190 : Int).toNat]? = some (0, 9) := rfl
theorem qs191 : q_sh0[(191 : Int).toNat]? = some (0, 9) := rfl
theorem qs192 : q_sh0[(192 : Int).toNat]? = some (0, 9) := rfl
theorem qs193 : q_sh0[(193 : Int).toNat]? = some (0, 9) := rfl
theorem qs194 : q_sh0[(194 : Int).toNat]? = some (0, 9) := rfl
theorem qs195 : q_sh0[(195 : Int).toNat]? = some (0, 9) := rfl
theorem qs196 : q_sh0[(196 : Int).toNat]? = some (0, 540) := rfl
theorem qs197 : q_sh0[(197 : Int).toNat]? = some (0, 36) := rfl
theorem qs198 : q_sh0[(198 : Int).toNat]? = some (2, 80) := rfl
theorem qs199 : q_sh0[(199 : Int).toNat]? = some (0, 16) := rfl
theorem qs200 : q_sh0[(200 : Int).toNat]? = some (0, 240) := rfl
theorem qs201 : q_sh0[(201 : Int).toNat]? = some (2, 40) := rfl
theorem qs202 : q_sh0[(202 : Int).toNat]? = some (0, 9) := rfl
theorem qs203 : q_sh0[(203 : Int).toNat]? = some (0, 81) := rfl
theorem qs204 : q_sh0[(204 : Int).toNat]? = some (0, 7164) := rfl
theorem qs205 : q_sh0[(205 : Int).toNat]? = some (0, 597) := rfl
theorem qs206 : q_sh0[(206 : Int).toNat]? = some (0, 320) := rfl
theorem qs207 : q_sh0[(207 : Int).toNat]? = some (0, 9) := rfl
theorem qs208 : q_sh0[(208 : Int).toNat]? = some (0, 9) := rfl
theorem qs209 : q_sh0[(209 : Int).toNat]? = some (0, 9) := rfl
theorem qs210 : q_sh0[(210 : Int).toNat]? = some (0, 9) := rfl
theorem qs211 : q_sh0[(211 : Int).toNat]? = some (0, 135000) := rfl
theorem qs212 : q_sh0[(212 : Int).toNat]? = some (0, 3000) := rfl
theorem qs213 : q_sh0[(213 : Int).toNat]? = some (0, 3000) := rfl
theorem qs214 : q_sh0[(214 : Int).toNat]? = some (0, 3000) := rfl
theorem qs215 : q_sh0[(215 : Int).toNat]? = some (0, 8192) := rfl
theorem qs216 : q_sh0[(216 : Int).toNat]? = some (0, 36) := rfl
theorem qs217 : q_sh0[(217 : Int).toNat]? = some (0, 3000) := rfl
theorem qs218 : q_sh0[(218 : Int).toNat]? = some (0, 7) := rfl
theorem qs219 : q_sh0[(219 : Int).toNat]? = some (0, 7) := rfl
theorem qs220 : q_sh0[(220 : Int).toNat]? = some (0, 30) := rfl
theorem qs221 : q_sh0[(221 : Int).toNat]? = some (0, 90) := rfl
theorem qs222 : q_sh0[(222 : Int).toNat]? = some (0, 1230) := rfl
theorem qs223 : q_sh0[(223 : Int).toNat]? = some (3, 2) := rfl
theorem qs224 : q_sh0[(224 : Int).toNat]? = some (0, 2) := rfl
theorem qs225 : q_sh0[(225 : Int).toNat]? = some (1, 1) := rfl
/-- the states -/
def q_st (s : Int) : Prop := s ∈ [(5 : Int), (14 : Int), (35 : Int), (44 : Int), (53 : Int), (62 : Int), (71 : Int), (80 : Int), (89 : Int), (98 : Int), (107 : Int), (116 : Int), (125 : Int), (134 : Int), (170 : Int), (179 : Int)]
theorem q_st_cases {P : Int → Prop} (h : ∀ s ∈ [(5 : Int), (14 : Int), (35 : Int), (44 : Int), (53 : Int), (62 : Int), (71 : Int), (80 : Int), (89 : Int), (98 : Int), (107 : Int), (116 : Int), (125 : Int), (134 : Int), (170 : Int), (179 : Int)], P s) {s : Int} (hs : q_st s) : P s := h s hs
theorem qst0 {s : Int} (hs : q_st s) : q_sh0[s.toNat]? = some (12, 10) := q_st_cases (P := fun s => q_sh0[s.toNat]? = some (12, 10)) (by decide) hs
theorem qst1 {s : Int} (hs : q_st s) : q_sh0[(s + 1).toNat]? = some (0, 540) := q_st_cases (P := fun s => q_sh0[(s + 1).toNat]? = some (0, 540)) (by decide) hs
theorem qst2 {s : Int} (hs : q_st s) : q_sh0[(s + 2).toNat]? = some (0, 9) := q_st_cases (P := fun s => q_sh0[(s + 2).toNat]? = some (0, 9)) (by decide) hs
theorem qst3 {s : Int} (hs : q_st s) : q_sh0[(s + 3).toNat]? = some (0, 9) := q_st_cases (P := fun s => q_sh0[(s + 3).toNat]? = some (0, 9)) (by decide) hs
theorem qst4 {s : Int} (hs : q_st s) : q_sh0[(s + 4).toNat]? = some (0, 9) := q_st_cases (P := fun s => q_sh0[(s + 4).toNat]? = some (0, 9)) (by decide) hs
theorem qst5 {s : Int} (hs : q_st s) : q_sh0[(s + 5).toNat]? = some (0, 9) := q_st_cases (P := fun s => q_sh0[(s + 5).toNat]? = some (0, 9)) (by decide) hs
theorem qst6 {s : Int} (hs : q_st s) : q_sh0[(s + 6).toNat]? = some (0, 9) := q_st_cases (P := fun s => q_sh0[(s + 6).toNat]? = some (0, 9)) (by decide) hs
theorem qst7 {s : Int} (hs : q_st s) : q_sh0[(s + 7).toNat]? = some (0, 36) := q_st_cases (P := fun s => q_sh0[(s + 7).toNat]? = some (0, 36)) (by decide) hs
theorem qst8 {s : Int} (hs : q_st s) : q_sh0[(s + 8).toNat]? = some (0, 7) := q_st_cases (P := fun s => q_sh0[(s + 8).toNat]? = some (0, 7)) (by decide) hs
theorem qst_nn {s : Int} (hs : q_st s) : 0 ≤ s ∧ s < 188 := q_st_cases (P := fun s => 0 ≤ s ∧ s < 188) (by decide) hs
theorem qst_gap {s : Int} (hs : q_st s) : (5 ≤ s ∧ s ≤ 14) ∨ (35 ≤ s ∧ s ≤ 134) ∨ (170 ≤ s ∧ s ≤ 179) := q_st_cases (P := fun s => (5 ≤ s ∧ s ≤ 14) ∨ (35 ≤ s ∧ s ≤ 134) ∨ (170 ≤ s ∧ s ≤ 179)) (by decide) hs
theorem q_bool {v : Int} (h : v = 0 ∨ v = 1) : narrow .boolean (.int (Int32.ofInt v)) = .int (Int32.ofInt v) ∧ fits .boolean (.int (Int32.ofInt v)) = true := by rcases h with rfl | rfl <;> exact ⟨rfl, rfl⟩
def q_inb (v : Int) : Bool := decide (-2147483648 ≤ v) && decide (v < 2147483648)
theorem q_inb_ok {v : Int} (h : q_inb v = true) : q_in32 v := by simp only [q_inb, Bool.and_eq_true, decide_eq_true_eq] at h; exact h
def q_pl (L : List qv) (i : Nat) : Bool := i == 0 || (match L[i - 1]? with | some w => w.1 != 1 | none => true)
theorem q_pl_ok {L : List qv} {i : Nat} (h : q_pl L i = true) : ∀ w, L[i - 1]? = some w → i ≠ 0 → w.1 ≠ 1 := by
  intro w hw hi
  unfold q_pl at h
  rw [hw] at h
  simp at h
  rcases h with h | h
  · exact absurd h hi
  · exact h
section QX
variable {y : MethodName} {cc : ByteArray} {nL : Nat} {rt : Option FieldType} {d kc ks : Nat} {K : Int → qh → Prop} {pc : Nat} {L L' st : List qv} {sh : List (Nat × Nat)} {rf mem : qm}
theorem qx_iconst {n : Int} (hd : decode cc pc = .ok (.iconst n, 1)) (hv : Int32.ofInt n = Int32.ofInt n) (hr : q_inb n = true) (k : q_At y cc nL rt d kc ks K (pc + 1) L ((0, n) :: st) (sh, rf, mem)) : q_At y cc nL rt d kc ks K pc L st (sh, rf, mem) := q_iconst hd hv (q_inb_ok hr) k
theorem qx_bipush {n : Int} (hd : decode cc pc = .ok (.bipush n, 2)) (hv : (Int8.ofInt n).toInt32 = Int32.ofInt n) (hr : q_inb n = true) (k : q_At y cc nL rt d kc ks K (pc + 2) L ((0, n) :: st) (sh, rf, mem)) : q_At y cc nL rt d kc ks K pc L st (sh, rf, mem) := q_bipush hd hv (q_inb_ok hr) k
theorem qx_sipush {n : Int} (hd : decode cc pc = .ok (.sipush n, 3)) (hv : (Int16.ofInt n).toInt32 = Int32.ofInt n) (hr : q_inb n = true) (k : q_At y cc nL rt d kc ks K (pc + 3) L ((0, n) :: st) (sh, rf, mem)) : q_At y cc nL rt d kc ks K pc L st (sh, rf, mem) := q_sipush hd hv (q_inb_ok hr) k
theorem qx_istore {i : Nat} {x : Int} (hd : decode cc pc = .ok (.istore i, 2)) (hi : Nat.ble (i + 1) nL = true) (hp : q_pl L i = true) (hl : L.set i (0, x) = L') (k : q_At y cc nL rt d kc ks K (pc + 2) L' st (sh, rf, mem)) : q_At y cc nL rt d kc ks K pc L ((0, x) :: st) (sh, rf, mem) := q_istore hd (Nat.le_of_ble_eq_true hi) (q_pl_ok hp) (by rw [hl]; exact k)
theorem qx_istore_n {j : Fin 4} {i : Nat} {x : Int} (hd : decode cc pc = .ok (.istore_n j, 1)) (hj : (j : Nat) = i) (hi : Nat.ble (i + 1) nL = true) (hp : q_pl L i = true) (hl : L.set i (0, x) = L') (k : q_At y cc nL rt d kc ks K (pc + 1) L' st (sh, rf, mem)) : q_At y cc nL rt d kc ks K pc L ((0, x) :: st) (sh, rf, mem) := q_istore_n hd hj (Nat.le_of_ble_eq_true hi) (q_pl_ok hp) (by rw [hl]; exact k)
theorem qx_astore {i : Nat} {x : Int} (hd : decode cc pc = .ok (.astore i, 2)) (hi : Nat.ble (i + 1) nL = true) (hp : q_pl L i = true) (hl : L.set i (2, x) = L') (k : q_At y cc nL rt d kc ks K (pc + 2) L' st (sh, rf, mem)) : q_At y cc nL rt d kc ks K pc L ((2, x) :: st) (sh, rf, mem) := q_astore hd (Nat.le_of_ble_eq_true hi) (q_pl_ok hp) (by rw [hl]; exact k)
theorem qx_astore_n {j : Fin 4} {i : Nat} {x : Int} (hd : decode cc pc = .ok (.astore_n j, 1)) (hj : (j : Nat) = i) (hi : Nat.ble (i + 1) nL = true) (hp : q_pl L i = true) (hl : L.set i (2, x) = L') (k : q_At y cc nL rt d kc ks K (pc + 1) L' st (sh, rf, mem)) : q_At y cc nL rt d kc ks K pc L ((2, x) :: st) (sh, rf, mem) := q_astore_n hd hj (Nat.le_of_ble_eq_true hi) (q_pl_ok hp) (by rw [hl]; exact k)
theorem qx_lstore {i : Nat} {x : Int} (hd : decode cc pc = .ok (.lstore i, 2)) (hi : Nat.ble (i + 2) nL = true) (hp : q_pl L i = true) (hl : (L.set i (1, x)).set (i + 1) (4, 0) = L') (k : q_At y cc nL rt d kc ks K (pc + 2) L' st (sh, rf, mem)) : q_At y cc nL rt d kc ks K pc L ((1, x) :: st) (sh, rf, mem) := q_lstore hd (Nat.le_of_ble_eq_true hi) (q_pl_ok hp) (by rw [hl]; exact k)
theorem qx_lstore_n {j : Fin 4} {i : Nat} {x : Int} (hd : decode cc pc = .ok (.lstore_n j, 1)) (hj : (j : Nat) = i) (hi : Nat.ble (i + 2) nL = true) (hp : q_pl L i = true) (hl : (L.set i (1, x)).set (i + 1) (4, 0) = L') (k : q_At y cc nL rt d kc ks K (pc + 1) L' st (sh, rf, mem)) : q_At y cc nL rt d kc ks K pc L ((1, x) :: st) (sh, rf, mem) := q_lstore_n hd hj (Nat.le_of_ble_eq_true hi) (q_pl_ok hp) (by rw [hl]; exact k)
theorem qx_iinc {i : Nat} {n x : Int} (hd : decode cc pc = .ok (.iinc i n, 3)) (hx : L[i]? = some (0, x)) (hi : Nat.ble (i + 1) nL = true) (hp : q_pl L i = true) (hr : q_in32 (x + n)) (hl : L.set i (0, x + n) = L') (k : q_At y cc nL rt d kc ks K (pc + 3) L' st (sh, rf, mem)) : q_At y cc nL rt d kc ks K pc L st (sh, rf, mem) := q_iinc hd hx (Nat.le_of_ble_eq_true hi) (q_pl_ok hp) (by rw [q_w32_id hr, hl]; exact k)
theorem qx_iincW {i : Nat} {n x : Int} (hd : decode cc pc = .ok (.iinc i n, 6)) (hx : L[i]? = some (0, x)) (hi : Nat.ble (i + 1) nL = true) (hp : q_pl L i = true) (hr : q_in32 (x + n)) (hl : L.set i (0, x + n) = L') (k : q_At y cc nL rt d kc ks K (pc + 6) L' st (sh, rf, mem)) : q_At y cc nL rt d kc ks K pc L st (sh, rf, mem) := q_iincW hd hx (Nat.le_of_ble_eq_true hi) (q_pl_ok hp) (by rw [q_w32_id hr, hl]; exact k)
theorem qx_iadd {a b : Int} (hd : decode cc pc = .ok (.iadd, 1)) (hr : q_in32 (a + b)) (k : q_At y cc nL rt d kc ks K (pc + 1) L ((0, a + b) :: st) (sh, rf, mem)) : q_At y cc nL rt d kc ks K pc L ((0, b) :: (0, a) :: st) (sh, rf, mem) := q_iadd hd (by rw [q_w32_id hr]; exact k)
theorem qx_isub {a b : Int} (hd : decode cc pc = .ok (.isub, 1)) (hr : q_in32 (a - b)) (k : q_At y cc nL rt d kc ks K (pc + 1) L ((0, a - b) :: st) (sh, rf, mem)) : q_At y cc nL rt d kc ks K pc L ((0, b) :: (0, a) :: st) (sh, rf, mem) := q_isub hd (by rw [q_w32_id hr]; exact k)
theorem qx_imul {a b : Int} (hd : decode cc pc = .ok (.imul, 1)) (hr : q_in32 (a * b)) (k : q_At y cc nL rt d kc ks K (pc + 1) L ((0, a * b) :: st) (sh, rf, mem)) : q_At y cc nL rt d kc ks K pc L ((0, b) :: (0, a) :: st) (sh, rf, mem) := q_imul hd (by rw [q_w32_id hr]; exact k)
theorem qx_if_eq {a : Int} {off : Int} {tgt : Nat} (hd : decode cc pc = .ok (.ifCond .eq off, 3)) (ht : (pc : Int) + off = (tgt : Int)) (kt : a = 0 → q_At y cc nL rt d kc ks K tgt L st (sh, rf, mem)) (kf : a ≠ 0 → q_At y cc nL rt d kc ks K (pc + 3) L st (sh, rf, mem)) : q_At y cc nL rt d kc ks K pc L ((0, a) :: st) (sh, rf, mem) := q_if_eq hd ht kt (fun h => kf ((fun h => h) h))
theorem qx_icmp_eq {a b : Int} {off : Int} {tgt : Nat} (hd : decode cc pc = .ok (.if_icmp .eq off, 3)) (ht : (pc : Int) + off = (tgt : Int)) (kt : a = b → q_At y cc nL rt d kc ks K tgt L st (sh, rf, mem)) (kf : a ≠ b → q_At y cc nL rt d kc ks K (pc + 3) L st (sh, rf, mem)) : q_At y cc nL rt d kc ks K pc L ((0, b) :: (0, a) :: st) (sh, rf, mem) := q_icmp_eq hd ht kt (fun h => kf ((fun h => h) h))
theorem qx_if_ne {a : Int} {off : Int} {tgt : Nat} (hd : decode cc pc = .ok (.ifCond .ne off, 3)) (ht : (pc : Int) + off = (tgt : Int)) (kt : a ≠ 0 → q_At y cc nL rt d kc ks K tgt L st (sh, rf, mem)) (kf : a = 0 → q_At y cc nL rt d kc ks K (pc + 3) L st (sh, rf, mem)) : q_At y cc nL rt d kc ks K pc L ((0, a) :: st) (sh, rf, mem) := q_if_ne hd ht kt (fun h => kf ((fun h => Decidable.not_not.mp h) h))
theorem qx_icmp_ne {a b : Int} {off : Int} {tgt : Nat} (hd : decode cc pc = .ok (.if_icmp .ne off, 3)) (ht : (pc : Int) + off = (tgt : Int)) (kt : a ≠ b → q_At y cc nL rt d kc ks K tgt L st (sh, rf, mem)) (kf : a = b → q_At y cc nL rt d kc ks K (pc + 3) L st (sh, rf, mem)) : q_At y cc nL rt d kc ks K pc L ((0, b) :: (0, a) :: st) (sh, rf, mem) := q_icmp_ne hd ht kt (fun h => kf ((fun h => Decidable.not_not.mp h) h))
theorem qx_if_lt {a : Int} {off : Int} {tgt : Nat} (hd : decode cc pc = .ok (.ifCond .lt off, 3)) (ht : (pc : Int) + off = (tgt : Int)) (kt : a < 0 → q_At y cc nL rt d kc ks K tgt L st (sh, rf, mem)) (kf : 0 ≤ a → q_At y cc nL rt d kc ks K (pc + 3) L st (sh, rf, mem)) : q_At y cc nL rt d kc ks K pc L ((0, a) :: st) (sh, rf, mem) := q_if_lt hd ht kt (fun h => kf ((fun h => Int.not_lt.mp h) h))
theorem qx_icmp_lt {a b : Int} {off : Int} {tgt : Nat} (hd : decode cc pc = .ok (.if_icmp .lt off, 3)) (ht : (pc : Int) + off = (tgt : Int)) (kt : a < b → q_At y cc nL rt d kc ks K tgt L st (sh, rf, mem)) (kf : b ≤ a → q_At y cc nL rt d kc ks K (pc + 3) L st (sh, rf, mem)) : q_At y cc nL rt d kc ks K pc L ((0, b) :: (0, a) :: st) (sh, rf, mem) := q_icmp_lt hd ht kt (fun h => kf ((fun h => Int.not_lt.mp h) h))
theorem qx_if_ge {a : Int} {off : Int} {tgt : Nat} (hd : decode cc pc = .ok (.ifCond .ge off, 3)) (ht : (pc : Int) + off = (tgt : Int)) (kt : 0 ≤ a → q_At y cc nL rt d kc ks K tgt L st (sh, rf, mem)) (kf : a < 0 → q_At y cc nL rt d kc ks K (pc + 3) L st (sh, rf, mem)) : q_At y cc nL rt d kc ks K pc L ((0, a) :: st) (sh, rf, mem) := q_if_ge hd ht kt (fun h => kf ((fun h => Int.not_le.mp h) h))
theorem qx_icmp_ge {a b : Int} {off : Int} {tgt : Nat} (hd : decode cc pc = .ok (.if_icmp .ge off, 3)) (ht : (pc : Int) + off = (tgt : Int)) (kt : b ≤ a → q_At y cc nL rt d kc ks K tgt L st (sh, rf, mem)) (kf : a < b → q_At y cc nL rt d kc ks K (pc + 3) L st (sh, rf, mem)) : q_At y cc nL rt d kc ks K pc L ((0, b) :: (0, a) :: st) (sh, rf, mem) := q_icmp_ge hd ht kt (fun h => kf ((fun h => Int.not_le.mp h) h))
theorem qx_if_gt {a : Int} {off : Int} {tgt : Nat} (hd : decode cc pc = .ok (.ifCond .gt off, 3)) (ht : (pc : Int) + off = (tgt : Int)) (kt : 0 < a → q_At y cc nL rt d kc ks K tgt L st (sh, rf, mem)) (kf : a ≤ 0 → q_At y cc nL rt d kc ks K (pc + 3) L st (sh, rf, mem)) : q_At y cc nL rt d kc ks K pc L ((0, a) :: st) (sh, rf, mem) := q_if_gt hd ht kt (fun h => kf ((fun h => Int.not_lt.mp h) h))
theorem qx_icmp_gt {a b : Int} {off : Int} {tgt : Nat} (hd : decode cc pc = .ok (.if_icmp .gt off, 3)) (ht : (pc : Int) + off = (tgt : Int)) (kt : b < a → q_At y cc nL rt d kc ks K tgt L st (sh, rf, mem)) (kf : a ≤ b → q_At y cc nL rt d kc ks K (pc + 3) L st (sh, rf, mem)) : q_At y cc nL rt d kc ks K pc L ((0, b) :: (0, a) :: st) (sh, rf, mem) := q_icmp_gt hd ht kt (fun h => kf ((fun h => Int.not_lt.mp h) h))
theorem qx_if_le {a : Int} {off : Int} {tgt : Nat} (hd : decode cc pc = .ok (.ifCond .le off, 3)) (ht : (pc : Int) + off = (tgt : Int)) (kt : a ≤ 0 → q_At y cc nL rt d kc ks K tgt L st (sh, rf, mem)) (kf : 0 < a → q_At y cc nL rt d kc ks K (pc + 3) L st (sh, rf, mem)) : q_At y cc nL rt d kc ks K pc L ((0, a) :: st) (sh, rf, mem) := q_if_le hd ht kt (fun h => kf ((fun h => Int.not_le.mp h) h))
theorem qx_icmp_le {a b : Int} {off : Int} {tgt : Nat} (hd : decode cc pc = .ok (.if_icmp .le off, 3)) (ht : (pc : Int) + off = (tgt : Int)) (kt : a ≤ b → q_At y cc nL rt d kc ks K tgt L st (sh, rf, mem)) (kf : b < a → q_At y cc nL rt d kc ks K (pc + 3) L st (sh, rf, mem)) : q_At y cc nL rt d kc ks K pc L ((0, b) :: (0, a) :: st) (sh, rf, mem) := q_icmp_le hd ht kt (fun h => kf ((fun h => Int.not_le.mp h) h))
theorem q_kill (i : Nat) (hl : L.set i (4, 0) = L') (k : q_At y cc nL rt d kc ks K pc L' st (sh, rf, mem)) : q_At y cc nL rt d kc ks K pc L st (sh, rf, mem) := by
  subst hl
  intro p l e s m args below meth c H locs cells slots mc ms D cid ad0 ad n0 A ls C R hA hx hn hL
  refine k p l e s m args below meth c H locs cells slots mc ms D cid ad0 ad n0 A ls C R hA hx hn ⟨q_lv_mono hL.1 (fun q hq => ?_), fun v hv => ?_⟩
  · obtain ⟨j, w⟩ := q
    obtain ⟨v, g1, g2, rfl⟩ := q_lv_mem.mp hq
    by_cases hj : j = i
    · subst hj
      rw [List.getElem?_set] at g1
      simp at g1
      rw [← g1.2] at g2
      simp at g2
    · rw [List.getElem?_set_ne (Ne.symm hj)] at g1
      exact q_lv_mem.mpr ⟨v, g1, g2, rfl⟩
  · rcases List.mem_or_eq_of_mem_set hv with h | h
    · exact hL.2 v h
    · rw [h]; trivial
theorem qx_getI {index ci k n : Nat} {kI c v : Int} {C : String} {T : u_T} (hd : decode cc pc = .ok (.getfield index, 3)) (hcl : q_cl[ci]? = some (C, T, n)) (hk : Nat.ble (k + 1) n = true) (hkI : (k : Int) = kI) (hw : Cond.fieldLink y.cls index (T k).1 (T k).2.1 (T k).2.2.1 ∈ q_TB) (hf : q_ft ci k = 0) (hs : sh[c.toNat]? = some (ci + 5, n)) (hv : mem c kI = v) (kk : q_At y cc nL rt d kc ks K (pc + 3) L ((0, v) :: st) (sh, rf, mem)) : q_At y cc nL rt d kc ks K pc L ((2, c) :: st) (sh, rf, mem) := q_getI hd hcl (Nat.le_of_ble_eq_true hk) hkI hw hf hs (by rw [hv]; exact kk)
theorem qx_iald {c i v : Int} {n : Nat} (hd : decode cc pc = .ok (.iaload, 1)) (hs : sh[c.toNat]? = some (0, n)) (hi : 0 ≤ i ∧ i < n) (hv : mem c i = v) (kk : q_At y cc nL rt d kc ks K (pc + 1) L ((0, v) :: st) (sh, rf, mem)) : q_At y cc nL rt d kc ks K pc L ((0, i) :: (2, c) :: st) (sh, rf, mem) := q_iald hd hs hi.1 hi.2 (by rw [hv]; exact kk)
theorem qx_bald {c i v : Int} {n : Nat} (hd : decode cc pc = .ok (.baload, 1)) (hs : sh[c.toNat]? = some (2, n)) (hi : 0 ≤ i ∧ i < n) (hv : mem c i = v) (kk : q_At y cc nL rt d kc ks K (pc + 1) L ((0, v) :: st) (sh, rf, mem)) : q_At y cc nL rt d kc ks K pc L ((0, i) :: (2, c) :: st) (sh, rf, mem) := q_bald hd hs hi.1 hi.2 (by rw [hv]; exact kk)
theorem qx_zald {c i v : Int} {n : Nat} (hd : decode cc pc = .ok (.baload, 1)) (hs : sh[c.toNat]? = some (3, n)) (hi : 0 ≤ i ∧ i < n) (hv : mem c i = v) (kk : q_At y cc nL rt d kc ks K (pc + 1) L ((0, v) :: st) (sh, rf, mem)) : q_At y cc nL rt d kc ks K pc L ((0, i) :: (2, c) :: st) (sh, rf, mem) := q_zald hd hs hi.1 hi.2 (by rw [hv]; exact kk)
theorem qx_lald {c i v : Int} {n : Nat} (hd : decode cc pc = .ok (.laload, 1)) (hs : sh[c.toNat]? = some (1, n)) (hi : 0 ≤ i ∧ i < n) (hv : mem c i = v) (kk : q_At y cc nL rt d kc ks K (pc + 1) L ((1, v) :: st) (sh, rf, mem)) : q_At y cc nL rt d kc ks K pc L ((0, i) :: (2, c) :: st) (sh, rf, mem) := q_lald hd hs hi.1 hi.2 (by rw [hv]; exact kk)
/-- a heap of the made objects' shape, with these wires -/
def qK (rf : qm) (P : Int → qm → Prop) : Int → qh → Prop := fun r σ => ∃ m, σ = (q_sh0, rf, m) ∧ P r m
theorem qK_i {rf : qm} {P : Int → qm → Prop} {r : Int} {m : qm} (h : P r m) : qK rf P r (q_sh0, rf, m) := ⟨m, rfl, h⟩
theorem q_up_s {f : qm} {c i v : Int} : q_up f c i v c i = v := by unfold q_up; rw [if_pos ⟨rfl, rfl⟩]
theorem q_up_c {f : qm} {c c' i j v : Int} (h : c' ≠ c) : q_up f c i v c' j = f c' j := by unfold q_up; rw [if_neg (fun q => h q.1)]
theorem q_up_i {f : qm} {c c' i j v : Int} (h : j ≠ i) : q_up f c i v c' j = f c' j := by unfold q_up; rw [if_neg (fun q => h q.2)]
theorem q_cp_c {f : qm} {c0 sp c1 dp n c i : Int} (h : c ≠ c1) : q_cp f c0 sp c1 dp n c i = f c i := by unfold q_cp; rw [if_neg (fun q => h q.1)]
theorem q_Ev.mono {y : MethodName} {cc : ByteArray} {nL : Nat} {rt : Option FieldType} {d kc ks : Nat} {as : List qv} {σ : qh} {K K' : Int → qh → Prop} (h : q_Ev y cc nL rt d kc ks as σ K) (hk : ∀ r σ, K r σ → K' r σ) : q_Ev y cc nL rt d kc ks as σ K' := by
  intro l D cid ad sz hg ha
  have := h l D cid ad sz hg ha
  intro p e a1 a2 a3 s m args below a4 a5 a6 a7
  obtain ⟨k, o, b1, b2, b3, b4⟩ := this p e a1 a2 a3 s m args below a4 a5 a6 a7
  exact ⟨k, o, b1, b2, b3, b4.1.mono hk, b4.2⟩
end QX
section QY
variable {y : MethodName} {cc : ByteArray} {nL : Nat} {rt : Option FieldType} {d kc ks : Nat} {K : Int → qh → Prop} {pc : Nat} {L st : List qv} {rf rf1 mem : qm} {y' : MethodName} {cc' : ByteArray} {nL' : Nat} {rt' : Option FieldType} {d' : Nat} {P : Int → qm → Prop} {index : Nat}
theorem qx_invV {c : Int} {ci n : Nat} {T : u_T} {N : Nat} (as : List qv) (st' : List qv) (hst : as.reverse ++ (2, c) :: st = st') (hM : q_MV y' cc' nL' rt' n) (hd : decode cc pc = .ok (.invokevirtual index, 3)) (hw : Cond.methodLink y.cls index y' ∈ q_TB) (hcl : q_cl[ci]? = some (y'.cls, T, N)) (hs : q_sh0[c.toNat]? = some (ci + 5, N)) (hn' : as.length = n) (hdd : Nat.ble (d' + 1) d = true) (hnl : Nat.ble nL' 21 = true) (hsum : Nat.ble (st.map (fun v => if v.1 = 1 then 2 else 1)).sum 8 = true) (hE : q_Ev y' cc' nL' rt' d' 0 0 ((2, c) :: as) (q_sh0, rf, mem) (qK rf1 P))
    (hk : ∀ (r : Int) (m : qm), P r m → q_in32 r → q_At y cc nL rt d kc ks K (pc + 3) L (q_push rt' r st) (q_sh0, rf1, m)) : q_At y cc nL rt d kc ks K pc L st' (q_sh0, rf, mem) := by
  subst hst
  refine q_invV (kc := kc) (ks := ks) (kc' := 0) (ks' := 0) as hE hM hd hw hcl hs hn' (Nat.le_of_ble_eq_true hdd) (Nat.le_of_ble_eq_true hnl) (Nat.le_of_ble_eq_true hsum) ?_
  rintro r σ ⟨m, rfl, h⟩ hr _
  exact hk r m h hr
theorem qx_invS {n : Nat} (as : List qv) (st' : List qv) (hst : as.reverse ++ st = st') (hM : q_MS y' cc' nL' rt' n) (hd : decode cc pc = .ok (.invokestatic index, 3)) (hw : Cond.methodLink y.cls index y' ∈ q_TB) (hn' : as.length = n) (hdd : Nat.ble (d' + 1) d = true) (hnl : Nat.ble nL' 21 = true) (hsum : Nat.ble (st.map (fun v => if v.1 = 1 then 2 else 1)).sum 8 = true) (hE : q_Ev y' cc' nL' rt' d' 0 0 as (q_sh0, rf, mem) (qK rf1 P))
    (hk : ∀ (r : Int) (m : qm), P r m → q_in32 r → q_At y cc nL rt d kc ks K (pc + 3) L (q_push rt' r st) (q_sh0, rf1, m)) : q_At y cc nL rt d kc ks K pc L st' (q_sh0, rf, mem) := by
  subst hst
  refine q_invS (kc := kc) (ks := ks) (kc' := 0) (ks' := 0) as hE hM hd hw hn' (Nat.le_of_ble_eq_true hdd) (Nat.le_of_ble_eq_true hnl) (Nat.le_of_ble_eq_true hsum) ?_
  rintro r σ ⟨m, rfl, h⟩ hr _
  exact hk r m h hr
end QY
theorem qM_X0_init : q_MI yX0_init cX0_init 2 1 := ⟨rfl, tw131, tw4, tw132, by decide, by decide, by decide +kernel⟩
theorem qM_X0_strike : q_MV yX0_strike cX0_strike 3 none 1 := ⟨tw676, tw677, tw4, tw678, by decide, by decide, by decide +kernel⟩
theorem qM_X0_letGo : q_MV yX0_letGo cX0_letGo 4 none 2 := ⟨tw681, tp21, tw4, tw682, by decide, by decide, by decide +kernel⟩
theorem qM_X0_comeDown : q_MV yX0_comeDown cX0_comeDown 6 none 2 := ⟨tw687, tp22, tw4, tw688, by decide, by decide, by decide +kernel⟩
theorem qM_X1_init : q_MI yX1_init cX1_init 2 1 := ⟨rfl, tw147, tw5, tw148, by decide, by decide, by decide +kernel⟩
theorem qM_X1_start : q_MV yX1_start cX1_start 2 none 1 := ⟨tw768, tw769, tw5, tw770, by decide, by decide, by decide +kernel⟩
theorem qM_X1_strikeAll : q_MV yX1_strikeAll cX1_strikeAll 3 none 1 := ⟨tw805, tw806, tw5, tw807, by decide, by decide, by decide +kernel⟩
theorem qM_X1_strike : q_MV yX1_strike cX1_strike 4 none 0 := ⟨tw784, tw785, tw5, tw786, by decide, by decide, by decide +kernel⟩
theorem qM_X1_comeDown : q_MV yX1_comeDown cX1_comeDown 4 none 2 := ⟨tw790, tp30, tw5, tw791, by decide, by decide, by decide +kernel⟩
theorem qM_X1_isQuiet : q_MV yX1_isQuiet cX1_isQuiet 2 (some .boolean) 0 := ⟨tw780, tw781, tw5, tw782, by decide, by decide, by decide +kernel⟩
theorem qM_X1_noteWet : q_MV yX1_noteWet cX1_noteWet 3 none 1 := ⟨tw776, tw777, tw5, tw778, by decide, by decide, by decide +kernel⟩
theorem qM_X1_lastWet : q_MV yX1_lastWet cX1_lastWet 4 (some .int) 0 := ⟨tw793, tw794, tw5, tw795, by decide, by decide, by decide +kernel⟩
theorem qM_X2_init : q_MI yX2_init cX2_init 1 0 := ⟨rfl, tw253, tw9, tw254, by decide, by decide, by decide +kernel⟩
theorem qM_X2_isNone : q_MV yX2_isNone cX2_isNone 1 (some .boolean) 0 := ⟨tw646, tw647, tw9, tw648, by decide, by decide, by decide +kernel⟩
theorem qM_X2_read : q_MV yX2_read cX2_read 2 (some .int) 1 := ⟨tw519, tw520, tw9, tw521, by decide, by decide, by decide +kernel⟩
theorem qM_X2_take : q_MV yX2_take cX2_take 1 none 0 := ⟨tw568, tw569, tw9, tw570, by decide, by decide, by decide +kernel⟩
theorem qM_X2_write : q_MV yX2_write cX2_write 2 none 1 := ⟨tw548, tp12, tw9, tw549, by decide, by decide, by decide +kernel⟩
theorem qM_X2_readComparison : q_MV yX2_readComparison cX2_readComparison 4 none 2 := ⟨tw525, tp7, tw9, tw526, by decide, by decide, by decide +kernel⟩
theorem qM_X2_readSum : q_MV yX2_readSum cX2_readSum 5 none 2 := ⟨tw529, tp8, tw9, tw530, by decide, by decide, by decide +kernel⟩
theorem qM_X2_readProduct : q_MV yX2_readProduct cX2_readProduct 5 none 2 := ⟨tw533, tp9, tw9, tw534, by decide, by decide, by decide +kernel⟩
theorem qM_X2_readSigned : q_MV yX2_readSigned cX2_readSigned 5 none 2 := ⟨tw537, tp10, tw9, tw538, by decide, by decide, by decide +kernel⟩
theorem qM_X2_readThing : q_MV yX2_readThing cX2_readThing 3 none 2 := ⟨tw542, tp11, tw9, tw543, by decide, by decide, by decide +kernel⟩
theorem qM_X2_readLetter : q_MV yX2_readLetter cX2_readLetter 3 none 1 := ⟨tw553, tp13, tw9, tw554, by decide, by decide, by decide +kernel⟩
theorem qM_X2_worth : q_MV yX2_worth cX2_worth 4 (some .int) 0 := ⟨tw654, tw655, tw9, tw656, by decide, by decide, by decide +kernel⟩
theorem qM_X2_valueOf : q_MV yX2_valueOf cX2_valueOf 3 (some .int) 1 := ⟨tw662, tp20, tw9, tw663, by decide, by decide, by decide +kernel⟩
theorem qM_X2_joined : q_MS yX2_joined cX2_joined 3 (some .int) 3 := ⟨tw658, tw9, tw659, by decide, by decide, by decide +kernel⟩
theorem qM_X3_init : q_MI yX3_init cX3_init 2 0 := ⟨rfl, tw186, tw6, tw187, by decide, by decide, by decide +kernel⟩
theorem qM_X3_remember : q_MV yX3_remember cX3_remember 2 none 1 := ⟨tw607, tw608, tw6, tw609, by decide, by decide, by decide +kernel⟩
theorem qM_X3_bringBack : q_MV yX3_bringBack cX3_bringBack 2 none 1 := ⟨tw712, tw713, tw6, tw714, by decide, by decide, by decide +kernel⟩
theorem qM_X4_init : q_MI yX4_init cX4_init 2 1 := ⟨rfl, tw326, tw12, tw327, by decide, by decide, by decide +kernel⟩
theorem qM_X4_search : q_MV yX4_search cX4_search 3 (some .int) 1 := ⟨tw866, tw867, tw12, tw868, by decide, by decide, by decide +kernel⟩
theorem qM_X4_stepsTo : q_MV yX4_stepsTo cX4_stepsTo 4 (some .int) 1 := ⟨tw915, tw916, tw12, tw917, by decide, by decide, by decide +kernel⟩
theorem qM_X4_stepOf : q_MV yX4_stepOf cX4_stepOf 5 (some .int) 2 := ⟨tw919, tw920, tw12, tw921, by decide, by decide, by decide +kernel⟩
theorem qM_X4_writeStart : q_MV yX4_writeStart cX4_writeStart 8 none 1 := ⟨tw872, tp35, tw12, tw873, by decide, by decide, by decide +kernel⟩
theorem qM_X4_isPaid : q_MV yX4_isPaid cX4_isPaid 3 (some .boolean) 1 := ⟨tw912, tp44, tw12, tw913, by decide, by decide, by decide +kernel⟩
theorem qM_X4_goOnFrom : q_MV yX4_goOnFrom cX4_goOnFrom 5 (some .boolean) 1 := ⟨tw894, tp40, tw12, tw895, by decide, by decide, by decide +kernel⟩
theorem qM_X4_levelIn : q_MV yX4_levelIn cX4_levelIn 3 (some .int) 2 := ⟨tw898, tp41, tw12, tw899, by decide, by decide, by decide +kernel⟩
theorem qM_X4_canPay : q_MV yX4_canPay cX4_canPay 7 (some .int) 3 := ⟨tw902, tp42, tw12, tw903, by decide, by decide, by decide +kernel⟩
theorem qM_X4_writeNext : q_MV yX4_writeNext cX4_writeNext 6 none 4 := ⟨tw907, tp43, tw12, tw908, by decide, by decide, by decide +kernel⟩
theorem qM_X4_enter : q_MV yX4_enter cX4_enter 4 (some .boolean) 2 := ⟨tw876, tp36, tw12, tw877, by decide, by decide, by decide +kernel⟩
theorem qM_X4_findSpot : q_MV yX4_findSpot cX4_findSpot 3 (some .int) 0 := ⟨tw880, tp37, tw12, tw881, by decide, by decide, by decide +kernel⟩
theorem qM_X4_firstSpot : q_MV yX4_firstSpot cX4_firstSpot 4 (some .int) 0 := ⟨tw884, tp38, tw12, tw885, by decide, by decide, by decide +kernel⟩
theorem qM_X4_isLike : q_MV yX4_isLike cX4_isLike 3 (some .boolean) 1 := ⟨tw890, tp39, tw12, tw891, by decide, by decide, by decide +kernel⟩
theorem qM_X5_init : q_MI yX5_init cX5_init 1 0 := ⟨rfl, tw306, tw11, tw307, by decide, by decide, by decide +kernel⟩
theorem qM_X5_add : q_MV yX5_add cX5_add 4 none 3 := ⟨tw1023, tw1024, tw11, tw1025, by decide, by decide, by decide +kernel⟩
theorem qM_X5_fit : q_MV yX5_fit cX5_fit 4 (some .boolean) 1 := ⟨tw1039, tw1040, tw11, tw1041, by decide, by decide, by decide +kernel⟩
theorem qM_X5_lastBell : q_MV yX5_lastBell cX5_lastBell 3 (some .int) 0 := ⟨tw1044, tp52, tw11, tw1045, by decide, by decide, by decide +kernel⟩
theorem qM_X5_fitAt : q_MV yX5_fitAt cX5_fitAt 4 (some .boolean) 2 := ⟨tw1049, tp53, tw11, tw1050, by decide, by decide, by decide +kernel⟩
theorem qM_X6_init : q_MI yX6_init cX6_init 1 0 := ⟨rfl, tw206, tw7, tw207, by decide, by decide, by decide +kernel⟩
theorem qM_X6_append : q_MV yX6_append cX6_append 2 none 1 := ⟨tw406, tw407, tw7, tw408, by decide, by decide, by decide +kernel⟩
theorem qM_X6_open : q_MV yX6_open cX6_open 2 none 1 := ⟨tw425, tw426, tw7, tw427, by decide, by decide, by decide +kernel⟩
theorem qM_X6_close : q_MV yX6_close cX6_close 2 (some .int) 1 := ⟨tw507, tw508, tw7, tw509, by decide, by decide, by decide +kernel⟩
theorem qM_X6_isFine : q_MV yX6_isFine cX6_isFine 1 (some .boolean) 0 := ⟨tw478, tw479, tw7, tw480, by decide, by decide, by decide +kernel⟩
theorem qM_X6_failAt : q_MV yX6_failAt cX6_failAt 2 none 1 := ⟨tw456, tw457, tw7, tw458, by decide, by decide, by decide +kernel⟩
theorem qM_X6_failHere : q_MV yX6_failHere cX6_failHere 1 none 0 := ⟨tw503, tw504, tw7, tw505, by decide, by decide, by decide +kernel⟩
theorem qM_X6_failAtLast : q_MV yX6_failAtLast cX6_failAtLast 1 none 0 := ⟨tw460, tw461, tw7, tw462, by decide, by decide, by decide +kernel⟩
theorem qM_X6_peek : q_MV yX6_peek cX6_peek 1 (some .int) 0 := ⟨tw440, tw441, tw7, tw442, by decide, by decide, by decide +kernel⟩
theorem qM_X6_sees : q_MV yX6_sees cX6_sees 2 (some .boolean) 1 := ⟨tw559, tw560, tw7, tw561, by decide, by decide, by decide +kernel⟩
theorem qM_X6_seesDigit : q_MV yX6_seesDigit cX6_seesDigit 2 (some .boolean) 0 := ⟨tw474, tw475, tw7, tw476, by decide, by decide, by decide +kernel⟩
theorem qM_X6_next : q_MV yX6_next cX6_next 2 (some .int) 0 := ⟨tw563, tw564, tw7, tw565, by decide, by decide, by decide +kernel⟩
theorem qM_X6_skip : q_MV yX6_skip cX6_skip 2 (some .boolean) 1 := ⟨tw436, tw437, tw7, tw438, by decide, by decide, by decide +kernel⟩
theorem qM_X6_need : q_MV yX6_need cX6_need 2 none 1 := ⟨tw464, tw465, tw7, tw466, by decide, by decide, by decide +kernel⟩
theorem qM_X6_digit : q_MV yX6_digit cX6_digit 2 (some .int) 0 := ⟨tw452, tw453, tw7, tw454, by decide, by decide, by decide +kernel⟩
theorem qM_X6_number : q_MV yX6_number cX6_number 4 (some .int) 1 := ⟨tw469, tw470, tw7, tw471, by decide, by decide, by decide +kernel⟩
theorem qM_X7_init : q_MI yX7_init cX7_init 1 0 := ⟨rfl, tw67, tw3, tw68, by decide, by decide, by decide +kernel⟩
theorem qM_X7_copyWater : q_MV yX7_copyWater cX7_copyWater 2 none 1 := ⟨tw611, tw612, tw3, tw613, by decide, by decide, by decide +kernel⟩
theorem qM_X7_copyPipes : q_MV yX7_copyPipes cX7_copyPipes 2 none 1 := ⟨tw994, tw995, tw3, tw996, by decide, by decide, by decide +kernel⟩
theorem qM_X7_placeOf : q_MV yX7_placeOf cX7_placeOf 3 (some .int) 2 := ⟨tw500, tp6, tw3, tw501, by decide, by decide, by decide +kernel⟩
theorem qM_X7_originAt : q_MV yX7_originAt cX7_originAt 3 (some .int) 2 := ⟨tw974, tw975, tw3, tw976, by decide, by decide, by decide +kernel⟩
theorem qM_X7_putBehind : q_MV yX7_putBehind cX7_putBehind 3 none 2 := ⟨tw495, tw496, tw3, tw497, by decide, by decide, by decide +kernel⟩
theorem qM_X7_takeOldest : q_MV yX7_takeOldest cX7_takeOldest 3 (some .int) 1 := ⟨tw634, tw635, tw3, tw636, by decide, by decide, by decide +kernel⟩
theorem qM_X7_dropsFrom : q_MV yX7_dropsFrom cX7_dropsFrom 6 (some .int) 3 := ⟨tw970, tw971, tw3, tw972, by decide, by decide, by decide +kernel⟩
theorem qM_X7_mark : q_MV yX7_mark cX7_mark 4 none 2 := ⟨tw1006, tw1007, tw3, tw1008, by decide, by decide, by decide +kernel⟩
theorem qM_X7_lost : q_MV yX7_lost cX7_lost 3 (some .int) 0 := ⟨tw672, tw673, tw3, tw674, by decide, by decide, by decide +kernel⟩
theorem qM_X7_owedBy : q_MV yX7_owedBy cX7_owedBy 4 (some .int) 1 := ⟨tw650, tw651, tw3, tw652, by decide, by decide, by decide +kernel⟩
theorem qM_X7_owedByAll : q_MV yX7_owedByAll cX7_owedByAll 3 (some .int) 0 := ⟨tw725, tw726, tw3, tw727, by decide, by decide, by decide +kernel⟩
theorem qM_X7_setOff : q_MV yX7_setOff cX7_setOff 6 none 2 := ⟨tw951, tw952, tw3, tw953, by decide, by decide, by decide +kernel⟩
theorem qM_X7_passOn : q_MV yX7_passOn cX7_passOn 6 none 3 := ⟨tw961, tw962, tw3, tw963, by decide, by decide, by decide +kernel⟩
theorem qM_X8_init : q_MI yX8_init cX8_init 1 0 := ⟨rfl, tw279, tw10, tw280, by decide, by decide, by decide +kernel⟩
theorem qM_X8_read : q_MV yX8_read cX8_read 3 (some .int) 1 := ⟨tw734, tw735, tw10, tw736, by decide, by decide, by decide +kernel⟩
theorem qM_X8_readStep : q_MV yX8_readStep cX8_readStep 2 none 1 := ⟨tw740, tp28, tw10, tw741, by decide, by decide, by decide +kernel⟩
theorem qM_X9_init : q_MI yX9_init cX9_init 1 0 := ⟨rfl, tw33, tw2, tw34, by decide, by decide, by decide +kernel⟩
theorem qM_X10_init : q_MI yX10_init cX10_init 4 3 := ⟨rfl, tw231, tw8, tw232, by decide, by decide, by decide +kernel⟩
theorem qM_X10_read : q_MV yX10_read cX10_read 4 (some .int) 0 := ⟨tw418, tw419, tw8, tw420, by decide, by decide, by decide +kernel⟩
theorem qM_X10_letIn : q_MV yX10_letIn cX10_letIn 1 none 0 := ⟨tw511, tw512, tw8, tw513, by decide, by decide, by decide +kernel⟩
theorem qM_X10_readLine : q_MV yX10_readLine cX10_readLine 1 none 0 := ⟨tw433, tp0, tw8, tw434, by decide, by decide, by decide +kernel⟩
theorem qM_X10_readDebt : q_MV yX10_readDebt cX10_readDebt 4 none 0 := ⟨tw445, tp1, tw8, tw446, by decide, by decide, by decide +kernel⟩
theorem qM_X10_readOwner : q_MV yX10_readOwner cX10_readOwner 2 (some .int) 0 := ⟨tw449, tp2, tw8, tw450, by decide, by decide, by decide +kernel⟩
theorem qM_X10_readJar : q_MV yX10_readJar cX10_readJar 7 none 0 := ⟨tw484, tp3, tw8, tw485, by decide, by decide, by decide +kernel⟩
theorem qM_X10_readBelow : q_MV yX10_readBelow cX10_readBelow 3 (some .int) 1 := ⟨tw488, tp4, tw8, tw489, by decide, by decide, by decide +kernel⟩
theorem qM_X10_fill : q_MV yX10_fill cX10_fill 4 none 2 := ⟨tw492, tp5, tw8, tw493, by decide, by decide, by decide +kernel⟩
theorem qM_X11_init : q_MI yX11_init cX11_init 2 0 := ⟨rfl, tw25, tw1, tw26, by decide, by decide, by decide +kernel⟩
theorem qM_X11_sign : q_MV yX11_sign cX11_sign 3 (some .int) 1 := ⟨tw402, tw403, tw1, tw404, by decide, by decide, by decide +kernel⟩
theorem qM_X11_end : q_MV yX11_end cX11_end 2 (some .boolean) 1 := ⟨tw410, tw411, tw1, tw412, by decide, by decide, by decide +kernel⟩
theorem qM_X11_town : q_MV yX11_town cX11_town 3 (some .int) 0 := ⟨tw414, tw415, tw1, tw416, by decide, by decide, by decide +kernel⟩
theorem qM_X11_law : q_MV yX11_law cX11_law 2 (some .int) 0 := ⟨tw515, tw516, tw1, tw517, by decide, by decide, by decide +kernel⟩
theorem qM_X11_jar : q_MV yX11_jar cX11_jar 3 (some .int) 2 := ⟨tw1098, tw1099, tw1, tw1100, by decide, by decide, by decide +kernel⟩
theorem qM_X11_hole : q_MV yX11_hole cX11_hole 4 (some .int) 2 := ⟨tw573, tw574, tw1, tw575, by decide, by decide, by decide +kernel⟩
theorem qM_X11_below : q_MV yX11_below cX11_below 3 (some .boolean) 2 := ⟨tw581, tw582, tw1, tw583, by decide, by decide, by decide +kernel⟩
theorem qM_X11_sheet : q_MV yX11_sheet cX11_sheet 9 (some .int) 4 := ⟨tw589, tw590, tw1, tw591, by decide, by decide, by decide +kernel⟩
theorem qM_X11_sheetEntry : q_MS yX11_sheetEntry cX11_sheetEntry 3 (some .int) 2 := ⟨tw593, tw1, tw594, by decide, by decide, by decide +kernel⟩
theorem qM_X11_spring : q_MV yX11_spring cX11_spring 6 (some .int) 3 := ⟨tw600, tw601, tw1, tw602, by decide, by decide, by decide +kernel⟩
theorem qM_X11_pour : q_MV yX11_pour cX11_pour 5 (some .int) 3 := ⟨tw622, tw623, tw1, tw624, by decide, by decide, by decide +kernel⟩
theorem qM_X11_wax : q_MV yX11_wax cX11_wax 3 (some .boolean) 2 := ⟨tw638, tw639, tw1, tw640, by decide, by decide, by decide +kernel⟩
theorem qM_X11_bells : q_MV yX11_bells cX11_bells 4 (some .int) 1 := ⟨tw665, tw666, tw1, tw667, by decide, by decide, by decide +kernel⟩
theorem qM_X11_undo : q_MV yX11_undo cX11_undo 1 (some .int) 0 := ⟨tw708, tw709, tw1, tw710, by decide, by decide, by decide +kernel⟩
theorem qM_X11_judge : q_MV yX11_judge cX11_judge 9 (some .int) 4 := ⟨tw716, tw717, tw1, tw718, by decide, by decide, by decide +kernel⟩
theorem qM_X11_judgeOne : q_MV yX11_judgeOne cX11_judgeOne 6 (some .int) 1 := ⟨tw722, tp27, tw1, tw723, by decide, by decide, by decide +kernel⟩
theorem qM_X11_order : q_MV yX11_order cX11_order 4 (some .int) 0 := ⟨tw730, tw731, tw1, tw732, by decide, by decide, by decide +kernel⟩
theorem qM_X11_doStep : q_MV yX11_doStep cX11_doStep 4 (some .boolean) 1 := ⟨tw750, tp29, tw1, tw751, by decide, by decide, by decide +kernel⟩
theorem qM_X11_owes : q_MV yX11_owes cX11_owes 3 (some .int) 2 := ⟨tw757, tw758, tw1, tw759, by decide, by decide, by decide +kernel⟩
theorem qM_X11_rest : q_MV yX11_rest cX11_rest 2 (some .int) 0 := ⟨tw764, tw765, tw1, tw766, by decide, by decide, by decide +kernel⟩
theorem qM_X11_dry : q_MV yX11_dry cX11_dry 3 (some .int) 1 := ⟨tw797, tw798, tw1, tw799, by decide, by decide, by decide +kernel⟩
theorem qM_X11_later : q_MV yX11_later cX11_later 3 (some .int) 2 := ⟨tw801, tw802, tw1, tw803, by decide, by decide, by decide +kernel⟩
theorem qM_X11_flood : q_MV yX11_flood cX11_flood 6 (some .int) 2 := ⟨tw810, tw811, tw1, tw812, by decide, by decide, by decide +kernel⟩
theorem qM_X11_above : q_MV yX11_above cX11_above 2 (some .int) 1 := ⟨tw814, tw815, tw1, tw816, by decide, by decide, by decide +kernel⟩
theorem qM_X11_bitsAbove : q_MV yX11_bitsAbove cX11_bitsAbove 6 (some .int) 1 := ⟨tw819, tp31, tw1, tw820, by decide, by decide, by decide +kernel⟩
theorem qM_X11_least : q_MV yX11_least cX11_least 7 (some .int) 4 := ⟨tw822, tw823, tw1, tw824, by decide, by decide, by decide +kernel⟩
theorem qM_X11_stops : q_MV yX11_stops cX11_stops 5 (some .int) 3 := ⟨tw829, tw830, tw1, tw831, by decide, by decide, by decide +kernel⟩
theorem qM_X11_saves : q_MV yX11_saves cX11_saves 9 (some .int) 2 := ⟨tw841, tw842, tw1, tw843, by decide, by decide, by decide +kernel⟩
theorem qM_X11_worthStopping : q_MV yX11_worthStopping cX11_worthStopping 4 (some .int) 1 := ⟨tw838, tp33, tw1, tw839, by decide, by decide, by decide +kernel⟩
theorem qM_X11_isChoice : q_MS yX11_isChoice cX11_isChoice 3 (some .boolean) 3 := ⟨tw851, tw1, tw852, by decide, by decide, by decide +kernel⟩
theorem qM_X11_goStopped : q_MV yX11_goStopped cX11_goStopped 4 none 2 := ⟨tw834, tp32, tw1, tw835, by decide, by decide, by decide +kernel⟩
theorem qM_X11_place : q_MV yX11_place cX11_place 7 (some .int) 2 := ⟨tw854, tw855, tw1, tw856, by decide, by decide, by decide +kernel⟩
theorem qM_X11_lostWithBelow : q_MV yX11_lostWithBelow cX11_lostWithBelow 4 (some .int) 3 := ⟨tw859, tp34, tw1, tw860, by decide, by decide, by decide +kernel⟩
theorem qM_X11_payoff : q_MV yX11_payoff cX11_payoff 4 (some .int) 0 := ⟨tw862, tw863, tw1, tw864, by decide, by decide, by decide +kernel⟩
theorem qM_X11_pays : q_MV yX11_pays cX11_pays 3 (some .int) 2 := ⟨tw923, tw924, tw1, tw925, by decide, by decide, by decide +kernel⟩
theorem qM_X11_soonest : q_MV yX11_soonest cX11_soonest 4 (some .int) 2 := ⟨tw939, tw940, tw1, tw941, by decide, by decide, by decide +kernel⟩
theorem qM_X11_latest : q_MV yX11_latest cX11_latest 5 (some .int) 2 := ⟨tw943, tw944, tw1, tw945, by decide, by decide, by decide +kernel⟩
theorem qM_X11_couldPay : q_MV yX11_couldPay cX11_couldPay 5 (some .boolean) 3 := ⟨tw936, tp47, tw1, tw937, by decide, by decide, by decide +kernel⟩
theorem qM_X11_dropsOf : q_MV yX11_dropsOf cX11_dropsOf 5 (some .int) 2 := ⟨tw928, tp45, tw1, tw929, by decide, by decide, by decide +kernel⟩
theorem qM_X11_roomOf : q_MV yX11_roomOf cX11_roomOf 5 (some .int) 2 := ⟨tw932, tp46, tw1, tw933, by decide, by decide, by decide +kernel⟩
theorem qM_X11_settle : q_MV yX11_settle cX11_settle 4 (some .int) 0 := ⟨tw947, tw948, tw1, tw949, by decide, by decide, by decide +kernel⟩
theorem qM_X11_settleFirst : q_MV yX11_settleFirst cX11_settleFirst 4 (some .boolean) 0 := ⟨tw958, tp48, tw1, tw959, by decide, by decide, by decide +kernel⟩
theorem qM_X11_share : q_MV yX11_share cX11_share 3 (some .int) 2 := ⟨tw966, tw967, tw1, tw968, by decide, by decide, by decide +kernel⟩
theorem qM_X11_cup : q_MV yX11_cup cX11_cup 5 (some .int) 2 := ⟨tw978, tw979, tw1, tw980, by decide, by decide, by decide +kernel⟩
theorem qM_X11_spread : q_MV yX11_spread cX11_spread 8 (some .int) 1 := ⟨tw982, tw983, tw1, tw984, by decide, by decide, by decide +kernel⟩
theorem qM_X11_comes : q_MV yX11_comes cX11_comes 4 (some .int) 2 := ⟨tw986, tw987, tw1, tw988, by decide, by decide, by decide +kernel⟩
theorem qM_X11_marks : q_MV yX11_marks cX11_marks 4 (some .int) 1 := ⟨tw1002, tw1003, tw1, tw1004, by decide, by decide, by decide +kernel⟩
theorem qM_X11_tax : q_MV yX11_tax cX11_tax 3 (some .int) 1 := ⟨tw1010, tw1011, tw1, tw1012, by decide, by decide, by decide +kernel⟩
theorem qM_X11_drop : q_MV yX11_drop cX11_drop 3 (some .int) 2 := ⟨tw1014, tw1015, tw1, tw1016, by decide, by decide, by decide +kernel⟩
theorem qM_X11_seen : q_MV yX11_seen cX11_seen 4 (some .int) 3 := ⟨tw1019, tw1020, tw1, tw1021, by decide, by decide, by decide +kernel⟩
theorem qM_X11_forget : q_MV yX11_forget cX11_forget 1 (some .int) 0 := ⟨tw1027, tw1028, tw1, tw1029, by decide, by decide, by decide +kernel⟩
theorem qM_X11_holes : q_MV yX11_holes cX11_holes 4 (some .int) 1 := ⟨tw1031, tw1032, tw1, tw1033, by decide, by decide, by decide +kernel⟩
theorem qM_X11_explains : q_MV yX11_explains cX11_explains 5 (some .int) 0 := ⟨tw1053, tw1054, tw1, tw1055, by decide, by decide, by decide +kernel⟩
theorem qM_X11_fitsWithHole : q_MV yX11_fitsWithHole cX11_fitsWithHole 3 (some .boolean) 2 := ⟨tw1036, tp51, tw1, tw1037, by decide, by decide, by decide +kernel⟩
theorem qM_X11_looks : q_MV yX11_looks cX11_looks 7 (some .int) 1 := ⟨tw1057, tw1058, tw1, tw1059, by decide, by decide, by decide +kernel⟩
theorem qM_X11_findWays : q_MV yX11_findWays cX11_findWays 4 (some .int) 1 := ⟨tw1062, tp54, tw1, tw1063, by decide, by decide, by decide +kernel⟩
theorem qM_X11_waysLike : q_MV yX11_waysLike cX11_waysLike 8 (some .int) 4 := ⟨tw1071, tp56, tw1, tw1072, by decide, by decide, by decide +kernel⟩
theorem qM_X11_mostAlike : q_MV yX11_mostAlike cX11_mostAlike 5 (some .int) 2 := ⟨tw1067, tp55, tw1, tw1068, by decide, by decide, by decide +kernel⟩
theorem qM_X11_unlikeLevels : q_MV yX11_unlikeLevels cX11_unlikeLevels 5 (some .int) 2 := ⟨tw1075, tp57, tw1, tw1076, by decide, by decide, by decide +kernel⟩
theorem qM_X11_secret : q_MV yX11_secret cX11_secret 5 (some .int) 0 := ⟨tw1078, tw1079, tw1, tw1080, by decide, by decide, by decide +kernel⟩
theorem qM_X11_keep : q_MV yX11_keep cX11_keep 2 (some .boolean) 1 := ⟨tw1082, tw1083, tw1, tw1084, by decide, by decide, by decide +kernel⟩
theorem qM_X11_again : q_MV yX11_again cX11_again 2 (some .boolean) 1 := ⟨tw1086, tw1087, tw1, tw1088, by decide, by decide, by decide +kernel⟩
theorem qM_X11_count : q_MV yX11_count cX11_count 2 (some .int) 1 := ⟨tw1090, tw1091, tw1, tw1092, by decide, by decide, by decide +kernel⟩
theorem qM_X11_row : q_MV yX11_row cX11_row 2 (some .int) 1 := ⟨tw1172, tw1173, tw1, tw1174, by decide, by decide, by decide +kernel⟩
theorem qM_X11_isJar : q_MV yX11_isJar cX11_isJar 2 (some .boolean) 1 := ⟨tw578, tp14, tw1, tw579, by decide, by decide, by decide +kernel⟩
theorem qM_X11_isSpan : q_MS yX11_isSpan cX11_isSpan 1 (some .boolean) 1 := ⟨tw669, tw1, tw670, by decide, by decide, by decide +kernel⟩
theorem qM_X11_isLevel : q_MS yX11_isLevel cX11_isLevel 1 (some .boolean) 1 := ⟨tw826, tw1, tw827, by decide, by decide, by decide +kernel⟩
theorem qM_X11_isOrigin : q_MS yX11_isOrigin cX11_isOrigin 1 (some .boolean) 1 := ⟨tw604, tw1, tw605, by decide, by decide, by decide +kernel⟩
theorem qM_X11_areTwoOwners : q_MS yX11_areTwoOwners cX11_areTwoOwners 2 (some .boolean) 2 := ⟨tw761, tw1, tw762, by decide, by decide, by decide +kernel⟩
theorem qM_X11_canStandBelow : q_MV yX11_canStandBelow cX11_canStandBelow 3 (some .boolean) 2 := ⟨tw586, tp15, tw1, tw587, by decide, by decide, by decide +kernel⟩
theorem qM_X11_roomIn : q_MV yX11_roomIn cX11_roomIn 2 (some .int) 1 := ⟨tw618, tp16, tw1, tw619, by decide, by decide, by decide +kernel⟩
theorem qM_X11_emptyJars : q_MV yX11_emptyJars cX11_emptyJars 3 (some .int) 0 := ⟨tw697, tp24, tw1, tw698, by decide, by decide, by decide +kernel⟩
theorem qM_X11_levelsInAll : q_MV yX11_levelsInAll cX11_levelsInAll 3 (some .int) 0 := ⟨tw705, tp26, tw1, tw706, by decide, by decide, by decide +kernel⟩
theorem qM_X11_canPour : q_MV yX11_canPour cX11_canPour 5 (some .int) 4 := ⟨tw627, tp17, tw1, tw628, by decide, by decide, by decide +kernel⟩
theorem qM_X11_makePouring : q_MV yX11_makePouring cX11_makePouring 6 none 4 := ⟨tw631, tp18, tw1, tw632, by decide, by decide, by decide +kernel⟩
theorem qM_X11_lawOf : q_MV yX11_lawOf cX11_lawOf 3 (some .int) 1 := ⟨tw643, tp19, tw1, tw644, by decide, by decide, by decide +kernel⟩
theorem qM_X11_tryAsNow : q_MV yX11_tryAsNow cX11_tryAsNow 1 none 0 := ⟨tw991, tp49, tw1, tw992, by decide, by decide, by decide +kernel⟩
theorem qM_X11_isQuiet : q_MV yX11_isQuiet cX11_isQuiet 3 (some .boolean) 1 := ⟨tw999, tp50, tw1, tw1000, by decide, by decide, by decide +kernel⟩
theorem qM_X11_clearRow : q_MV yX11_clearRow cX11_clearRow 1 none 0 := ⟨tw693, tp23, tw1, tw694, by decide, by decide, by decide +kernel⟩
theorem qM_X11_tell : q_MV yX11_tell cX11_tell 2 none 1 := ⟨tw701, tp25, tw1, tw702, by decide, by decide, by decide +kernel⟩
theorem qM_X12_init : q_MI yX12_init cX12_init 1 0 := ⟨rfl, tw1179, tw13, tw1180, by decide, by decide, by decide +kernel⟩
theorem qM_X12_thrown : q_MV yX12_thrown cX12_thrown 1 (some .int) 0 := ⟨tw1351, tw1352, tw13, tw1353, by decide, by decide, by decide +kernel⟩
theorem qM_X12_in : q_MS yX12_in cX12_in 3 (some .boolean) 3 := ⟨tw1363, tw13, tw1364, by decide, by decide, by decide +kernel⟩
theorem qM_X12_has : q_MS yX12_has cX12_has 2 (some .boolean) 2 := ⟨tw1609, tw13, tw1610, by decide, by decide, by decide +kernel⟩
theorem qM_X12_lost : q_MV yX12_lost cX12_lost 1 (some .int) 0 := ⟨tw1439, tp74, tw13, tw1440, by decide, by decide, by decide +kernel⟩
theorem qM_X12_tell : q_MV yX12_tell cX12_tell 2 none 1 := ⟨tw1511, tp83, tw13, tw1512, by decide, by decide, by decide +kernel⟩
theorem qM_X12_isJar : q_MV yX12_isJar cX12_isJar 2 (some .boolean) 1 := ⟨tw1435, tp73, tw13, tw1436, by decide, by decide, by decide +kernel⟩
theorem qM_X12_isOwner : q_MS yX12_isOwner cX12_isOwner 1 (some .boolean) 1 := ⟨tw1553, tw13, tw1554, by decide, by decide, by decide +kernel⟩
theorem qM_X12_isOrigin : q_MS yX12_isOrigin cX12_isOrigin 1 (some .boolean) 1 := ⟨tw1464, tw13, tw1465, by decide, by decide, by decide +kernel⟩
theorem qM_X12_areOwners : q_MS yX12_areOwners cX12_areOwners 2 (some .boolean) 2 := ⟨tw1550, tw13, tw1551, by decide, by decide, by decide +kernel⟩
theorem qM_X12_isAhead : q_MS yX12_isAhead cX12_isAhead 1 (some .boolean) 1 := ⟨tw1503, tw13, tw1504, by decide, by decide, by decide +kernel⟩
theorem qM_X12_sign : q_MV yX12_sign cX12_sign 3 (some .int) 1 := ⟨tw1355, tw1356, tw13, tw1357, by decide, by decide, by decide +kernel⟩
theorem qM_X12_end : q_MV yX12_end cX12_end 2 (some .boolean) 1 := ⟨tw1359, tw1360, tw13, tw1361, by decide, by decide, by decide +kernel⟩
theorem qM_X12_begin : q_MV yX12_begin cX12_begin 4 none 3 := ⟨tw1371, tp59, tw13, tw1372, by decide, by decide, by decide +kernel⟩
theorem qM_X12_here : q_MV yX12_here cX12_here 1 (some .int) 0 := ⟨tw1383, tp62, tw13, tw1384, by decide, by decide, by decide +kernel⟩
theorem qM_X12_fine : q_MV yX12_fine cX12_fine 1 (some .boolean) 0 := ⟨tw1375, tp60, tw13, tw1376, by decide, by decide, by decide +kernel⟩
theorem qM_X12_fault : q_MV yX12_fault cX12_fault 2 none 1 := ⟨tw1391, tp64, tw13, tw1392, by decide, by decide, by decide +kernel⟩
theorem qM_X12_passes : q_MV yX12_passes cX12_passes 2 (some .boolean) 1 := ⟨tw1379, tp61, tw13, tw1380, by decide, by decide, by decide +kernel⟩
theorem qM_X12_need : q_MV yX12_need cX12_need 2 none 1 := ⟨tw1395, tp65, tw13, tw1396, by decide, by decide, by decide +kernel⟩
theorem qM_X12_number : q_MV yX12_number cX12_number 6 (some .int) 3 := ⟨tw1387, tp63, tw13, tw1388, by decide, by decide, by decide +kernel⟩
theorem qM_X12_town : q_MV yX12_town cX12_town 7 (some .int) 0 := ⟨tw1366, tw1367, tw13, tw1368, by decide, by decide, by decide +kernel⟩
theorem qM_X12_readJar : q_MV yX12_readJar cX12_readJar 3 none 1 := ⟨tw1399, tp66, tw13, tw1400, by decide, by decide, by decide +kernel⟩
theorem qM_X12_held : q_MV yX12_held cX12_held 3 (some .int) 1 := ⟨tw1407, tp67, tw13, tw1408, by decide, by decide, by decide +kernel⟩
theorem qM_X12_sum : q_MV yX12_sum cX12_sum 5 (some .int) 1 := ⟨tw1411, tp68, tw13, tw1412, by decide, by decide, by decide +kernel⟩
theorem qM_X12_product : q_MV yX12_product cX12_product 5 (some .int) 1 := ⟨tw1415, tp69, tw13, tw1416, by decide, by decide, by decide +kernel⟩
theorem qM_X12_thing : q_MV yX12_thing cX12_thing 4 (some .int) 1 := ⟨tw1419, tp70, tw13, tw1420, by decide, by decide, by decide +kernel⟩
theorem qM_X12_letter : q_MV yX12_letter cX12_letter 3 (some .int) 1 := ⟨tw1423, tp71, tw13, tw1424, by decide, by decide, by decide +kernel⟩
theorem qM_X12_owedBy : q_MV yX12_owedBy cX12_owedBy 4 (some .int) 1 := ⟨tw1427, tp72, tw13, tw1428, by decide, by decide, by decide +kernel⟩
theorem qM_X12_law : q_MV yX12_law cX12_law 3 (some .int) 0 := ⟨tw1402, tw1403, tw13, tw1404, by decide, by decide, by decide +kernel⟩
theorem qM_X12_lawFor : q_MV yX12_lawFor cX12_lawFor 2 (some .int) 1 := ⟨tw1443, tp75, tw13, tw1444, by decide, by decide, by decide +kernel⟩
theorem qM_X12_jar : q_MV yX12_jar cX12_jar 3 (some .int) 2 := ⟨tw1430, tw1431, tw13, tw1432, by decide, by decide, by decide +kernel⟩
theorem qM_X12_hole : q_MV yX12_hole cX12_hole 4 (some .int) 2 := ⟨tw1446, tw1447, tw13, tw1448, by decide, by decide, by decide +kernel⟩
theorem qM_X12_below : q_MV yX12_below cX12_below 3 (some .boolean) 2 := ⟨tw1450, tw1451, tw13, tw1452, by decide, by decide, by decide +kernel⟩
theorem qM_X12_sheet : q_MV yX12_sheet cX12_sheet 9 (some .int) 4 := ⟨tw1454, tw1455, tw13, tw1456, by decide, by decide, by decide +kernel⟩
theorem qM_X12_move : q_MV yX12_move cX12_move 5 none 3 := ⟨tw1488, tp80, tw13, tw1489, by decide, by decide, by decide +kernel⟩
theorem qM_X12_letGo : q_MV yX12_letGo cX12_letGo 4 none 2 := ⟨tw1492, tp81, tw13, tw1493, by decide, by decide, by decide +kernel⟩
theorem qM_X12_goBell : q_MV yX12_goBell cX12_goBell 6 (some .int) 0 := ⟨tw1507, tp82, tw13, tw1508, by decide, by decide, by decide +kernel⟩
theorem qM_X12_lay : q_MV yX12_lay cX12_lay 5 none 2 := ⟨tw1472, tp77, tw13, tw1473, by decide, by decide, by decide +kernel⟩
theorem qM_X12_bring : q_MV yX12_bring cX12_bring 5 none 2 := ⟨tw1523, tp85, tw13, tw1524, by decide, by decide, by decide +kernel⟩
theorem qM_X12_remember : q_MV yX12_remember cX12_remember 2 none 0 := ⟨tw1468, tp76, tw13, tw1469, by decide, by decide, by decide +kernel⟩
theorem qM_X12_spring : q_MV yX12_spring cX12_spring 6 (some .int) 3 := ⟨tw1460, tw1461, tw13, tw1462, by decide, by decide, by decide +kernel⟩
theorem qM_X12_refusal : q_MV yX12_refusal cX12_refusal 4 (some .int) 3 := ⟨tw1480, tp78, tw13, tw1481, by decide, by decide, by decide +kernel⟩
theorem qM_X12_make : q_MV yX12_make cX12_make 6 none 3 := ⟨tw1484, tp79, tw13, tw1485, by decide, by decide, by decide +kernel⟩
theorem qM_X12_pour : q_MV yX12_pour cX12_pour 5 (some .int) 3 := ⟨tw1475, tw1476, tw13, tw1477, by decide, by decide, by decide +kernel⟩
theorem qM_X12_wax : q_MV yX12_wax cX12_wax 3 (some .boolean) 2 := ⟨tw1495, tw1496, tw13, tw1497, by decide, by decide, by decide +kernel⟩
theorem qM_X12_bells : q_MV yX12_bells cX12_bells 5 (some .int) 1 := ⟨tw1499, tw1500, tw13, tw1501, by decide, by decide, by decide +kernel⟩
theorem qM_X12_sumOf : q_MV yX12_sumOf cX12_sumOf 4 (some .int) 1 := ⟨tw1515, tp84, tw13, tw1516, by decide, by decide, by decide +kernel⟩
theorem qM_X12_allDebts : q_MV yX12_allDebts cX12_allDebts 6 (some .int) 0 := ⟨tw1531, tp86, tw13, tw1532, by decide, by decide, by decide +kernel⟩
theorem qM_X12_undo : q_MV yX12_undo cX12_undo 1 (some .int) 0 := ⟨tw1518, tw1519, tw13, tw1520, by decide, by decide, by decide +kernel⟩
theorem qM_X12_judge : q_MV yX12_judge cX12_judge 9 (some .int) 4 := ⟨tw1526, tw1527, tw13, tw1528, by decide, by decide, by decide +kernel⟩
theorem qM_X12_order : q_MV yX12_order cX12_order 6 (some .int) 0 := ⟨tw1534, tw1535, tw13, tw1536, by decide, by decide, by decide +kernel⟩
theorem qM_X12_goStep : q_MV yX12_goStep cX12_goStep 4 (some .boolean) 1 := ⟨tw1539, tp87, tw13, tw1540, by decide, by decide, by decide +kernel⟩
theorem qM_X12_owes : q_MV yX12_owes cX12_owes 3 (some .int) 2 := ⟨tw1546, tw1547, tw13, tw1548, by decide, by decide, by decide +kernel⟩
theorem qM_X12_begin_ : q_MV yX12_begin_ cX12_begin_ 2 none 0 := ⟨tw1561, tp88, tw13, tw1562, by decide, by decide, by decide +kernel⟩
theorem qM_X12_goOn : q_MV yX12_goOn cX12_goOn 5 (some .int) 0 := ⟨tw1569, tp90, tw13, tw1570, by decide, by decide, by decide +kernel⟩
theorem qM_X12_goOn_ : q_MV yX12_goOn_ cX12_goOn_ 4 (some .int) 1 := ⟨tw1585, tp92, tw13, tw1586, by decide, by decide, by decide +kernel⟩
theorem qM_X12_isMoving : q_MV yX12_isMoving cX12_isMoving 2 (some .boolean) 0 := ⟨tw1565, tp89, tw13, tw1566, by decide, by decide, by decide +kernel⟩
theorem qM_X12_rest : q_MV yX12_rest cX12_rest 5 (some .int) 0 := ⟨tw1556, tw1557, tw13, tw1558, by decide, by decide, by decide +kernel⟩
theorem qM_X12_dry : q_MV yX12_dry cX12_dry 3 (some .int) 1 := ⟨tw1572, tw1573, tw13, tw1574, by decide, by decide, by decide +kernel⟩
theorem qM_X12_levelIn : q_MV yX12_levelIn cX12_levelIn 3 (some .int) 2 := ⟨tw1581, tp91, tw13, tw1582, by decide, by decide, by decide +kernel⟩
theorem qM_X12_later : q_MV yX12_later cX12_later 3 (some .int) 2 := ⟨tw1576, tw1577, tw13, tw1578, by decide, by decide, by decide +kernel⟩
theorem qM_X12_flood : q_MV yX12_flood cX12_flood 6 (some .int) 2 := ⟨tw1588, tw1589, tw13, tw1590, by decide, by decide, by decide +kernel⟩
theorem qM_X12_above : q_MV yX12_above cX12_above 5 (some .int) 1 := ⟨tw1592, tw1593, tw13, tw1594, by decide, by decide, by decide +kernel⟩
theorem qM_X12_least : q_MV yX12_least cX12_least 7 (some .int) 4 := ⟨tw1596, tw1597, tw13, tw1598, by decide, by decide, by decide +kernel⟩
theorem qM_X12_goStopped : q_MV yX12_goStopped cX12_goStopped 4 (some .int) 2 := ⟨tw1606, tp93, tw13, tw1607, by decide, by decide, by decide +kernel⟩
theorem qM_X12_stops : q_MV yX12_stops cX12_stops 7 (some .int) 3 := ⟨tw1600, tw1601, tw13, tw1602, by decide, by decide, by decide +kernel⟩
theorem qM_X12_saves : q_MV yX12_saves cX12_saves 8 (some .int) 2 := ⟨tw1612, tw1613, tw13, tw1614, by decide, by decide, by decide +kernel⟩
theorem qM_X12_place : q_MV yX12_place cX12_place 8 (some .int) 2 := ⟨tw1616, tw1617, tw13, tw1618, by decide, by decide, by decide +kernel⟩
theorem qM_X12_load : q_MV yX12_load cX12_load 3 none 1 := ⟨tw1633, tp96, tw13, tw1634, by decide, by decide, by decide +kernel⟩
theorem qM_X12_isState : q_MV yX12_isState cX12_isState 3 (some .boolean) 1 := ⟨tw1629, tp95, tw13, tw1630, by decide, by decide, by decide +kernel⟩
theorem qM_X12_addState : q_MV yX12_addState cX12_addState 8 (some .boolean) 2 := ⟨tw1625, tp94, tw13, tw1626, by decide, by decide, by decide +kernel⟩
theorem qM_X12_isPaid : q_MV yX12_isPaid cX12_isPaid 5 (some .boolean) 0 := ⟨tw1641, tp98, tw13, tw1642, by decide, by decide, by decide +kernel⟩
theorem qM_X12_owedBetween : q_MV yX12_owedBetween cX12_owedBetween 4 (some .int) 2 := ⟨tw1637, tp97, tw13, tw1638, by decide, by decide, by decide +kernel⟩
theorem qM_X12_payoff : q_MV yX12_payoff cX12_payoff 6 (some .int) 0 := ⟨tw1620, tw1621, tw13, tw1622, by decide, by decide, by decide +kernel⟩
theorem qM_X12_dropsOf : q_MV yX12_dropsOf cX12_dropsOf 4 (some .int) 1 := ⟨tw1649, tp99, tw13, tw1650, by decide, by decide, by decide +kernel⟩
theorem qM_X12_roomOf : q_MV yX12_roomOf cX12_roomOf 4 (some .int) 1 := ⟨tw1653, tp100, tw13, tw1654, by decide, by decide, by decide +kernel⟩
theorem qM_X12_canPay : q_MV yX12_canPay cX12_canPay 4 (some .boolean) 2 := ⟨tw1657, tp101, tw13, tw1658, by decide, by decide, by decide +kernel⟩
theorem qM_X12_pays : q_MV yX12_pays cX12_pays 3 (some .int) 2 := ⟨tw1644, tw1645, tw13, tw1646, by decide, by decide, by decide +kernel⟩
theorem qM_X12_soonest : q_MV yX12_soonest cX12_soonest 4 (some .int) 2 := ⟨tw1660, tw1661, tw13, tw1662, by decide, by decide, by decide +kernel⟩
theorem qM_X12_latest : q_MV yX12_latest cX12_latest 5 (some .int) 2 := ⟨tw1664, tw1665, tw13, tw1666, by decide, by decide, by decide +kernel⟩
theorem qM_X12_setOff : q_MV yX12_setOff cX12_setOff 4 none 2 := ⟨tw1673, tp102, tw13, tw1674, by decide, by decide, by decide +kernel⟩
theorem qM_X12_settleOne : q_MV yX12_settleOne cX12_settleOne 5 (some .boolean) 0 := ⟨tw1677, tp103, tw13, tw1678, by decide, by decide, by decide +kernel⟩
theorem qM_X12_settle : q_MV yX12_settle cX12_settle 4 (some .int) 0 := ⟨tw1668, tw1669, tw13, tw1670, by decide, by decide, by decide +kernel⟩
theorem qM_X12_shareOf : q_MV yX12_shareOf cX12_shareOf 5 (some .int) 2 := ⟨tw1685, tp104, tw13, tw1686, by decide, by decide, by decide +kernel⟩
theorem qM_X12_share : q_MV yX12_share cX12_share 3 (some .int) 2 := ⟨tw1680, tw1681, tw13, tw1682, by decide, by decide, by decide +kernel⟩
theorem qM_X12_cup : q_MV yX12_cup cX12_cup 8 (some .int) 2 := ⟨tw1688, tw1689, tw13, tw1690, by decide, by decide, by decide +kernel⟩
theorem qM_X12_spread : q_MV yX12_spread cX12_spread 7 (some .int) 1 := ⟨tw1692, tw1693, tw13, tw1694, by decide, by decide, by decide +kernel⟩
theorem qM_X12_comes : q_MV yX12_comes cX12_comes 5 (some .int) 2 := ⟨tw1696, tw1697, tw13, tw1698, by decide, by decide, by decide +kernel⟩
theorem qM_X12_isMovingNow : q_MV yX12_isMovingNow cX12_isMovingNow 2 (some .boolean) 0 := ⟨tw1705, tp105, tw13, tw1706, by decide, by decide, by decide +kernel⟩
theorem qM_X12_marks : q_MV yX12_marks cX12_marks 5 (some .int) 1 := ⟨tw1700, tw1701, tw13, tw1702, by decide, by decide, by decide +kernel⟩
theorem qM_X12_tax : q_MV yX12_tax cX12_tax 7 (some .int) 1 := ⟨tw1708, tw1709, tw13, tw1710, by decide, by decide, by decide +kernel⟩
theorem qM_X12_drop : q_MV yX12_drop cX12_drop 3 (some .int) 2 := ⟨tw1712, tw1713, tw13, tw1714, by decide, by decide, by decide +kernel⟩
theorem qM_X12_seen : q_MV yX12_seen cX12_seen 4 (some .int) 3 := ⟨tw1716, tw1717, tw13, tw1718, by decide, by decide, by decide +kernel⟩
theorem qM_X12_forget : q_MV yX12_forget cX12_forget 1 (some .int) 0 := ⟨tw1720, tw1721, tw13, tw1722, by decide, by decide, by decide +kernel⟩
theorem qM_X12_isSo : q_MV yX12_isSo cX12_isSo 4 (some .boolean) 0 := ⟨tw1733, tp107, tw13, tw1734, by decide, by decide, by decide +kernel⟩
theorem qM_X12_isSoWith : q_MV yX12_isSoWith cX12_isSoWith 3 (some .boolean) 2 := ⟨tw1729, tp106, tw13, tw1730, by decide, by decide, by decide +kernel⟩
theorem qM_X12_holes : q_MV yX12_holes cX12_holes 4 (some .int) 1 := ⟨tw1724, tw1725, tw13, tw1726, by decide, by decide, by decide +kernel⟩
theorem qM_X12_explains : q_MV yX12_explains cX12_explains 4 (some .int) 0 := ⟨tw1736, tw1737, tw13, tw1738, by decide, by decide, by decide +kernel⟩
theorem qM_X12_looks : q_MV yX12_looks cX12_looks 13 (some .int) 1 := ⟨tw1740, tw1741, tw13, tw1742, by decide, by decide, by decide +kernel⟩
theorem qM_X12_secret : q_MV yX12_secret cX12_secret 4 (some .int) 0 := ⟨tw1744, tw1745, tw13, tw1746, by decide, by decide, by decide +kernel⟩
theorem qM_X12_keep : q_MV yX12_keep cX12_keep 4 (some .boolean) 1 := ⟨tw1748, tw1749, tw13, tw1750, by decide, by decide, by decide +kernel⟩
theorem qM_X12_again : q_MV yX12_again cX12_again 4 (some .boolean) 1 := ⟨tw1752, tw1753, tw13, tw1754, by decide, by decide, by decide +kernel⟩
theorem qM_X12_count : q_MV yX12_count cX12_count 2 (some .int) 1 := ⟨tw1756, tw1757, tw13, tw1758, by decide, by decide, by decide +kernel⟩
theorem qM_X12_row : q_MV yX12_row cX12_row 2 (some .int) 1 := ⟨tw1760, tw1761, tw13, tw1762, by decide, by decide, by decide +kernel⟩
theorem qM_J6_bitCount_0f7a4 : q_MS yJ6_bitCount_0f7a4 cJ6_bitCount_0f7a4 1 (some .int) 1 := ⟨tw845, tw21, tw846, by decide, by decide, by decide +kernel⟩
theorem qM_J9_max_7cf53 : q_MS yJ9_max_7cf53 cJ9_max_7cf53 2 (some .int) 2 := ⟨tw597, tw15, tw598, by decide, by decide, by decide +kernel⟩
theorem qM_J9_min_7cf53 : q_MS yJ9_min_7cf53 cJ9_min_7cf53 2 (some .int) 2 := ⟨tw429, tw15, tw430, by decide, by decide, by decide +kernel⟩
theorem qM_J7_fill_53178 : q_MS yJ7_fill_53178 cJ7_fill_53178 4 none 2 := ⟨tw773, tw20, tw774, by decide, by decide, by decide +kernel⟩
