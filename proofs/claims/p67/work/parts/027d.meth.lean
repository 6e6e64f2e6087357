noncomputable section
theorem dFL_p0 : dFld (dOwn 0) 10 9 0 := ⟨_, rfl, by decide +kernel, tI 311 (by decide +kernel), rfl⟩
theorem dFL_p1 : dFld (dOwn 0) 19 9 1 := ⟨_, rfl, by decide +kernel, tI 312 (by decide +kernel), rfl⟩
theorem dFL_p2 : dFld (dOwn 0) 23 9 2 := ⟨_, rfl, by decide +kernel, tI 313 (by decide +kernel), rfl⟩
theorem dFL_p3 : dFld (dOwn 0) 29 9 3 := ⟨_, rfl, by decide +kernel, tI 314 (by decide +kernel), rfl⟩
theorem dFL_p4 : dFld (dOwn 0) 36 9 4 := ⟨_, rfl, by decide +kernel, tI 315 (by decide +kernel), rfl⟩
theorem dFL_p5 : dFld (dOwn 0) 43 9 5 := ⟨_, rfl, by decide +kernel, tI 316 (by decide +kernel), rfl⟩
theorem dFL_p6 : dFld (dOwn 0) 47 5 0 := ⟨_, rfl, by decide +kernel, tI 221 (by decide +kernel), rfl⟩
theorem dFL_p7 : dFld (dOwn 0) 51 4 1 := ⟨_, rfl, by decide +kernel, tI 53 (by decide +kernel), rfl⟩
theorem dFL_p8 : dFld (dOwn 0) 77 5 1 := ⟨_, rfl, by decide +kernel, tI 223 (by decide +kernel), rfl⟩
theorem dFL_p9 : dFld (dOwn 0) 84 9 6 := ⟨_, rfl, by decide +kernel, tI 317 (by decide +kernel), rfl⟩
theorem dFL_p10 : dFld (dOwn 0) 92 2 13 := ⟨_, rfl, by decide +kernel, tI 174 (by decide +kernel), rfl⟩
theorem dFL_p11 : dFld (dOwn 0) 95 5 2 := ⟨_, rfl, by decide +kernel, tI 225 (by decide +kernel), rfl⟩
theorem dFL_p12 : dFld (dOwn 0) 98 5 3 := ⟨_, rfl, by decide +kernel, tI 227 (by decide +kernel), rfl⟩
theorem dFL_p13 : dFld (dOwn 0) 104 2 14 := ⟨_, rfl, by decide +kernel, tI 177 (by decide +kernel), rfl⟩
theorem dFL_p14 : dFld (dOwn 0) 107 2 0 := ⟨_, rfl, by decide +kernel, tI 145 (by decide +kernel), rfl⟩
theorem dFL_p15 : dFld (dOwn 0) 111 7 4 := ⟨_, rfl, by decide +kernel, tI 106 (by decide +kernel), rfl⟩
theorem dFL_p16 : dFld (dOwn 0) 116 2 1 := ⟨_, rfl, by decide +kernel, tI 148 (by decide +kernel), rfl⟩
theorem dFL_p17 : dFld (dOwn 0) 120 6 2 := ⟨_, rfl, by decide +kernel, tI 135 (by decide +kernel), rfl⟩
theorem dFL_p18 : dFld (dOwn 0) 123 2 15 := ⟨_, rfl, by decide +kernel, tI 180 (by decide +kernel), rfl⟩
theorem dFL_p19 : dFld (dOwn 0) 126 2 16 := ⟨_, rfl, by decide +kernel, tI 183 (by decide +kernel), rfl⟩
theorem dFL_p20 : dFld (dOwn 0) 160 7 0 := ⟨_, rfl, by decide +kernel, tI 93 (by decide +kernel), rfl⟩
theorem dFL_p21 : dFld (dOwn 0) 168 7 1 := ⟨_, rfl, by decide +kernel, tI 96 (by decide +kernel), rfl⟩
theorem dFL_p22 : dFld (dOwn 0) 172 7 2 := ⟨_, rfl, by decide +kernel, tI 99 (by decide +kernel), rfl⟩
theorem dFL_p23 : dFld (dOwn 0) 175 7 3 := ⟨_, rfl, by decide +kernel, tI 102 (by decide +kernel), rfl⟩
def dFL_1 : List (Nat × Nat × Nat × Nat) := [(0, 10, 9, 0), (0, 19, 9, 1), (0, 23, 9, 2), (0, 29, 9, 3), (0, 36, 9, 4), (0, 43, 9, 5), (0, 47, 5, 0), (0, 51, 4, 1), (0, 77, 5, 1), (0, 84, 9, 6), (0, 92, 2, 13), (0, 95, 5, 2), (0, 98, 5, 3), (0, 104, 2, 14), (0, 107, 2, 0), (0, 111, 7, 4), (0, 116, 2, 1), (0, 120, 6, 2), (0, 123, 2, 15), (0, 126, 2, 16), (0, 160, 7, 0), (0, 168, 7, 1), (0, 172, 7, 2), (0, 175, 7, 3)]
theorem dFL_p24 : dFld (dOwn 0) 182 2 2 := ⟨_, rfl, by decide +kernel, tI 150 (by decide +kernel), rfl⟩
theorem dFL_p25 : dFld (dOwn 0) 185 2 3 := ⟨_, rfl, by decide +kernel, tI 152 (by decide +kernel), rfl⟩
theorem dFL_p26 : dFld (dOwn 0) 188 2 5 := ⟨_, rfl, by decide +kernel, tI 157 (by decide +kernel), rfl⟩
theorem dFL_p27 : dFld (dOwn 0) 203 2 6 := ⟨_, rfl, by decide +kernel, tI 160 (by decide +kernel), rfl⟩
theorem dFL_p28 : dFld (dOwn 0) 206 2 7 := ⟨_, rfl, by decide +kernel, tI 162 (by decide +kernel), rfl⟩
theorem dFL_p29 : dFld (dOwn 0) 209 2 8 := ⟨_, rfl, by decide +kernel, tI 164 (by decide +kernel), rfl⟩
theorem dFL_p30 : dFld (dOwn 0) 215 2 4 := ⟨_, rfl, by decide +kernel, tI 154 (by decide +kernel), rfl⟩
theorem dFL_p31 : dFld (dOwn 0) 221 2 12 := ⟨_, rfl, by decide +kernel, tI 172 (by decide +kernel), rfl⟩
theorem dFL_p32 : dFld (dOwn 0) 226 2 11 := ⟨_, rfl, by decide +kernel, tI 170 (by decide +kernel), rfl⟩
theorem dFL_p33 : dFld (dOwn 0) 232 6 0 := ⟨_, rfl, by decide +kernel, tI 128 (by decide +kernel), rfl⟩
theorem dFL_p34 : dFld (dOwn 0) 233 6 1 := ⟨_, rfl, by decide +kernel, tI 131 (by decide +kernel), rfl⟩
theorem dFL_p35 : dFld (dOwn 0) 242 2 9 := ⟨_, rfl, by decide +kernel, tI 166 (by decide +kernel), rfl⟩
theorem dFL_p36 : dFld (dOwn 0) 245 2 10 := ⟨_, rfl, by decide +kernel, tI 168 (by decide +kernel), rfl⟩
theorem dFL_p37 : dFld (dOwn 0) 339 3 2 := ⟨_, rfl, by decide +kernel, tI 254 (by decide +kernel), rfl⟩
theorem dFL_p38 : dFld (dOwn 0) 350 8 0 := ⟨_, rfl, by decide +kernel, tI 271 (by decide +kernel), rfl⟩
theorem dFL_p39 : dFld (dOwn 0) 354 8 1 := ⟨_, rfl, by decide +kernel, tI 273 (by decide +kernel), rfl⟩
theorem dFL_p40 : dFld (dOwn 1) 12 2 0 := ⟨_, rfl, by decide +kernel, tI 143 (by decide +kernel), rfl⟩
theorem dFL_p41 : dFld (dOwn 1) 21 2 1 := ⟨_, rfl, by decide +kernel, tI 146 (by decide +kernel), rfl⟩
theorem dFL_p42 : dFld (dOwn 1) 25 2 2 := ⟨_, rfl, by decide +kernel, tI 149 (by decide +kernel), rfl⟩
theorem dFL_p43 : dFld (dOwn 1) 29 2 3 := ⟨_, rfl, by decide +kernel, tI 151 (by decide +kernel), rfl⟩
theorem dFL_p44 : dFld (dOwn 1) 32 2 4 := ⟨_, rfl, by decide +kernel, tI 153 (by decide +kernel), rfl⟩
theorem dFL_p45 : dFld (dOwn 1) 35 2 5 := ⟨_, rfl, by decide +kernel, tI 155 (by decide +kernel), rfl⟩
theorem dFL_p46 : dFld (dOwn 1) 38 2 6 := ⟨_, rfl, by decide +kernel, tI 158 (by decide +kernel), rfl⟩
theorem dFL_p47 : dFld (dOwn 1) 41 2 7 := ⟨_, rfl, by decide +kernel, tI 161 (by decide +kernel), rfl⟩
def dFL_2 : List (Nat × Nat × Nat × Nat) := [(0, 182, 2, 2), (0, 185, 2, 3), (0, 188, 2, 5), (0, 203, 2, 6), (0, 206, 2, 7), (0, 209, 2, 8), (0, 215, 2, 4), (0, 221, 2, 12), (0, 226, 2, 11), (0, 232, 6, 0), (0, 233, 6, 1), (0, 242, 2, 9), (0, 245, 2, 10), (0, 339, 3, 2), (0, 350, 8, 0), (0, 354, 8, 1), (1, 12, 2, 0), (1, 21, 2, 1), (1, 25, 2, 2), (1, 29, 2, 3), (1, 32, 2, 4), (1, 35, 2, 5), (1, 38, 2, 6), (1, 41, 2, 7)]
theorem dFL_p48 : dFld (dOwn 1) 44 2 8 := ⟨_, rfl, by decide +kernel, tI 163 (by decide +kernel), rfl⟩
theorem dFL_p49 : dFld (dOwn 1) 47 2 9 := ⟨_, rfl, by decide +kernel, tI 165 (by decide +kernel), rfl⟩
theorem dFL_p50 : dFld (dOwn 1) 50 2 10 := ⟨_, rfl, by decide +kernel, tI 167 (by decide +kernel), rfl⟩
theorem dFL_p51 : dFld (dOwn 1) 53 2 11 := ⟨_, rfl, by decide +kernel, tI 169 (by decide +kernel), rfl⟩
theorem dFL_p52 : dFld (dOwn 1) 56 2 14 := ⟨_, rfl, by decide +kernel, tI 176 (by decide +kernel), rfl⟩
theorem dFL_p53 : dFld (dOwn 1) 60 2 15 := ⟨_, rfl, by decide +kernel, tI 179 (by decide +kernel), rfl⟩
theorem dFL_p54 : dFld (dOwn 1) 63 2 16 := ⟨_, rfl, by decide +kernel, tI 182 (by decide +kernel), rfl⟩
theorem dFL_p55 : dFld (dOwn 1) 66 2 13 := ⟨_, rfl, by decide +kernel, tI 173 (by decide +kernel), rfl⟩
theorem dFL_p56 : dFld (dOwn 1) 69 2 12 := ⟨_, rfl, by decide +kernel, tI 171 (by decide +kernel), rfl⟩
theorem dFL_p57 : dFld (dOwn 1) 72 7 4 := ⟨_, rfl, by decide +kernel, tI 104 (by decide +kernel), rfl⟩
theorem dFL_p58 : dFld (dOwn 1) 75 6 2 := ⟨_, rfl, by decide +kernel, tI 133 (by decide +kernel), rfl⟩
theorem dFL_p59 : dFld (dOwn 1) 117 7 3 := ⟨_, rfl, by decide +kernel, tI 101 (by decide +kernel), rfl⟩
theorem dFL_p60 : dFld (dOwn 1) 120 7 2 := ⟨_, rfl, by decide +kernel, tI 98 (by decide +kernel), rfl⟩
theorem dFL_p61 : dFld (dOwn 1) 123 7 1 := ⟨_, rfl, by decide +kernel, tI 95 (by decide +kernel), rfl⟩
theorem dFL_p62 : dFld (dOwn 1) 148 6 1 := ⟨_, rfl, by decide +kernel, tI 130 (by decide +kernel), rfl⟩
theorem dFL_p63 : dFld (dOwn 2) 11 3 0 := ⟨_, rfl, by decide +kernel, tI 251 (by decide +kernel), rfl⟩
theorem dFL_p64 : dFld (dOwn 2) 18 3 1 := ⟨_, rfl, by decide +kernel, tI 252 (by decide +kernel), rfl⟩
theorem dFL_p65 : dFld (dOwn 2) 26 3 2 := ⟨_, rfl, by decide +kernel, tI 253 (by decide +kernel), rfl⟩
theorem dFL_p66 : dFld (dOwn 3) 9 4 0 := ⟨_, rfl, by decide +kernel, tI 51 (by decide +kernel), rfl⟩
theorem dFL_p67 : dFld (dOwn 3) 15 4 2 := ⟨_, rfl, by decide +kernel, tI 54 (by decide +kernel), rfl⟩
theorem dFL_p68 : dFld (dOwn 3) 19 4 3 := ⟨_, rfl, by decide +kernel, tI 55 (by decide +kernel), rfl⟩
theorem dFL_p69 : dFld (dOwn 3) 22 4 4 := ⟨_, rfl, by decide +kernel, tI 57 (by decide +kernel), rfl⟩
theorem dFL_p70 : dFld (dOwn 3) 25 4 1 := ⟨_, rfl, by decide +kernel, tI 52 (by decide +kernel), rfl⟩
theorem dFL_p71 : dFld (dOwn 3) 29 4 5 := ⟨_, rfl, by decide +kernel, tI 59 (by decide +kernel), rfl⟩
def dFL_3 : List (Nat × Nat × Nat × Nat) := [(1, 44, 2, 8), (1, 47, 2, 9), (1, 50, 2, 10), (1, 53, 2, 11), (1, 56, 2, 14), (1, 60, 2, 15), (1, 63, 2, 16), (1, 66, 2, 13), (1, 69, 2, 12), (1, 72, 7, 4), (1, 75, 6, 2), (1, 117, 7, 3), (1, 120, 7, 2), (1, 123, 7, 1), (1, 148, 6, 1), (2, 11, 3, 0), (2, 18, 3, 1), (2, 26, 3, 2), (3, 9, 4, 0), (3, 15, 4, 2), (3, 19, 4, 3), (3, 22, 4, 4), (3, 25, 4, 1), (3, 29, 4, 5)]
theorem dFL_p72 : dFld (dOwn 3) 32 4 6 := ⟨_, rfl, by decide +kernel, tI 60 (by decide +kernel), rfl⟩
theorem dFL_p73 : dFld (dOwn 4) 12 5 0 := ⟨_, rfl, by decide +kernel, tI 220 (by decide +kernel), rfl⟩
theorem dFL_p74 : dFld (dOwn 4) 21 5 1 := ⟨_, rfl, by decide +kernel, tI 222 (by decide +kernel), rfl⟩
theorem dFL_p75 : dFld (dOwn 4) 25 5 3 := ⟨_, rfl, by decide +kernel, tI 226 (by decide +kernel), rfl⟩
theorem dFL_p76 : dFld (dOwn 4) 29 5 2 := ⟨_, rfl, by decide +kernel, tI 224 (by decide +kernel), rfl⟩
theorem dFL_p77 : dFld (dOwn 4) 32 5 4 := ⟨_, rfl, by decide +kernel, tI 228 (by decide +kernel), rfl⟩
theorem dFL_p78 : dFld (dOwn 4) 55 4 3 := ⟨_, rfl, by decide +kernel, tI 56 (by decide +kernel), rfl⟩
theorem dFL_p79 : dFld (dOwn 4) 59 4 6 := ⟨_, rfl, by decide +kernel, tI 61 (by decide +kernel), rfl⟩
theorem dFL_p80 : dFld (dOwn 4) 147 2 0 := ⟨_, rfl, by decide +kernel, tI 144 (by decide +kernel), rfl⟩
theorem dFL_p81 : dFld (dOwn 4) 151 7 4 := ⟨_, rfl, by decide +kernel, tI 105 (by decide +kernel), rfl⟩
theorem dFL_p82 : dFld (dOwn 4) 156 7 0 := ⟨_, rfl, by decide +kernel, tI 92 (by decide +kernel), rfl⟩
theorem dFL_p83 : dFld (dOwn 4) 177 2 14 := ⟨_, rfl, by decide +kernel, tI 178 (by decide +kernel), rfl⟩
theorem dFL_p84 : dFld (dOwn 4) 191 2 1 := ⟨_, rfl, by decide +kernel, tI 147 (by decide +kernel), rfl⟩
theorem dFL_p85 : dFld (dOwn 4) 195 6 2 := ⟨_, rfl, by decide +kernel, tI 134 (by decide +kernel), rfl⟩
theorem dFL_p86 : dFld (dOwn 4) 198 6 0 := ⟨_, rfl, by decide +kernel, tI 127 (by decide +kernel), rfl⟩
theorem dFL_p87 : dFld (dOwn 4) 205 2 6 := ⟨_, rfl, by decide +kernel, tI 159 (by decide +kernel), rfl⟩
theorem dFL_p88 : dFld (dOwn 4) 208 2 13 := ⟨_, rfl, by decide +kernel, tI 175 (by decide +kernel), rfl⟩
theorem dFL_p89 : dFld (dOwn 4) 225 2 5 := ⟨_, rfl, by decide +kernel, tI 156 (by decide +kernel), rfl⟩
theorem dFL_p90 : dFld (dOwn 4) 240 4 4 := ⟨_, rfl, by decide +kernel, tI 58 (by decide +kernel), rfl⟩
theorem dFL_p91 : dFld (dOwn 4) 254 2 15 := ⟨_, rfl, by decide +kernel, tI 181 (by decide +kernel), rfl⟩
theorem dFL_p92 : dFld (dOwn 4) 257 2 16 := ⟨_, rfl, by decide +kernel, tI 184 (by decide +kernel), rfl⟩
theorem dFL_p93 : dFld (dOwn 5) 9 6 0 := ⟨_, rfl, by decide +kernel, tI 126 (by decide +kernel), rfl⟩
theorem dFL_p94 : dFld (dOwn 5) 15 6 1 := ⟨_, rfl, by decide +kernel, tI 129 (by decide +kernel), rfl⟩
theorem dFL_p95 : dFld (dOwn 5) 19 6 2 := ⟨_, rfl, by decide +kernel, tI 132 (by decide +kernel), rfl⟩
def dFL_4 : List (Nat × Nat × Nat × Nat) := [(3, 32, 4, 6), (4, 12, 5, 0), (4, 21, 5, 1), (4, 25, 5, 3), (4, 29, 5, 2), (4, 32, 5, 4), (4, 55, 4, 3), (4, 59, 4, 6), (4, 147, 2, 0), (4, 151, 7, 4), (4, 156, 7, 0), (4, 177, 2, 14), (4, 191, 2, 1), (4, 195, 6, 2), (4, 198, 6, 0), (4, 205, 2, 6), (4, 208, 2, 13), (4, 225, 2, 5), (4, 240, 4, 4), (4, 254, 2, 15), (4, 257, 2, 16), (5, 9, 6, 0), (5, 15, 6, 1), (5, 19, 6, 2)]
theorem dFL_p96 : dFld (dOwn 6) 9 7 0 := ⟨_, rfl, by decide +kernel, tI 91 (by decide +kernel), rfl⟩
theorem dFL_p97 : dFld (dOwn 6) 15 7 1 := ⟨_, rfl, by decide +kernel, tI 94 (by decide +kernel), rfl⟩
theorem dFL_p98 : dFld (dOwn 6) 19 7 2 := ⟨_, rfl, by decide +kernel, tI 97 (by decide +kernel), rfl⟩
theorem dFL_p99 : dFld (dOwn 6) 22 7 3 := ⟨_, rfl, by decide +kernel, tI 100 (by decide +kernel), rfl⟩
theorem dFL_p100 : dFld (dOwn 6) 26 7 4 := ⟨_, rfl, by decide +kernel, tI 103 (by decide +kernel), rfl⟩
theorem dFL_p101 : dFld (dOwn 7) 11 8 0 := ⟨_, rfl, by decide +kernel, tI 270 (by decide +kernel), rfl⟩
theorem dFL_p102 : dFld (dOwn 7) 17 8 1 := ⟨_, rfl, by decide +kernel, tI 272 (by decide +kernel), rfl⟩
theorem dFL_p103 : dFld (dOwn 9) 7 10 2 := ⟨_, rfl, by decide +kernel, tI 724 (by decide +kernel), rfl⟩
theorem dFL_p104 : dFld (dOwn 9) 13 10 7 := ⟨_, rfl, by decide +kernel, tI 737 (by decide +kernel), rfl⟩
theorem dFL_p105 : dFld (dOwn 9) 17 10 0 := ⟨_, rfl, by decide +kernel, tI 718 (by decide +kernel), rfl⟩
theorem dFL_p106 : dFld (dOwn 9) 20 10 1 := ⟨_, rfl, by decide +kernel, tI 721 (by decide +kernel), rfl⟩
theorem dFL_p107 : dFld (dOwn 9) 23 10 5 := ⟨_, rfl, by decide +kernel, tI 731 (by decide +kernel), rfl⟩
theorem dFL_p108 : dFld (dOwn 9) 26 10 6 := ⟨_, rfl, by decide +kernel, tI 734 (by decide +kernel), rfl⟩
theorem dFL_p109 : dFld (dOwn 9) 47 10 9 := ⟨_, rfl, by decide +kernel, tI 742 (by decide +kernel), rfl⟩
theorem dFL_p110 : dFld (dOwn 10) 7 11 0 := ⟨_, rfl, by decide +kernel, tI 351 (by decide +kernel), rfl⟩
theorem dFL_p111 : dFld (dOwn 10) 13 11 1 := ⟨_, rfl, by decide +kernel, tI 352 (by decide +kernel), rfl⟩
theorem dFL_p112 : dFld (dOwn 11) 7 12 5 := ⟨_, rfl, by decide +kernel, tI 836 (by decide +kernel), rfl⟩
theorem dFL_p113 : dFld (dOwn 11) 13 12 6 := ⟨_, rfl, by decide +kernel, tI 838 (by decide +kernel), rfl⟩
theorem dFL_p114 : dFld (dOwn 11) 16 12 7 := ⟨_, rfl, by decide +kernel, tI 840 (by decide +kernel), rfl⟩
theorem dFL_p115 : dFld (dOwn 11) 19 12 8 := ⟨_, rfl, by decide +kernel, tI 842 (by decide +kernel), rfl⟩
theorem dFL_p116 : dFld (dOwn 11) 25 12 9 := ⟨_, rfl, by decide +kernel, tI 844 (by decide +kernel), rfl⟩
theorem dFL_p117 : dFld (dOwn 11) 29 12 10 := ⟨_, rfl, by decide +kernel, tI 846 (by decide +kernel), rfl⟩
theorem dFL_p118 : dFld (dOwn 11) 38 12 11 := ⟨_, rfl, by decide +kernel, tI 848 (by decide +kernel), rfl⟩
theorem dFL_p119 : dFld (dOwn 11) 42 12 1 := ⟨_, rfl, by decide +kernel, tI 828 (by decide +kernel), rfl⟩
def dFL_5 : List (Nat × Nat × Nat × Nat) := [(6, 9, 7, 0), (6, 15, 7, 1), (6, 19, 7, 2), (6, 22, 7, 3), (6, 26, 7, 4), (7, 11, 8, 0), (7, 17, 8, 1), (9, 7, 10, 2), (9, 13, 10, 7), (9, 17, 10, 0), (9, 20, 10, 1), (9, 23, 10, 5), (9, 26, 10, 6), (9, 47, 10, 9), (10, 7, 11, 0), (10, 13, 11, 1), (11, 7, 12, 5), (11, 13, 12, 6), (11, 16, 12, 7), (11, 19, 12, 8), (11, 25, 12, 9), (11, 29, 12, 10), (11, 38, 12, 11), (11, 42, 12, 1)]
theorem dFL_p120 : dFld (dOwn 11) 45 12 2 := ⟨_, rfl, by decide +kernel, tI 830 (by decide +kernel), rfl⟩
theorem dFL_p121 : dFld (dOwn 11) 48 12 3 := ⟨_, rfl, by decide +kernel, tI 832 (by decide +kernel), rfl⟩
theorem dFL_p122 : dFld (dOwn 11) 51 12 4 := ⟨_, rfl, by decide +kernel, tI 834 (by decide +kernel), rfl⟩
theorem dFL_p123 : dFld (dOwn 11) 68 12 0 := ⟨_, rfl, by decide +kernel, tI 826 (by decide +kernel), rfl⟩
theorem dFL_p124 : dFld (dOwn 11) 90 12 12 := ⟨_, rfl, by decide +kernel, tI 850 (by decide +kernel), rfl⟩
theorem dFL_p125 : dFld (dOwn 11) 158 12 13 := ⟨_, rfl, by decide +kernel, tI 853 (by decide +kernel), rfl⟩
theorem dFL_p126 : dFld (dOwn 12) 15 1 0 := ⟨_, rfl, by decide +kernel, tI 297 (by decide +kernel), rfl⟩
theorem dFL_p127 : dFld (dOwn 12) 22 1 1 := ⟨_, rfl, by decide +kernel, tI 298 (by decide +kernel), rfl⟩
theorem dFL_p128 : dFld (dOwn 12) 73 1 2 := ⟨_, rfl, by decide +kernel, tI 299 (by decide +kernel), rfl⟩
theorem dFL_p129 : dFld (dOwn 12) 79 1 3 := ⟨_, rfl, by decide +kernel, tI 301 (by decide +kernel), rfl⟩
theorem dFL_p130 : dFld (dOwn 14) 9 0 0 := ⟨_, rfl, by decide +kernel, tI 683 (by decide +kernel), rfl⟩
theorem dFL_p131 : dFld (dOwn 14) 15 0 1 := ⟨_, rfl, by decide +kernel, tI 684 (by decide +kernel), rfl⟩
theorem dFL_p132 : dFld (dOwn 14) 1048 1 2 := ⟨_, rfl, by decide +kernel, tI 300 (by decide +kernel), rfl⟩
def dFL_6 : List (Nat × Nat × Nat × Nat) := [(11, 45, 12, 2), (11, 48, 12, 3), (11, 51, 12, 4), (11, 68, 12, 0), (11, 90, 12, 12), (11, 158, 12, 13), (12, 15, 1, 0), (12, 22, 1, 1), (12, 73, 1, 2), (12, 79, 1, 3), (14, 9, 0, 0), (14, 15, 0, 1), (14, 1048, 1, 2)]
def dFL : List (Nat × Nat × Nat × Nat) := dFL_1 ++ dFL_2 ++ dFL_3 ++ dFL_4 ++ dFL_5 ++ dFL_6
theorem dFL_r1 : ∀ q ∈ dFL_1, dFld (dOwn q.1) q.2.1 q.2.2.1 q.2.2.2 := List.forall_mem_cons.mpr ⟨dFL_p0, List.forall_mem_cons.mpr ⟨dFL_p1, List.forall_mem_cons.mpr ⟨dFL_p2, List.forall_mem_cons.mpr ⟨dFL_p3, List.forall_mem_cons.mpr ⟨dFL_p4, List.forall_mem_cons.mpr ⟨dFL_p5, List.forall_mem_cons.mpr ⟨dFL_p6, List.forall_mem_cons.mpr ⟨dFL_p7, List.forall_mem_cons.mpr ⟨dFL_p8, List.forall_mem_cons.mpr ⟨dFL_p9, List.forall_mem_cons.mpr ⟨dFL_p10, List.forall_mem_cons.mpr ⟨dFL_p11, List.forall_mem_cons.mpr ⟨dFL_p12, List.forall_mem_cons.mpr ⟨dFL_p13, List.forall_mem_cons.mpr ⟨dFL_p14, List.forall_mem_cons.mpr ⟨dFL_p15, List.forall_mem_cons.mpr ⟨dFL_p16, List.forall_mem_cons.mpr ⟨dFL_p17, List.forall_mem_cons.mpr ⟨dFL_p18, List.forall_mem_cons.mpr ⟨dFL_p19, List.forall_mem_cons.mpr ⟨dFL_p20, List.forall_mem_cons.mpr ⟨dFL_p21, List.forall_mem_cons.mpr ⟨dFL_p22, List.forall_mem_cons.mpr ⟨dFL_p23, fun _ h => absurd h List.not_mem_nil⟩⟩⟩⟩⟩⟩⟩⟩⟩⟩⟩⟩⟩⟩⟩⟩⟩⟩⟩⟩⟩⟩⟩⟩
theorem dFL_r2 : ∀ q ∈ dFL_2, dFld (dOwn q.1) q.2.1 q.2.2.1 q.2.2.2 := List.forall_mem_cons.mpr ⟨dFL_p24, List.forall_mem_cons.mpr ⟨dFL_p25, List.forall_mem_cons.mpr ⟨dFL_p26, List.forall_mem_cons.mpr ⟨dFL_p27, List.forall_mem_cons.mpr ⟨dFL_p28, List.forall_mem_cons.mpr ⟨dFL_p29, List.forall_mem_cons.mpr ⟨dFL_p30, List.forall_mem_cons.mpr ⟨dFL_p31, List.forall_mem_cons.mpr ⟨dFL_p32, List.forall_mem_cons.mpr ⟨dFL_p33, List.forall_mem_cons.mpr ⟨dFL_p34, List.forall_mem_cons.mpr ⟨dFL_p35, List.forall_mem_cons.mpr ⟨dFL_p36, List.forall_mem_cons.mpr ⟨dFL_p37, List.forall_mem_cons.mpr ⟨dFL_p38, List.forall_mem_cons.mpr ⟨dFL_p39, List.forall_mem_cons.mpr ⟨dFL_p40, List.forall_mem_cons.mpr ⟨dFL_p41, List.forall_mem_cons.mpr ⟨dFL_p42, List.forall_mem_cons.mpr ⟨dFL_p43, List.forall_mem_cons.mpr ⟨dFL_p44, List.forall_mem_cons.mpr ⟨dFL_p45, List.forall_mem_cons.mpr ⟨dFL_p46, List.forall_mem_cons.mpr ⟨dFL_p47, fun _ h => absurd h List.not_mem_nil⟩⟩⟩⟩⟩⟩⟩⟩⟩⟩⟩⟩⟩⟩⟩⟩⟩⟩⟩⟩⟩⟩⟩⟩
theorem dFL_r3 : ∀ q ∈ dFL_3, dFld (dOwn q.1) q.2.1 q.2.2.1 q.2.2.2 := List.forall_mem_cons.mpr ⟨dFL_p48, List.forall_mem_cons.mpr ⟨dFL_p49, List.forall_mem_cons.mpr ⟨dFL_p50, List.forall_mem_cons.mpr ⟨dFL_p51, List.forall_mem_cons.mpr ⟨dFL_p52, List.forall_mem_cons.mpr ⟨dFL_p53, List.forall_mem_cons.mpr ⟨dFL_p54, List.forall_mem_cons.mpr ⟨dFL_p55, List.forall_mem_cons.mpr ⟨dFL_p56, List.forall_mem_cons.mpr ⟨dFL_p57, List.forall_mem_cons.mpr ⟨dFL_p58, List.forall_mem_cons.mpr ⟨dFL_p59, List.forall_mem_cons.mpr ⟨dFL_p60, List.forall_mem_cons.mpr ⟨dFL_p61, List.forall_mem_cons.mpr ⟨dFL_p62, List.forall_mem_cons.mpr ⟨dFL_p63, List.forall_mem_cons.mpr ⟨dFL_p64, List.forall_mem_cons.mpr ⟨dFL_p65, List.forall_mem_cons.mpr ⟨dFL_p66, List.forall_mem_cons.mpr ⟨dFL_p67, List.forall_mem_cons.mpr ⟨dFL_p68, List.forall_mem_cons.mpr ⟨dFL_p69, List.forall_mem_cons.mpr ⟨dFL_p70, List.forall_mem_cons.mpr ⟨dFL_p71, fun _ h => absurd h List.not_mem_nil⟩⟩⟩⟩⟩⟩⟩⟩⟩⟩⟩⟩⟩⟩⟩⟩⟩⟩⟩⟩⟩⟩⟩⟩
theorem dFL_r4 : ∀ q ∈ dFL_4, dFld (dOwn q.1) q.2.1 q.2.2.1 q.2.2.2 := List.forall_mem_cons.mpr ⟨dFL_p72, List.forall_mem_cons.mpr ⟨dFL_p73, List.forall_mem_cons.mpr ⟨dFL_p74, List.forall_mem_cons.mpr ⟨dFL_p75, List.forall_mem_cons.mpr ⟨dFL_p76, List.forall_mem_cons.mpr ⟨dFL_p77, List.forall_mem_cons.mpr ⟨dFL_p78, List.forall_mem_cons.mpr ⟨dFL_p79, List.forall_mem_cons.mpr ⟨dFL_p80, List.forall_mem_cons.mpr ⟨dFL_p81, List.forall_mem_cons.mpr ⟨dFL_p82, List.forall_mem_cons.mpr ⟨dFL_p83, List.forall_mem_cons.mpr ⟨dFL_p84, List.forall_mem_cons.mpr ⟨dFL_p85, List.forall_mem_cons.mpr ⟨dFL_p86, List.forall_mem_cons.mpr ⟨dFL_p87, List.forall_mem_cons.mpr ⟨dFL_p88, List.forall_mem_cons.mpr ⟨dFL_p89, List.forall_mem_cons.mpr ⟨dFL_p90, List.forall_mem_cons.mpr ⟨dFL_p91, List.forall_mem_cons.mpr ⟨dFL_p92, List.forall_mem_cons.mpr ⟨dFL_p93, List.forall_mem_cons.mpr ⟨dFL_p94, List.forall_mem_cons.mpr ⟨dFL_p95, fun _ h => absurd h List.not_mem_nil⟩⟩⟩⟩⟩⟩⟩⟩⟩⟩⟩⟩⟩⟩⟩⟩⟩⟩⟩⟩⟩⟩⟩⟩
theorem dFL_r5 : ∀ q ∈ dFL_5, dFld (dOwn q.1) q.2.1 q.2.2.1 q.2.2.2 := List.forall_mem_cons.mpr ⟨dFL_p96, List.forall_mem_cons.mpr ⟨dFL_p97, List.forall_mem_cons.mpr ⟨dFL_p98, List.forall_mem_cons.mpr ⟨dFL_p99, List.forall_mem_cons.mpr ⟨dFL_p100, List.forall_mem_cons.mpr ⟨dFL_p101, List.forall_mem_cons.mpr ⟨dFL_p102, List.forall_mem_cons.mpr ⟨dFL_p103, List.forall_mem_cons.mpr ⟨dFL_p104, List.forall_mem_cons.mpr ⟨dFL_p105, List.forall_mem_cons.mpr ⟨dFL_p106, List.forall_mem_cons.mpr ⟨dFL_p107, List.forall_mem_cons.mpr ⟨dFL_p108, List.forall_mem_cons.mpr ⟨dFL_p109, List.forall_mem_cons.mpr ⟨dFL_p110, List.forall_mem_cons.mpr ⟨dFL_p111, List.forall_mem_cons.mpr ⟨dFL_p112, List.forall_mem_cons.mpr ⟨dFL_p113, List.forall_mem_cons.mpr ⟨dFL_p114, List.forall_mem_cons.mpr ⟨dFL_p115, List.forall_mem_cons.mpr ⟨dFL_p116, List.forall_mem_cons.mpr ⟨dFL_p117, List.forall_mem_cons.mpr ⟨dFL_p118, List.forall_mem_cons.mpr ⟨dFL_p119, fun _ h => absurd h List.not_mem_nil⟩⟩⟩⟩⟩⟩⟩⟩⟩⟩⟩⟩⟩⟩⟩⟩⟩⟩⟩⟩⟩⟩⟩⟩
theorem dFL_r6 : ∀ q ∈ dFL_6, dFld (dOwn q.1) q.2.1 q.2.2.1 q.2.2.2 := List.forall_mem_cons.mpr ⟨dFL_p120, List.forall_mem_cons.mpr ⟨dFL_p121, List.forall_mem_cons.mpr ⟨dFL_p122, List.forall_mem_cons.mpr ⟨dFL_p123, List.forall_mem_cons.mpr ⟨dFL_p124, List.forall_mem_cons.mpr ⟨dFL_p125, List.forall_mem_cons.mpr ⟨dFL_p126, List.forall_mem_cons.mpr ⟨dFL_p127, List.forall_mem_cons.mpr ⟨dFL_p128, List.forall_mem_cons.mpr ⟨dFL_p129, List.forall_mem_cons.mpr ⟨dFL_p130, List.forall_mem_cons.mpr ⟨dFL_p131, List.forall_mem_cons.mpr ⟨dFL_p132, fun _ h => absurd h List.not_mem_nil⟩⟩⟩⟩⟩⟩⟩⟩⟩⟩⟩⟩⟩
theorem dFL_ok : ∀ q ∈ dFL, dFld (dOwn q.1) q.2.1 q.2.2.1 q.2.2.2 := by
  intro q hq
  simp only [dFL, List.mem_append] at hq
  rcases hq with ((((h | h) | h) | h) | h) | h
  · exact dFL_r1 q h
  · exact dFL_r2 q h
  · exact dFL_r3 q h
  · exact dFL_r4 q h
  · exact dFL_r5 q h
  · exact dFL_r6 q h
theorem dFN_p0 : dFldN (dOwn 8) 119 12 11 := ⟨_, "RetentionArchiveLaw", rfl, by decide +kernel, tI 849 (by decide +kernel)⟩
theorem dFN_p1 : dFldN (dOwn 8) 127 12 3 := ⟨_, "RetentionArchiveLaw", rfl, by decide +kernel, tI 833 (by decide +kernel)⟩
theorem dFN_p2 : dFldN (dOwn 8) 133 12 12 := ⟨_, "RetentionArchiveLaw", rfl, by decide +kernel, tI 851 (by decide +kernel)⟩
theorem dFN_p3 : dFldN (dOwn 8) 139 12 4 := ⟨_, "RetentionArchiveLaw", rfl, by decide +kernel, tI 835 (by decide +kernel)⟩
theorem dFN_p4 : dFldN (dOwn 8) 145 12 1 := ⟨_, "RetentionArchiveLaw", rfl, by decide +kernel, tI 829 (by decide +kernel)⟩
theorem dFN_p5 : dFldN (dOwn 8) 151 12 2 := ⟨_, "RetentionArchiveLaw", rfl, by decide +kernel, tI 831 (by decide +kernel)⟩
theorem dFN_p6 : dFldN (dOwn 8) 181 12 13 := ⟨_, "RetentionArchiveLaw", rfl, by decide +kernel, tI 852 (by decide +kernel)⟩
theorem dFN_p7 : dFldN (dOwn 8) 184 12 10 := ⟨_, "RetentionArchiveLaw", rfl, by decide +kernel, tI 847 (by decide +kernel)⟩
theorem dFN_p8 : dFldN (dOwn 8) 188 12 9 := ⟨_, "RetentionArchiveLaw", rfl, by decide +kernel, tI 845 (by decide +kernel)⟩
theorem dFN_p9 : dFldN (dOwn 8) 195 10 0 := ⟨_, "RetentionArchiveLaw", rfl, by decide +kernel, tI 719 (by decide +kernel)⟩
theorem dFN_p10 : dFldN (dOwn 8) 203 10 1 := ⟨_, "RetentionArchiveLaw", rfl, by decide +kernel, tI 722 (by decide +kernel)⟩
theorem dFN_p11 : dFldN (dOwn 8) 209 10 10 := ⟨_, "RetentionArchiveLaw", rfl, by decide +kernel, tI 746 (by decide +kernel)⟩
theorem dFN_p12 : dFldN (dOwn 8) 212 10 5 := ⟨_, "RetentionArchiveLaw", rfl, by decide +kernel, tI 733 (by decide +kernel)⟩
theorem dFN_p13 : dFldN (dOwn 8) 218 10 6 := ⟨_, "RetentionArchiveLaw", rfl, by decide +kernel, tI 736 (by decide +kernel)⟩
theorem dFN_p14 : dFldN (dOwn 8) 228 10 4 := ⟨_, "RetentionArchiveLaw", rfl, by decide +kernel, tI 730 (by decide +kernel)⟩
theorem dFN_p15 : dFldN (dOwn 8) 233 10 7 := ⟨_, "RetentionArchiveLaw", rfl, by decide +kernel, tI 738 (by decide +kernel)⟩
theorem dFN_p16 : dFldN (dOwn 8) 239 10 8 := ⟨_, "RetentionArchiveLaw", rfl, by decide +kernel, tI 740 (by decide +kernel)⟩
theorem dFN_p17 : dFldN (dOwn 8) 245 10 3 := ⟨_, "RetentionArchiveLaw", rfl, by decide +kernel, tI 727 (by decide +kernel)⟩
theorem dFN_p18 : dFldN (dOwn 8) 251 10 9 := ⟨_, "RetentionArchiveLaw", rfl, by decide +kernel, tI 743 (by decide +kernel)⟩
theorem dFN_p19 : dFldN (dOwn 8) 257 10 2 := ⟨_, "RetentionArchiveLaw", rfl, by decide +kernel, tI 725 (by decide +kernel)⟩
theorem dFN_p20 : dFldN (dOwn 8) 316 12 8 := ⟨_, "RetentionArchiveLaw", rfl, by decide +kernel, tI 843 (by decide +kernel)⟩
theorem dFN_p21 : dFldN (dOwn 8) 375 12 5 := ⟨_, "RetentionArchiveLaw", rfl, by decide +kernel, tI 837 (by decide +kernel)⟩
theorem dFN_p22 : dFldN (dOwn 8) 380 12 6 := ⟨_, "RetentionArchiveLaw", rfl, by decide +kernel, tI 839 (by decide +kernel)⟩
theorem dFN_p23 : dFldN (dOwn 8) 394 12 7 := ⟨_, "RetentionArchiveLaw", rfl, by decide +kernel, tI 841 (by decide +kernel)⟩
def dFN_1 : List (Nat × Nat × Nat × Nat) := [(8, 119, 12, 11), (8, 127, 12, 3), (8, 133, 12, 12), (8, 139, 12, 4), (8, 145, 12, 1), (8, 151, 12, 2), (8, 181, 12, 13), (8, 184, 12, 10), (8, 188, 12, 9), (8, 195, 10, 0), (8, 203, 10, 1), (8, 209, 10, 10), (8, 212, 10, 5), (8, 218, 10, 6), (8, 228, 10, 4), (8, 233, 10, 7), (8, 239, 10, 8), (8, 245, 10, 3), (8, 251, 10, 9), (8, 257, 10, 2), (8, 316, 12, 8), (8, 375, 12, 5), (8, 380, 12, 6), (8, 394, 12, 7)]
theorem dFN_p24 : dFldN (dOwn 8) 410 12 0 := ⟨_, "RetentionArchiveLaw", rfl, by decide +kernel, tI 827 (by decide +kernel)⟩
theorem dFN_p25 : dFldN (dOwn 11) 117 10 10 := ⟨_, "RetentionArchiveLaw", rfl, by decide +kernel, tI 745 (by decide +kernel)⟩
theorem dFN_p26 : dFldN (dOwn 11) 123 10 4 := ⟨_, "RetentionArchiveLaw", rfl, by decide +kernel, tI 729 (by decide +kernel)⟩
theorem dFN_p27 : dFldN (dOwn 11) 175 10 5 := ⟨_, "RetentionArchiveLaw", rfl, by decide +kernel, tI 732 (by decide +kernel)⟩
theorem dFN_p28 : dFldN (dOwn 11) 178 10 6 := ⟨_, "RetentionArchiveLaw", rfl, by decide +kernel, tI 735 (by decide +kernel)⟩
theorem dFN_p29 : dFldN (dOwn 11) 183 10 1 := ⟨_, "RetentionArchiveLaw", rfl, by decide +kernel, tI 723 (by decide +kernel)⟩
theorem dFN_p30 : dFldN (dOwn 11) 186 10 0 := ⟨_, "RetentionArchiveLaw", rfl, by decide +kernel, tI 720 (by decide +kernel)⟩
theorem dFN_p31 : dFldN (dOwn 11) 188 10 3 := ⟨_, "RetentionArchiveLaw", rfl, by decide +kernel, tI 728 (by decide +kernel)⟩
theorem dFN_p32 : dFldN (dOwn 11) 195 10 7 := ⟨_, "RetentionArchiveLaw", rfl, by decide +kernel, tI 739 (by decide +kernel)⟩
theorem dFN_p33 : dFldN (dOwn 11) 200 10 9 := ⟨_, "RetentionArchiveLaw", rfl, by decide +kernel, tI 744 (by decide +kernel)⟩
theorem dFN_p34 : dFldN (dOwn 11) 207 10 8 := ⟨_, "RetentionArchiveLaw", rfl, by decide +kernel, tI 741 (by decide +kernel)⟩
theorem dFN_p35 : dFldN (dOwn 11) 217 10 2 := ⟨_, "RetentionArchiveLaw", rfl, by decide +kernel, tI 726 (by decide +kernel)⟩
def dFN_2 : List (Nat × Nat × Nat × Nat) := [(8, 410, 12, 0), (11, 117, 10, 10), (11, 123, 10, 4), (11, 175, 10, 5), (11, 178, 10, 6), (11, 183, 10, 1), (11, 186, 10, 0), (11, 188, 10, 3), (11, 195, 10, 7), (11, 200, 10, 9), (11, 207, 10, 8), (11, 217, 10, 2)]
def dFN : List (Nat × Nat × Nat × Nat) := dFN_1 ++ dFN_2
theorem dFN_r1 : ∀ q ∈ dFN_1, dFldN (dOwn q.1) q.2.1 q.2.2.1 q.2.2.2 := List.forall_mem_cons.mpr ⟨dFN_p0, List.forall_mem_cons.mpr ⟨dFN_p1, List.forall_mem_cons.mpr ⟨dFN_p2, List.forall_mem_cons.mpr ⟨dFN_p3, List.forall_mem_cons.mpr ⟨dFN_p4, List.forall_mem_cons.mpr ⟨dFN_p5, List.forall_mem_cons.mpr ⟨dFN_p6, List.forall_mem_cons.mpr ⟨dFN_p7, List.forall_mem_cons.mpr ⟨dFN_p8, List.forall_mem_cons.mpr ⟨dFN_p9, List.forall_mem_cons.mpr ⟨dFN_p10, List.forall_mem_cons.mpr ⟨dFN_p11, List.forall_mem_cons.mpr ⟨dFN_p12, List.forall_mem_cons.mpr ⟨dFN_p13, List.forall_mem_cons.mpr ⟨dFN_p14, List.forall_mem_cons.mpr ⟨dFN_p15, List.forall_mem_cons.mpr ⟨dFN_p16, List.forall_mem_cons.mpr ⟨dFN_p17, List.forall_mem_cons.mpr ⟨dFN_p18, List.forall_mem_cons.mpr ⟨dFN_p19, List.forall_mem_cons.mpr ⟨dFN_p20, List.forall_mem_cons.mpr ⟨dFN_p21, List.forall_mem_cons.mpr ⟨dFN_p22, List.forall_mem_cons.mpr ⟨dFN_p23, fun _ h => absurd h List.not_mem_nil⟩⟩⟩⟩⟩⟩⟩⟩⟩⟩⟩⟩⟩⟩⟩⟩⟩⟩⟩⟩⟩⟩⟩⟩
theorem dFN_r2 : ∀ q ∈ dFN_2, dFldN (dOwn q.1) q.2.1 q.2.2.1 q.2.2.2 := List.forall_mem_cons.mpr ⟨dFN_p24, List.forall_mem_cons.mpr ⟨dFN_p25, List.forall_mem_cons.mpr ⟨dFN_p26, List.forall_mem_cons.mpr ⟨dFN_p27, List.forall_mem_cons.mpr ⟨dFN_p28, List.forall_mem_cons.mpr ⟨dFN_p29, List.forall_mem_cons.mpr ⟨dFN_p30, List.forall_mem_cons.mpr ⟨dFN_p31, List.forall_mem_cons.mpr ⟨dFN_p32, List.forall_mem_cons.mpr ⟨dFN_p33, List.forall_mem_cons.mpr ⟨dFN_p34, List.forall_mem_cons.mpr ⟨dFN_p35, fun _ h => absurd h List.not_mem_nil⟩⟩⟩⟩⟩⟩⟩⟩⟩⟩⟩⟩
theorem dFN_ok : ∀ q ∈ dFN, dFldN (dOwn q.1) q.2.1 q.2.2.1 q.2.2.2 := by
  intro q hq
  simp only [dFN, List.mem_append] at hq
  rcases hq with h | h
  · exact dFN_r1 q h
  · exact dFN_r2 q h
theorem cw0 : ∀ w ∈ u_ws "java/lang/String" dT0 4, w ∈ lw_tbl := by decide +kernel
theorem cg0 : ∀ w ∈ u_ws "java/lang/String" dT0 4, goodWord w = true := by decide +kernel
theorem cw1 : ∀ w ∈ u_ws "java/lang/StringBuilder" dT1 4, w ∈ lw_tbl := by decide +kernel
theorem cg1 : ∀ w ∈ u_ws "java/lang/StringBuilder" dT1 4, goodWord w = true := by decide +kernel
theorem cw2 : ∀ w ∈ u_ws "RetentionArchive$Archive" dT2 17, w ∈ lw_tbl := by decide +kernel
theorem cg2 : ∀ w ∈ u_ws "RetentionArchive$Archive" dT2 17, goodWord w = true := by decide +kernel
theorem cw3 : ∀ w ∈ u_ws "RetentionArchive$History" dT3 3, w ∈ lw_tbl := by decide +kernel
theorem cg3 : ∀ w ∈ u_ws "RetentionArchive$History" dT3 3, goodWord w = true := by decide +kernel
theorem cw4 : ∀ w ∈ u_ws "RetentionArchive$Input" dT4 7, w ∈ lw_tbl := by decide +kernel
theorem cg4 : ∀ w ∈ u_ws "RetentionArchive$Input" dT4 7, goodWord w = true := by decide +kernel
theorem cw5 : ∀ w ∈ u_ws "RetentionArchive$Parser" dT5 5, w ∈ lw_tbl := by decide +kernel
theorem cg5 : ∀ w ∈ u_ws "RetentionArchive$Parser" dT5 5, goodWord w = true := by decide +kernel
theorem cw6 : ∀ w ∈ u_ws "RetentionArchive$Readers" dT6 3, w ∈ lw_tbl := by decide +kernel
theorem cg6 : ∀ w ∈ u_ws "RetentionArchive$Readers" dT6 3, goodWord w = true := by decide +kernel
theorem cw7 : ∀ w ∈ u_ws "RetentionArchive$RecordClasses" dT7 5, w ∈ lw_tbl := by decide +kernel
theorem cg7 : ∀ w ∈ u_ws "RetentionArchive$RecordClasses" dT7 5, goodWord w = true := by decide +kernel
theorem cw8 : ∀ w ∈ u_ws "RetentionArchive$Slots" dT8 2, w ∈ lw_tbl := by decide +kernel
theorem cg8 : ∀ w ∈ u_ws "RetentionArchive$Slots" dT8 2, goodWord w = true := by decide +kernel
theorem cw9 : ∀ w ∈ u_ws "RetentionArchive" dT9 7, w ∈ lw_tbl := by decide +kernel
theorem cg9 : ∀ w ∈ u_ws "RetentionArchive" dT9 7, goodWord w = true := by decide +kernel
theorem cw10 : ∀ w ∈ u_ws "RetentionArchiveLaw$Box" dT10 11, w ∈ lw_tbl := by decide +kernel
theorem cg10 : ∀ w ∈ u_ws "RetentionArchiveLaw$Box" dT10 11, goodWord w = true := by decide +kernel
theorem cw11 : ∀ w ∈ u_ws "RetentionArchiveLaw$Draws" dT11 2, w ∈ lw_tbl := by decide +kernel
theorem cg11 : ∀ w ∈ u_ws "RetentionArchiveLaw$Draws" dT11 2, goodWord w = true := by decide +kernel
theorem cw12 : ∀ w ∈ u_ws "RetentionArchiveLaw$World" dT12 14, w ∈ lw_tbl := by decide +kernel
theorem cg12 : ∀ w ∈ u_ws "RetentionArchiveLaw$World" dT12 14, goodWord w = true := by decide +kernel
theorem dCl_ok : dClOk := by
  intro ci r h
  match ci, h with
  | 0, h => cases h; exact ⟨fun w hw => dTb_of (cw0 w hw) (cg0 w hw), by decide +kernel, by decide +kernel⟩
  | 1, h => cases h; exact ⟨fun w hw => dTb_of (cw1 w hw) (cg1 w hw), by decide +kernel, by decide +kernel⟩
  | 2, h => cases h; exact ⟨fun w hw => dTb_of (cw2 w hw) (cg2 w hw), by decide +kernel, by decide +kernel⟩
  | 3, h => cases h; exact ⟨fun w hw => dTb_of (cw3 w hw) (cg3 w hw), by decide +kernel, by decide +kernel⟩
  | 4, h => cases h; exact ⟨fun w hw => dTb_of (cw4 w hw) (cg4 w hw), by decide +kernel, by decide +kernel⟩
  | 5, h => cases h; exact ⟨fun w hw => dTb_of (cw5 w hw) (cg5 w hw), by decide +kernel, by decide +kernel⟩
  | 6, h => cases h; exact ⟨fun w hw => dTb_of (cw6 w hw) (cg6 w hw), by decide +kernel, by decide +kernel⟩
  | 7, h => cases h; exact ⟨fun w hw => dTb_of (cw7 w hw) (cg7 w hw), by decide +kernel, by decide +kernel⟩
  | 8, h => cases h; exact ⟨fun w hw => dTb_of (cw8 w hw) (cg8 w hw), by decide +kernel, by decide +kernel⟩
  | 9, h => cases h; exact ⟨fun w hw => dTb_of (cw9 w hw) (cg9 w hw), by decide +kernel, by decide +kernel⟩
  | 10, h => cases h; exact ⟨fun w hw => dTb_of (cw10 w hw) (cg10 w hw), by decide +kernel, by decide +kernel⟩
  | 11, h => cases h; exact ⟨fun w hw => dTb_of (cw11 w hw) (cg11 w hw), by decide +kernel, by decide +kernel⟩
  | 12, h => cases h; exact ⟨fun w hw => dTb_of (cw12 w hw) (cg12 w hw), by decide +kernel, by decide +kernel⟩
  | n + 13, h => simp [dCl] at h
end
