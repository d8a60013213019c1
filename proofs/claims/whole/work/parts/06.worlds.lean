/-! THE TWO WORLDS, as their constructors lay them -/
def TC : List c_T := [(0, 11, [22, 4, 0, 5, 0, 58, 81, 104, 0, 6, 7, 8, 9, 10, 0, 11, 13, 14, 15]), (3, 100, []), (6, 6, [30, 34, 38, 42, 46, 50]), (1, 8, []), (1, 12, []), (1, 432, []), (1, 6, []), (1, 6, []), (0, 0, [0, 0, 0, 12]), (1, 20, []), (1, 6, []), (1, 6, []), (7, 6, [16, 17, 18, 19, 20, 21]), (2, 60, []), (2, 60, []), (2, 60, []), (2, 60, []), (2, 60, []), (2, 60, []), (5, 7, [23, 24, 25, 26, 27, 28, 29]), (0, 2, []), (0, 1, []), (0, 9, []), (0, 6, []), (0, 3, []), (0, 4, []), (0, 8, []), (0, 10, [127, 0, 0, 31, 32, 33, 0, 0]), (1, 100, []), (1, 100, []), (1, 100, []), (0, 10, [128, 0, 0, 35, 36, 37, 0, 0]), (1, 100, []), (1, 100, []), (1, 100, []), (0, 10, [129, 0, 0, 39, 40, 41, 0, 0]), (1, 100, []), (1, 100, []), (1, 100, []), (0, 10, [130, 0, 0, 43, 44, 45, 0, 0]), (1, 100, []), (1, 100, []), (1, 100, []), (0, 10, [131, 0, 0, 47, 48, 49, 0, 0]), (1, 100, []), (1, 100, []), (1, 100, []), (0, 10, [132, 0, 0, 51, 52, 53, 0, 0]), (1, 100, []), (1, 100, []), (1, 100, []), (0, 10, [133, 0, 0, 55, 56, 57, 0, 0]), (1, 100, []), (1, 100, []), (1, 100, []), (0, 7, [59, 60, 61, 62, 0, 0, 0, 63, 64, 65, 66, 67, 68, 69, 73, 77, 1]), (1, 6, []), (1, 6, []), (1, 6, []), (1, 6, []), (1, 6, []), (1, 6, []), (1, 6, []), (1, 6, []), (1, 6, []), (1, 24, []), (0, 5, [70, 71, 72, 0]), (1, 5, []), (1, 5, []), (1, 5, []), (0, 5, [74, 75, 76, 0]), (1, 10, []), (1, 10, []), (1, 10, []), (0, 5, [78, 79, 80, 0]), (1, 8, []), (1, 8, []), (1, 8, []), (0, 7, [82, 83, 84, 85, 0, 0, 0, 86, 87, 88, 89, 90, 91, 92, 96, 100, 1]), (1, 6, []), (1, 6, []), (1, 6, []), (1, 6, []), (1, 6, []), (1, 6, []), (1, 6, []), (1, 6, []), (1, 6, []), (1, 24, []), (0, 5, [93, 94, 95, 0]), (1, 5, []), (1, 5, []), (1, 5, []), (0, 5, [97, 98, 99, 0]), (1, 10, []), (1, 10, []), (1, 10, []), (0, 5, [101, 102, 103, 0]), (1, 8, []), (1, 8, []), (1, 8, []), (0, 7, [105, 106, 107, 108, 0, 0, 0, 109, 110, 111, 112, 113, 114, 115, 119, 123, 1]), (1, 6, []), (1, 6, []), (1, 6, []), (1, 6, []), (1, 6, []), (1, 6, []), (1, 6, []), (1, 6, []), (1, 6, []), (1, 24, []), (0, 5, [116, 117, 118, 0]), (1, 5, []), (1, 5, []), (1, 5, []), (0, 5, [120, 121, 122, 0]), (1, 10, []), (1, 10, []), (1, 10, []), (0, 5, [124, 125, 126, 0]), (1, 8, []), (1, 8, []), (1, 8, []), (3, 100, []), (3, 100, []), (3, 100, []), (3, 100, []), (3, 100, []), (3, 100, []), (3, 100, [])]
def TM : List c_T := [(0, 12, [4, 5, 6, 0, 7, 0, 8, 9, 0, 10, 0, 0, 0, 0, 0, 0, 11, 12, 13, 14, 15, 16, 17, 0, 18, 19, 20, 0, 21, 22, 23, 24]), (1, 136, []), (1, 272, []), (1, 136, []), (1, 100, []), (1, 600, []), (1, 6, []), (1, 100, []), (1, 6, []), (4, 6, []), (4, 3, []), (4, 15, []), (1, 72, []), (1, 6, []), (1, 6, []), (1, 7, []), (1, 21, []), (1, 20, []), (1, 6, []), (1, 6, []), (2, 360, []), (2, 60, [])]
theorem tC0 : TC[0]? = some (0, 11, [22, 4, 0, 5, 0, 58, 81, 104, 0, 6, 7, 8, 9, 10, 0, 11, 13, 14, 15]) := rfl
theorem tC1 : TC[1]? = some (3, 100, []) := rfl
theorem tC2 : TC[2]? = some (6, 6, [30, 34, 38, 42, 46, 50]) := rfl
theorem tC3 : TC[3]? = some (1, 8, []) := rfl
theorem tC4 : TC[4]? = some (1, 12, []) := rfl
theorem tC5 : TC[5]? = some (1, 432, []) := rfl
theorem tC6 : TC[6]? = some (1, 6, []) := rfl
theorem tC7 : TC[7]? = some (1, 6, []) := rfl
theorem tC8 : TC[8]? = some (0, 0, [0, 0, 0, 12]) := rfl
theorem tC9 : TC[9]? = some (1, 20, []) := rfl
theorem tC10 : TC[10]? = some (1, 6, []) := rfl
theorem tC11 : TC[11]? = some (1, 6, []) := rfl
theorem tC12 : TC[12]? = some (7, 6, [16, 17, 18, 19, 20, 21]) := rfl
theorem tC13 : TC[13]? = some (2, 60, []) := rfl
theorem tC14 : TC[14]? = some (2, 60, []) := rfl
theorem tC15 : TC[15]? = some (2, 60, []) := rfl
theorem tC16 : TC[16]? = some (2, 60, []) := rfl
theorem tC17 : TC[17]? = some (2, 60, []) := rfl
theorem tC18 : TC[18]? = some (2, 60, []) := rfl
theorem tC19 : TC[19]? = some (5, 7, [23, 24, 25, 26, 27, 28, 29]) := rfl
theorem tC20 : TC[20]? = some (0, 2, []) := rfl
theorem tC21 : TC[21]? = some (0, 1, []) := rfl
theorem tC22 : TC[22]? = some (0, 9, []) := rfl
theorem tC23 : TC[23]? = some (0, 6, []) := rfl
theorem tC24 : TC[24]? = some (0, 3, []) := rfl
theorem tC25 : TC[25]? = some (0, 4, []) := rfl
theorem tC26 : TC[26]? = some (0, 8, []) := rfl
theorem tC27 : TC[27]? = some (0, 10, [127, 0, 0, 31, 32, 33, 0, 0]) := rfl
theorem tC28 : TC[28]? = some (1, 100, []) := rfl
theorem tC29 : TC[29]? = some (1, 100, []) := rfl
theorem tC30 : TC[30]? = some (1, 100, []) := rfl
theorem tC31 : TC[31]? = some (0, 10, [128, 0, 0, 35, 36, 37, 0, 0]) := rfl
theorem tC32 : TC[32]? = some (1, 100, []) := rfl
theorem tC33 : TC[33]? = some (1, 100, []) := rfl
theorem tC34 : TC[34]? = some (1, 100, []) := rfl
theorem tC35 : TC[35]? = some (0, 10, [129, 0, 0, 39, 40, 41, 0, 0]) := rfl
theorem tC36 : TC[36]? = some (1, 100, []) := rfl
theorem tC37 : TC[37]? = some (1, 100, []) := rfl
theorem tC38 : TC[38]? = some (1, 100, []) := rfl
theorem tC39 : TC[39]? = some (0, 10, [130, 0, 0, 43, 44, 45, 0, 0]) := rfl
theorem tC40 : TC[40]? = some (1, 100, []) := rfl
theorem tC41 : TC[41]? = some (1, 100, []) := rfl
theorem tC42 : TC[42]? = some (1, 100, []) := rfl
theorem tC43 : TC[43]? = some (0, 10, [131, 0, 0, 47, 48, 49, 0, 0]) := rfl
theorem tC44 : TC[44]? = some (1, 100, []) := rfl
theorem tC45 : TC[45]? = some (1, 100, []) := rfl
theorem tC46 : TC[46]? = some (1, 100, []) := rfl
theorem tC47 : TC[47]? = some (0, 10, [132, 0, 0, 51, 52, 53, 0, 0]) := rfl
theorem tC48 : TC[48]? = some (1, 100, []) := rfl
theorem tC49 : TC[49]? = some (1, 100, []) := rfl
theorem tC50 : TC[50]? = some (1, 100, []) := rfl
theorem tC51 : TC[51]? = some (0, 10, [133, 0, 0, 55, 56, 57, 0, 0]) := rfl
theorem tC52 : TC[52]? = some (1, 100, []) := rfl
theorem tC53 : TC[53]? = some (1, 100, []) := rfl
theorem tC54 : TC[54]? = some (1, 100, []) := rfl
theorem tC55 : TC[55]? = some (0, 7, [59, 60, 61, 62, 0, 0, 0, 63, 64, 65, 66, 67, 68, 69, 73, 77, 1]) := rfl
theorem tC56 : TC[56]? = some (1, 6, []) := rfl
theorem tC57 : TC[57]? = some (1, 6, []) := rfl
theorem tC58 : TC[58]? = some (1, 6, []) := rfl
theorem tC59 : TC[59]? = some (1, 6, []) := rfl
theorem tC60 : TC[60]? = some (1, 6, []) := rfl
theorem tC61 : TC[61]? = some (1, 6, []) := rfl
theorem tC62 : TC[62]? = some (1, 6, []) := rfl
theorem tC63 : TC[63]? = some (1, 6, []) := rfl
theorem tC64 : TC[64]? = some (1, 6, []) := rfl
theorem tC65 : TC[65]? = some (1, 24, []) := rfl
theorem tC66 : TC[66]? = some (0, 5, [70, 71, 72, 0]) := rfl
theorem tC67 : TC[67]? = some (1, 5, []) := rfl
theorem tC68 : TC[68]? = some (1, 5, []) := rfl
theorem tC69 : TC[69]? = some (1, 5, []) := rfl
theorem tC70 : TC[70]? = some (0, 5, [74, 75, 76, 0]) := rfl
theorem tC71 : TC[71]? = some (1, 10, []) := rfl
theorem tC72 : TC[72]? = some (1, 10, []) := rfl
theorem tC73 : TC[73]? = some (1, 10, []) := rfl
theorem tC74 : TC[74]? = some (0, 5, [78, 79, 80, 0]) := rfl
theorem tC75 : TC[75]? = some (1, 8, []) := rfl
theorem tC76 : TC[76]? = some (1, 8, []) := rfl
theorem tC77 : TC[77]? = some (1, 8, []) := rfl
theorem tC78 : TC[78]? = some (0, 7, [82, 83, 84, 85, 0, 0, 0, 86, 87, 88, 89, 90, 91, 92, 96, 100, 1]) := rfl
theorem tC79 : TC[79]? = some (1, 6, []) := rfl
theorem tC80 : TC[80]? = some (1, 6, []) := rfl
theorem tC81 : TC[81]? = some (1, 6, []) := rfl
theorem tC82 : TC[82]? = some (1, 6, []) := rfl
theorem tC83 : TC[83]? = some (1, 6, []) := rfl
theorem tC84 : TC[84]? = some (1, 6, []) := rfl
theorem tC85 : TC[85]? = some (1, 6, []) := rfl
theorem tC86 : TC[86]? = some (1, 6, []) := rfl
theorem tC87 : TC[87]? = some (1, 6, []) := rfl
theorem tC88 : TC[88]? = some (1, 24, []) := rfl
theorem tC89 : TC[89]? = some (0, 5, [93, 94, 95, 0]) := rfl
theorem tC90 : TC[90]? = some (1, 5, []) := rfl
theorem tC91 : TC[91]? = some (1, 5, []) := rfl
theorem tC92 : TC[92]? = some (1, 5, []) := rfl
theorem tC93 : TC[93]? = some (0, 5, [97, 98, 99, 0]) := rfl
theorem tC94 : TC[94]? = some (1, 10, []) := rfl
theorem tC95 : TC[95]? = some (1, 10, []) := rfl
theorem tC96 : TC[96]? = some (1, 10, []) := rfl
theorem tC97 : TC[97]? = some (0, 5, [101, 102, 103, 0]) := rfl
theorem tC98 : TC[98]? = some (1, 8, []) := rfl
theorem tC99 : TC[99]? = some (1, 8, []) := rfl
theorem tC100 : TC[100]? = some (1, 8, []) := rfl
theorem tC101 : TC[101]? = some (0, 7, [105, 106, 107, 108, 0, 0, 0, 109, 110, 111, 112, 113, 114, 115, 119, 123, 1]) := rfl
theorem tC102 : TC[102]? = some (1, 6, []) := rfl
theorem tC103 : TC[103]? = some (1, 6, []) := rfl
theorem tC104 : TC[104]? = some (1, 6, []) := rfl
theorem tC105 : TC[105]? = some (1, 6, []) := rfl
theorem tC106 : TC[106]? = some (1, 6, []) := rfl
theorem tC107 : TC[107]? = some (1, 6, []) := rfl
theorem tC108 : TC[108]? = some (1, 6, []) := rfl
theorem tC109 : TC[109]? = some (1, 6, []) := rfl
theorem tC110 : TC[110]? = some (1, 6, []) := rfl
theorem tC111 : TC[111]? = some (1, 24, []) := rfl
theorem tC112 : TC[112]? = some (0, 5, [116, 117, 118, 0]) := rfl
theorem tC113 : TC[113]? = some (1, 5, []) := rfl
theorem tC114 : TC[114]? = some (1, 5, []) := rfl
theorem tC115 : TC[115]? = some (1, 5, []) := rfl
theorem tC116 : TC[116]? = some (0, 5, [120, 121, 122, 0]) := rfl
theorem tC117 : TC[117]? = some (1, 10, []) := rfl
theorem tC118 : TC[118]? = some (1, 10, []) := rfl
theorem tC119 : TC[119]? = some (1, 10, []) := rfl
theorem tC120 : TC[120]? = some (0, 5, [124, 125, 126, 0]) := rfl
theorem tC121 : TC[121]? = some (1, 8, []) := rfl
theorem tC122 : TC[122]? = some (1, 8, []) := rfl
theorem tC123 : TC[123]? = some (1, 8, []) := rfl
theorem tC124 : TC[124]? = some (3, 100, []) := rfl
theorem tC125 : TC[125]? = some (3, 100, []) := rfl
theorem tC126 : TC[126]? = some (3, 100, []) := rfl
theorem tC127 : TC[127]? = some (3, 100, []) := rfl
theorem tC128 : TC[128]? = some (3, 100, []) := rfl
theorem tC129 : TC[129]? = some (3, 100, []) := rfl
theorem tC130 : TC[130]? = some (3, 100, []) := rfl
theorem tM0 : TM[0]? = some (0, 12, [4, 5, 6, 0, 7, 0, 8, 9, 0, 10, 0, 0, 0, 0, 0, 0, 11, 12, 13, 14, 15, 16, 17, 0, 18, 19, 20, 0, 21, 22, 23, 24]) := rfl
theorem tM1 : TM[1]? = some (1, 136, []) := rfl
theorem tM2 : TM[2]? = some (1, 272, []) := rfl
theorem tM3 : TM[3]? = some (1, 136, []) := rfl
theorem tM4 : TM[4]? = some (1, 100, []) := rfl
theorem tM5 : TM[5]? = some (1, 600, []) := rfl
theorem tM6 : TM[6]? = some (1, 6, []) := rfl
theorem tM7 : TM[7]? = some (1, 100, []) := rfl
theorem tM8 : TM[8]? = some (1, 6, []) := rfl
theorem tM9 : TM[9]? = some (4, 6, []) := rfl
theorem tM10 : TM[10]? = some (4, 3, []) := rfl
theorem tM11 : TM[11]? = some (4, 15, []) := rfl
theorem tM12 : TM[12]? = some (1, 72, []) := rfl
theorem tM13 : TM[13]? = some (1, 6, []) := rfl
theorem tM14 : TM[14]? = some (1, 6, []) := rfl
theorem tM15 : TM[15]? = some (1, 7, []) := rfl
theorem tM16 : TM[16]? = some (1, 21, []) := rfl
theorem tM17 : TM[17]? = some (1, 20, []) := rfl
theorem tM18 : TM[18]? = some (1, 6, []) := rfl
theorem tM19 : TM[19]? = some (1, 6, []) := rfl
theorem tM20 : TM[20]? = some (2, 360, []) := rfl
theorem tM21 : TM[21]? = some (2, 60, []) := rfl
def c_flS (s : Nat) : List Nat := [s + 4, s + 5, s + 6, s + 7, 0, 0, 0, s + 8, s + 9, s + 10, s + 11, s + 12, s + 13, s + 14, s + 18, s + 22, 1]
def c_vt (v : Nat) : Nat := 124 + (v - 27) / 4
def c_flV (v : Nat) : List Nat := [c_vt v + 3, 0, 0, v + 4, v + 5, v + 6, 0, 0]
def c_flR (r : Nat) : List Nat := [r + 4, r + 5, r + 6, 0]
def c_isS (s : Nat) : Bool := s == 55 || s == 78 || s == 101
def c_isV (v : Nat) : Bool := v == 27 || v == 31 || v == 35 || v == 39 || v == 43 || v == 47 || v == 51
def c_rl (r : Nat) : Nat := if r = 66 ∨ r = 89 ∨ r = 112 then 5 else if r = 70 ∨ r = 93 ∨ r = 116 then 10 else 8
def c_isR (r : Nat) : Bool := r == 66 || r == 70 || r == 74 || r == 89 || r == 93 || r == 97 || r == 112 || r == 116 || r == 120
theorem c_isSE {s : Nat} (h : c_isS s = true) : TC[s]? = some (0, 7, c_flS s) ∧ TC[s + 1]? = some (1, 6, []) ∧ TC[s + 2]? = some (1, 6, []) ∧ TC[s + 3]? = some (1, 6, []) ∧ TC[s + 4]? = some (1, 6, []) ∧ TC[s + 5]? = some (1, 6, []) ∧ TC[s + 6]? = some (1, 6, []) ∧ TC[s + 7]? = some (1, 6, []) ∧ TC[s + 8]? = some (1, 6, []) ∧ TC[s + 9]? = some (1, 6, []) ∧ TC[s + 10]? = some (1, 24, []) ∧ TC[s + 11]? = some (0, 5, c_flR (s + 11)) ∧ TC[s + 15]? = some (0, 5, c_flR (s + 15)) ∧ TC[s + 19]? = some (0, 5, c_flR (s + 19)) := by
  simp only [c_isS, Bool.or_eq_true, beq_iff_eq] at h
  rcases h with (rfl | rfl) | rfl <;> exact ⟨rfl, rfl, rfl, rfl, rfl, rfl, rfl, rfl, rfl, rfl, rfl, rfl, rfl, rfl⟩
theorem c_isVE {v : Nat} (h : c_isV v = true) : TC[v]? = some (0, 10, c_flV v) ∧ TC[v + 1]? = some (1, 100, []) ∧ TC[v + 2]? = some (1, 100, []) ∧ TC[v + 3]? = some (1, 100, []) ∧ TC[c_vt v]? = some (3, 100, []) := by
  simp only [c_isV, Bool.or_eq_true, beq_iff_eq] at h
  rcases h with (((((rfl | rfl) | rfl) | rfl) | rfl) | rfl) | rfl <;> exact ⟨rfl, rfl, rfl, rfl, rfl⟩
theorem c_isRE {r : Nat} (h : c_isR r = true) : TC[r]? = some (0, 5, c_flR r) ∧ TC[r + 1]? = some (1, c_rl r, []) ∧ TC[r + 2]? = some (1, c_rl r, []) ∧ TC[r + 3]? = some (1, c_rl r, []) := by
  simp only [c_isR, Bool.or_eq_true, beq_iff_eq] at h
  rcases h with (((((((rfl | rfl) | rfl) | rfl) | rfl) | rfl) | rfl) | rfl) | rfl <;> exact ⟨rfl, rfl, rfl, rfl⟩
theorem c_kA {n : Nat} (h : n < 7) : [23, 24, 25, 26, 27, 28, 29][n]? = some (20 + n + 3) := by
  rcases (show n = 0 ∨ n = 1 ∨ n = 2 ∨ n = 3 ∨ n = 4 ∨ n = 5 ∨ n = 6 by omega) with rfl | rfl | rfl | rfl | rfl | rfl | rfl <;> rfl
theorem c_vA {n : Nat} (h : n < 6) : [30, 34, 38, 42, 46, 50][n]? = some (27 + 4 * n + 3) := by
  rcases (show n = 0 ∨ n = 1 ∨ n = 2 ∨ n = 3 ∨ n = 4 ∨ n = 5 by omega) with rfl | rfl | rfl | rfl | rfl | rfl <;> rfl
theorem c_tA {n : Nat} (h : n < 6) : [16, 17, 18, 19, 20, 21][n]? = some (13 + n + 3) := by
  rcases (show n = 0 ∨ n = 1 ∨ n = 2 ∨ n = 3 ∨ n = 4 ∨ n = 5 by omega) with rfl | rfl | rfl | rfl | rfl | rfl <;> rfl
theorem c_tB {n : Nat} (h : n < 6) : TC[13 + n]? = some (2, 60, []) := by
  rcases (show n = 0 ∨ n = 1 ∨ n = 2 ∨ n = 3 ∨ n = 4 ∨ n = 5 by omega) with rfl | rfl | rfl | rfl | rfl | rfl <;> rfl
theorem c_vB {n : Nat} (h : n < 6) : c_isV (27 + 4 * n) = true := by
  rcases (show n = 0 ∨ n = 1 ∨ n = 2 ∨ n = 3 ∨ n = 4 ∨ n = 5 by omega) with rfl | rfl | rfl | rfl | rfl | rfl <;> rfl
theorem c_holS {s : Nat} : ∀ i : Nat, (c_flS s)[i]? = some 1 → i = 16 := by
  intro i h
  by_cases q : i < 17
  · rcases (show i = 0 ∨ i = 1 ∨ i = 2 ∨ i = 3 ∨ i = 4 ∨ i = 5 ∨ i = 6 ∨ i = 7 ∨ i = 8 ∨ i = 9 ∨ i = 10 ∨ i = 11 ∨ i = 12 ∨ i = 13 ∨ i = 14 ∨ i = 15 ∨ i = 16 by omega) with rfl | rfl | rfl | rfl | rfl | rfl | rfl | rfl | rfl | rfl | rfl | rfl | rfl | rfl | rfl | rfl | rfl <;> first | rfl | (have h1 := Option.some.inj h; omega)
  · rw [List.getElem?_eq_none (by show 17 ≤ i; omega)] at h
    cases h
def c_F : Nat := 5000
