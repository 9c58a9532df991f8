/-- the empty heap -/
def hE : AH := (1, 0, fun _ => 99, fun _ => 0, fun _ _ => 0, fun _ _ => 0, fun _ _ => 0)
def hA : AH := ((X11_init_f 1 (pN hE 11 18)).getD ((), hE)).2
def hB0 : AH := ((X15_init_f 195 (pN hA 15 51)).getD ((), hE)).2
def h0 : AH := pN hB0 17 1
theorem opt_get {o : Option (Unit × AH)} (h : o.isSome = true) (d : Unit × AH) : o = some ((), (o.getD d).2) := by
  cases o with
  | none => cases h
  | some q => rfl
def tC : List Nat := [99, 11, 0, 16, 16, 16, 20, 20, 16, 16, 1, 16, 19, 1, 16, 19, 1, 16, 19, 1, 16, 19, 1, 16, 19, 1, 16, 19, 1, 16, 19, 1, 16, 19, 1, 16, 19, 1, 16, 19, 1, 16, 19, 1, 16, 19, 1, 16, 19, 1, 16, 19, 1, 16, 19, 1, 16, 19, 6, 18, 17, 16, 10, 0, 16, 16, 16, 20, 20, 16, 16, 1, 16, 19, 1, 16, 19, 1, 16, 19, 1, 16, 19, 1, 16, 19, 1, 16, 19, 1, 16, 19, 1, 16, 19, 1, 16, 19, 1, 16, 19, 1, 16, 19, 1, 16, 19, 1, 16, 19, 1, 16, 19, 1, 16, 19, 1, 16, 19, 10, 4, 16, 4, 16, 4, 16, 4, 16, 21, 4, 16, 4, 16, 4, 16, 4, 16, 4, 16, 4, 16, 4, 16, 4, 16, 9, 5, 16, 16, 16, 16, 3, 17, 17, 17, 3, 17, 17, 17, 22, 4, 16, 4, 16, 4, 16, 4, 16, 8, 16, 16, 16, 16, 16, 2, 17, 17, 17, 17, 17, 7, 17, 8, 16, 16, 16, 16, 16, 8, 16, 16, 16, 16, 16, 16, 15, 14, 18, 16, 16, 16, 16, 13, 19, 19, 16, 13, 19, 19, 16, 16, 16, 16, 16, 19, 16, 16, 16, 16, 16, 16, 16, 16, 16, 16, 16, 17]
def tZ : List Nat := [0, 18, 16, 10, 10, 10, 10, 6, 3, 3, 9, 3, 3, 9, 3, 3, 9, 3, 3, 9, 3, 3, 9, 3, 3, 9, 3, 3, 9, 3, 3, 9, 3, 3, 9, 3, 3, 9, 3, 3, 9, 3, 3, 9, 3, 3, 9, 3, 3, 9, 3, 3, 9, 3, 3, 9, 3, 3, 11, 700, 14, 14, 6, 16, 10, 10, 10, 10, 6, 3, 3, 9, 3, 3, 9, 3, 3, 9, 3, 3, 9, 3, 3, 9, 3, 3, 9, 3, 3, 9, 3, 3, 9, 3, 3, 9, 3, 3, 9, 3, 3, 9, 3, 3, 9, 3, 3, 9, 3, 3, 9, 3, 3, 9, 3, 3, 9, 3, 3, 6, 2, 6, 2, 0, 2, 6, 2, 6, 8, 2, 6, 2, 6, 2, 6, 2, 6, 2, 6, 2, 6, 2, 6, 2, 6, 13, 8, 4, 120, 3, 4, 3, 42, 42, 28, 3, 42, 42, 28, 101, 2, 3, 2, 3, 2, 3, 2, 0, 7, 28, 4, 6, 42, 24, 10, 280, 280, 40, 6, 42, 5, 280, 7, 28, 4, 6, 42, 24, 7, 28, 4, 6, 42, 24, 280, 51, 8, 700, 4, 6, 8, 48, 3, 42, 42, 7, 3, 42, 42, 7, 2912, 728, 4368, 4368, 4368, 54, 28, 120, 3, 3, 3, 3, 6, 280, 6, 6, 1]
def tR : List (Nat × Nat × Nat) := [(1, 0, 58), (1, 1, 62), (1, 2, 119), (1, 3, 120), (1, 4, 122), (1, 5, 124), (1, 6, 126), (1, 7, 128), (1, 8, 145), (1, 9, 182), (1, 10, 188), (1, 11, 194), (2, 7, 3), (2, 8, 4), (2, 9, 5), (2, 10, 6), (2, 11, 7), (2, 12, 8), (2, 13, 9), (6, 0, 10), (6, 1, 13), (6, 2, 16), (6, 3, 19), (6, 4, 22), (6, 5, 25), (6, 6, 28), (6, 7, 31), (6, 8, 34), (6, 9, 37), (7, 0, 40), (7, 1, 43), (7, 2, 46), (7, 3, 49), (7, 4, 52), (7, 5, 55), (10, 0, 11), (10, 1, 12), (13, 0, 14), (13, 1, 15), (16, 0, 17), (16, 1, 18), (19, 0, 20), (19, 1, 21), (22, 0, 23), (22, 1, 24), (25, 0, 26), (25, 1, 27), (28, 0, 29), (28, 1, 30), (31, 0, 32), (31, 1, 33), (34, 0, 35), (34, 1, 36), (37, 0, 38), (37, 1, 39), (40, 0, 41), (40, 1, 42), (43, 0, 44), (43, 1, 45), (46, 0, 47), (46, 1, 48), (49, 0, 50), (49, 1, 51), (52, 0, 53), (52, 1, 54), (55, 0, 56), (55, 1, 57), (58, 0, 59), (58, 1, 60), (58, 2, 61), (63, 7, 64), (63, 8, 65), (63, 9, 66), (63, 10, 67), (63, 11, 68), (63, 12, 69), (63, 13, 70), (67, 0, 71), (67, 1, 74), (67, 2, 77), (67, 3, 80), (67, 4, 83), (67, 5, 86), (67, 6, 89), (67, 7, 92), (67, 8, 95), (67, 9, 98), (68, 0, 101), (68, 1, 104), (68, 2, 107), (68, 3, 110), (68, 4, 113), (68, 5, 116), (71, 0, 72), (71, 1, 73), (74, 0, 75), (74, 1, 76), (77, 0, 78), (77, 1, 79), (80, 0, 81), (80, 1, 82), (83, 0, 84), (83, 1, 85), (86, 0, 87), (86, 1, 88), (89, 0, 90), (89, 1, 91), (92, 0, 93), (92, 1, 94), (95, 0, 96), (95, 1, 97), (98, 0, 99), (98, 1, 100), (101, 0, 102), (101, 1, 103), (104, 0, 105), (104, 1, 106), (107, 0, 108), (107, 1, 109), (110, 0, 111), (110, 1, 112), (113, 0, 114), (113, 1, 115), (116, 0, 117), (116, 1, 118), (120, 0, 121), (122, 0, 123), (124, 0, 125), (126, 0, 127), (128, 0, 129), (128, 1, 131), (128, 2, 133), (128, 3, 135), (128, 4, 137), (128, 5, 139), (128, 6, 141), (128, 7, 143), (129, 0, 130), (131, 0, 132), (133, 0, 134), (135, 0, 136), (137, 0, 138), (139, 0, 140), (141, 0, 142), (143, 0, 144), (145, 0, 146), (145, 1, 151), (145, 2, 155), (145, 3, 159), (145, 4, 160), (145, 5, 162), (145, 6, 164), (145, 7, 166), (145, 8, 174), (145, 9, 180), (146, 0, 147), (146, 1, 148), (146, 2, 149), (146, 3, 150), (151, 0, 152), (151, 1, 153), (151, 2, 154), (155, 0, 156), (155, 1, 157), (155, 2, 158), (160, 0, 161), (162, 0, 163), (164, 0, 165), (166, 0, 167), (168, 0, 169), (168, 1, 170), (168, 2, 171), (168, 3, 172), (168, 4, 173), (174, 0, 175), (174, 1, 176), (174, 2, 177), (174, 3, 178), (174, 4, 179), (180, 0, 181), (182, 0, 183), (182, 1, 184), (182, 2, 185), (182, 3, 186), (182, 4, 187), (188, 0, 189), (188, 1, 190), (188, 2, 191), (188, 3, 192), (188, 4, 193), (195, 6, 196), (195, 7, 197), (195, 19, 198), (195, 20, 199), (195, 21, 200), (195, 22, 201), (195, 26, 202), (195, 27, 206), (195, 28, 210), (195, 29, 211), (195, 30, 212), (195, 31, 213), (195, 32, 214), (195, 34, 215), (195, 35, 216), (195, 37, 217), (195, 38, 218), (195, 39, 219), (195, 44, 220), (195, 45, 221), (195, 46, 222), (195, 48, 223), (195, 49, 224), (195, 50, 225), (202, 0, 203), (202, 1, 204), (202, 2, 205), (206, 0, 207), (206, 1, 208), (206, 2, 209)]
set_option maxRecDepth 100000 in
theorem hA_ok : (X11_init_f 1 (pN hE 11 18)).isSome = true := by decide +kernel
set_option maxRecDepth 100000 in
theorem hA_n : xn hA = 195 := by decide +kernel
set_option maxRecDepth 100000 in
theorem hB0_ok : (X15_init_f 195 (pN hA 15 51)).isSome = true := by decide +kernel
set_option maxRecDepth 100000 in
theorem hB0_n : xn hB0 = 226 := by decide +kernel
def SG (h : AH) : Prop := 227 ≤ xn h ∧ (∀ a, a < 227 → xc h a = tC.getD a 0 ∧ xz h a = tZ.getD a 0) ∧ ∀ q ∈ tR, xR h q.1 q.2.1 = q.2.2
set_option maxRecDepth 100000 in
theorem SG0a : ∀ a, a < 227 → xc h0 a = tC.getD a 0 := by decide +kernel
set_option maxRecDepth 100000 in
theorem SG0b : ∀ a, a < 227 → xz h0 a = tZ.getD a 0 := by decide +kernel
set_option maxRecDepth 100000 in
theorem SG0c : ∀ q ∈ tR, xR h0 q.1 q.2.1 = q.2.2 := by decide +kernel
theorem SG0 : SG h0 := ⟨by show 227 ≤ xn hB0 + 1; rw [hB0_n]; exact Nat.le_refl _, fun a ha => ⟨SG0a a ha, SG0b a ha⟩, SG0c⟩
theorem SG.fr {A : Nat → Prop} {h h' : AH} (F : Fr A h h') (s : SG h) : SG h' := by
  refine ⟨by rw [F.n]; exact s.1, fun a ha => ?_, fun q hq => ?_⟩
  · rw [F.c, F.z]; exact s.2.1 a ha
  · rw [F.r]; exact s.2.2 q hq
section
variable {h : AH} (s : SG h)
theorem SG.c1 {h : AH} (s : SG h) : xc h 1 = 11 := (s.2.1 1 (by decide)).1
theorem SG.c58 {h : AH} (s : SG h) : xc h 58 = 6 := (s.2.1 58 (by decide)).1
theorem SG.c59 {h : AH} (s : SG h) : xc h 59 = 18 := (s.2.1 59 (by decide)).1
theorem SG.z59 {h : AH} (s : SG h) : xz h 59 = 700 := (s.2.1 59 (by decide)).2
theorem SG.c60 {h : AH} (s : SG h) : xc h 60 = 17 := (s.2.1 60 (by decide)).1
theorem SG.z60 {h : AH} (s : SG h) : xz h 60 = 14 := (s.2.1 60 (by decide)).2
theorem SG.c61 {h : AH} (s : SG h) : xc h 61 = 16 := (s.2.1 61 (by decide)).1
theorem SG.z61 {h : AH} (s : SG h) : xz h 61 = 14 := (s.2.1 61 (by decide)).2
theorem SG.c62 {h : AH} (s : SG h) : xc h 62 = 10 := (s.2.1 62 (by decide)).1
theorem SG.c119 {h : AH} (s : SG h) : xc h 119 = 10 := (s.2.1 119 (by decide)).1
theorem SG.c120 {h : AH} (s : SG h) : xc h 120 = 4 := (s.2.1 120 (by decide)).1
theorem SG.c121 {h : AH} (s : SG h) : xc h 121 = 16 := (s.2.1 121 (by decide)).1
theorem SG.z121 {h : AH} (s : SG h) : xz h 121 = 6 := (s.2.1 121 (by decide)).2
theorem SG.c122 {h : AH} (s : SG h) : xc h 122 = 4 := (s.2.1 122 (by decide)).1
theorem SG.c123 {h : AH} (s : SG h) : xc h 123 = 16 := (s.2.1 123 (by decide)).1
theorem SG.z123 {h : AH} (s : SG h) : xz h 123 = 0 := (s.2.1 123 (by decide)).2
theorem SG.c124 {h : AH} (s : SG h) : xc h 124 = 4 := (s.2.1 124 (by decide)).1
theorem SG.c125 {h : AH} (s : SG h) : xc h 125 = 16 := (s.2.1 125 (by decide)).1
theorem SG.z125 {h : AH} (s : SG h) : xz h 125 = 6 := (s.2.1 125 (by decide)).2
theorem SG.c126 {h : AH} (s : SG h) : xc h 126 = 4 := (s.2.1 126 (by decide)).1
theorem SG.c127 {h : AH} (s : SG h) : xc h 127 = 16 := (s.2.1 127 (by decide)).1
theorem SG.z127 {h : AH} (s : SG h) : xz h 127 = 6 := (s.2.1 127 (by decide)).2
theorem SG.c128 {h : AH} (s : SG h) : xc h 128 = 21 := (s.2.1 128 (by decide)).1
theorem SG.z128 {h : AH} (s : SG h) : xz h 128 = 8 := (s.2.1 128 (by decide)).2
theorem SG.c129 {h : AH} (s : SG h) : xc h 129 = 4 := (s.2.1 129 (by decide)).1
theorem SG.c130 {h : AH} (s : SG h) : xc h 130 = 16 := (s.2.1 130 (by decide)).1
theorem SG.z130 {h : AH} (s : SG h) : xz h 130 = 6 := (s.2.1 130 (by decide)).2
theorem SG.c131 {h : AH} (s : SG h) : xc h 131 = 4 := (s.2.1 131 (by decide)).1
theorem SG.c132 {h : AH} (s : SG h) : xc h 132 = 16 := (s.2.1 132 (by decide)).1
theorem SG.z132 {h : AH} (s : SG h) : xz h 132 = 6 := (s.2.1 132 (by decide)).2
theorem SG.c133 {h : AH} (s : SG h) : xc h 133 = 4 := (s.2.1 133 (by decide)).1
theorem SG.c134 {h : AH} (s : SG h) : xc h 134 = 16 := (s.2.1 134 (by decide)).1
theorem SG.z134 {h : AH} (s : SG h) : xz h 134 = 6 := (s.2.1 134 (by decide)).2
theorem SG.c135 {h : AH} (s : SG h) : xc h 135 = 4 := (s.2.1 135 (by decide)).1
theorem SG.c136 {h : AH} (s : SG h) : xc h 136 = 16 := (s.2.1 136 (by decide)).1
theorem SG.z136 {h : AH} (s : SG h) : xz h 136 = 6 := (s.2.1 136 (by decide)).2
theorem SG.c137 {h : AH} (s : SG h) : xc h 137 = 4 := (s.2.1 137 (by decide)).1
theorem SG.c138 {h : AH} (s : SG h) : xc h 138 = 16 := (s.2.1 138 (by decide)).1
theorem SG.z138 {h : AH} (s : SG h) : xz h 138 = 6 := (s.2.1 138 (by decide)).2
theorem SG.c139 {h : AH} (s : SG h) : xc h 139 = 4 := (s.2.1 139 (by decide)).1
theorem SG.c140 {h : AH} (s : SG h) : xc h 140 = 16 := (s.2.1 140 (by decide)).1
theorem SG.z140 {h : AH} (s : SG h) : xz h 140 = 6 := (s.2.1 140 (by decide)).2
theorem SG.c141 {h : AH} (s : SG h) : xc h 141 = 4 := (s.2.1 141 (by decide)).1
theorem SG.c142 {h : AH} (s : SG h) : xc h 142 = 16 := (s.2.1 142 (by decide)).1
theorem SG.z142 {h : AH} (s : SG h) : xz h 142 = 6 := (s.2.1 142 (by decide)).2
theorem SG.c143 {h : AH} (s : SG h) : xc h 143 = 4 := (s.2.1 143 (by decide)).1
theorem SG.c144 {h : AH} (s : SG h) : xc h 144 = 16 := (s.2.1 144 (by decide)).1
theorem SG.z144 {h : AH} (s : SG h) : xz h 144 = 6 := (s.2.1 144 (by decide)).2
theorem SG.c145 {h : AH} (s : SG h) : xc h 145 = 9 := (s.2.1 145 (by decide)).1
theorem SG.c146 {h : AH} (s : SG h) : xc h 146 = 5 := (s.2.1 146 (by decide)).1
theorem SG.c147 {h : AH} (s : SG h) : xc h 147 = 16 := (s.2.1 147 (by decide)).1
theorem SG.z147 {h : AH} (s : SG h) : xz h 147 = 4 := (s.2.1 147 (by decide)).2
theorem SG.c148 {h : AH} (s : SG h) : xc h 148 = 16 := (s.2.1 148 (by decide)).1
theorem SG.z148 {h : AH} (s : SG h) : xz h 148 = 120 := (s.2.1 148 (by decide)).2
theorem SG.c149 {h : AH} (s : SG h) : xc h 149 = 16 := (s.2.1 149 (by decide)).1
theorem SG.z149 {h : AH} (s : SG h) : xz h 149 = 3 := (s.2.1 149 (by decide)).2
theorem SG.c150 {h : AH} (s : SG h) : xc h 150 = 16 := (s.2.1 150 (by decide)).1
theorem SG.z150 {h : AH} (s : SG h) : xz h 150 = 4 := (s.2.1 150 (by decide)).2
theorem SG.c151 {h : AH} (s : SG h) : xc h 151 = 3 := (s.2.1 151 (by decide)).1
theorem SG.c152 {h : AH} (s : SG h) : xc h 152 = 17 := (s.2.1 152 (by decide)).1
theorem SG.z152 {h : AH} (s : SG h) : xz h 152 = 42 := (s.2.1 152 (by decide)).2
theorem SG.c153 {h : AH} (s : SG h) : xc h 153 = 17 := (s.2.1 153 (by decide)).1
theorem SG.z153 {h : AH} (s : SG h) : xz h 153 = 42 := (s.2.1 153 (by decide)).2
theorem SG.c154 {h : AH} (s : SG h) : xc h 154 = 17 := (s.2.1 154 (by decide)).1
theorem SG.z154 {h : AH} (s : SG h) : xz h 154 = 28 := (s.2.1 154 (by decide)).2
theorem SG.c155 {h : AH} (s : SG h) : xc h 155 = 3 := (s.2.1 155 (by decide)).1
theorem SG.c156 {h : AH} (s : SG h) : xc h 156 = 17 := (s.2.1 156 (by decide)).1
theorem SG.z156 {h : AH} (s : SG h) : xz h 156 = 42 := (s.2.1 156 (by decide)).2
theorem SG.c157 {h : AH} (s : SG h) : xc h 157 = 17 := (s.2.1 157 (by decide)).1
theorem SG.z157 {h : AH} (s : SG h) : xz h 157 = 42 := (s.2.1 157 (by decide)).2
theorem SG.c158 {h : AH} (s : SG h) : xc h 158 = 17 := (s.2.1 158 (by decide)).1
theorem SG.z158 {h : AH} (s : SG h) : xz h 158 = 28 := (s.2.1 158 (by decide)).2
theorem SG.c159 {h : AH} (s : SG h) : xc h 159 = 22 := (s.2.1 159 (by decide)).1
theorem SG.z159 {h : AH} (s : SG h) : xz h 159 = 101 := (s.2.1 159 (by decide)).2
theorem SG.c160 {h : AH} (s : SG h) : xc h 160 = 4 := (s.2.1 160 (by decide)).1
theorem SG.c161 {h : AH} (s : SG h) : xc h 161 = 16 := (s.2.1 161 (by decide)).1
theorem SG.z161 {h : AH} (s : SG h) : xz h 161 = 3 := (s.2.1 161 (by decide)).2
theorem SG.c162 {h : AH} (s : SG h) : xc h 162 = 4 := (s.2.1 162 (by decide)).1
theorem SG.c163 {h : AH} (s : SG h) : xc h 163 = 16 := (s.2.1 163 (by decide)).1
theorem SG.z163 {h : AH} (s : SG h) : xz h 163 = 3 := (s.2.1 163 (by decide)).2
theorem SG.c164 {h : AH} (s : SG h) : xc h 164 = 4 := (s.2.1 164 (by decide)).1
theorem SG.c165 {h : AH} (s : SG h) : xc h 165 = 16 := (s.2.1 165 (by decide)).1
theorem SG.z165 {h : AH} (s : SG h) : xz h 165 = 3 := (s.2.1 165 (by decide)).2
theorem SG.c166 {h : AH} (s : SG h) : xc h 166 = 4 := (s.2.1 166 (by decide)).1
theorem SG.c167 {h : AH} (s : SG h) : xc h 167 = 16 := (s.2.1 167 (by decide)).1
theorem SG.z167 {h : AH} (s : SG h) : xz h 167 = 0 := (s.2.1 167 (by decide)).2
theorem SG.c168 {h : AH} (s : SG h) : xc h 168 = 8 := (s.2.1 168 (by decide)).1
theorem SG.c169 {h : AH} (s : SG h) : xc h 169 = 16 := (s.2.1 169 (by decide)).1
theorem SG.z169 {h : AH} (s : SG h) : xz h 169 = 28 := (s.2.1 169 (by decide)).2
theorem SG.c170 {h : AH} (s : SG h) : xc h 170 = 16 := (s.2.1 170 (by decide)).1
theorem SG.z170 {h : AH} (s : SG h) : xz h 170 = 4 := (s.2.1 170 (by decide)).2
theorem SG.c171 {h : AH} (s : SG h) : xc h 171 = 16 := (s.2.1 171 (by decide)).1
theorem SG.z171 {h : AH} (s : SG h) : xz h 171 = 6 := (s.2.1 171 (by decide)).2
theorem SG.c172 {h : AH} (s : SG h) : xc h 172 = 16 := (s.2.1 172 (by decide)).1
theorem SG.z172 {h : AH} (s : SG h) : xz h 172 = 42 := (s.2.1 172 (by decide)).2
theorem SG.c173 {h : AH} (s : SG h) : xc h 173 = 16 := (s.2.1 173 (by decide)).1
theorem SG.z173 {h : AH} (s : SG h) : xz h 173 = 24 := (s.2.1 173 (by decide)).2
theorem SG.c174 {h : AH} (s : SG h) : xc h 174 = 2 := (s.2.1 174 (by decide)).1
theorem SG.c175 {h : AH} (s : SG h) : xc h 175 = 17 := (s.2.1 175 (by decide)).1
theorem SG.z175 {h : AH} (s : SG h) : xz h 175 = 280 := (s.2.1 175 (by decide)).2
theorem SG.c176 {h : AH} (s : SG h) : xc h 176 = 17 := (s.2.1 176 (by decide)).1
theorem SG.z176 {h : AH} (s : SG h) : xz h 176 = 280 := (s.2.1 176 (by decide)).2
theorem SG.c177 {h : AH} (s : SG h) : xc h 177 = 17 := (s.2.1 177 (by decide)).1
theorem SG.z177 {h : AH} (s : SG h) : xz h 177 = 40 := (s.2.1 177 (by decide)).2
theorem SG.c178 {h : AH} (s : SG h) : xc h 178 = 17 := (s.2.1 178 (by decide)).1
theorem SG.z178 {h : AH} (s : SG h) : xz h 178 = 6 := (s.2.1 178 (by decide)).2
theorem SG.c179 {h : AH} (s : SG h) : xc h 179 = 17 := (s.2.1 179 (by decide)).1
theorem SG.z179 {h : AH} (s : SG h) : xz h 179 = 42 := (s.2.1 179 (by decide)).2
theorem SG.c180 {h : AH} (s : SG h) : xc h 180 = 7 := (s.2.1 180 (by decide)).1
theorem SG.c181 {h : AH} (s : SG h) : xc h 181 = 17 := (s.2.1 181 (by decide)).1
theorem SG.z181 {h : AH} (s : SG h) : xz h 181 = 280 := (s.2.1 181 (by decide)).2
theorem SG.c182 {h : AH} (s : SG h) : xc h 182 = 8 := (s.2.1 182 (by decide)).1
theorem SG.c183 {h : AH} (s : SG h) : xc h 183 = 16 := (s.2.1 183 (by decide)).1
theorem SG.z183 {h : AH} (s : SG h) : xz h 183 = 28 := (s.2.1 183 (by decide)).2
theorem SG.c184 {h : AH} (s : SG h) : xc h 184 = 16 := (s.2.1 184 (by decide)).1
theorem SG.z184 {h : AH} (s : SG h) : xz h 184 = 4 := (s.2.1 184 (by decide)).2
theorem SG.c185 {h : AH} (s : SG h) : xc h 185 = 16 := (s.2.1 185 (by decide)).1
theorem SG.z185 {h : AH} (s : SG h) : xz h 185 = 6 := (s.2.1 185 (by decide)).2
theorem SG.c186 {h : AH} (s : SG h) : xc h 186 = 16 := (s.2.1 186 (by decide)).1
theorem SG.z186 {h : AH} (s : SG h) : xz h 186 = 42 := (s.2.1 186 (by decide)).2
theorem SG.c187 {h : AH} (s : SG h) : xc h 187 = 16 := (s.2.1 187 (by decide)).1
theorem SG.z187 {h : AH} (s : SG h) : xz h 187 = 24 := (s.2.1 187 (by decide)).2
theorem SG.c188 {h : AH} (s : SG h) : xc h 188 = 8 := (s.2.1 188 (by decide)).1
theorem SG.c189 {h : AH} (s : SG h) : xc h 189 = 16 := (s.2.1 189 (by decide)).1
theorem SG.z189 {h : AH} (s : SG h) : xz h 189 = 28 := (s.2.1 189 (by decide)).2
theorem SG.c190 {h : AH} (s : SG h) : xc h 190 = 16 := (s.2.1 190 (by decide)).1
theorem SG.z190 {h : AH} (s : SG h) : xz h 190 = 4 := (s.2.1 190 (by decide)).2
theorem SG.c191 {h : AH} (s : SG h) : xc h 191 = 16 := (s.2.1 191 (by decide)).1
theorem SG.z191 {h : AH} (s : SG h) : xz h 191 = 6 := (s.2.1 191 (by decide)).2
theorem SG.c192 {h : AH} (s : SG h) : xc h 192 = 16 := (s.2.1 192 (by decide)).1
theorem SG.z192 {h : AH} (s : SG h) : xz h 192 = 42 := (s.2.1 192 (by decide)).2
theorem SG.c193 {h : AH} (s : SG h) : xc h 193 = 16 := (s.2.1 193 (by decide)).1
theorem SG.z193 {h : AH} (s : SG h) : xz h 193 = 24 := (s.2.1 193 (by decide)).2
theorem SG.c194 {h : AH} (s : SG h) : xc h 194 = 16 := (s.2.1 194 (by decide)).1
theorem SG.z194 {h : AH} (s : SG h) : xz h 194 = 280 := (s.2.1 194 (by decide)).2
theorem SG.c195 {h : AH} (s : SG h) : xc h 195 = 15 := (s.2.1 195 (by decide)).1
theorem SG.c196 {h : AH} (s : SG h) : xc h 196 = 14 := (s.2.1 196 (by decide)).1
theorem SG.c197 {h : AH} (s : SG h) : xc h 197 = 18 := (s.2.1 197 (by decide)).1
theorem SG.z197 {h : AH} (s : SG h) : xz h 197 = 700 := (s.2.1 197 (by decide)).2
theorem SG.c198 {h : AH} (s : SG h) : xc h 198 = 16 := (s.2.1 198 (by decide)).1
theorem SG.z198 {h : AH} (s : SG h) : xz h 198 = 4 := (s.2.1 198 (by decide)).2
theorem SG.c199 {h : AH} (s : SG h) : xc h 199 = 16 := (s.2.1 199 (by decide)).1
theorem SG.z199 {h : AH} (s : SG h) : xz h 199 = 6 := (s.2.1 199 (by decide)).2
theorem SG.c200 {h : AH} (s : SG h) : xc h 200 = 16 := (s.2.1 200 (by decide)).1
theorem SG.z200 {h : AH} (s : SG h) : xz h 200 = 8 := (s.2.1 200 (by decide)).2
theorem SG.c201 {h : AH} (s : SG h) : xc h 201 = 16 := (s.2.1 201 (by decide)).1
theorem SG.z201 {h : AH} (s : SG h) : xz h 201 = 48 := (s.2.1 201 (by decide)).2
theorem SG.c202 {h : AH} (s : SG h) : xc h 202 = 13 := (s.2.1 202 (by decide)).1
theorem SG.c203 {h : AH} (s : SG h) : xc h 203 = 19 := (s.2.1 203 (by decide)).1
theorem SG.z203 {h : AH} (s : SG h) : xz h 203 = 42 := (s.2.1 203 (by decide)).2
theorem SG.c204 {h : AH} (s : SG h) : xc h 204 = 19 := (s.2.1 204 (by decide)).1
theorem SG.z204 {h : AH} (s : SG h) : xz h 204 = 42 := (s.2.1 204 (by decide)).2
theorem SG.c205 {h : AH} (s : SG h) : xc h 205 = 16 := (s.2.1 205 (by decide)).1
theorem SG.z205 {h : AH} (s : SG h) : xz h 205 = 7 := (s.2.1 205 (by decide)).2
theorem SG.c206 {h : AH} (s : SG h) : xc h 206 = 13 := (s.2.1 206 (by decide)).1
theorem SG.c207 {h : AH} (s : SG h) : xc h 207 = 19 := (s.2.1 207 (by decide)).1
theorem SG.z207 {h : AH} (s : SG h) : xz h 207 = 42 := (s.2.1 207 (by decide)).2
theorem SG.c208 {h : AH} (s : SG h) : xc h 208 = 19 := (s.2.1 208 (by decide)).1
theorem SG.z208 {h : AH} (s : SG h) : xz h 208 = 42 := (s.2.1 208 (by decide)).2
theorem SG.c209 {h : AH} (s : SG h) : xc h 209 = 16 := (s.2.1 209 (by decide)).1
theorem SG.z209 {h : AH} (s : SG h) : xz h 209 = 7 := (s.2.1 209 (by decide)).2
theorem SG.c210 {h : AH} (s : SG h) : xc h 210 = 16 := (s.2.1 210 (by decide)).1
theorem SG.z210 {h : AH} (s : SG h) : xz h 210 = 2912 := (s.2.1 210 (by decide)).2
theorem SG.c211 {h : AH} (s : SG h) : xc h 211 = 16 := (s.2.1 211 (by decide)).1
theorem SG.z211 {h : AH} (s : SG h) : xz h 211 = 728 := (s.2.1 211 (by decide)).2
theorem SG.c212 {h : AH} (s : SG h) : xc h 212 = 16 := (s.2.1 212 (by decide)).1
theorem SG.z212 {h : AH} (s : SG h) : xz h 212 = 4368 := (s.2.1 212 (by decide)).2
theorem SG.c213 {h : AH} (s : SG h) : xc h 213 = 16 := (s.2.1 213 (by decide)).1
theorem SG.z213 {h : AH} (s : SG h) : xz h 213 = 4368 := (s.2.1 213 (by decide)).2
theorem SG.c214 {h : AH} (s : SG h) : xc h 214 = 19 := (s.2.1 214 (by decide)).1
theorem SG.z214 {h : AH} (s : SG h) : xz h 214 = 4368 := (s.2.1 214 (by decide)).2
theorem SG.c215 {h : AH} (s : SG h) : xc h 215 = 16 := (s.2.1 215 (by decide)).1
theorem SG.z215 {h : AH} (s : SG h) : xz h 215 = 54 := (s.2.1 215 (by decide)).2
theorem SG.c216 {h : AH} (s : SG h) : xc h 216 = 16 := (s.2.1 216 (by decide)).1
theorem SG.z216 {h : AH} (s : SG h) : xz h 216 = 28 := (s.2.1 216 (by decide)).2
theorem SG.c217 {h : AH} (s : SG h) : xc h 217 = 16 := (s.2.1 217 (by decide)).1
theorem SG.z217 {h : AH} (s : SG h) : xz h 217 = 120 := (s.2.1 217 (by decide)).2
theorem SG.c218 {h : AH} (s : SG h) : xc h 218 = 16 := (s.2.1 218 (by decide)).1
theorem SG.z218 {h : AH} (s : SG h) : xz h 218 = 3 := (s.2.1 218 (by decide)).2
theorem SG.c219 {h : AH} (s : SG h) : xc h 219 = 16 := (s.2.1 219 (by decide)).1
theorem SG.z219 {h : AH} (s : SG h) : xz h 219 = 3 := (s.2.1 219 (by decide)).2
theorem SG.c220 {h : AH} (s : SG h) : xc h 220 = 16 := (s.2.1 220 (by decide)).1
theorem SG.z220 {h : AH} (s : SG h) : xz h 220 = 3 := (s.2.1 220 (by decide)).2
theorem SG.c221 {h : AH} (s : SG h) : xc h 221 = 16 := (s.2.1 221 (by decide)).1
theorem SG.z221 {h : AH} (s : SG h) : xz h 221 = 3 := (s.2.1 221 (by decide)).2
theorem SG.c222 {h : AH} (s : SG h) : xc h 222 = 16 := (s.2.1 222 (by decide)).1
theorem SG.z222 {h : AH} (s : SG h) : xz h 222 = 6 := (s.2.1 222 (by decide)).2
theorem SG.c223 {h : AH} (s : SG h) : xc h 223 = 16 := (s.2.1 223 (by decide)).1
theorem SG.z223 {h : AH} (s : SG h) : xz h 223 = 280 := (s.2.1 223 (by decide)).2
theorem SG.c224 {h : AH} (s : SG h) : xc h 224 = 16 := (s.2.1 224 (by decide)).1
theorem SG.z224 {h : AH} (s : SG h) : xz h 224 = 6 := (s.2.1 224 (by decide)).2
theorem SG.c225 {h : AH} (s : SG h) : xc h 225 = 16 := (s.2.1 225 (by decide)).1
theorem SG.z225 {h : AH} (s : SG h) : xz h 225 = 6 := (s.2.1 225 (by decide)).2
theorem SG.c226 {h : AH} (s : SG h) : xc h 226 = 17 := (s.2.1 226 (by decide)).1
theorem SG.z226 {h : AH} (s : SG h) : xz h 226 = 1 := (s.2.1 226 (by decide)).2
theorem SG.r1_0 {h : AH} (s : SG h) : xR h 1 0 = 58 := s.2.2 (1, 0, 58) (List.mem_of_getElem? (i := 0) rfl)
theorem SG.r1_1 {h : AH} (s : SG h) : xR h 1 1 = 62 := s.2.2 (1, 1, 62) (List.mem_of_getElem? (i := 1) rfl)
theorem SG.r1_2 {h : AH} (s : SG h) : xR h 1 2 = 119 := s.2.2 (1, 2, 119) (List.mem_of_getElem? (i := 2) rfl)
theorem SG.r1_3 {h : AH} (s : SG h) : xR h 1 3 = 120 := s.2.2 (1, 3, 120) (List.mem_of_getElem? (i := 3) rfl)
theorem SG.r1_4 {h : AH} (s : SG h) : xR h 1 4 = 122 := s.2.2 (1, 4, 122) (List.mem_of_getElem? (i := 4) rfl)
theorem SG.r1_5 {h : AH} (s : SG h) : xR h 1 5 = 124 := s.2.2 (1, 5, 124) (List.mem_of_getElem? (i := 5) rfl)
theorem SG.r1_6 {h : AH} (s : SG h) : xR h 1 6 = 126 := s.2.2 (1, 6, 126) (List.mem_of_getElem? (i := 6) rfl)
theorem SG.r1_7 {h : AH} (s : SG h) : xR h 1 7 = 128 := s.2.2 (1, 7, 128) (List.mem_of_getElem? (i := 7) rfl)
theorem SG.r1_8 {h : AH} (s : SG h) : xR h 1 8 = 145 := s.2.2 (1, 8, 145) (List.mem_of_getElem? (i := 8) rfl)
theorem SG.r1_9 {h : AH} (s : SG h) : xR h 1 9 = 182 := s.2.2 (1, 9, 182) (List.mem_of_getElem? (i := 9) rfl)
theorem SG.r1_10 {h : AH} (s : SG h) : xR h 1 10 = 188 := s.2.2 (1, 10, 188) (List.mem_of_getElem? (i := 10) rfl)
theorem SG.r1_11 {h : AH} (s : SG h) : xR h 1 11 = 194 := s.2.2 (1, 11, 194) (List.mem_of_getElem? (i := 11) rfl)
theorem SG.r58_0 {h : AH} (s : SG h) : xR h 58 0 = 59 := s.2.2 (58, 0, 59) (List.mem_of_getElem? (i := 67) rfl)
theorem SG.r58_1 {h : AH} (s : SG h) : xR h 58 1 = 60 := s.2.2 (58, 1, 60) (List.mem_of_getElem? (i := 68) rfl)
theorem SG.r58_2 {h : AH} (s : SG h) : xR h 58 2 = 61 := s.2.2 (58, 2, 61) (List.mem_of_getElem? (i := 69) rfl)
theorem SG.r120_0 {h : AH} (s : SG h) : xR h 120 0 = 121 := s.2.2 (120, 0, 121) (List.mem_of_getElem? (i := 125) rfl)
theorem SG.r122_0 {h : AH} (s : SG h) : xR h 122 0 = 123 := s.2.2 (122, 0, 123) (List.mem_of_getElem? (i := 126) rfl)
theorem SG.r124_0 {h : AH} (s : SG h) : xR h 124 0 = 125 := s.2.2 (124, 0, 125) (List.mem_of_getElem? (i := 127) rfl)
theorem SG.r126_0 {h : AH} (s : SG h) : xR h 126 0 = 127 := s.2.2 (126, 0, 127) (List.mem_of_getElem? (i := 128) rfl)
theorem SG.r128_0 {h : AH} (s : SG h) : xR h 128 0 = 129 := s.2.2 (128, 0, 129) (List.mem_of_getElem? (i := 129) rfl)
theorem SG.r128_1 {h : AH} (s : SG h) : xR h 128 1 = 131 := s.2.2 (128, 1, 131) (List.mem_of_getElem? (i := 130) rfl)
theorem SG.r128_2 {h : AH} (s : SG h) : xR h 128 2 = 133 := s.2.2 (128, 2, 133) (List.mem_of_getElem? (i := 131) rfl)
theorem SG.r128_3 {h : AH} (s : SG h) : xR h 128 3 = 135 := s.2.2 (128, 3, 135) (List.mem_of_getElem? (i := 132) rfl)
theorem SG.r128_4 {h : AH} (s : SG h) : xR h 128 4 = 137 := s.2.2 (128, 4, 137) (List.mem_of_getElem? (i := 133) rfl)
theorem SG.r128_5 {h : AH} (s : SG h) : xR h 128 5 = 139 := s.2.2 (128, 5, 139) (List.mem_of_getElem? (i := 134) rfl)
theorem SG.r128_6 {h : AH} (s : SG h) : xR h 128 6 = 141 := s.2.2 (128, 6, 141) (List.mem_of_getElem? (i := 135) rfl)
theorem SG.r128_7 {h : AH} (s : SG h) : xR h 128 7 = 143 := s.2.2 (128, 7, 143) (List.mem_of_getElem? (i := 136) rfl)
theorem SG.r129_0 {h : AH} (s : SG h) : xR h 129 0 = 130 := s.2.2 (129, 0, 130) (List.mem_of_getElem? (i := 137) rfl)
theorem SG.r131_0 {h : AH} (s : SG h) : xR h 131 0 = 132 := s.2.2 (131, 0, 132) (List.mem_of_getElem? (i := 138) rfl)
theorem SG.r133_0 {h : AH} (s : SG h) : xR h 133 0 = 134 := s.2.2 (133, 0, 134) (List.mem_of_getElem? (i := 139) rfl)
theorem SG.r135_0 {h : AH} (s : SG h) : xR h 135 0 = 136 := s.2.2 (135, 0, 136) (List.mem_of_getElem? (i := 140) rfl)
theorem SG.r137_0 {h : AH} (s : SG h) : xR h 137 0 = 138 := s.2.2 (137, 0, 138) (List.mem_of_getElem? (i := 141) rfl)
theorem SG.r139_0 {h : AH} (s : SG h) : xR h 139 0 = 140 := s.2.2 (139, 0, 140) (List.mem_of_getElem? (i := 142) rfl)
theorem SG.r141_0 {h : AH} (s : SG h) : xR h 141 0 = 142 := s.2.2 (141, 0, 142) (List.mem_of_getElem? (i := 143) rfl)
theorem SG.r143_0 {h : AH} (s : SG h) : xR h 143 0 = 144 := s.2.2 (143, 0, 144) (List.mem_of_getElem? (i := 144) rfl)
theorem SG.r145_0 {h : AH} (s : SG h) : xR h 145 0 = 146 := s.2.2 (145, 0, 146) (List.mem_of_getElem? (i := 145) rfl)
theorem SG.r145_1 {h : AH} (s : SG h) : xR h 145 1 = 151 := s.2.2 (145, 1, 151) (List.mem_of_getElem? (i := 146) rfl)
theorem SG.r145_2 {h : AH} (s : SG h) : xR h 145 2 = 155 := s.2.2 (145, 2, 155) (List.mem_of_getElem? (i := 147) rfl)
theorem SG.r145_3 {h : AH} (s : SG h) : xR h 145 3 = 159 := s.2.2 (145, 3, 159) (List.mem_of_getElem? (i := 148) rfl)
theorem SG.r145_4 {h : AH} (s : SG h) : xR h 145 4 = 160 := s.2.2 (145, 4, 160) (List.mem_of_getElem? (i := 149) rfl)
theorem SG.r145_5 {h : AH} (s : SG h) : xR h 145 5 = 162 := s.2.2 (145, 5, 162) (List.mem_of_getElem? (i := 150) rfl)
theorem SG.r145_6 {h : AH} (s : SG h) : xR h 145 6 = 164 := s.2.2 (145, 6, 164) (List.mem_of_getElem? (i := 151) rfl)
theorem SG.r145_7 {h : AH} (s : SG h) : xR h 145 7 = 166 := s.2.2 (145, 7, 166) (List.mem_of_getElem? (i := 152) rfl)
theorem SG.r145_8 {h : AH} (s : SG h) : xR h 145 8 = 174 := s.2.2 (145, 8, 174) (List.mem_of_getElem? (i := 153) rfl)
theorem SG.r145_9 {h : AH} (s : SG h) : xR h 145 9 = 180 := s.2.2 (145, 9, 180) (List.mem_of_getElem? (i := 154) rfl)
theorem SG.r146_0 {h : AH} (s : SG h) : xR h 146 0 = 147 := s.2.2 (146, 0, 147) (List.mem_of_getElem? (i := 155) rfl)
theorem SG.r146_1 {h : AH} (s : SG h) : xR h 146 1 = 148 := s.2.2 (146, 1, 148) (List.mem_of_getElem? (i := 156) rfl)
theorem SG.r146_2 {h : AH} (s : SG h) : xR h 146 2 = 149 := s.2.2 (146, 2, 149) (List.mem_of_getElem? (i := 157) rfl)
theorem SG.r146_3 {h : AH} (s : SG h) : xR h 146 3 = 150 := s.2.2 (146, 3, 150) (List.mem_of_getElem? (i := 158) rfl)
theorem SG.r151_0 {h : AH} (s : SG h) : xR h 151 0 = 152 := s.2.2 (151, 0, 152) (List.mem_of_getElem? (i := 159) rfl)
theorem SG.r151_1 {h : AH} (s : SG h) : xR h 151 1 = 153 := s.2.2 (151, 1, 153) (List.mem_of_getElem? (i := 160) rfl)
theorem SG.r151_2 {h : AH} (s : SG h) : xR h 151 2 = 154 := s.2.2 (151, 2, 154) (List.mem_of_getElem? (i := 161) rfl)
theorem SG.r155_0 {h : AH} (s : SG h) : xR h 155 0 = 156 := s.2.2 (155, 0, 156) (List.mem_of_getElem? (i := 162) rfl)
theorem SG.r155_1 {h : AH} (s : SG h) : xR h 155 1 = 157 := s.2.2 (155, 1, 157) (List.mem_of_getElem? (i := 163) rfl)
theorem SG.r155_2 {h : AH} (s : SG h) : xR h 155 2 = 158 := s.2.2 (155, 2, 158) (List.mem_of_getElem? (i := 164) rfl)
theorem SG.r160_0 {h : AH} (s : SG h) : xR h 160 0 = 161 := s.2.2 (160, 0, 161) (List.mem_of_getElem? (i := 165) rfl)
theorem SG.r162_0 {h : AH} (s : SG h) : xR h 162 0 = 163 := s.2.2 (162, 0, 163) (List.mem_of_getElem? (i := 166) rfl)
theorem SG.r164_0 {h : AH} (s : SG h) : xR h 164 0 = 165 := s.2.2 (164, 0, 165) (List.mem_of_getElem? (i := 167) rfl)
theorem SG.r166_0 {h : AH} (s : SG h) : xR h 166 0 = 167 := s.2.2 (166, 0, 167) (List.mem_of_getElem? (i := 168) rfl)
theorem SG.r168_0 {h : AH} (s : SG h) : xR h 168 0 = 169 := s.2.2 (168, 0, 169) (List.mem_of_getElem? (i := 169) rfl)
theorem SG.r168_1 {h : AH} (s : SG h) : xR h 168 1 = 170 := s.2.2 (168, 1, 170) (List.mem_of_getElem? (i := 170) rfl)
theorem SG.r168_2 {h : AH} (s : SG h) : xR h 168 2 = 171 := s.2.2 (168, 2, 171) (List.mem_of_getElem? (i := 171) rfl)
theorem SG.r168_3 {h : AH} (s : SG h) : xR h 168 3 = 172 := s.2.2 (168, 3, 172) (List.mem_of_getElem? (i := 172) rfl)
theorem SG.r168_4 {h : AH} (s : SG h) : xR h 168 4 = 173 := s.2.2 (168, 4, 173) (List.mem_of_getElem? (i := 173) rfl)
theorem SG.r174_0 {h : AH} (s : SG h) : xR h 174 0 = 175 := s.2.2 (174, 0, 175) (List.mem_of_getElem? (i := 174) rfl)
theorem SG.r174_1 {h : AH} (s : SG h) : xR h 174 1 = 176 := s.2.2 (174, 1, 176) (List.mem_of_getElem? (i := 175) rfl)
theorem SG.r174_2 {h : AH} (s : SG h) : xR h 174 2 = 177 := s.2.2 (174, 2, 177) (List.mem_of_getElem? (i := 176) rfl)
theorem SG.r174_3 {h : AH} (s : SG h) : xR h 174 3 = 178 := s.2.2 (174, 3, 178) (List.mem_of_getElem? (i := 177) rfl)
theorem SG.r174_4 {h : AH} (s : SG h) : xR h 174 4 = 179 := s.2.2 (174, 4, 179) (List.mem_of_getElem? (i := 178) rfl)
theorem SG.r180_0 {h : AH} (s : SG h) : xR h 180 0 = 181 := s.2.2 (180, 0, 181) (List.mem_of_getElem? (i := 179) rfl)
theorem SG.r182_0 {h : AH} (s : SG h) : xR h 182 0 = 183 := s.2.2 (182, 0, 183) (List.mem_of_getElem? (i := 180) rfl)
theorem SG.r182_1 {h : AH} (s : SG h) : xR h 182 1 = 184 := s.2.2 (182, 1, 184) (List.mem_of_getElem? (i := 181) rfl)
theorem SG.r182_2 {h : AH} (s : SG h) : xR h 182 2 = 185 := s.2.2 (182, 2, 185) (List.mem_of_getElem? (i := 182) rfl)
theorem SG.r182_3 {h : AH} (s : SG h) : xR h 182 3 = 186 := s.2.2 (182, 3, 186) (List.mem_of_getElem? (i := 183) rfl)
theorem SG.r182_4 {h : AH} (s : SG h) : xR h 182 4 = 187 := s.2.2 (182, 4, 187) (List.mem_of_getElem? (i := 184) rfl)
theorem SG.r188_0 {h : AH} (s : SG h) : xR h 188 0 = 189 := s.2.2 (188, 0, 189) (List.mem_of_getElem? (i := 185) rfl)
theorem SG.r188_1 {h : AH} (s : SG h) : xR h 188 1 = 190 := s.2.2 (188, 1, 190) (List.mem_of_getElem? (i := 186) rfl)
theorem SG.r188_2 {h : AH} (s : SG h) : xR h 188 2 = 191 := s.2.2 (188, 2, 191) (List.mem_of_getElem? (i := 187) rfl)
theorem SG.r188_3 {h : AH} (s : SG h) : xR h 188 3 = 192 := s.2.2 (188, 3, 192) (List.mem_of_getElem? (i := 188) rfl)
theorem SG.r188_4 {h : AH} (s : SG h) : xR h 188 4 = 193 := s.2.2 (188, 4, 193) (List.mem_of_getElem? (i := 189) rfl)
theorem SG.r195_6 {h : AH} (s : SG h) : xR h 195 6 = 196 := s.2.2 (195, 6, 196) (List.mem_of_getElem? (i := 190) rfl)
theorem SG.r195_7 {h : AH} (s : SG h) : xR h 195 7 = 197 := s.2.2 (195, 7, 197) (List.mem_of_getElem? (i := 191) rfl)
theorem SG.r195_19 {h : AH} (s : SG h) : xR h 195 19 = 198 := s.2.2 (195, 19, 198) (List.mem_of_getElem? (i := 192) rfl)
theorem SG.r195_20 {h : AH} (s : SG h) : xR h 195 20 = 199 := s.2.2 (195, 20, 199) (List.mem_of_getElem? (i := 193) rfl)
theorem SG.r195_21 {h : AH} (s : SG h) : xR h 195 21 = 200 := s.2.2 (195, 21, 200) (List.mem_of_getElem? (i := 194) rfl)
theorem SG.r195_22 {h : AH} (s : SG h) : xR h 195 22 = 201 := s.2.2 (195, 22, 201) (List.mem_of_getElem? (i := 195) rfl)
theorem SG.r195_26 {h : AH} (s : SG h) : xR h 195 26 = 202 := s.2.2 (195, 26, 202) (List.mem_of_getElem? (i := 196) rfl)
theorem SG.r195_27 {h : AH} (s : SG h) : xR h 195 27 = 206 := s.2.2 (195, 27, 206) (List.mem_of_getElem? (i := 197) rfl)
theorem SG.r195_28 {h : AH} (s : SG h) : xR h 195 28 = 210 := s.2.2 (195, 28, 210) (List.mem_of_getElem? (i := 198) rfl)
theorem SG.r195_29 {h : AH} (s : SG h) : xR h 195 29 = 211 := s.2.2 (195, 29, 211) (List.mem_of_getElem? (i := 199) rfl)
theorem SG.r195_30 {h : AH} (s : SG h) : xR h 195 30 = 212 := s.2.2 (195, 30, 212) (List.mem_of_getElem? (i := 200) rfl)
theorem SG.r195_31 {h : AH} (s : SG h) : xR h 195 31 = 213 := s.2.2 (195, 31, 213) (List.mem_of_getElem? (i := 201) rfl)
theorem SG.r195_32 {h : AH} (s : SG h) : xR h 195 32 = 214 := s.2.2 (195, 32, 214) (List.mem_of_getElem? (i := 202) rfl)
theorem SG.r195_34 {h : AH} (s : SG h) : xR h 195 34 = 215 := s.2.2 (195, 34, 215) (List.mem_of_getElem? (i := 203) rfl)
theorem SG.r195_35 {h : AH} (s : SG h) : xR h 195 35 = 216 := s.2.2 (195, 35, 216) (List.mem_of_getElem? (i := 204) rfl)
theorem SG.r195_37 {h : AH} (s : SG h) : xR h 195 37 = 217 := s.2.2 (195, 37, 217) (List.mem_of_getElem? (i := 205) rfl)
theorem SG.r195_38 {h : AH} (s : SG h) : xR h 195 38 = 218 := s.2.2 (195, 38, 218) (List.mem_of_getElem? (i := 206) rfl)
theorem SG.r195_39 {h : AH} (s : SG h) : xR h 195 39 = 219 := s.2.2 (195, 39, 219) (List.mem_of_getElem? (i := 207) rfl)
theorem SG.r195_44 {h : AH} (s : SG h) : xR h 195 44 = 220 := s.2.2 (195, 44, 220) (List.mem_of_getElem? (i := 208) rfl)
theorem SG.r195_45 {h : AH} (s : SG h) : xR h 195 45 = 221 := s.2.2 (195, 45, 221) (List.mem_of_getElem? (i := 209) rfl)
theorem SG.r195_46 {h : AH} (s : SG h) : xR h 195 46 = 222 := s.2.2 (195, 46, 222) (List.mem_of_getElem? (i := 210) rfl)
theorem SG.r195_48 {h : AH} (s : SG h) : xR h 195 48 = 223 := s.2.2 (195, 48, 223) (List.mem_of_getElem? (i := 211) rfl)
theorem SG.r195_49 {h : AH} (s : SG h) : xR h 195 49 = 224 := s.2.2 (195, 49, 224) (List.mem_of_getElem? (i := 212) rfl)
theorem SG.r195_50 {h : AH} (s : SG h) : xR h 195 50 = 225 := s.2.2 (195, 50, 225) (List.mem_of_getElem? (i := 213) rfl)
theorem SG.r202_0 {h : AH} (s : SG h) : xR h 202 0 = 203 := s.2.2 (202, 0, 203) (List.mem_of_getElem? (i := 214) rfl)
theorem SG.r202_1 {h : AH} (s : SG h) : xR h 202 1 = 204 := s.2.2 (202, 1, 204) (List.mem_of_getElem? (i := 215) rfl)
theorem SG.r202_2 {h : AH} (s : SG h) : xR h 202 2 = 205 := s.2.2 (202, 2, 205) (List.mem_of_getElem? (i := 216) rfl)
theorem SG.r206_0 {h : AH} (s : SG h) : xR h 206 0 = 207 := s.2.2 (206, 0, 207) (List.mem_of_getElem? (i := 217) rfl)
theorem SG.r206_1 {h : AH} (s : SG h) : xR h 206 1 = 208 := s.2.2 (206, 1, 208) (List.mem_of_getElem? (i := 218) rfl)
theorem SG.r206_2 {h : AH} (s : SG h) : xR h 206 2 = 209 := s.2.2 (206, 2, 209) (List.mem_of_getElem? (i := 219) rfl)
end
theorem SG.b1 {h : AH} (s : SG h) : BS h 2 := ⟨by decide, by decide, (s.2.1 2 (by decide)).1, s.2.2 (2, 7, 3) (List.mem_of_getElem? (i := 12) rfl), s.2.2 (2, 8, 4) (List.mem_of_getElem? (i := 13) rfl), s.2.2 (2, 9, 5) (List.mem_of_getElem? (i := 14) rfl), s.2.2 (2, 10, 6) (List.mem_of_getElem? (i := 15) rfl), s.2.2 (2, 11, 7) (List.mem_of_getElem? (i := 16) rfl), s.2.2 (2, 12, 8) (List.mem_of_getElem? (i := 17) rfl), s.2.2 (2, 13, 9) (List.mem_of_getElem? (i := 18) rfl), (s.2.1 3 (by decide)).1, (s.2.1 4 (by decide)).1, (s.2.1 5 (by decide)).1, (s.2.1 6 (by decide)).1, (s.2.1 7 (by decide)).1, (s.2.1 8 (by decide)).1, (s.2.1 9 (by decide)).1, (s.2.1 3 (by decide)).2, (s.2.1 4 (by decide)).2, (s.2.1 5 (by decide)).2, (s.2.1 6 (by decide)).2, (s.2.1 7 (by decide)).2, (s.2.1 8 (by decide)).2, (s.2.1 9 (by decide)).2,
  fun i hi => by match i, hi with | 0, _ => exact s.2.2 (6, 0, 10) (List.mem_of_getElem? (i := 19) rfl) | 1, _ => exact s.2.2 (6, 1, 13) (List.mem_of_getElem? (i := 20) rfl) | 2, _ => exact s.2.2 (6, 2, 16) (List.mem_of_getElem? (i := 21) rfl) | 3, _ => exact s.2.2 (6, 3, 19) (List.mem_of_getElem? (i := 22) rfl) | 4, _ => exact s.2.2 (6, 4, 22) (List.mem_of_getElem? (i := 23) rfl) | 5, _ => exact s.2.2 (6, 5, 25) (List.mem_of_getElem? (i := 24) rfl) | 6, _ => exact s.2.2 (6, 6, 28) (List.mem_of_getElem? (i := 25) rfl) | 7, _ => exact s.2.2 (6, 7, 31) (List.mem_of_getElem? (i := 26) rfl) | 8, _ => exact s.2.2 (6, 8, 34) (List.mem_of_getElem? (i := 27) rfl) | 9, _ => exact s.2.2 (6, 9, 37) (List.mem_of_getElem? (i := 28) rfl),
  fun i hi => by match i, hi with | 0, _ => exact s.2.2 (7, 0, 40) (List.mem_of_getElem? (i := 29) rfl) | 1, _ => exact s.2.2 (7, 1, 43) (List.mem_of_getElem? (i := 30) rfl) | 2, _ => exact s.2.2 (7, 2, 46) (List.mem_of_getElem? (i := 31) rfl) | 3, _ => exact s.2.2 (7, 3, 49) (List.mem_of_getElem? (i := 32) rfl) | 4, _ => exact s.2.2 (7, 4, 52) (List.mem_of_getElem? (i := 33) rfl) | 5, _ => exact s.2.2 (7, 5, 55) (List.mem_of_getElem? (i := 34) rfl),
  fun i hi => by match i, hi with | 0, _ => exact ⟨(s.2.1 10 (by decide)).1, s.2.2 (10, 0, 11) (List.mem_of_getElem? (i := 35) rfl), s.2.2 (10, 1, 12) (List.mem_of_getElem? (i := 36) rfl), (s.2.1 11 (by decide)).1, (s.2.1 11 (by decide)).2, (s.2.1 12 (by decide)).1, (s.2.1 12 (by decide)).2⟩ | 1, _ => exact ⟨(s.2.1 13 (by decide)).1, s.2.2 (13, 0, 14) (List.mem_of_getElem? (i := 37) rfl), s.2.2 (13, 1, 15) (List.mem_of_getElem? (i := 38) rfl), (s.2.1 14 (by decide)).1, (s.2.1 14 (by decide)).2, (s.2.1 15 (by decide)).1, (s.2.1 15 (by decide)).2⟩ | 2, _ => exact ⟨(s.2.1 16 (by decide)).1, s.2.2 (16, 0, 17) (List.mem_of_getElem? (i := 39) rfl), s.2.2 (16, 1, 18) (List.mem_of_getElem? (i := 40) rfl), (s.2.1 17 (by decide)).1, (s.2.1 17 (by decide)).2, (s.2.1 18 (by decide)).1, (s.2.1 18 (by decide)).2⟩ | 3, _ => exact ⟨(s.2.1 19 (by decide)).1, s.2.2 (19, 0, 20) (List.mem_of_getElem? (i := 41) rfl), s.2.2 (19, 1, 21) (List.mem_of_getElem? (i := 42) rfl), (s.2.1 20 (by decide)).1, (s.2.1 20 (by decide)).2, (s.2.1 21 (by decide)).1, (s.2.1 21 (by decide)).2⟩ | 4, _ => exact ⟨(s.2.1 22 (by decide)).1, s.2.2 (22, 0, 23) (List.mem_of_getElem? (i := 43) rfl), s.2.2 (22, 1, 24) (List.mem_of_getElem? (i := 44) rfl), (s.2.1 23 (by decide)).1, (s.2.1 23 (by decide)).2, (s.2.1 24 (by decide)).1, (s.2.1 24 (by decide)).2⟩ | 5, _ => exact ⟨(s.2.1 25 (by decide)).1, s.2.2 (25, 0, 26) (List.mem_of_getElem? (i := 45) rfl), s.2.2 (25, 1, 27) (List.mem_of_getElem? (i := 46) rfl), (s.2.1 26 (by decide)).1, (s.2.1 26 (by decide)).2, (s.2.1 27 (by decide)).1, (s.2.1 27 (by decide)).2⟩ | 6, _ => exact ⟨(s.2.1 28 (by decide)).1, s.2.2 (28, 0, 29) (List.mem_of_getElem? (i := 47) rfl), s.2.2 (28, 1, 30) (List.mem_of_getElem? (i := 48) rfl), (s.2.1 29 (by decide)).1, (s.2.1 29 (by decide)).2, (s.2.1 30 (by decide)).1, (s.2.1 30 (by decide)).2⟩ | 7, _ => exact ⟨(s.2.1 31 (by decide)).1, s.2.2 (31, 0, 32) (List.mem_of_getElem? (i := 49) rfl), s.2.2 (31, 1, 33) (List.mem_of_getElem? (i := 50) rfl), (s.2.1 32 (by decide)).1, (s.2.1 32 (by decide)).2, (s.2.1 33 (by decide)).1, (s.2.1 33 (by decide)).2⟩ | 8, _ => exact ⟨(s.2.1 34 (by decide)).1, s.2.2 (34, 0, 35) (List.mem_of_getElem? (i := 51) rfl), s.2.2 (34, 1, 36) (List.mem_of_getElem? (i := 52) rfl), (s.2.1 35 (by decide)).1, (s.2.1 35 (by decide)).2, (s.2.1 36 (by decide)).1, (s.2.1 36 (by decide)).2⟩ | 9, _ => exact ⟨(s.2.1 37 (by decide)).1, s.2.2 (37, 0, 38) (List.mem_of_getElem? (i := 53) rfl), s.2.2 (37, 1, 39) (List.mem_of_getElem? (i := 54) rfl), (s.2.1 38 (by decide)).1, (s.2.1 38 (by decide)).2, (s.2.1 39 (by decide)).1, (s.2.1 39 (by decide)).2⟩,
  fun i hi => by match i, hi with | 0, _ => exact ⟨(s.2.1 40 (by decide)).1, s.2.2 (40, 0, 41) (List.mem_of_getElem? (i := 55) rfl), s.2.2 (40, 1, 42) (List.mem_of_getElem? (i := 56) rfl), (s.2.1 41 (by decide)).1, (s.2.1 41 (by decide)).2, (s.2.1 42 (by decide)).1, (s.2.1 42 (by decide)).2⟩ | 1, _ => exact ⟨(s.2.1 43 (by decide)).1, s.2.2 (43, 0, 44) (List.mem_of_getElem? (i := 57) rfl), s.2.2 (43, 1, 45) (List.mem_of_getElem? (i := 58) rfl), (s.2.1 44 (by decide)).1, (s.2.1 44 (by decide)).2, (s.2.1 45 (by decide)).1, (s.2.1 45 (by decide)).2⟩ | 2, _ => exact ⟨(s.2.1 46 (by decide)).1, s.2.2 (46, 0, 47) (List.mem_of_getElem? (i := 59) rfl), s.2.2 (46, 1, 48) (List.mem_of_getElem? (i := 60) rfl), (s.2.1 47 (by decide)).1, (s.2.1 47 (by decide)).2, (s.2.1 48 (by decide)).1, (s.2.1 48 (by decide)).2⟩ | 3, _ => exact ⟨(s.2.1 49 (by decide)).1, s.2.2 (49, 0, 50) (List.mem_of_getElem? (i := 61) rfl), s.2.2 (49, 1, 51) (List.mem_of_getElem? (i := 62) rfl), (s.2.1 50 (by decide)).1, (s.2.1 50 (by decide)).2, (s.2.1 51 (by decide)).1, (s.2.1 51 (by decide)).2⟩ | 4, _ => exact ⟨(s.2.1 52 (by decide)).1, s.2.2 (52, 0, 53) (List.mem_of_getElem? (i := 63) rfl), s.2.2 (52, 1, 54) (List.mem_of_getElem? (i := 64) rfl), (s.2.1 53 (by decide)).1, (s.2.1 53 (by decide)).2, (s.2.1 54 (by decide)).1, (s.2.1 54 (by decide)).2⟩ | 5, _ => exact ⟨(s.2.1 55 (by decide)).1, s.2.2 (55, 0, 56) (List.mem_of_getElem? (i := 65) rfl), s.2.2 (55, 1, 57) (List.mem_of_getElem? (i := 66) rfl), (s.2.1 56 (by decide)).1, (s.2.1 56 (by decide)).2, (s.2.1 57 (by decide)).1, (s.2.1 57 (by decide)).2⟩⟩
theorem SG.b2 {h : AH} (s : SG h) : BS h 63 := ⟨by decide, by decide, (s.2.1 63 (by decide)).1, s.2.2 (63, 7, 64) (List.mem_of_getElem? (i := 70) rfl), s.2.2 (63, 8, 65) (List.mem_of_getElem? (i := 71) rfl), s.2.2 (63, 9, 66) (List.mem_of_getElem? (i := 72) rfl), s.2.2 (63, 10, 67) (List.mem_of_getElem? (i := 73) rfl), s.2.2 (63, 11, 68) (List.mem_of_getElem? (i := 74) rfl), s.2.2 (63, 12, 69) (List.mem_of_getElem? (i := 75) rfl), s.2.2 (63, 13, 70) (List.mem_of_getElem? (i := 76) rfl), (s.2.1 64 (by decide)).1, (s.2.1 65 (by decide)).1, (s.2.1 66 (by decide)).1, (s.2.1 67 (by decide)).1, (s.2.1 68 (by decide)).1, (s.2.1 69 (by decide)).1, (s.2.1 70 (by decide)).1, (s.2.1 64 (by decide)).2, (s.2.1 65 (by decide)).2, (s.2.1 66 (by decide)).2, (s.2.1 67 (by decide)).2, (s.2.1 68 (by decide)).2, (s.2.1 69 (by decide)).2, (s.2.1 70 (by decide)).2,
  fun i hi => by match i, hi with | 0, _ => exact s.2.2 (67, 0, 71) (List.mem_of_getElem? (i := 77) rfl) | 1, _ => exact s.2.2 (67, 1, 74) (List.mem_of_getElem? (i := 78) rfl) | 2, _ => exact s.2.2 (67, 2, 77) (List.mem_of_getElem? (i := 79) rfl) | 3, _ => exact s.2.2 (67, 3, 80) (List.mem_of_getElem? (i := 80) rfl) | 4, _ => exact s.2.2 (67, 4, 83) (List.mem_of_getElem? (i := 81) rfl) | 5, _ => exact s.2.2 (67, 5, 86) (List.mem_of_getElem? (i := 82) rfl) | 6, _ => exact s.2.2 (67, 6, 89) (List.mem_of_getElem? (i := 83) rfl) | 7, _ => exact s.2.2 (67, 7, 92) (List.mem_of_getElem? (i := 84) rfl) | 8, _ => exact s.2.2 (67, 8, 95) (List.mem_of_getElem? (i := 85) rfl) | 9, _ => exact s.2.2 (67, 9, 98) (List.mem_of_getElem? (i := 86) rfl),
  fun i hi => by match i, hi with | 0, _ => exact s.2.2 (68, 0, 101) (List.mem_of_getElem? (i := 87) rfl) | 1, _ => exact s.2.2 (68, 1, 104) (List.mem_of_getElem? (i := 88) rfl) | 2, _ => exact s.2.2 (68, 2, 107) (List.mem_of_getElem? (i := 89) rfl) | 3, _ => exact s.2.2 (68, 3, 110) (List.mem_of_getElem? (i := 90) rfl) | 4, _ => exact s.2.2 (68, 4, 113) (List.mem_of_getElem? (i := 91) rfl) | 5, _ => exact s.2.2 (68, 5, 116) (List.mem_of_getElem? (i := 92) rfl),
  fun i hi => by match i, hi with | 0, _ => exact ⟨(s.2.1 71 (by decide)).1, s.2.2 (71, 0, 72) (List.mem_of_getElem? (i := 93) rfl), s.2.2 (71, 1, 73) (List.mem_of_getElem? (i := 94) rfl), (s.2.1 72 (by decide)).1, (s.2.1 72 (by decide)).2, (s.2.1 73 (by decide)).1, (s.2.1 73 (by decide)).2⟩ | 1, _ => exact ⟨(s.2.1 74 (by decide)).1, s.2.2 (74, 0, 75) (List.mem_of_getElem? (i := 95) rfl), s.2.2 (74, 1, 76) (List.mem_of_getElem? (i := 96) rfl), (s.2.1 75 (by decide)).1, (s.2.1 75 (by decide)).2, (s.2.1 76 (by decide)).1, (s.2.1 76 (by decide)).2⟩ | 2, _ => exact ⟨(s.2.1 77 (by decide)).1, s.2.2 (77, 0, 78) (List.mem_of_getElem? (i := 97) rfl), s.2.2 (77, 1, 79) (List.mem_of_getElem? (i := 98) rfl), (s.2.1 78 (by decide)).1, (s.2.1 78 (by decide)).2, (s.2.1 79 (by decide)).1, (s.2.1 79 (by decide)).2⟩ | 3, _ => exact ⟨(s.2.1 80 (by decide)).1, s.2.2 (80, 0, 81) (List.mem_of_getElem? (i := 99) rfl), s.2.2 (80, 1, 82) (List.mem_of_getElem? (i := 100) rfl), (s.2.1 81 (by decide)).1, (s.2.1 81 (by decide)).2, (s.2.1 82 (by decide)).1, (s.2.1 82 (by decide)).2⟩ | 4, _ => exact ⟨(s.2.1 83 (by decide)).1, s.2.2 (83, 0, 84) (List.mem_of_getElem? (i := 101) rfl), s.2.2 (83, 1, 85) (List.mem_of_getElem? (i := 102) rfl), (s.2.1 84 (by decide)).1, (s.2.1 84 (by decide)).2, (s.2.1 85 (by decide)).1, (s.2.1 85 (by decide)).2⟩ | 5, _ => exact ⟨(s.2.1 86 (by decide)).1, s.2.2 (86, 0, 87) (List.mem_of_getElem? (i := 103) rfl), s.2.2 (86, 1, 88) (List.mem_of_getElem? (i := 104) rfl), (s.2.1 87 (by decide)).1, (s.2.1 87 (by decide)).2, (s.2.1 88 (by decide)).1, (s.2.1 88 (by decide)).2⟩ | 6, _ => exact ⟨(s.2.1 89 (by decide)).1, s.2.2 (89, 0, 90) (List.mem_of_getElem? (i := 105) rfl), s.2.2 (89, 1, 91) (List.mem_of_getElem? (i := 106) rfl), (s.2.1 90 (by decide)).1, (s.2.1 90 (by decide)).2, (s.2.1 91 (by decide)).1, (s.2.1 91 (by decide)).2⟩ | 7, _ => exact ⟨(s.2.1 92 (by decide)).1, s.2.2 (92, 0, 93) (List.mem_of_getElem? (i := 107) rfl), s.2.2 (92, 1, 94) (List.mem_of_getElem? (i := 108) rfl), (s.2.1 93 (by decide)).1, (s.2.1 93 (by decide)).2, (s.2.1 94 (by decide)).1, (s.2.1 94 (by decide)).2⟩ | 8, _ => exact ⟨(s.2.1 95 (by decide)).1, s.2.2 (95, 0, 96) (List.mem_of_getElem? (i := 109) rfl), s.2.2 (95, 1, 97) (List.mem_of_getElem? (i := 110) rfl), (s.2.1 96 (by decide)).1, (s.2.1 96 (by decide)).2, (s.2.1 97 (by decide)).1, (s.2.1 97 (by decide)).2⟩ | 9, _ => exact ⟨(s.2.1 98 (by decide)).1, s.2.2 (98, 0, 99) (List.mem_of_getElem? (i := 111) rfl), s.2.2 (98, 1, 100) (List.mem_of_getElem? (i := 112) rfl), (s.2.1 99 (by decide)).1, (s.2.1 99 (by decide)).2, (s.2.1 100 (by decide)).1, (s.2.1 100 (by decide)).2⟩,
  fun i hi => by match i, hi with | 0, _ => exact ⟨(s.2.1 101 (by decide)).1, s.2.2 (101, 0, 102) (List.mem_of_getElem? (i := 113) rfl), s.2.2 (101, 1, 103) (List.mem_of_getElem? (i := 114) rfl), (s.2.1 102 (by decide)).1, (s.2.1 102 (by decide)).2, (s.2.1 103 (by decide)).1, (s.2.1 103 (by decide)).2⟩ | 1, _ => exact ⟨(s.2.1 104 (by decide)).1, s.2.2 (104, 0, 105) (List.mem_of_getElem? (i := 115) rfl), s.2.2 (104, 1, 106) (List.mem_of_getElem? (i := 116) rfl), (s.2.1 105 (by decide)).1, (s.2.1 105 (by decide)).2, (s.2.1 106 (by decide)).1, (s.2.1 106 (by decide)).2⟩ | 2, _ => exact ⟨(s.2.1 107 (by decide)).1, s.2.2 (107, 0, 108) (List.mem_of_getElem? (i := 117) rfl), s.2.2 (107, 1, 109) (List.mem_of_getElem? (i := 118) rfl), (s.2.1 108 (by decide)).1, (s.2.1 108 (by decide)).2, (s.2.1 109 (by decide)).1, (s.2.1 109 (by decide)).2⟩ | 3, _ => exact ⟨(s.2.1 110 (by decide)).1, s.2.2 (110, 0, 111) (List.mem_of_getElem? (i := 119) rfl), s.2.2 (110, 1, 112) (List.mem_of_getElem? (i := 120) rfl), (s.2.1 111 (by decide)).1, (s.2.1 111 (by decide)).2, (s.2.1 112 (by decide)).1, (s.2.1 112 (by decide)).2⟩ | 4, _ => exact ⟨(s.2.1 113 (by decide)).1, s.2.2 (113, 0, 114) (List.mem_of_getElem? (i := 121) rfl), s.2.2 (113, 1, 115) (List.mem_of_getElem? (i := 122) rfl), (s.2.1 114 (by decide)).1, (s.2.1 114 (by decide)).2, (s.2.1 115 (by decide)).1, (s.2.1 115 (by decide)).2⟩ | 5, _ => exact ⟨(s.2.1 116 (by decide)).1, s.2.2 (116, 0, 117) (List.mem_of_getElem? (i := 123) rfl), s.2.2 (116, 1, 118) (List.mem_of_getElem? (i := 124) rfl), (s.2.1 117 (by decide)).1, (s.2.1 117 (by decide)).2, (s.2.1 118 (by decide)).1, (s.2.1 118 (by decide)).2⟩⟩
