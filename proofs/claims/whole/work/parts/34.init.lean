/-! The state that the law's first rows leave, made nice; shapes printed by wip/gen/initst.py. -/
def sh1 : List s_K := [.inr (99, 0), .inl 5, .inl 9, .inr (0, 12), .inr (0, 12), .inr (0, 144), .inl 7, .inr (0, 16), .inr (0, 16), .inr (0, 16), .inr (0, 16), .inr (3, 6), .inr (6, 2), .inl 8, .inr (4, 16), .inr (0, 4), .inr (1, 4), .inl 1, .inl 1, .inl 1, .inl 1, .inl 1, .inl 1, .inl 1, .inl 1, .inl 1, .inl 1, .inl 1, .inl 1, .inl 1, .inl 1, .inl 1, .inl 1, .inl 6, .inr (5, 49), .inl 2, .inl 1, .inl 2, .inl 1, .inl 2, .inl 1, .inl 2, .inl 1, .inl 2, .inl 1, .inl 2, .inl 1, .inl 2, .inl 1, .inl 2, .inl 1, .inl 2, .inl 1, .inl 2, .inl 1, .inl 2, .inl 1, .inl 2, .inl 1, .inl 2, .inl 1, .inl 2, .inl 1, .inl 2, .inl 1, .inl 2, .inl 1, .inl 2, .inl 1, .inl 2, .inl 1, .inl 2, .inl 1, .inl 2, .inl 1, .inl 2, .inl 1, .inl 2, .inl 1, .inl 2, .inl 1, .inl 2, .inl 1, .inl 2, .inl 1, .inl 2, .inl 1, .inl 2, .inl 1, .inl 2, .inl 1, .inl 2, .inl 1, .inl 2, .inl 1, .inl 2, .inl 1, .inl 2, .inl 1, .inl 2, .inl 1, .inl 2, .inl 1, .inl 2, .inl 1, .inl 2, .inl 1, .inl 2, .inl 1, .inl 2, .inl 1, .inl 2, .inl 1, .inl 2, .inl 1, .inl 2, .inl 1, .inl 2, .inl 1, .inl 2, .inl 1, .inl 2, .inl 1, .inl 2, .inl 1, .inl 2, .inl 1, .inl 2, .inl 1, .inl 2, .inl 1, .inl 2, .inl 1, .inl 2, .inl 1, .inl 0, .inl 0, .inl 0, .inl 0, .inl 0, .inl 0, .inl 3, .inr (0, 4), .inr (4, 16), .inr (2, 16), .inr (7, 6), .inr (1, 4), .inr (0, 4), .inl 1, .inl 1, .inl 1, .inl 1, .inl 1, .inl 1, .inl 1, .inl 1, .inl 1, .inl 1, .inl 1, .inl 1, .inl 1, .inl 1, .inl 1, .inl 1, .inl 4, .inl 4, .inl 4, .inl 4, .inl 4, .inl 4, .inl 3, .inr (0, 4), .inr (4, 16), .inr (2, 16), .inr (7, 6), .inr (1, 4), .inr (0, 4), .inl 1, .inl 1, .inl 1, .inl 1, .inl 1, .inl 1, .inl 1, .inl 1, .inl 1, .inl 1, .inl 1, .inl 1, .inl 1, .inl 1, .inl 1, .inl 1, .inl 4, .inl 4, .inl 4, .inl 4, .inl 4, .inl 4, .inl 10, .inr (0, 144), .inr (0, 12), .inr (0, 12), .inr (0, 16), .inr (0, 16), .inr (0, 16), .inr (0, 16), .inr (0, 16), .inr (0, 6), .inr (0, 6), .inr (0, 6), .inr (0, 6), .inr (0, 6), .inr (0, 6), .inr (0, 6), .inr (1, 3), .inr (0, 3), .inr (2, 3), .inr (0, 4), .inr (0, 4), .inr (1, 4), .inr (0, 8), .inr (0, 8), .inr (1, 8), .inr (0, 2), .inr (2, 48), .inr (0, 48), .inr (0, 48), .inr (0, 48), .inr (0, 48), .inr (0, 48), .inr (0, 48), .inr (0, 48), .inr (0, 48), .inr (0, 48), .inr (2, 48), .inr (2, 12), .inr (0, 12), .inr (0, 12), .inr (0, 12), .inr (0, 12), .inr (2, 12), .inr (0, 49), .inr (0, 49), .inr (0, 49), .inr (0, 49), .inr (0, 49), .inr (0, 49), .inr (0, 49), .inr (0, 49), .inr (0, 49), .inr (0, 49), .inr (0, 49), .inr (0, 49), .inr (0, 49), .inr (1, 49), .inr (1, 1)]
/-- the references: all but the letters' places (w) and the removed letter (rem) stay as they are made -/
def kR (w : Nat → Nat) (rem : Nat) (a k : Nat) : Nat := match a with
  | 1 => [2, 6, 11, 12, 13, 33].getD k 0
  | 2 => [3, 4, 5].getD k 0
  | 6 => [7, 8, 9, 10].getD k 0
  | 11 => if k < 6 then 135 + k else 0
  | 12 => if k < 2 then 141 + 29 * k else 0
  | 13 => [0, 14, 15, 16].getD k 0
  | 14 => if k < 16 then 17 + k else 0
  | 33 => if k = 0 then 34 else if k = 2 then rem else 0
  | 34 => w k
  | 199 => [200, 0, 201, 202, 203, 204, 205, 206, 207, 208, 209, 210, 211, 212, 213, 214, 215, 216, 217, 218, 219, 220, 0, 221, 222, 223, 224, 225, 226, 227, 228, 229, 230, 231, 232, 233, 234, 235, 236, 237, 238, 239, 240, 241, 0, 242, 243, 244, 245, 246, 247, 248, 249, 250, 251, 252, 253, 254, 255, 0].getD k 0
  | a => if a = 141 ∨ a = 170 then (if 4 ≤ k ∧ k < 10 then a + k - 3 else 0) else if a = 143 ∨ a = 172 then (if k < 16 then a + 5 + k else 0) else if a = 145 ∨ a = 174 then (if k < 6 then a + 19 + k else 0) else if 35 ≤ a ∧ a < 135 ∧ a % 2 = 1 ∧ k = 10 then a + 1 else 0
def k_w0 : Nat → Nat := fun k => if k < 49 then 37 + 2 * k else 0
def f_2 : f_M := (199, [.inl 4, .inl 4, .inl 4, .inl 4, .inl 4, .inl 4, .inl 1, .inl 1, .inl 1, .inl 1, .inl 1, .inl 1, .inl 1, .inl 1, .inl 1, .inl 1, .inl 1, .inl 1, .inl 1, .inl 1, .inl 1, .inl 1, .inr (0, 4), .inr (1, 4), .inr (7, 6), .inr (2, 16), .inr (4, 16), .inr (0, 4), .inl 3, .inl 4, .inl 4, .inl 4, .inl 4, .inl 4, .inl 4, .inl 1, .inl 1, .inl 1, .inl 1, .inl 1, .inl 1, .inl 1, .inl 1, .inl 1, .inl 1, .inl 1, .inl 1, .inl 1, .inl 1, .inl 1, .inl 1, .inr (0, 4), .inr (1, 4), .inr (7, 6), .inr (2, 16), .inr (4, 16), .inr (0, 4), .inl 3, .inl 0, .inl 0, .inl 0, .inl 0, .inl 0, .inl 0, .inl 1, .inl 2, .inl 1, .inl 2, .inl 1, .inl 2, .inl 1, .inl 2, .inl 1, .inl 2, .inl 1, .inl 2, .inl 1, .inl 2, .inl 1, .inl 2, .inl 1, .inl 2, .inl 1, .inl 2, .inl 1, .inl 2, .inl 1, .inl 2, .inl 1, .inl 2, .inl 1, .inl 2, .inl 1, .inl 2, .inl 1, .inl 2, .inl 1, .inl 2, .inl 1, .inl 2, .inl 1, .inl 2, .inl 1, .inl 2, .inl 1, .inl 2, .inl 1, .inl 2, .inl 1, .inl 2, .inl 1, .inl 2, .inl 1, .inl 2, .inl 1, .inl 2, .inl 1, .inl 2, .inl 1, .inl 2, .inl 1, .inl 2, .inl 1, .inl 2, .inl 1, .inl 2, .inl 1, .inl 2, .inl 1, .inl 2, .inl 1, .inl 2, .inl 1, .inl 2, .inl 1, .inl 2, .inl 1, .inl 2, .inl 1, .inl 2, .inl 1, .inl 2, .inl 1, .inl 2, .inl 1, .inl 2, .inl 1, .inl 2, .inl 1, .inl 2, .inl 1, .inl 2, .inl 1, .inl 2, .inl 1, .inl 2, .inl 1, .inl 2, .inl 1, .inl 2, .inl 1, .inl 2, .inl 1, .inl 2, .inr (5, 49), .inl 6, .inl 1, .inl 1, .inl 1, .inl 1, .inl 1, .inl 1, .inl 1, .inl 1, .inl 1, .inl 1, .inl 1, .inl 1, .inl 1, .inl 1, .inl 1, .inl 1, .inr (1, 4), .inr (0, 4), .inr (4, 16), .inl 8, .inr (6, 2), .inr (3, 6), .inr (0, 16), .inr (0, 16), .inr (0, 16), .inr (0, 16), .inl 7, .inr (0, 144), .inr (0, 12), .inr (0, 12), .inl 9, .inl 5, .inr (99, 0)], [(170, 1, 50), (141, 1, 50), (140, 4, -1), (140, 0, 0), (139, 4, -1), (139, 0, 0), (138, 4, -1), (138, 0, 0), (137, 4, -1), (137, 0, 0), (136, 4, -1), (136, 0, 0), (135, 4, -1), (135, 0, 0), (15, 3, -1), (15, 2, -1), (15, 1, -1), (15, 0, -1), (9, 15, 1), (9, 14, 1), (9, 13, 1), (9, 12, 1), (9, 11, 1), (9, 10, 1), (9, 9, 1), (9, 8, 1), (9, 7, 1), (9, 6, 1), (9, 5, 1), (9, 4, 1), (9, 3, 1), (9, 2, 1), (9, 1, 1), (9, 0, 1)], [(12, 1, 170), (174, 5, 198), (174, 4, 197), (174, 3, 196), (174, 2, 195), (174, 1, 194), (174, 0, 193), (172, 15, 192), (172, 14, 191), (172, 13, 190), (172, 12, 189), (172, 11, 188), (172, 10, 187), (172, 9, 186), (172, 8, 185), (172, 7, 184), (172, 6, 183), (172, 5, 182), (172, 4, 181), (172, 3, 180), (172, 2, 179), (172, 1, 178), (172, 0, 177), (170, 9, 176), (170, 8, 175), (170, 7, 174), (170, 6, 173), (170, 5, 172), (170, 4, 171), (12, 0, 141), (145, 5, 169), (145, 4, 168), (145, 3, 167), (145, 2, 166), (145, 1, 165), (145, 0, 164), (143, 15, 163), (143, 14, 162), (143, 13, 161), (143, 12, 160), (143, 11, 159), (143, 10, 158), (143, 9, 157), (143, 8, 156), (143, 7, 155), (143, 6, 154), (143, 5, 153), (143, 4, 152), (143, 3, 151), (143, 2, 150), (143, 1, 149), (143, 0, 148), (141, 9, 147), (141, 8, 146), (141, 7, 145), (141, 6, 144), (141, 5, 143), (141, 4, 142), (11, 5, 140), (11, 4, 139), (11, 3, 138), (11, 2, 137), (11, 1, 136), (11, 0, 135), (1, 5, 33), (34, 48, 133), (133, 10, 134), (34, 47, 131), (131, 10, 132), (34, 46, 129), (129, 10, 130), (34, 45, 127), (127, 10, 128), (34, 44, 125), (125, 10, 126), (34, 43, 123), (123, 10, 124), (34, 42, 121), (121, 10, 122), (34, 41, 119), (119, 10, 120), (34, 40, 117), (117, 10, 118), (34, 39, 115), (115, 10, 116), (34, 38, 113), (113, 10, 114), (34, 37, 111), (111, 10, 112), (34, 36, 109), (109, 10, 110), (34, 35, 107), (107, 10, 108), (34, 34, 105), (105, 10, 106), (34, 33, 103), (103, 10, 104), (34, 32, 101), (101, 10, 102), (34, 31, 99), (99, 10, 100), (34, 30, 97), (97, 10, 98), (34, 29, 95), (95, 10, 96), (34, 28, 93), (93, 10, 94), (34, 27, 91), (91, 10, 92), (34, 26, 89), (89, 10, 90), (34, 25, 87), (87, 10, 88), (34, 24, 85), (85, 10, 86), (34, 23, 83), (83, 10, 84), (34, 22, 81), (81, 10, 82), (34, 21, 79), (79, 10, 80), (34, 20, 77), (77, 10, 78), (34, 19, 75), (75, 10, 76), (34, 18, 73), (73, 10, 74), (34, 17, 71), (71, 10, 72), (34, 16, 69), (69, 10, 70), (34, 15, 67), (67, 10, 68), (34, 14, 65), (65, 10, 66), (34, 13, 63), (63, 10, 64), (34, 12, 61), (61, 10, 62), (34, 11, 59), (59, 10, 60), (34, 10, 57), (57, 10, 58), (34, 9, 55), (55, 10, 56), (34, 8, 53), (53, 10, 54), (34, 7, 51), (51, 10, 52), (34, 6, 49), (49, 10, 50), (34, 5, 47), (47, 10, 48), (34, 4, 45), (45, 10, 46), (34, 3, 43), (43, 10, 44), (34, 2, 41), (41, 10, 42), (34, 1, 39), (39, 10, 40), (34, 0, 37), (37, 10, 38), (33, 2, 35), (35, 10, 36), (33, 0, 34), (1, 4, 13), (14, 15, 32), (14, 14, 31), (14, 13, 30), (14, 12, 29), (14, 11, 28), (14, 10, 27), (14, 9, 26), (14, 8, 25), (14, 7, 24), (14, 6, 23), (14, 5, 22), (14, 4, 21), (14, 3, 20), (14, 2, 19), (14, 1, 18), (14, 0, 17), (13, 3, 16), (13, 2, 15), (13, 1, 14), (1, 3, 12), (1, 2, 11), (1, 1, 6), (6, 3, 10), (6, 2, 9), (6, 1, 8), (6, 0, 7), (1, 0, 2), (2, 2, 5), (2, 1, 4), (2, 0, 3)], [(170, 0, true), (141, 0, true)])
def f_4 : f_M := (256, [.inr (1, 49), .inr (0, 49), .inr (0, 49), .inr (0, 49), .inr (0, 49), .inr (0, 49), .inr (0, 49), .inr (0, 49), .inr (0, 49), .inr (0, 49), .inr (0, 49), .inr (0, 49), .inr (0, 49), .inr (0, 49), .inr (2, 12), .inr (0, 12), .inr (0, 12), .inr (0, 12), .inr (0, 12), .inr (2, 12), .inr (2, 48), .inr (0, 48), .inr (0, 48), .inr (0, 48), .inr (0, 48), .inr (0, 48), .inr (0, 48), .inr (0, 48), .inr (0, 48), .inr (0, 48), .inr (2, 48), .inr (0, 2), .inr (1, 8), .inr (0, 8), .inr (0, 8), .inr (1, 4), .inr (0, 4), .inr (0, 4), .inr (2, 3), .inr (0, 3), .inr (1, 3), .inr (0, 6), .inr (0, 6), .inr (0, 6), .inr (0, 6), .inr (0, 6), .inr (0, 6), .inr (0, 6), .inr (0, 16), .inr (0, 16), .inr (0, 16), .inr (0, 16), .inr (0, 16), .inr (0, 12), .inr (0, 12), .inr (0, 144), .inl 10, .inl 4, .inl 4, .inl 4, .inl 4, .inl 4, .inl 4, .inl 1, .inl 1, .inl 1, .inl 1, .inl 1, .inl 1, .inl 1, .inl 1, .inl 1, .inl 1, .inl 1, .inl 1, .inl 1, .inl 1, .inl 1, .inl 1, .inr (0, 4), .inr (1, 4), .inr (7, 6), .inr (2, 16), .inr (4, 16), .inr (0, 4), .inl 3, .inl 4, .inl 4, .inl 4, .inl 4, .inl 4, .inl 4, .inl 1, .inl 1, .inl 1, .inl 1, .inl 1, .inl 1, .inl 1, .inl 1, .inl 1, .inl 1, .inl 1, .inl 1, .inl 1, .inl 1, .inl 1, .inl 1, .inr (0, 4), .inr (1, 4), .inr (7, 6), .inr (2, 16), .inr (4, 16), .inr (0, 4), .inl 3, .inl 0, .inl 0, .inl 0, .inl 0, .inl 0, .inl 0, .inl 1, .inl 2, .inl 1, .inl 2, .inl 1, .inl 2, .inl 1, .inl 2, .inl 1, .inl 2, .inl 1, .inl 2, .inl 1, .inl 2, .inl 1, .inl 2, .inl 1, .inl 2, .inl 1, .inl 2, .inl 1, .inl 2, .inl 1, .inl 2, .inl 1, .inl 2, .inl 1, .inl 2, .inl 1, .inl 2, .inl 1, .inl 2, .inl 1, .inl 2, .inl 1, .inl 2, .inl 1, .inl 2, .inl 1, .inl 2, .inl 1, .inl 2, .inl 1, .inl 2, .inl 1, .inl 2, .inl 1, .inl 2, .inl 1, .inl 2, .inl 1, .inl 2, .inl 1, .inl 2, .inl 1, .inl 2, .inl 1, .inl 2, .inl 1, .inl 2, .inl 1, .inl 2, .inl 1, .inl 2, .inl 1, .inl 2, .inl 1, .inl 2, .inl 1, .inl 2, .inl 1, .inl 2, .inl 1, .inl 2, .inl 1, .inl 2, .inl 1, .inl 2, .inl 1, .inl 2, .inl 1, .inl 2, .inl 1, .inl 2, .inl 1, .inl 2, .inl 1, .inl 2, .inl 1, .inl 2, .inl 1, .inl 2, .inl 1, .inl 2, .inl 1, .inl 2, .inl 1, .inl 2, .inl 1, .inl 2, .inr (5, 49), .inl 6, .inl 1, .inl 1, .inl 1, .inl 1, .inl 1, .inl 1, .inl 1, .inl 1, .inl 1, .inl 1, .inl 1, .inl 1, .inl 1, .inl 1, .inl 1, .inl 1, .inr (1, 4), .inr (0, 4), .inr (4, 16), .inl 8, .inr (6, 2), .inr (3, 6), .inr (0, 16), .inr (0, 16), .inr (0, 16), .inr (0, 16), .inl 7, .inr (0, 144), .inr (0, 12), .inr (0, 12), .inl 9, .inl 5, .inr (99, 0)], [(218, 3, -1), (218, 2, -1), (218, 1, -1), (218, 0, -1), (216, 2, 50), (216, 1, 50), (216, 0, 50), (211, 5, -1), (211, 4, -1), (211, 3, -1), (211, 2, -1), (211, 1, -1), (211, 0, -1), (203, 15, 1), (203, 14, 1), (203, 13, 1), (203, 12, 1), (203, 11, 1), (203, 10, 1), (203, 9, 1), (203, 8, 1), (203, 7, 1), (203, 6, 1), (203, 5, 1), (203, 4, 1), (203, 3, 1), (203, 2, 1), (203, 1, 1), (203, 0, 1), (170, 1, 50), (141, 1, 50), (140, 4, -1), (140, 0, 0), (139, 4, -1), (139, 0, 0), (138, 4, -1), (138, 0, 0), (137, 4, -1), (137, 0, 0), (136, 4, -1), (136, 0, 0), (135, 4, -1), (135, 0, 0), (15, 3, -1), (15, 2, -1), (15, 1, -1), (15, 0, -1), (9, 15, 1), (9, 14, 1), (9, 13, 1), (9, 12, 1), (9, 11, 1), (9, 10, 1), (9, 9, 1), (9, 8, 1), (9, 7, 1), (9, 6, 1), (9, 5, 1), (9, 4, 1), (9, 3, 1), (9, 2, 1), (9, 1, 1), (9, 0, 1)], [(199, 58, 255), (199, 57, 254), (199, 56, 253), (199, 55, 252), (199, 54, 251), (199, 53, 250), (199, 52, 249), (199, 51, 248), (199, 50, 247), (199, 49, 246), (199, 48, 245), (199, 47, 244), (199, 46, 243), (199, 45, 242), (199, 43, 241), (199, 42, 240), (199, 41, 239), (199, 40, 238), (199, 39, 237), (199, 38, 236), (199, 37, 235), (199, 36, 234), (199, 35, 233), (199, 34, 232), (199, 33, 231), (199, 32, 230), (199, 31, 229), (199, 30, 228), (199, 29, 227), (199, 28, 226), (199, 27, 225), (199, 26, 224), (199, 25, 223), (199, 24, 222), (199, 23, 221), (199, 21, 220), (199, 20, 219), (199, 19, 218), (199, 18, 217), (199, 17, 216), (199, 16, 215), (199, 15, 214), (199, 14, 213), (199, 13, 212), (199, 12, 211), (199, 11, 210), (199, 10, 209), (199, 9, 208), (199, 8, 207), (199, 7, 206), (199, 6, 205), (199, 5, 204), (199, 4, 203), (199, 3, 202), (199, 2, 201), (199, 0, 200), (12, 1, 170), (174, 5, 198), (174, 4, 197), (174, 3, 196), (174, 2, 195), (174, 1, 194), (174, 0, 193), (172, 15, 192), (172, 14, 191), (172, 13, 190), (172, 12, 189), (172, 11, 188), (172, 10, 187), (172, 9, 186), (172, 8, 185), (172, 7, 184), (172, 6, 183), (172, 5, 182), (172, 4, 181), (172, 3, 180), (172, 2, 179), (172, 1, 178), (172, 0, 177), (170, 9, 176), (170, 8, 175), (170, 7, 174), (170, 6, 173), (170, 5, 172), (170, 4, 171), (12, 0, 141), (145, 5, 169), (145, 4, 168), (145, 3, 167), (145, 2, 166), (145, 1, 165), (145, 0, 164), (143, 15, 163), (143, 14, 162), (143, 13, 161), (143, 12, 160), (143, 11, 159), (143, 10, 158), (143, 9, 157), (143, 8, 156), (143, 7, 155), (143, 6, 154), (143, 5, 153), (143, 4, 152), (143, 3, 151), (143, 2, 150), (143, 1, 149), (143, 0, 148), (141, 9, 147), (141, 8, 146), (141, 7, 145), (141, 6, 144), (141, 5, 143), (141, 4, 142), (11, 5, 140), (11, 4, 139), (11, 3, 138), (11, 2, 137), (11, 1, 136), (11, 0, 135), (1, 5, 33), (34, 48, 133), (133, 10, 134), (34, 47, 131), (131, 10, 132), (34, 46, 129), (129, 10, 130), (34, 45, 127), (127, 10, 128), (34, 44, 125), (125, 10, 126), (34, 43, 123), (123, 10, 124), (34, 42, 121), (121, 10, 122), (34, 41, 119), (119, 10, 120), (34, 40, 117), (117, 10, 118), (34, 39, 115), (115, 10, 116), (34, 38, 113), (113, 10, 114), (34, 37, 111), (111, 10, 112), (34, 36, 109), (109, 10, 110), (34, 35, 107), (107, 10, 108), (34, 34, 105), (105, 10, 106), (34, 33, 103), (103, 10, 104), (34, 32, 101), (101, 10, 102), (34, 31, 99), (99, 10, 100), (34, 30, 97), (97, 10, 98), (34, 29, 95), (95, 10, 96), (34, 28, 93), (93, 10, 94), (34, 27, 91), (91, 10, 92), (34, 26, 89), (89, 10, 90), (34, 25, 87), (87, 10, 88), (34, 24, 85), (85, 10, 86), (34, 23, 83), (83, 10, 84), (34, 22, 81), (81, 10, 82), (34, 21, 79), (79, 10, 80), (34, 20, 77), (77, 10, 78), (34, 19, 75), (75, 10, 76), (34, 18, 73), (73, 10, 74), (34, 17, 71), (71, 10, 72), (34, 16, 69), (69, 10, 70), (34, 15, 67), (67, 10, 68), (34, 14, 65), (65, 10, 66), (34, 13, 63), (63, 10, 64), (34, 12, 61), (61, 10, 62), (34, 11, 59), (59, 10, 60), (34, 10, 57), (57, 10, 58), (34, 9, 55), (55, 10, 56), (34, 8, 53), (53, 10, 54), (34, 7, 51), (51, 10, 52), (34, 6, 49), (49, 10, 50), (34, 5, 47), (47, 10, 48), (34, 4, 45), (45, 10, 46), (34, 3, 43), (43, 10, 44), (34, 2, 41), (41, 10, 42), (34, 1, 39), (39, 10, 40), (34, 0, 37), (37, 10, 38), (33, 2, 35), (35, 10, 36), (33, 0, 34), (1, 4, 13), (14, 15, 32), (14, 14, 31), (14, 13, 30), (14, 12, 29), (14, 11, 28), (14, 10, 27), (14, 9, 26), (14, 8, 25), (14, 7, 24), (14, 6, 23), (14, 5, 22), (14, 4, 21), (14, 3, 20), (14, 2, 19), (14, 1, 18), (14, 0, 17), (13, 3, 16), (13, 2, 15), (13, 1, 14), (1, 3, 12), (1, 2, 11), (1, 1, 6), (6, 3, 10), (6, 2, 9), (6, 1, 8), (6, 0, 7), (1, 0, 2), (2, 2, 5), (2, 1, 4), (2, 0, 3)], [(170, 0, true), (141, 0, true)])
def f_5 : f_M := f_new f_4 (.inr (1, 1))
def k_I0 : Nat → Nat → Int32 := fun a k => f_get 0 a k f_4.2.2.1
def k_Z0 : Nat → Nat → Bool := fun a k => f_get false a k f_4.2.2.2.2
def k_s1 : s_S := (k_I0, fun _ _ => 0, kR k_w0 35, k_Z0)
def f_eq1 : List s_K → List s_K → Bool
  | [], [] => true
  | .inl a :: r, .inl b :: t => Nat.beq a b && f_eq1 r t
  | .inr (a, n) :: r, .inr (b, m) :: t => (Nat.beq a b && Nat.beq n m) && f_eq1 r t
  | _, _ => false
def f_eq2 : List (Nat × Nat × Int32) → List (Nat × Nat × Int32) → Bool
  | [], [] => true
  | (a, k, x) :: r, (b, l, y) :: t => (Nat.beq a b && Nat.beq k l && decide (x = y)) && f_eq2 r t
  | _, _ => false
def f_eq3 : List (Nat × Nat × Nat) → List (Nat × Nat × Nat) → Bool
  | [], [] => true
  | (a, k, x) :: r, (b, l, y) :: t => (Nat.beq a b && Nat.beq k l && Nat.beq x y) && f_eq3 r t
  | _, _ => false
def f_eq4 : List (Nat × Nat × Bool) → List (Nat × Nat × Bool) → Bool
  | [], [] => true
  | (a, k, x) :: r, (b, l, y) :: t => (Nat.beq a b && Nat.beq k l && (x == y)) && f_eq4 r t
  | _, _ => false
theorem f_eq1_ok : ∀ l t, f_eq1 l t = true → l = t := by
  intro l
  induction l with
  | nil => intro t h; cases t with
    | nil => rfl
    | cons e r => cases e <;> simp [f_eq1] at h
  | cons e r ih =>
    intro t h
    cases t with
    | nil => rcases e with a | ⟨a, n⟩ <;> simp [f_eq1] at h
    | cons e' r' =>
      rcases e with a | ⟨a, n⟩ <;> rcases e' with b | ⟨b, m⟩ <;> simp only [f_eq1, Bool.and_eq_true] at h
      · rw [Nat.eq_of_beq_eq_true h.1, ih _ h.2]
      · cases h
      · cases h
      · rw [Nat.eq_of_beq_eq_true h.1.1, Nat.eq_of_beq_eq_true h.1.2, ih _ h.2]
theorem f_eq2_ok : ∀ l t, f_eq2 l t = true → l = t := by
  intro l
  induction l with
  | nil => intro t h; cases t with
    | nil => rfl
    | cons e r => simp [f_eq2] at h
  | cons e r ih =>
    intro t h
    cases t with
    | nil => simp [f_eq2] at h
    | cons e' r' =>
      obtain ⟨a, k, x⟩ := e
      obtain ⟨b, l, y⟩ := e'
      simp only [f_eq2, Bool.and_eq_true, decide_eq_true_eq] at h
      rw [Nat.eq_of_beq_eq_true h.1.1.1, Nat.eq_of_beq_eq_true h.1.1.2, h.1.2, ih _ h.2]
theorem f_eq3_ok : ∀ l t, f_eq3 l t = true → l = t := by
  intro l
  induction l with
  | nil => intro t h; cases t with
    | nil => rfl
    | cons e r => simp [f_eq3] at h
  | cons e r ih =>
    intro t h
    cases t with
    | nil => simp [f_eq3] at h
    | cons e' r' =>
      obtain ⟨a, k, x⟩ := e
      obtain ⟨b, l, y⟩ := e'
      simp only [f_eq3, Bool.and_eq_true] at h
      rw [Nat.eq_of_beq_eq_true h.1.1.1, Nat.eq_of_beq_eq_true h.1.1.2, Nat.eq_of_beq_eq_true h.1.2, ih _ h.2]
theorem f_eq4_ok : ∀ l t, f_eq4 l t = true → l = t := by
  intro l
  induction l with
  | nil => intro t h; cases t with
    | nil => rfl
    | cons e r => simp [f_eq4] at h
  | cons e r ih =>
    intro t h
    cases t with
    | nil => simp [f_eq4] at h
    | cons e' r' =>
      obtain ⟨a, k, x⟩ := e
      obtain ⟨b, l, y⟩ := e'
      simp only [f_eq4, Bool.and_eq_true, beq_iff_eq] at h
      rw [Nat.eq_of_beq_eq_true h.1.1.1, Nat.eq_of_beq_eq_true h.1.1.2, h.1.2, ih _ h.2]
def f_eq (o : Option f_M) (G : f_M) : Bool := match o with
  | none => false
  | some F => Nat.beq F.1 G.1 && f_eq1 F.2.1 G.2.1 && f_eq2 F.2.2.1 G.2.2.1 && f_eq3 F.2.2.2.1 G.2.2.2.1 && f_eq4 F.2.2.2.2 G.2.2.2.2
theorem f_eq_ok {o : Option f_M} {G : f_M} (h : f_eq o G = true) : o = some G := by
  cases o with
  | none => cases h
  | some F =>
    simp only [f_eq, Bool.and_eq_true] at h
    obtain ⟨⟨⟨⟨h1, h2⟩, h3⟩, h4⟩, h5⟩ := h
    obtain ⟨n, a, b, c, d⟩ := F
    obtain ⟨n', a', b', c', d'⟩ := G
    rw [show n = n' from Nat.eq_of_beq_eq_true h1, show a = a' from f_eq1_ok _ _ h2, show b = b' from f_eq2_ok _ _ h3, show c = c' from f_eq3_ok _ _ h4, show d = d' from f_eq4_ok _ _ h5]
theorem f_2ok : f_ex 4000 (k_t 0) (0, [(0, .ref 1)], [], f_1, 0, 0) = some f_2 := f_eq_ok (by decide +kernel)
theorem f_4ok : f_ex 4000 (k_t 104) (0, [(0, .ref 199)], [], f_new f_2 (.inl 10), 0, 0) = some f_4 := f_eq_ok (by decide +kernel)
def f_rs (e : s_K) (k : Nat) : Bool := match e with
  | .inl ci => f_ref ((k_ft ci).getD k .int)
  | .inr (t, _) => Nat.blt 2 t
def f_sz : s_K → Nat
  | .inl ci => (k_ft ci).length
  | .inr (_, n) => n
theorem f_5sh : f_5.2.1.reverse = sh1 := f_eq1_ok _ _ (by decide +kernel)
theorem f_5ok : (List.range 257).all (fun i => match sh1[i]? with
  | some e => (List.range (f_sz e)).all (fun k => cond (f_rs e k) (Nat.beq (f_get 0 i k f_4.2.2.2.1) (kR k_w0 35 i k)) true)
  | none => true) = true := by decide +kernel
theorem sh1_len : sh1.length = 257 := by decide +kernel
theorem arrV_ext {cA : ClassId} {n : Nat} {f g : Nat → Value} (h : ∀ j, j < n → f j = g j) : arrV cA n f = arrV cA n g := by
  unfold arrV
  congr 1
  apply Array.ext
  · simp
  · intro i h1 h2
    simp at h1
    simp [h i h1]
theorem s_e_ext {B : Nat} {dA : Nat → ClassId} {D : va_G} {cl : List vw_C} {q : Nat} {e : s_K} {ρ ρ' : s_R} {H : Heap} (hi : ρ.1 = ρ'.1) (hj : ρ.2.1 = ρ'.2.1) (hz : ρ.2.2.2 = ρ'.2.2.2) (h : ∀ j, j < f_sz e → f_rs e j = true → ρ.2.2.1 j = ρ'.2.2.1 j)
    (hok : ∀ ci, e = .inl ci → ci < k_no) (ha : va_at D cl (q, s_e B dA ρ e) H) : va_at D cl (q, s_e B dA ρ' e) H := by
  cases e with
  | inl ci =>
    have he : (k_ft ci).mapIdx (fun k ty => s_v B ρ k ty) = (k_ft ci).mapIdx (fun k ty => s_v B ρ' k ty) := by
      apply List.ext_getElem?
      intro j
      rw [List.getElem?_mapIdx, List.getElem?_mapIdx]
      cases hj' : (k_ft ci)[j]? with
      | none => rfl
      | some ty =>
        have hlt : j < (k_ft ci).length := (List.getElem?_eq_some_iff.mp hj').1
        have hty : (k_ft ci).getD j .int = ty := by rw [List.getD_eq_getElem?_getD, hj']; rfl
        have h1 := h j hlt
        have h2 := k_tyok ci (hok ci rfl) j hlt
        unfold f_rs at h1
        simp only [hty] at h1 h2
        show some (s_v B ρ j ty) = some (s_v B ρ' j ty)
        cases ty <;> first | (simp only [s_v, hi, hj, hz]; done) | (simp only [s_v]; rw [h1 rfl]; done) | (cases h2)
    have ha' : va_at D cl (q, .inr (ci, (k_ft ci).mapIdx (fun k ty => s_v B ρ k ty))) H := ha
    rw [he] at ha'
    exact ha'
  | inr tn =>
    obtain ⟨t, n⟩ := tn
    rcases t with _ | _ | _ | t
    · have ha' : H[q]? = some (arrV (dA 0) n (fun j => .int (ρ.1 j))) := ha
      rw [hi] at ha'
      exact ha'
    · have ha' : H[q]? = some (arrV (dA 1) n (fun j => .long (ρ.2.1 j))) := ha
      rw [hj] at ha'
      exact ha'
    · have ha' : H[q]? = some (arrV (dA 2) n (fun j => .int (s_b (ρ.2.2.2 j)))) := ha
      rw [hz] at ha'
      exact ha'
    · have ha' : H[q]? = some (arrV (dA (t + 3)) n (fun j => va_rf (s_r B (ρ.2.2.1 j)))) := ha
      have h1 : ∀ j, j < n → ρ.2.2.1 j = ρ'.2.2.1 j := fun j hj => h j hj (Nat.blt_eq.mpr (by omega))
      rw [arrV_ext (fun j hj => by rw [h1 j hj])] at ha'
      exact ha'
theorem sh1_ok : ∀ e ∈ sh1, (match e with
  | .inl ci => Nat.blt ci k_no
  | _ => true) = true := by decide +kernel
theorem k_switch {B b Ln : Nat} {xs : Nat → Int32} {dA : Nat → ClassId} {D : va_G} {M : s_M} {U : State} {H : Heap} (hI : k_I B b Ln xs dA D M U H) (hr : f_rep f_5 M) : k_I B b Ln xs dA D (sh1, 0, k_s1) U H := by
  obtain ⟨r1, r2, r3, r4, r5, r6, r7, -⟩ := hr
  obtain ⟨h1, h2, h3, h4, h5, h6, h7, h8⟩ := hI
  have hM : M.1 = sh1 := r1.trans f_5sh
  refine ⟨by rw [h1, hM, r3], by rw [← hM]; exact h2, ?_, h4, h5, h6, h7, h8⟩
  intro k q hq
  rw [s_w_get] at hq
  cases he : sh1[k + 1]? with
  | none => rw [he] at hq; cases hq
  | some e =>
    rw [he] at hq
    cases hq
    have h9 := h3 k _ (s_w_at (by rw [hM]; exact he))
    refine s_e_ext ?_ ?_ ?_ (fun j hj hrs => ?_) (fun ci hci => ?_) h9
    · funext j; exact r4 (k + 1) j
    · funext j; exact r5 (k + 1) j
    · funext j; exact r7 (k + 1) j
    · have hlt : k + 1 < 257 := by
        have h0 := (List.getElem?_eq_some_iff.mp he).1
        rw [sh1_len] at h0
        exact h0
      have h10 := List.all_eq_true.mp f_5ok (k + 1) (List.mem_range.mpr hlt)
      rw [he] at h10
      have h11 := List.all_eq_true.mp h10 j (List.mem_range.mpr hj)
      rw [hrs] at h11
      show M.2.2.2.2.1 (k + 1) j = kR k_w0 35 (k + 1) j
      rw [r6]
      exact Nat.eq_of_beq_eq_true h11
    · subst hci
      have h12 := sh1_ok _ (List.mem_of_getElem? he)
      exact Nat.blt_eq.mp h12
