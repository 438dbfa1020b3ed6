/-! written by wip/whole/pure/layout.py: where the fixed cells lie behind the base B: the class's object at B, the reference's at B + 187 -/
def stg : List (Nat × Nat) := [(11, 20), (28, 4), (10, 4), (21, 60), (10, 4), (21, 60), (10, 4), (21, 60), (10, 4), (21, 60), (23, 900), (5, 12), (23, 0), (3, 9), (27, 6), (7, 2), (22, 16), (24, 16), (7, 2), (22, 16), (24, 16), (7, 2), (22, 16), (24, 16), (7, 2), (22, 16), (24, 16), (7, 2), (22, 16), (24, 16), (7, 2), (22, 16), (24, 16), (24, 6), (7, 2), (22, 4), (24, 4), (7, 2), (22, 64), (24, 64), (6, 2), (25, 30), (26, 3), (3, 9), (27, 6), (7, 2), (22, 16), (24, 16), (7, 2), (22, 16), (24, 16), (7, 2), (22, 16), (24, 16), (7, 2), (22, 16), (24, 16), (7, 2), (22, 16), (24, 16), (7, 2), (22, 16), (24, 16), (24, 6), (7, 2), (22, 4), (24, 4), (7, 2), (22, 64), (24, 64), (6, 2), (25, 30), (3, 9), (27, 6), (7, 2), (22, 16), (24, 16), (7, 2), (22, 16), (24, 16), (7, 2), (22, 16), (24, 16), (7, 2), (22, 16), (24, 16), (7, 2), (22, 16), (24, 16), (7, 2), (22, 16), (24, 16), (24, 6), (7, 2), (22, 4), (24, 4), (7, 2), (22, 64), (24, 64), (6, 2), (25, 30), (3, 9), (27, 6), (7, 2), (22, 16), (24, 16), (7, 2), (22, 16), (24, 16), (7, 2), (22, 16), (24, 16), (7, 2), (22, 16), (24, 16), (7, 2), (22, 16), (24, 16), (7, 2), (22, 16), (24, 16), (24, 6), (7, 2), (22, 4), (24, 4), (7, 2), (22, 64), (24, 64), (6, 2), (25, 30), (1, 5), (22, 10), (8, 11), (7, 2), (22, 16), (24, 16), (4, 2), (4, 2), (9, 17), (20, 30), (20, 30), (20, 4), (20, 96), (20, 96), (20, 16), (3, 9), (27, 6), (7, 2), (22, 16), (24, 16), (7, 2), (22, 16), (24, 16), (7, 2), (22, 16), (24, 16), (7, 2), (22, 16), (24, 16), (7, 2), (22, 16), (24, 16), (7, 2), (22, 16), (24, 16), (24, 6), (7, 2), (22, 4), (24, 4), (7, 2), (22, 64), (24, 64), (6, 2), (25, 30), (6, 2), (25, 30), (9, 17), (20, 30), (20, 30), (20, 4), (20, 96), (20, 96), (20, 16), (4, 2), (4, 2), (4, 2), (4, 2), (12, 52), (20, 4), (20, 4), (21, 240), (23, 900), (20, 1476), (22, 984), (20, 96), (20, 96), (20, 4), (20, 16), (20, 30), (20, 30), (22, 16), (20, 6), (20, 30), (20, 30), (20, 16)]
def spC : List (Nat × Nat × Nat) := [(0, 0, 1), (1, 0, 2), (2, 3, 3), (1, 1, 4), (4, 3, 5), (1, 2, 6), (6, 3, 7), (1, 3, 8), (8, 3, 9), (0, 1, 10), (0, 3, 11), (13, 0, 14), (15, 0, 16), (15, 1, 17), (14, 0, 15), (18, 0, 19), (18, 1, 20), (14, 1, 18), (21, 0, 22), (21, 1, 23), (14, 2, 21), (24, 0, 25), (24, 1, 26), (14, 3, 24), (27, 0, 28), (27, 1, 29), (14, 4, 27), (30, 0, 31), (30, 1, 32), (14, 5, 30), (13, 1, 33), (34, 0, 35), (34, 1, 36), (13, 2, 34), (37, 0, 38), (37, 1, 39), (13, 3, 37), (40, 0, 41), (0, 4, 13), (0, 5, 42), (43, 0, 44), (45, 0, 46), (45, 1, 47), (44, 0, 45), (48, 0, 49), (48, 1, 50), (44, 1, 48), (51, 0, 52), (51, 1, 53), (44, 2, 51), (54, 0, 55), (54, 1, 56), (44, 3, 54), (57, 0, 58), (57, 1, 59), (44, 4, 57), (60, 0, 61), (60, 1, 62), (44, 5, 60), (43, 1, 63), (64, 0, 65), (64, 1, 66), (43, 2, 64), (67, 0, 68), (67, 1, 69), (43, 3, 67), (70, 0, 71), (42, 0, 43), (72, 0, 73), (74, 0, 75), (74, 1, 76), (73, 0, 74), (77, 0, 78), (77, 1, 79), (73, 1, 77), (80, 0, 81), (80, 1, 82), (73, 2, 80), (83, 0, 84), (83, 1, 85), (73, 3, 83), (86, 0, 87), (86, 1, 88), (73, 4, 86), (89, 0, 90), (89, 1, 91), (73, 5, 89), (72, 1, 92), (93, 0, 94), (93, 1, 95), (72, 2, 93), (96, 0, 97), (96, 1, 98), (72, 3, 96), (99, 0, 100), (42, 1, 72), (101, 0, 102), (103, 0, 104), (103, 1, 105), (102, 0, 103), (106, 0, 107), (106, 1, 108), (102, 1, 106), (109, 0, 110), (109, 1, 111), (102, 2, 109), (112, 0, 113), (112, 1, 114), (102, 3, 112), (115, 0, 116), (115, 1, 117), (102, 4, 115), (118, 0, 119), (118, 1, 120), (102, 5, 118), (101, 1, 121), (122, 0, 123), (122, 1, 124), (101, 2, 122), (125, 0, 126), (125, 1, 127), (101, 3, 125), (128, 0, 129), (42, 2, 101), (130, 2, 131), (0, 14, 130), (0, 7, 132), (132, 0, 130), (133, 0, 134), (133, 1, 135), (132, 1, 133), (132, 2, 136), (132, 3, 137), (138, 6, 139), (138, 7, 140), (138, 13, 141), (138, 14, 142), (138, 15, 143), (138, 16, 144), (0, 8, 138), (145, 0, 146), (147, 0, 148), (147, 1, 149), (146, 0, 147), (150, 0, 151), (150, 1, 152), (146, 1, 150), (153, 0, 154), (153, 1, 155), (146, 2, 153), (156, 0, 157), (156, 1, 158), (146, 3, 156), (159, 0, 160), (159, 1, 161), (146, 4, 159), (162, 0, 163), (162, 1, 164), (146, 5, 162), (145, 1, 165), (166, 0, 167), (166, 1, 168), (145, 2, 166), (169, 0, 170), (169, 1, 171), (145, 3, 169), (172, 0, 173), (0, 11, 145), (174, 0, 175), (0, 12, 174), (176, 6, 177), (176, 7, 178), (176, 13, 179), (176, 14, 180), (176, 15, 181), (176, 16, 182), (0, 13, 176), (0, 15, 183), (0, 16, 184), (0, 17, 185), (0, 18, 186)]
def spR : List (Nat × Nat × Nat) := [(187, 4, 188), (187, 5, 189), (187, 6, 190), (187, 7, 191), (187, 19, 192), (187, 20, 193), (187, 23, 194), (187, 24, 195), (187, 25, 196), (187, 26, 197), (187, 27, 198), (187, 28, 199), (187, 43, 200), (187, 45, 201), (187, 46, 202), (187, 47, 203), (187, 50, 204)]
def Sh (B : Nat) (g : MT) : Prop := B + 205 ≤ gN g ∧ ∀ o q, stg[o]? = some q → gT g (B + o) = q.1 ∧ gL g (B + o) = q.2
def PtC (B : Nat) (r : Nat → Nat → Option Nat) : Prop := ∀ q ∈ spC, r (B + q.1) q.2.1 = some (B + q.2.2)
def PtR (B : Nat) (r : Nat → Nat → Option Nat) : Prop := ∀ q ∈ spR, r (B + q.1) q.2.1 = some (B + q.2.2)
theorem st_0 {B : Nat} {g : MT} (S : Sh B g) : gT g B = 11 := (S.2 0 (11, 20) rfl).1
theorem st_1 {B : Nat} {g : MT} (S : Sh B g) : gT g (B + 1) = 28 := (S.2 1 (28, 4) rfl).1
theorem sl_1 {B : Nat} {g : MT} (S : Sh B g) : gL g (B + 1) = 4 := (S.2 1 (28, 4) rfl).2
theorem st_2 {B : Nat} {g : MT} (S : Sh B g) : gT g (B + 2) = 10 := (S.2 2 (10, 4) rfl).1
theorem st_3 {B : Nat} {g : MT} (S : Sh B g) : gT g (B + 3) = 21 := (S.2 3 (21, 60) rfl).1
theorem sl_3 {B : Nat} {g : MT} (S : Sh B g) : gL g (B + 3) = 60 := (S.2 3 (21, 60) rfl).2
theorem st_4 {B : Nat} {g : MT} (S : Sh B g) : gT g (B + 4) = 10 := (S.2 4 (10, 4) rfl).1
theorem st_5 {B : Nat} {g : MT} (S : Sh B g) : gT g (B + 5) = 21 := (S.2 5 (21, 60) rfl).1
theorem sl_5 {B : Nat} {g : MT} (S : Sh B g) : gL g (B + 5) = 60 := (S.2 5 (21, 60) rfl).2
theorem st_6 {B : Nat} {g : MT} (S : Sh B g) : gT g (B + 6) = 10 := (S.2 6 (10, 4) rfl).1
theorem st_7 {B : Nat} {g : MT} (S : Sh B g) : gT g (B + 7) = 21 := (S.2 7 (21, 60) rfl).1
theorem sl_7 {B : Nat} {g : MT} (S : Sh B g) : gL g (B + 7) = 60 := (S.2 7 (21, 60) rfl).2
theorem st_8 {B : Nat} {g : MT} (S : Sh B g) : gT g (B + 8) = 10 := (S.2 8 (10, 4) rfl).1
theorem st_9 {B : Nat} {g : MT} (S : Sh B g) : gT g (B + 9) = 21 := (S.2 9 (21, 60) rfl).1
theorem sl_9 {B : Nat} {g : MT} (S : Sh B g) : gL g (B + 9) = 60 := (S.2 9 (21, 60) rfl).2
theorem st_10 {B : Nat} {g : MT} (S : Sh B g) : gT g (B + 10) = 23 := (S.2 10 (23, 900) rfl).1
theorem sl_10 {B : Nat} {g : MT} (S : Sh B g) : gL g (B + 10) = 900 := (S.2 10 (23, 900) rfl).2
theorem st_11 {B : Nat} {g : MT} (S : Sh B g) : gT g (B + 11) = 5 := (S.2 11 (5, 12) rfl).1
theorem st_12 {B : Nat} {g : MT} (S : Sh B g) : gT g (B + 12) = 23 := (S.2 12 (23, 0) rfl).1
theorem sl_12 {B : Nat} {g : MT} (S : Sh B g) : gL g (B + 12) = 0 := (S.2 12 (23, 0) rfl).2
theorem st_13 {B : Nat} {g : MT} (S : Sh B g) : gT g (B + 13) = 3 := (S.2 13 (3, 9) rfl).1
theorem st_14 {B : Nat} {g : MT} (S : Sh B g) : gT g (B + 14) = 27 := (S.2 14 (27, 6) rfl).1
theorem sl_14 {B : Nat} {g : MT} (S : Sh B g) : gL g (B + 14) = 6 := (S.2 14 (27, 6) rfl).2
theorem st_15 {B : Nat} {g : MT} (S : Sh B g) : gT g (B + 15) = 7 := (S.2 15 (7, 2) rfl).1
theorem st_16 {B : Nat} {g : MT} (S : Sh B g) : gT g (B + 16) = 22 := (S.2 16 (22, 16) rfl).1
theorem sl_16 {B : Nat} {g : MT} (S : Sh B g) : gL g (B + 16) = 16 := (S.2 16 (22, 16) rfl).2
theorem st_17 {B : Nat} {g : MT} (S : Sh B g) : gT g (B + 17) = 24 := (S.2 17 (24, 16) rfl).1
theorem sl_17 {B : Nat} {g : MT} (S : Sh B g) : gL g (B + 17) = 16 := (S.2 17 (24, 16) rfl).2
theorem st_18 {B : Nat} {g : MT} (S : Sh B g) : gT g (B + 18) = 7 := (S.2 18 (7, 2) rfl).1
theorem st_19 {B : Nat} {g : MT} (S : Sh B g) : gT g (B + 19) = 22 := (S.2 19 (22, 16) rfl).1
theorem sl_19 {B : Nat} {g : MT} (S : Sh B g) : gL g (B + 19) = 16 := (S.2 19 (22, 16) rfl).2
theorem st_20 {B : Nat} {g : MT} (S : Sh B g) : gT g (B + 20) = 24 := (S.2 20 (24, 16) rfl).1
theorem sl_20 {B : Nat} {g : MT} (S : Sh B g) : gL g (B + 20) = 16 := (S.2 20 (24, 16) rfl).2
theorem st_21 {B : Nat} {g : MT} (S : Sh B g) : gT g (B + 21) = 7 := (S.2 21 (7, 2) rfl).1
theorem st_22 {B : Nat} {g : MT} (S : Sh B g) : gT g (B + 22) = 22 := (S.2 22 (22, 16) rfl).1
theorem sl_22 {B : Nat} {g : MT} (S : Sh B g) : gL g (B + 22) = 16 := (S.2 22 (22, 16) rfl).2
theorem st_23 {B : Nat} {g : MT} (S : Sh B g) : gT g (B + 23) = 24 := (S.2 23 (24, 16) rfl).1
theorem sl_23 {B : Nat} {g : MT} (S : Sh B g) : gL g (B + 23) = 16 := (S.2 23 (24, 16) rfl).2
theorem st_24 {B : Nat} {g : MT} (S : Sh B g) : gT g (B + 24) = 7 := (S.2 24 (7, 2) rfl).1
theorem st_25 {B : Nat} {g : MT} (S : Sh B g) : gT g (B + 25) = 22 := (S.2 25 (22, 16) rfl).1
theorem sl_25 {B : Nat} {g : MT} (S : Sh B g) : gL g (B + 25) = 16 := (S.2 25 (22, 16) rfl).2
theorem st_26 {B : Nat} {g : MT} (S : Sh B g) : gT g (B + 26) = 24 := (S.2 26 (24, 16) rfl).1
theorem sl_26 {B : Nat} {g : MT} (S : Sh B g) : gL g (B + 26) = 16 := (S.2 26 (24, 16) rfl).2
theorem st_27 {B : Nat} {g : MT} (S : Sh B g) : gT g (B + 27) = 7 := (S.2 27 (7, 2) rfl).1
theorem st_28 {B : Nat} {g : MT} (S : Sh B g) : gT g (B + 28) = 22 := (S.2 28 (22, 16) rfl).1
theorem sl_28 {B : Nat} {g : MT} (S : Sh B g) : gL g (B + 28) = 16 := (S.2 28 (22, 16) rfl).2
theorem st_29 {B : Nat} {g : MT} (S : Sh B g) : gT g (B + 29) = 24 := (S.2 29 (24, 16) rfl).1
theorem sl_29 {B : Nat} {g : MT} (S : Sh B g) : gL g (B + 29) = 16 := (S.2 29 (24, 16) rfl).2
theorem st_30 {B : Nat} {g : MT} (S : Sh B g) : gT g (B + 30) = 7 := (S.2 30 (7, 2) rfl).1
theorem st_31 {B : Nat} {g : MT} (S : Sh B g) : gT g (B + 31) = 22 := (S.2 31 (22, 16) rfl).1
theorem sl_31 {B : Nat} {g : MT} (S : Sh B g) : gL g (B + 31) = 16 := (S.2 31 (22, 16) rfl).2
theorem st_32 {B : Nat} {g : MT} (S : Sh B g) : gT g (B + 32) = 24 := (S.2 32 (24, 16) rfl).1
theorem sl_32 {B : Nat} {g : MT} (S : Sh B g) : gL g (B + 32) = 16 := (S.2 32 (24, 16) rfl).2
theorem st_33 {B : Nat} {g : MT} (S : Sh B g) : gT g (B + 33) = 24 := (S.2 33 (24, 6) rfl).1
theorem sl_33 {B : Nat} {g : MT} (S : Sh B g) : gL g (B + 33) = 6 := (S.2 33 (24, 6) rfl).2
theorem st_34 {B : Nat} {g : MT} (S : Sh B g) : gT g (B + 34) = 7 := (S.2 34 (7, 2) rfl).1
theorem st_35 {B : Nat} {g : MT} (S : Sh B g) : gT g (B + 35) = 22 := (S.2 35 (22, 4) rfl).1
theorem sl_35 {B : Nat} {g : MT} (S : Sh B g) : gL g (B + 35) = 4 := (S.2 35 (22, 4) rfl).2
theorem st_36 {B : Nat} {g : MT} (S : Sh B g) : gT g (B + 36) = 24 := (S.2 36 (24, 4) rfl).1
theorem sl_36 {B : Nat} {g : MT} (S : Sh B g) : gL g (B + 36) = 4 := (S.2 36 (24, 4) rfl).2
theorem st_37 {B : Nat} {g : MT} (S : Sh B g) : gT g (B + 37) = 7 := (S.2 37 (7, 2) rfl).1
theorem st_38 {B : Nat} {g : MT} (S : Sh B g) : gT g (B + 38) = 22 := (S.2 38 (22, 64) rfl).1
theorem sl_38 {B : Nat} {g : MT} (S : Sh B g) : gL g (B + 38) = 64 := (S.2 38 (22, 64) rfl).2
theorem st_39 {B : Nat} {g : MT} (S : Sh B g) : gT g (B + 39) = 24 := (S.2 39 (24, 64) rfl).1
theorem sl_39 {B : Nat} {g : MT} (S : Sh B g) : gL g (B + 39) = 64 := (S.2 39 (24, 64) rfl).2
theorem st_40 {B : Nat} {g : MT} (S : Sh B g) : gT g (B + 40) = 6 := (S.2 40 (6, 2) rfl).1
theorem st_41 {B : Nat} {g : MT} (S : Sh B g) : gT g (B + 41) = 25 := (S.2 41 (25, 30) rfl).1
theorem sl_41 {B : Nat} {g : MT} (S : Sh B g) : gL g (B + 41) = 30 := (S.2 41 (25, 30) rfl).2
theorem st_42 {B : Nat} {g : MT} (S : Sh B g) : gT g (B + 42) = 26 := (S.2 42 (26, 3) rfl).1
theorem sl_42 {B : Nat} {g : MT} (S : Sh B g) : gL g (B + 42) = 3 := (S.2 42 (26, 3) rfl).2
theorem st_43 {B : Nat} {g : MT} (S : Sh B g) : gT g (B + 43) = 3 := (S.2 43 (3, 9) rfl).1
theorem st_44 {B : Nat} {g : MT} (S : Sh B g) : gT g (B + 44) = 27 := (S.2 44 (27, 6) rfl).1
theorem sl_44 {B : Nat} {g : MT} (S : Sh B g) : gL g (B + 44) = 6 := (S.2 44 (27, 6) rfl).2
theorem st_45 {B : Nat} {g : MT} (S : Sh B g) : gT g (B + 45) = 7 := (S.2 45 (7, 2) rfl).1
theorem st_46 {B : Nat} {g : MT} (S : Sh B g) : gT g (B + 46) = 22 := (S.2 46 (22, 16) rfl).1
theorem sl_46 {B : Nat} {g : MT} (S : Sh B g) : gL g (B + 46) = 16 := (S.2 46 (22, 16) rfl).2
theorem st_47 {B : Nat} {g : MT} (S : Sh B g) : gT g (B + 47) = 24 := (S.2 47 (24, 16) rfl).1
theorem sl_47 {B : Nat} {g : MT} (S : Sh B g) : gL g (B + 47) = 16 := (S.2 47 (24, 16) rfl).2
theorem st_48 {B : Nat} {g : MT} (S : Sh B g) : gT g (B + 48) = 7 := (S.2 48 (7, 2) rfl).1
theorem st_49 {B : Nat} {g : MT} (S : Sh B g) : gT g (B + 49) = 22 := (S.2 49 (22, 16) rfl).1
theorem sl_49 {B : Nat} {g : MT} (S : Sh B g) : gL g (B + 49) = 16 := (S.2 49 (22, 16) rfl).2
theorem st_50 {B : Nat} {g : MT} (S : Sh B g) : gT g (B + 50) = 24 := (S.2 50 (24, 16) rfl).1
theorem sl_50 {B : Nat} {g : MT} (S : Sh B g) : gL g (B + 50) = 16 := (S.2 50 (24, 16) rfl).2
theorem st_51 {B : Nat} {g : MT} (S : Sh B g) : gT g (B + 51) = 7 := (S.2 51 (7, 2) rfl).1
theorem st_52 {B : Nat} {g : MT} (S : Sh B g) : gT g (B + 52) = 22 := (S.2 52 (22, 16) rfl).1
theorem sl_52 {B : Nat} {g : MT} (S : Sh B g) : gL g (B + 52) = 16 := (S.2 52 (22, 16) rfl).2
theorem st_53 {B : Nat} {g : MT} (S : Sh B g) : gT g (B + 53) = 24 := (S.2 53 (24, 16) rfl).1
theorem sl_53 {B : Nat} {g : MT} (S : Sh B g) : gL g (B + 53) = 16 := (S.2 53 (24, 16) rfl).2
theorem st_54 {B : Nat} {g : MT} (S : Sh B g) : gT g (B + 54) = 7 := (S.2 54 (7, 2) rfl).1
theorem st_55 {B : Nat} {g : MT} (S : Sh B g) : gT g (B + 55) = 22 := (S.2 55 (22, 16) rfl).1
theorem sl_55 {B : Nat} {g : MT} (S : Sh B g) : gL g (B + 55) = 16 := (S.2 55 (22, 16) rfl).2
theorem st_56 {B : Nat} {g : MT} (S : Sh B g) : gT g (B + 56) = 24 := (S.2 56 (24, 16) rfl).1
theorem sl_56 {B : Nat} {g : MT} (S : Sh B g) : gL g (B + 56) = 16 := (S.2 56 (24, 16) rfl).2
theorem st_57 {B : Nat} {g : MT} (S : Sh B g) : gT g (B + 57) = 7 := (S.2 57 (7, 2) rfl).1
theorem st_58 {B : Nat} {g : MT} (S : Sh B g) : gT g (B + 58) = 22 := (S.2 58 (22, 16) rfl).1
theorem sl_58 {B : Nat} {g : MT} (S : Sh B g) : gL g (B + 58) = 16 := (S.2 58 (22, 16) rfl).2
theorem st_59 {B : Nat} {g : MT} (S : Sh B g) : gT g (B + 59) = 24 := (S.2 59 (24, 16) rfl).1
theorem sl_59 {B : Nat} {g : MT} (S : Sh B g) : gL g (B + 59) = 16 := (S.2 59 (24, 16) rfl).2
theorem st_60 {B : Nat} {g : MT} (S : Sh B g) : gT g (B + 60) = 7 := (S.2 60 (7, 2) rfl).1
theorem st_61 {B : Nat} {g : MT} (S : Sh B g) : gT g (B + 61) = 22 := (S.2 61 (22, 16) rfl).1
theorem sl_61 {B : Nat} {g : MT} (S : Sh B g) : gL g (B + 61) = 16 := (S.2 61 (22, 16) rfl).2
theorem st_62 {B : Nat} {g : MT} (S : Sh B g) : gT g (B + 62) = 24 := (S.2 62 (24, 16) rfl).1
theorem sl_62 {B : Nat} {g : MT} (S : Sh B g) : gL g (B + 62) = 16 := (S.2 62 (24, 16) rfl).2
theorem st_63 {B : Nat} {g : MT} (S : Sh B g) : gT g (B + 63) = 24 := (S.2 63 (24, 6) rfl).1
theorem sl_63 {B : Nat} {g : MT} (S : Sh B g) : gL g (B + 63) = 6 := (S.2 63 (24, 6) rfl).2
theorem st_64 {B : Nat} {g : MT} (S : Sh B g) : gT g (B + 64) = 7 := (S.2 64 (7, 2) rfl).1
theorem st_65 {B : Nat} {g : MT} (S : Sh B g) : gT g (B + 65) = 22 := (S.2 65 (22, 4) rfl).1
theorem sl_65 {B : Nat} {g : MT} (S : Sh B g) : gL g (B + 65) = 4 := (S.2 65 (22, 4) rfl).2
theorem st_66 {B : Nat} {g : MT} (S : Sh B g) : gT g (B + 66) = 24 := (S.2 66 (24, 4) rfl).1
theorem sl_66 {B : Nat} {g : MT} (S : Sh B g) : gL g (B + 66) = 4 := (S.2 66 (24, 4) rfl).2
theorem st_67 {B : Nat} {g : MT} (S : Sh B g) : gT g (B + 67) = 7 := (S.2 67 (7, 2) rfl).1
theorem st_68 {B : Nat} {g : MT} (S : Sh B g) : gT g (B + 68) = 22 := (S.2 68 (22, 64) rfl).1
theorem sl_68 {B : Nat} {g : MT} (S : Sh B g) : gL g (B + 68) = 64 := (S.2 68 (22, 64) rfl).2
theorem st_69 {B : Nat} {g : MT} (S : Sh B g) : gT g (B + 69) = 24 := (S.2 69 (24, 64) rfl).1
theorem sl_69 {B : Nat} {g : MT} (S : Sh B g) : gL g (B + 69) = 64 := (S.2 69 (24, 64) rfl).2
theorem st_70 {B : Nat} {g : MT} (S : Sh B g) : gT g (B + 70) = 6 := (S.2 70 (6, 2) rfl).1
theorem st_71 {B : Nat} {g : MT} (S : Sh B g) : gT g (B + 71) = 25 := (S.2 71 (25, 30) rfl).1
theorem sl_71 {B : Nat} {g : MT} (S : Sh B g) : gL g (B + 71) = 30 := (S.2 71 (25, 30) rfl).2
theorem st_72 {B : Nat} {g : MT} (S : Sh B g) : gT g (B + 72) = 3 := (S.2 72 (3, 9) rfl).1
theorem st_73 {B : Nat} {g : MT} (S : Sh B g) : gT g (B + 73) = 27 := (S.2 73 (27, 6) rfl).1
theorem sl_73 {B : Nat} {g : MT} (S : Sh B g) : gL g (B + 73) = 6 := (S.2 73 (27, 6) rfl).2
theorem st_74 {B : Nat} {g : MT} (S : Sh B g) : gT g (B + 74) = 7 := (S.2 74 (7, 2) rfl).1
theorem st_75 {B : Nat} {g : MT} (S : Sh B g) : gT g (B + 75) = 22 := (S.2 75 (22, 16) rfl).1
theorem sl_75 {B : Nat} {g : MT} (S : Sh B g) : gL g (B + 75) = 16 := (S.2 75 (22, 16) rfl).2
theorem st_76 {B : Nat} {g : MT} (S : Sh B g) : gT g (B + 76) = 24 := (S.2 76 (24, 16) rfl).1
theorem sl_76 {B : Nat} {g : MT} (S : Sh B g) : gL g (B + 76) = 16 := (S.2 76 (24, 16) rfl).2
theorem st_77 {B : Nat} {g : MT} (S : Sh B g) : gT g (B + 77) = 7 := (S.2 77 (7, 2) rfl).1
theorem st_78 {B : Nat} {g : MT} (S : Sh B g) : gT g (B + 78) = 22 := (S.2 78 (22, 16) rfl).1
theorem sl_78 {B : Nat} {g : MT} (S : Sh B g) : gL g (B + 78) = 16 := (S.2 78 (22, 16) rfl).2
theorem st_79 {B : Nat} {g : MT} (S : Sh B g) : gT g (B + 79) = 24 := (S.2 79 (24, 16) rfl).1
theorem sl_79 {B : Nat} {g : MT} (S : Sh B g) : gL g (B + 79) = 16 := (S.2 79 (24, 16) rfl).2
theorem st_80 {B : Nat} {g : MT} (S : Sh B g) : gT g (B + 80) = 7 := (S.2 80 (7, 2) rfl).1
theorem st_81 {B : Nat} {g : MT} (S : Sh B g) : gT g (B + 81) = 22 := (S.2 81 (22, 16) rfl).1
theorem sl_81 {B : Nat} {g : MT} (S : Sh B g) : gL g (B + 81) = 16 := (S.2 81 (22, 16) rfl).2
theorem st_82 {B : Nat} {g : MT} (S : Sh B g) : gT g (B + 82) = 24 := (S.2 82 (24, 16) rfl).1
theorem sl_82 {B : Nat} {g : MT} (S : Sh B g) : gL g (B + 82) = 16 := (S.2 82 (24, 16) rfl).2
theorem st_83 {B : Nat} {g : MT} (S : Sh B g) : gT g (B + 83) = 7 := (S.2 83 (7, 2) rfl).1
theorem st_84 {B : Nat} {g : MT} (S : Sh B g) : gT g (B + 84) = 22 := (S.2 84 (22, 16) rfl).1
theorem sl_84 {B : Nat} {g : MT} (S : Sh B g) : gL g (B + 84) = 16 := (S.2 84 (22, 16) rfl).2
theorem st_85 {B : Nat} {g : MT} (S : Sh B g) : gT g (B + 85) = 24 := (S.2 85 (24, 16) rfl).1
theorem sl_85 {B : Nat} {g : MT} (S : Sh B g) : gL g (B + 85) = 16 := (S.2 85 (24, 16) rfl).2
theorem st_86 {B : Nat} {g : MT} (S : Sh B g) : gT g (B + 86) = 7 := (S.2 86 (7, 2) rfl).1
theorem st_87 {B : Nat} {g : MT} (S : Sh B g) : gT g (B + 87) = 22 := (S.2 87 (22, 16) rfl).1
theorem sl_87 {B : Nat} {g : MT} (S : Sh B g) : gL g (B + 87) = 16 := (S.2 87 (22, 16) rfl).2
theorem st_88 {B : Nat} {g : MT} (S : Sh B g) : gT g (B + 88) = 24 := (S.2 88 (24, 16) rfl).1
theorem sl_88 {B : Nat} {g : MT} (S : Sh B g) : gL g (B + 88) = 16 := (S.2 88 (24, 16) rfl).2
theorem st_89 {B : Nat} {g : MT} (S : Sh B g) : gT g (B + 89) = 7 := (S.2 89 (7, 2) rfl).1
theorem st_90 {B : Nat} {g : MT} (S : Sh B g) : gT g (B + 90) = 22 := (S.2 90 (22, 16) rfl).1
theorem sl_90 {B : Nat} {g : MT} (S : Sh B g) : gL g (B + 90) = 16 := (S.2 90 (22, 16) rfl).2
theorem st_91 {B : Nat} {g : MT} (S : Sh B g) : gT g (B + 91) = 24 := (S.2 91 (24, 16) rfl).1
theorem sl_91 {B : Nat} {g : MT} (S : Sh B g) : gL g (B + 91) = 16 := (S.2 91 (24, 16) rfl).2
theorem st_92 {B : Nat} {g : MT} (S : Sh B g) : gT g (B + 92) = 24 := (S.2 92 (24, 6) rfl).1
theorem sl_92 {B : Nat} {g : MT} (S : Sh B g) : gL g (B + 92) = 6 := (S.2 92 (24, 6) rfl).2
theorem st_93 {B : Nat} {g : MT} (S : Sh B g) : gT g (B + 93) = 7 := (S.2 93 (7, 2) rfl).1
theorem st_94 {B : Nat} {g : MT} (S : Sh B g) : gT g (B + 94) = 22 := (S.2 94 (22, 4) rfl).1
theorem sl_94 {B : Nat} {g : MT} (S : Sh B g) : gL g (B + 94) = 4 := (S.2 94 (22, 4) rfl).2
theorem st_95 {B : Nat} {g : MT} (S : Sh B g) : gT g (B + 95) = 24 := (S.2 95 (24, 4) rfl).1
theorem sl_95 {B : Nat} {g : MT} (S : Sh B g) : gL g (B + 95) = 4 := (S.2 95 (24, 4) rfl).2
theorem st_96 {B : Nat} {g : MT} (S : Sh B g) : gT g (B + 96) = 7 := (S.2 96 (7, 2) rfl).1
theorem st_97 {B : Nat} {g : MT} (S : Sh B g) : gT g (B + 97) = 22 := (S.2 97 (22, 64) rfl).1
theorem sl_97 {B : Nat} {g : MT} (S : Sh B g) : gL g (B + 97) = 64 := (S.2 97 (22, 64) rfl).2
theorem st_98 {B : Nat} {g : MT} (S : Sh B g) : gT g (B + 98) = 24 := (S.2 98 (24, 64) rfl).1
theorem sl_98 {B : Nat} {g : MT} (S : Sh B g) : gL g (B + 98) = 64 := (S.2 98 (24, 64) rfl).2
theorem st_99 {B : Nat} {g : MT} (S : Sh B g) : gT g (B + 99) = 6 := (S.2 99 (6, 2) rfl).1
theorem st_100 {B : Nat} {g : MT} (S : Sh B g) : gT g (B + 100) = 25 := (S.2 100 (25, 30) rfl).1
theorem sl_100 {B : Nat} {g : MT} (S : Sh B g) : gL g (B + 100) = 30 := (S.2 100 (25, 30) rfl).2
theorem st_101 {B : Nat} {g : MT} (S : Sh B g) : gT g (B + 101) = 3 := (S.2 101 (3, 9) rfl).1
theorem st_102 {B : Nat} {g : MT} (S : Sh B g) : gT g (B + 102) = 27 := (S.2 102 (27, 6) rfl).1
theorem sl_102 {B : Nat} {g : MT} (S : Sh B g) : gL g (B + 102) = 6 := (S.2 102 (27, 6) rfl).2
theorem st_103 {B : Nat} {g : MT} (S : Sh B g) : gT g (B + 103) = 7 := (S.2 103 (7, 2) rfl).1
theorem st_104 {B : Nat} {g : MT} (S : Sh B g) : gT g (B + 104) = 22 := (S.2 104 (22, 16) rfl).1
theorem sl_104 {B : Nat} {g : MT} (S : Sh B g) : gL g (B + 104) = 16 := (S.2 104 (22, 16) rfl).2
theorem st_105 {B : Nat} {g : MT} (S : Sh B g) : gT g (B + 105) = 24 := (S.2 105 (24, 16) rfl).1
theorem sl_105 {B : Nat} {g : MT} (S : Sh B g) : gL g (B + 105) = 16 := (S.2 105 (24, 16) rfl).2
theorem st_106 {B : Nat} {g : MT} (S : Sh B g) : gT g (B + 106) = 7 := (S.2 106 (7, 2) rfl).1
theorem st_107 {B : Nat} {g : MT} (S : Sh B g) : gT g (B + 107) = 22 := (S.2 107 (22, 16) rfl).1
theorem sl_107 {B : Nat} {g : MT} (S : Sh B g) : gL g (B + 107) = 16 := (S.2 107 (22, 16) rfl).2
theorem st_108 {B : Nat} {g : MT} (S : Sh B g) : gT g (B + 108) = 24 := (S.2 108 (24, 16) rfl).1
theorem sl_108 {B : Nat} {g : MT} (S : Sh B g) : gL g (B + 108) = 16 := (S.2 108 (24, 16) rfl).2
theorem st_109 {B : Nat} {g : MT} (S : Sh B g) : gT g (B + 109) = 7 := (S.2 109 (7, 2) rfl).1
theorem st_110 {B : Nat} {g : MT} (S : Sh B g) : gT g (B + 110) = 22 := (S.2 110 (22, 16) rfl).1
theorem sl_110 {B : Nat} {g : MT} (S : Sh B g) : gL g (B + 110) = 16 := (S.2 110 (22, 16) rfl).2
theorem st_111 {B : Nat} {g : MT} (S : Sh B g) : gT g (B + 111) = 24 := (S.2 111 (24, 16) rfl).1
theorem sl_111 {B : Nat} {g : MT} (S : Sh B g) : gL g (B + 111) = 16 := (S.2 111 (24, 16) rfl).2
theorem st_112 {B : Nat} {g : MT} (S : Sh B g) : gT g (B + 112) = 7 := (S.2 112 (7, 2) rfl).1
theorem st_113 {B : Nat} {g : MT} (S : Sh B g) : gT g (B + 113) = 22 := (S.2 113 (22, 16) rfl).1
theorem sl_113 {B : Nat} {g : MT} (S : Sh B g) : gL g (B + 113) = 16 := (S.2 113 (22, 16) rfl).2
theorem st_114 {B : Nat} {g : MT} (S : Sh B g) : gT g (B + 114) = 24 := (S.2 114 (24, 16) rfl).1
theorem sl_114 {B : Nat} {g : MT} (S : Sh B g) : gL g (B + 114) = 16 := (S.2 114 (24, 16) rfl).2
theorem st_115 {B : Nat} {g : MT} (S : Sh B g) : gT g (B + 115) = 7 := (S.2 115 (7, 2) rfl).1
theorem st_116 {B : Nat} {g : MT} (S : Sh B g) : gT g (B + 116) = 22 := (S.2 116 (22, 16) rfl).1
theorem sl_116 {B : Nat} {g : MT} (S : Sh B g) : gL g (B + 116) = 16 := (S.2 116 (22, 16) rfl).2
theorem st_117 {B : Nat} {g : MT} (S : Sh B g) : gT g (B + 117) = 24 := (S.2 117 (24, 16) rfl).1
theorem sl_117 {B : Nat} {g : MT} (S : Sh B g) : gL g (B + 117) = 16 := (S.2 117 (24, 16) rfl).2
theorem st_118 {B : Nat} {g : MT} (S : Sh B g) : gT g (B + 118) = 7 := (S.2 118 (7, 2) rfl).1
theorem st_119 {B : Nat} {g : MT} (S : Sh B g) : gT g (B + 119) = 22 := (S.2 119 (22, 16) rfl).1
theorem sl_119 {B : Nat} {g : MT} (S : Sh B g) : gL g (B + 119) = 16 := (S.2 119 (22, 16) rfl).2
theorem st_120 {B : Nat} {g : MT} (S : Sh B g) : gT g (B + 120) = 24 := (S.2 120 (24, 16) rfl).1
theorem sl_120 {B : Nat} {g : MT} (S : Sh B g) : gL g (B + 120) = 16 := (S.2 120 (24, 16) rfl).2
theorem st_121 {B : Nat} {g : MT} (S : Sh B g) : gT g (B + 121) = 24 := (S.2 121 (24, 6) rfl).1
theorem sl_121 {B : Nat} {g : MT} (S : Sh B g) : gL g (B + 121) = 6 := (S.2 121 (24, 6) rfl).2
theorem st_122 {B : Nat} {g : MT} (S : Sh B g) : gT g (B + 122) = 7 := (S.2 122 (7, 2) rfl).1
theorem st_123 {B : Nat} {g : MT} (S : Sh B g) : gT g (B + 123) = 22 := (S.2 123 (22, 4) rfl).1
theorem sl_123 {B : Nat} {g : MT} (S : Sh B g) : gL g (B + 123) = 4 := (S.2 123 (22, 4) rfl).2
theorem st_124 {B : Nat} {g : MT} (S : Sh B g) : gT g (B + 124) = 24 := (S.2 124 (24, 4) rfl).1
theorem sl_124 {B : Nat} {g : MT} (S : Sh B g) : gL g (B + 124) = 4 := (S.2 124 (24, 4) rfl).2
theorem st_125 {B : Nat} {g : MT} (S : Sh B g) : gT g (B + 125) = 7 := (S.2 125 (7, 2) rfl).1
theorem st_126 {B : Nat} {g : MT} (S : Sh B g) : gT g (B + 126) = 22 := (S.2 126 (22, 64) rfl).1
theorem sl_126 {B : Nat} {g : MT} (S : Sh B g) : gL g (B + 126) = 64 := (S.2 126 (22, 64) rfl).2
theorem st_127 {B : Nat} {g : MT} (S : Sh B g) : gT g (B + 127) = 24 := (S.2 127 (24, 64) rfl).1
theorem sl_127 {B : Nat} {g : MT} (S : Sh B g) : gL g (B + 127) = 64 := (S.2 127 (24, 64) rfl).2
theorem st_128 {B : Nat} {g : MT} (S : Sh B g) : gT g (B + 128) = 6 := (S.2 128 (6, 2) rfl).1
theorem st_129 {B : Nat} {g : MT} (S : Sh B g) : gT g (B + 129) = 25 := (S.2 129 (25, 30) rfl).1
theorem sl_129 {B : Nat} {g : MT} (S : Sh B g) : gL g (B + 129) = 30 := (S.2 129 (25, 30) rfl).2
theorem st_130 {B : Nat} {g : MT} (S : Sh B g) : gT g (B + 130) = 1 := (S.2 130 (1, 5) rfl).1
theorem st_131 {B : Nat} {g : MT} (S : Sh B g) : gT g (B + 131) = 22 := (S.2 131 (22, 10) rfl).1
theorem sl_131 {B : Nat} {g : MT} (S : Sh B g) : gL g (B + 131) = 10 := (S.2 131 (22, 10) rfl).2
theorem st_132 {B : Nat} {g : MT} (S : Sh B g) : gT g (B + 132) = 8 := (S.2 132 (8, 11) rfl).1
theorem st_133 {B : Nat} {g : MT} (S : Sh B g) : gT g (B + 133) = 7 := (S.2 133 (7, 2) rfl).1
theorem st_134 {B : Nat} {g : MT} (S : Sh B g) : gT g (B + 134) = 22 := (S.2 134 (22, 16) rfl).1
theorem sl_134 {B : Nat} {g : MT} (S : Sh B g) : gL g (B + 134) = 16 := (S.2 134 (22, 16) rfl).2
theorem st_135 {B : Nat} {g : MT} (S : Sh B g) : gT g (B + 135) = 24 := (S.2 135 (24, 16) rfl).1
theorem sl_135 {B : Nat} {g : MT} (S : Sh B g) : gL g (B + 135) = 16 := (S.2 135 (24, 16) rfl).2
theorem st_136 {B : Nat} {g : MT} (S : Sh B g) : gT g (B + 136) = 4 := (S.2 136 (4, 2) rfl).1
theorem st_137 {B : Nat} {g : MT} (S : Sh B g) : gT g (B + 137) = 4 := (S.2 137 (4, 2) rfl).1
theorem st_138 {B : Nat} {g : MT} (S : Sh B g) : gT g (B + 138) = 9 := (S.2 138 (9, 17) rfl).1
theorem st_139 {B : Nat} {g : MT} (S : Sh B g) : gT g (B + 139) = 20 := (S.2 139 (20, 30) rfl).1
theorem sl_139 {B : Nat} {g : MT} (S : Sh B g) : gL g (B + 139) = 30 := (S.2 139 (20, 30) rfl).2
theorem st_140 {B : Nat} {g : MT} (S : Sh B g) : gT g (B + 140) = 20 := (S.2 140 (20, 30) rfl).1
theorem sl_140 {B : Nat} {g : MT} (S : Sh B g) : gL g (B + 140) = 30 := (S.2 140 (20, 30) rfl).2
theorem st_141 {B : Nat} {g : MT} (S : Sh B g) : gT g (B + 141) = 20 := (S.2 141 (20, 4) rfl).1
theorem sl_141 {B : Nat} {g : MT} (S : Sh B g) : gL g (B + 141) = 4 := (S.2 141 (20, 4) rfl).2
theorem st_142 {B : Nat} {g : MT} (S : Sh B g) : gT g (B + 142) = 20 := (S.2 142 (20, 96) rfl).1
theorem sl_142 {B : Nat} {g : MT} (S : Sh B g) : gL g (B + 142) = 96 := (S.2 142 (20, 96) rfl).2
theorem st_143 {B : Nat} {g : MT} (S : Sh B g) : gT g (B + 143) = 20 := (S.2 143 (20, 96) rfl).1
theorem sl_143 {B : Nat} {g : MT} (S : Sh B g) : gL g (B + 143) = 96 := (S.2 143 (20, 96) rfl).2
theorem st_144 {B : Nat} {g : MT} (S : Sh B g) : gT g (B + 144) = 20 := (S.2 144 (20, 16) rfl).1
theorem sl_144 {B : Nat} {g : MT} (S : Sh B g) : gL g (B + 144) = 16 := (S.2 144 (20, 16) rfl).2
theorem st_145 {B : Nat} {g : MT} (S : Sh B g) : gT g (B + 145) = 3 := (S.2 145 (3, 9) rfl).1
theorem st_146 {B : Nat} {g : MT} (S : Sh B g) : gT g (B + 146) = 27 := (S.2 146 (27, 6) rfl).1
theorem sl_146 {B : Nat} {g : MT} (S : Sh B g) : gL g (B + 146) = 6 := (S.2 146 (27, 6) rfl).2
theorem st_147 {B : Nat} {g : MT} (S : Sh B g) : gT g (B + 147) = 7 := (S.2 147 (7, 2) rfl).1
theorem st_148 {B : Nat} {g : MT} (S : Sh B g) : gT g (B + 148) = 22 := (S.2 148 (22, 16) rfl).1
theorem sl_148 {B : Nat} {g : MT} (S : Sh B g) : gL g (B + 148) = 16 := (S.2 148 (22, 16) rfl).2
theorem st_149 {B : Nat} {g : MT} (S : Sh B g) : gT g (B + 149) = 24 := (S.2 149 (24, 16) rfl).1
theorem sl_149 {B : Nat} {g : MT} (S : Sh B g) : gL g (B + 149) = 16 := (S.2 149 (24, 16) rfl).2
theorem st_150 {B : Nat} {g : MT} (S : Sh B g) : gT g (B + 150) = 7 := (S.2 150 (7, 2) rfl).1
theorem st_151 {B : Nat} {g : MT} (S : Sh B g) : gT g (B + 151) = 22 := (S.2 151 (22, 16) rfl).1
theorem sl_151 {B : Nat} {g : MT} (S : Sh B g) : gL g (B + 151) = 16 := (S.2 151 (22, 16) rfl).2
theorem st_152 {B : Nat} {g : MT} (S : Sh B g) : gT g (B + 152) = 24 := (S.2 152 (24, 16) rfl).1
theorem sl_152 {B : Nat} {g : MT} (S : Sh B g) : gL g (B + 152) = 16 := (S.2 152 (24, 16) rfl).2
theorem st_153 {B : Nat} {g : MT} (S : Sh B g) : gT g (B + 153) = 7 := (S.2 153 (7, 2) rfl).1
theorem st_154 {B : Nat} {g : MT} (S : Sh B g) : gT g (B + 154) = 22 := (S.2 154 (22, 16) rfl).1
theorem sl_154 {B : Nat} {g : MT} (S : Sh B g) : gL g (B + 154) = 16 := (S.2 154 (22, 16) rfl).2
theorem st_155 {B : Nat} {g : MT} (S : Sh B g) : gT g (B + 155) = 24 := (S.2 155 (24, 16) rfl).1
theorem sl_155 {B : Nat} {g : MT} (S : Sh B g) : gL g (B + 155) = 16 := (S.2 155 (24, 16) rfl).2
theorem st_156 {B : Nat} {g : MT} (S : Sh B g) : gT g (B + 156) = 7 := (S.2 156 (7, 2) rfl).1
theorem st_157 {B : Nat} {g : MT} (S : Sh B g) : gT g (B + 157) = 22 := (S.2 157 (22, 16) rfl).1
theorem sl_157 {B : Nat} {g : MT} (S : Sh B g) : gL g (B + 157) = 16 := (S.2 157 (22, 16) rfl).2
theorem st_158 {B : Nat} {g : MT} (S : Sh B g) : gT g (B + 158) = 24 := (S.2 158 (24, 16) rfl).1
theorem sl_158 {B : Nat} {g : MT} (S : Sh B g) : gL g (B + 158) = 16 := (S.2 158 (24, 16) rfl).2
theorem st_159 {B : Nat} {g : MT} (S : Sh B g) : gT g (B + 159) = 7 := (S.2 159 (7, 2) rfl).1
theorem st_160 {B : Nat} {g : MT} (S : Sh B g) : gT g (B + 160) = 22 := (S.2 160 (22, 16) rfl).1
theorem sl_160 {B : Nat} {g : MT} (S : Sh B g) : gL g (B + 160) = 16 := (S.2 160 (22, 16) rfl).2
theorem st_161 {B : Nat} {g : MT} (S : Sh B g) : gT g (B + 161) = 24 := (S.2 161 (24, 16) rfl).1
theorem sl_161 {B : Nat} {g : MT} (S : Sh B g) : gL g (B + 161) = 16 := (S.2 161 (24, 16) rfl).2
theorem st_162 {B : Nat} {g : MT} (S : Sh B g) : gT g (B + 162) = 7 := (S.2 162 (7, 2) rfl).1
theorem st_163 {B : Nat} {g : MT} (S : Sh B g) : gT g (B + 163) = 22 := (S.2 163 (22, 16) rfl).1
theorem sl_163 {B : Nat} {g : MT} (S : Sh B g) : gL g (B + 163) = 16 := (S.2 163 (22, 16) rfl).2
theorem st_164 {B : Nat} {g : MT} (S : Sh B g) : gT g (B + 164) = 24 := (S.2 164 (24, 16) rfl).1
theorem sl_164 {B : Nat} {g : MT} (S : Sh B g) : gL g (B + 164) = 16 := (S.2 164 (24, 16) rfl).2
theorem st_165 {B : Nat} {g : MT} (S : Sh B g) : gT g (B + 165) = 24 := (S.2 165 (24, 6) rfl).1
theorem sl_165 {B : Nat} {g : MT} (S : Sh B g) : gL g (B + 165) = 6 := (S.2 165 (24, 6) rfl).2
theorem st_166 {B : Nat} {g : MT} (S : Sh B g) : gT g (B + 166) = 7 := (S.2 166 (7, 2) rfl).1
theorem st_167 {B : Nat} {g : MT} (S : Sh B g) : gT g (B + 167) = 22 := (S.2 167 (22, 4) rfl).1
theorem sl_167 {B : Nat} {g : MT} (S : Sh B g) : gL g (B + 167) = 4 := (S.2 167 (22, 4) rfl).2
theorem st_168 {B : Nat} {g : MT} (S : Sh B g) : gT g (B + 168) = 24 := (S.2 168 (24, 4) rfl).1
theorem sl_168 {B : Nat} {g : MT} (S : Sh B g) : gL g (B + 168) = 4 := (S.2 168 (24, 4) rfl).2
theorem st_169 {B : Nat} {g : MT} (S : Sh B g) : gT g (B + 169) = 7 := (S.2 169 (7, 2) rfl).1
theorem st_170 {B : Nat} {g : MT} (S : Sh B g) : gT g (B + 170) = 22 := (S.2 170 (22, 64) rfl).1
theorem sl_170 {B : Nat} {g : MT} (S : Sh B g) : gL g (B + 170) = 64 := (S.2 170 (22, 64) rfl).2
theorem st_171 {B : Nat} {g : MT} (S : Sh B g) : gT g (B + 171) = 24 := (S.2 171 (24, 64) rfl).1
theorem sl_171 {B : Nat} {g : MT} (S : Sh B g) : gL g (B + 171) = 64 := (S.2 171 (24, 64) rfl).2
theorem st_172 {B : Nat} {g : MT} (S : Sh B g) : gT g (B + 172) = 6 := (S.2 172 (6, 2) rfl).1
theorem st_173 {B : Nat} {g : MT} (S : Sh B g) : gT g (B + 173) = 25 := (S.2 173 (25, 30) rfl).1
theorem sl_173 {B : Nat} {g : MT} (S : Sh B g) : gL g (B + 173) = 30 := (S.2 173 (25, 30) rfl).2
theorem st_174 {B : Nat} {g : MT} (S : Sh B g) : gT g (B + 174) = 6 := (S.2 174 (6, 2) rfl).1
theorem st_175 {B : Nat} {g : MT} (S : Sh B g) : gT g (B + 175) = 25 := (S.2 175 (25, 30) rfl).1
theorem sl_175 {B : Nat} {g : MT} (S : Sh B g) : gL g (B + 175) = 30 := (S.2 175 (25, 30) rfl).2
theorem st_176 {B : Nat} {g : MT} (S : Sh B g) : gT g (B + 176) = 9 := (S.2 176 (9, 17) rfl).1
theorem st_177 {B : Nat} {g : MT} (S : Sh B g) : gT g (B + 177) = 20 := (S.2 177 (20, 30) rfl).1
theorem sl_177 {B : Nat} {g : MT} (S : Sh B g) : gL g (B + 177) = 30 := (S.2 177 (20, 30) rfl).2
theorem st_178 {B : Nat} {g : MT} (S : Sh B g) : gT g (B + 178) = 20 := (S.2 178 (20, 30) rfl).1
theorem sl_178 {B : Nat} {g : MT} (S : Sh B g) : gL g (B + 178) = 30 := (S.2 178 (20, 30) rfl).2
theorem st_179 {B : Nat} {g : MT} (S : Sh B g) : gT g (B + 179) = 20 := (S.2 179 (20, 4) rfl).1
theorem sl_179 {B : Nat} {g : MT} (S : Sh B g) : gL g (B + 179) = 4 := (S.2 179 (20, 4) rfl).2
theorem st_180 {B : Nat} {g : MT} (S : Sh B g) : gT g (B + 180) = 20 := (S.2 180 (20, 96) rfl).1
theorem sl_180 {B : Nat} {g : MT} (S : Sh B g) : gL g (B + 180) = 96 := (S.2 180 (20, 96) rfl).2
theorem st_181 {B : Nat} {g : MT} (S : Sh B g) : gT g (B + 181) = 20 := (S.2 181 (20, 96) rfl).1
theorem sl_181 {B : Nat} {g : MT} (S : Sh B g) : gL g (B + 181) = 96 := (S.2 181 (20, 96) rfl).2
theorem st_182 {B : Nat} {g : MT} (S : Sh B g) : gT g (B + 182) = 20 := (S.2 182 (20, 16) rfl).1
theorem sl_182 {B : Nat} {g : MT} (S : Sh B g) : gL g (B + 182) = 16 := (S.2 182 (20, 16) rfl).2
theorem st_183 {B : Nat} {g : MT} (S : Sh B g) : gT g (B + 183) = 4 := (S.2 183 (4, 2) rfl).1
theorem st_184 {B : Nat} {g : MT} (S : Sh B g) : gT g (B + 184) = 4 := (S.2 184 (4, 2) rfl).1
theorem st_185 {B : Nat} {g : MT} (S : Sh B g) : gT g (B + 185) = 4 := (S.2 185 (4, 2) rfl).1
theorem st_186 {B : Nat} {g : MT} (S : Sh B g) : gT g (B + 186) = 4 := (S.2 186 (4, 2) rfl).1
theorem st_187 {B : Nat} {g : MT} (S : Sh B g) : gT g (B + 187) = 12 := (S.2 187 (12, 52) rfl).1
theorem st_188 {B : Nat} {g : MT} (S : Sh B g) : gT g (B + 188) = 20 := (S.2 188 (20, 4) rfl).1
theorem sl_188 {B : Nat} {g : MT} (S : Sh B g) : gL g (B + 188) = 4 := (S.2 188 (20, 4) rfl).2
theorem st_189 {B : Nat} {g : MT} (S : Sh B g) : gT g (B + 189) = 20 := (S.2 189 (20, 4) rfl).1
theorem sl_189 {B : Nat} {g : MT} (S : Sh B g) : gL g (B + 189) = 4 := (S.2 189 (20, 4) rfl).2
theorem st_190 {B : Nat} {g : MT} (S : Sh B g) : gT g (B + 190) = 21 := (S.2 190 (21, 240) rfl).1
theorem sl_190 {B : Nat} {g : MT} (S : Sh B g) : gL g (B + 190) = 240 := (S.2 190 (21, 240) rfl).2
theorem st_191 {B : Nat} {g : MT} (S : Sh B g) : gT g (B + 191) = 23 := (S.2 191 (23, 900) rfl).1
theorem sl_191 {B : Nat} {g : MT} (S : Sh B g) : gL g (B + 191) = 900 := (S.2 191 (23, 900) rfl).2
theorem st_192 {B : Nat} {g : MT} (S : Sh B g) : gT g (B + 192) = 20 := (S.2 192 (20, 1476) rfl).1
theorem sl_192 {B : Nat} {g : MT} (S : Sh B g) : gL g (B + 192) = 1476 := (S.2 192 (20, 1476) rfl).2
theorem st_193 {B : Nat} {g : MT} (S : Sh B g) : gT g (B + 193) = 22 := (S.2 193 (22, 984) rfl).1
theorem sl_193 {B : Nat} {g : MT} (S : Sh B g) : gL g (B + 193) = 984 := (S.2 193 (22, 984) rfl).2
theorem st_194 {B : Nat} {g : MT} (S : Sh B g) : gT g (B + 194) = 20 := (S.2 194 (20, 96) rfl).1
theorem sl_194 {B : Nat} {g : MT} (S : Sh B g) : gL g (B + 194) = 96 := (S.2 194 (20, 96) rfl).2
theorem st_195 {B : Nat} {g : MT} (S : Sh B g) : gT g (B + 195) = 20 := (S.2 195 (20, 96) rfl).1
theorem sl_195 {B : Nat} {g : MT} (S : Sh B g) : gL g (B + 195) = 96 := (S.2 195 (20, 96) rfl).2
theorem st_196 {B : Nat} {g : MT} (S : Sh B g) : gT g (B + 196) = 20 := (S.2 196 (20, 4) rfl).1
theorem sl_196 {B : Nat} {g : MT} (S : Sh B g) : gL g (B + 196) = 4 := (S.2 196 (20, 4) rfl).2
theorem st_197 {B : Nat} {g : MT} (S : Sh B g) : gT g (B + 197) = 20 := (S.2 197 (20, 16) rfl).1
theorem sl_197 {B : Nat} {g : MT} (S : Sh B g) : gL g (B + 197) = 16 := (S.2 197 (20, 16) rfl).2
theorem st_198 {B : Nat} {g : MT} (S : Sh B g) : gT g (B + 198) = 20 := (S.2 198 (20, 30) rfl).1
theorem sl_198 {B : Nat} {g : MT} (S : Sh B g) : gL g (B + 198) = 30 := (S.2 198 (20, 30) rfl).2
theorem st_199 {B : Nat} {g : MT} (S : Sh B g) : gT g (B + 199) = 20 := (S.2 199 (20, 30) rfl).1
theorem sl_199 {B : Nat} {g : MT} (S : Sh B g) : gL g (B + 199) = 30 := (S.2 199 (20, 30) rfl).2
theorem st_200 {B : Nat} {g : MT} (S : Sh B g) : gT g (B + 200) = 22 := (S.2 200 (22, 16) rfl).1
theorem sl_200 {B : Nat} {g : MT} (S : Sh B g) : gL g (B + 200) = 16 := (S.2 200 (22, 16) rfl).2
theorem st_201 {B : Nat} {g : MT} (S : Sh B g) : gT g (B + 201) = 20 := (S.2 201 (20, 6) rfl).1
theorem sl_201 {B : Nat} {g : MT} (S : Sh B g) : gL g (B + 201) = 6 := (S.2 201 (20, 6) rfl).2
theorem st_202 {B : Nat} {g : MT} (S : Sh B g) : gT g (B + 202) = 20 := (S.2 202 (20, 30) rfl).1
theorem sl_202 {B : Nat} {g : MT} (S : Sh B g) : gL g (B + 202) = 30 := (S.2 202 (20, 30) rfl).2
theorem st_203 {B : Nat} {g : MT} (S : Sh B g) : gT g (B + 203) = 20 := (S.2 203 (20, 30) rfl).1
theorem sl_203 {B : Nat} {g : MT} (S : Sh B g) : gL g (B + 203) = 30 := (S.2 203 (20, 30) rfl).2
theorem st_204 {B : Nat} {g : MT} (S : Sh B g) : gT g (B + 204) = 20 := (S.2 204 (20, 16) rfl).1
theorem sl_204 {B : Nat} {g : MT} (S : Sh B g) : gL g (B + 204) = 16 := (S.2 204 (20, 16) rfl).2
theorem pc_0_0 {B : Nat} {r : Nat → Nat → Option Nat} (S : PtC B r) : r B 0 = some (B + 1) := S (0, 0, 1) (List.mem_of_getElem? (i := 0) rfl)
theorem pc_1_0 {B : Nat} {r : Nat → Nat → Option Nat} (S : PtC B r) : r (B + 1) 0 = some (B + 2) := S (1, 0, 2) (List.mem_of_getElem? (i := 1) rfl)
theorem pc_2_3 {B : Nat} {r : Nat → Nat → Option Nat} (S : PtC B r) : r (B + 2) 3 = some (B + 3) := S (2, 3, 3) (List.mem_of_getElem? (i := 2) rfl)
theorem pc_1_1 {B : Nat} {r : Nat → Nat → Option Nat} (S : PtC B r) : r (B + 1) 1 = some (B + 4) := S (1, 1, 4) (List.mem_of_getElem? (i := 3) rfl)
theorem pc_4_3 {B : Nat} {r : Nat → Nat → Option Nat} (S : PtC B r) : r (B + 4) 3 = some (B + 5) := S (4, 3, 5) (List.mem_of_getElem? (i := 4) rfl)
theorem pc_1_2 {B : Nat} {r : Nat → Nat → Option Nat} (S : PtC B r) : r (B + 1) 2 = some (B + 6) := S (1, 2, 6) (List.mem_of_getElem? (i := 5) rfl)
theorem pc_6_3 {B : Nat} {r : Nat → Nat → Option Nat} (S : PtC B r) : r (B + 6) 3 = some (B + 7) := S (6, 3, 7) (List.mem_of_getElem? (i := 6) rfl)
theorem pc_1_3 {B : Nat} {r : Nat → Nat → Option Nat} (S : PtC B r) : r (B + 1) 3 = some (B + 8) := S (1, 3, 8) (List.mem_of_getElem? (i := 7) rfl)
theorem pc_8_3 {B : Nat} {r : Nat → Nat → Option Nat} (S : PtC B r) : r (B + 8) 3 = some (B + 9) := S (8, 3, 9) (List.mem_of_getElem? (i := 8) rfl)
theorem pc_0_1 {B : Nat} {r : Nat → Nat → Option Nat} (S : PtC B r) : r B 1 = some (B + 10) := S (0, 1, 10) (List.mem_of_getElem? (i := 9) rfl)
theorem pc_0_3 {B : Nat} {r : Nat → Nat → Option Nat} (S : PtC B r) : r B 3 = some (B + 11) := S (0, 3, 11) (List.mem_of_getElem? (i := 10) rfl)
theorem pc_13_0 {B : Nat} {r : Nat → Nat → Option Nat} (S : PtC B r) : r (B + 13) 0 = some (B + 14) := S (13, 0, 14) (List.mem_of_getElem? (i := 11) rfl)
theorem pc_15_0 {B : Nat} {r : Nat → Nat → Option Nat} (S : PtC B r) : r (B + 15) 0 = some (B + 16) := S (15, 0, 16) (List.mem_of_getElem? (i := 12) rfl)
theorem pc_15_1 {B : Nat} {r : Nat → Nat → Option Nat} (S : PtC B r) : r (B + 15) 1 = some (B + 17) := S (15, 1, 17) (List.mem_of_getElem? (i := 13) rfl)
theorem pc_14_0 {B : Nat} {r : Nat → Nat → Option Nat} (S : PtC B r) : r (B + 14) 0 = some (B + 15) := S (14, 0, 15) (List.mem_of_getElem? (i := 14) rfl)
theorem pc_18_0 {B : Nat} {r : Nat → Nat → Option Nat} (S : PtC B r) : r (B + 18) 0 = some (B + 19) := S (18, 0, 19) (List.mem_of_getElem? (i := 15) rfl)
theorem pc_18_1 {B : Nat} {r : Nat → Nat → Option Nat} (S : PtC B r) : r (B + 18) 1 = some (B + 20) := S (18, 1, 20) (List.mem_of_getElem? (i := 16) rfl)
theorem pc_14_1 {B : Nat} {r : Nat → Nat → Option Nat} (S : PtC B r) : r (B + 14) 1 = some (B + 18) := S (14, 1, 18) (List.mem_of_getElem? (i := 17) rfl)
theorem pc_21_0 {B : Nat} {r : Nat → Nat → Option Nat} (S : PtC B r) : r (B + 21) 0 = some (B + 22) := S (21, 0, 22) (List.mem_of_getElem? (i := 18) rfl)
theorem pc_21_1 {B : Nat} {r : Nat → Nat → Option Nat} (S : PtC B r) : r (B + 21) 1 = some (B + 23) := S (21, 1, 23) (List.mem_of_getElem? (i := 19) rfl)
theorem pc_14_2 {B : Nat} {r : Nat → Nat → Option Nat} (S : PtC B r) : r (B + 14) 2 = some (B + 21) := S (14, 2, 21) (List.mem_of_getElem? (i := 20) rfl)
theorem pc_24_0 {B : Nat} {r : Nat → Nat → Option Nat} (S : PtC B r) : r (B + 24) 0 = some (B + 25) := S (24, 0, 25) (List.mem_of_getElem? (i := 21) rfl)
theorem pc_24_1 {B : Nat} {r : Nat → Nat → Option Nat} (S : PtC B r) : r (B + 24) 1 = some (B + 26) := S (24, 1, 26) (List.mem_of_getElem? (i := 22) rfl)
theorem pc_14_3 {B : Nat} {r : Nat → Nat → Option Nat} (S : PtC B r) : r (B + 14) 3 = some (B + 24) := S (14, 3, 24) (List.mem_of_getElem? (i := 23) rfl)
theorem pc_27_0 {B : Nat} {r : Nat → Nat → Option Nat} (S : PtC B r) : r (B + 27) 0 = some (B + 28) := S (27, 0, 28) (List.mem_of_getElem? (i := 24) rfl)
theorem pc_27_1 {B : Nat} {r : Nat → Nat → Option Nat} (S : PtC B r) : r (B + 27) 1 = some (B + 29) := S (27, 1, 29) (List.mem_of_getElem? (i := 25) rfl)
theorem pc_14_4 {B : Nat} {r : Nat → Nat → Option Nat} (S : PtC B r) : r (B + 14) 4 = some (B + 27) := S (14, 4, 27) (List.mem_of_getElem? (i := 26) rfl)
theorem pc_30_0 {B : Nat} {r : Nat → Nat → Option Nat} (S : PtC B r) : r (B + 30) 0 = some (B + 31) := S (30, 0, 31) (List.mem_of_getElem? (i := 27) rfl)
theorem pc_30_1 {B : Nat} {r : Nat → Nat → Option Nat} (S : PtC B r) : r (B + 30) 1 = some (B + 32) := S (30, 1, 32) (List.mem_of_getElem? (i := 28) rfl)
theorem pc_14_5 {B : Nat} {r : Nat → Nat → Option Nat} (S : PtC B r) : r (B + 14) 5 = some (B + 30) := S (14, 5, 30) (List.mem_of_getElem? (i := 29) rfl)
theorem pc_13_1 {B : Nat} {r : Nat → Nat → Option Nat} (S : PtC B r) : r (B + 13) 1 = some (B + 33) := S (13, 1, 33) (List.mem_of_getElem? (i := 30) rfl)
theorem pc_34_0 {B : Nat} {r : Nat → Nat → Option Nat} (S : PtC B r) : r (B + 34) 0 = some (B + 35) := S (34, 0, 35) (List.mem_of_getElem? (i := 31) rfl)
theorem pc_34_1 {B : Nat} {r : Nat → Nat → Option Nat} (S : PtC B r) : r (B + 34) 1 = some (B + 36) := S (34, 1, 36) (List.mem_of_getElem? (i := 32) rfl)
theorem pc_13_2 {B : Nat} {r : Nat → Nat → Option Nat} (S : PtC B r) : r (B + 13) 2 = some (B + 34) := S (13, 2, 34) (List.mem_of_getElem? (i := 33) rfl)
theorem pc_37_0 {B : Nat} {r : Nat → Nat → Option Nat} (S : PtC B r) : r (B + 37) 0 = some (B + 38) := S (37, 0, 38) (List.mem_of_getElem? (i := 34) rfl)
theorem pc_37_1 {B : Nat} {r : Nat → Nat → Option Nat} (S : PtC B r) : r (B + 37) 1 = some (B + 39) := S (37, 1, 39) (List.mem_of_getElem? (i := 35) rfl)
theorem pc_13_3 {B : Nat} {r : Nat → Nat → Option Nat} (S : PtC B r) : r (B + 13) 3 = some (B + 37) := S (13, 3, 37) (List.mem_of_getElem? (i := 36) rfl)
theorem pc_40_0 {B : Nat} {r : Nat → Nat → Option Nat} (S : PtC B r) : r (B + 40) 0 = some (B + 41) := S (40, 0, 41) (List.mem_of_getElem? (i := 37) rfl)
theorem pc_0_4 {B : Nat} {r : Nat → Nat → Option Nat} (S : PtC B r) : r B 4 = some (B + 13) := S (0, 4, 13) (List.mem_of_getElem? (i := 38) rfl)
theorem pc_0_5 {B : Nat} {r : Nat → Nat → Option Nat} (S : PtC B r) : r B 5 = some (B + 42) := S (0, 5, 42) (List.mem_of_getElem? (i := 39) rfl)
theorem pc_43_0 {B : Nat} {r : Nat → Nat → Option Nat} (S : PtC B r) : r (B + 43) 0 = some (B + 44) := S (43, 0, 44) (List.mem_of_getElem? (i := 40) rfl)
theorem pc_45_0 {B : Nat} {r : Nat → Nat → Option Nat} (S : PtC B r) : r (B + 45) 0 = some (B + 46) := S (45, 0, 46) (List.mem_of_getElem? (i := 41) rfl)
theorem pc_45_1 {B : Nat} {r : Nat → Nat → Option Nat} (S : PtC B r) : r (B + 45) 1 = some (B + 47) := S (45, 1, 47) (List.mem_of_getElem? (i := 42) rfl)
theorem pc_44_0 {B : Nat} {r : Nat → Nat → Option Nat} (S : PtC B r) : r (B + 44) 0 = some (B + 45) := S (44, 0, 45) (List.mem_of_getElem? (i := 43) rfl)
theorem pc_48_0 {B : Nat} {r : Nat → Nat → Option Nat} (S : PtC B r) : r (B + 48) 0 = some (B + 49) := S (48, 0, 49) (List.mem_of_getElem? (i := 44) rfl)
theorem pc_48_1 {B : Nat} {r : Nat → Nat → Option Nat} (S : PtC B r) : r (B + 48) 1 = some (B + 50) := S (48, 1, 50) (List.mem_of_getElem? (i := 45) rfl)
theorem pc_44_1 {B : Nat} {r : Nat → Nat → Option Nat} (S : PtC B r) : r (B + 44) 1 = some (B + 48) := S (44, 1, 48) (List.mem_of_getElem? (i := 46) rfl)
theorem pc_51_0 {B : Nat} {r : Nat → Nat → Option Nat} (S : PtC B r) : r (B + 51) 0 = some (B + 52) := S (51, 0, 52) (List.mem_of_getElem? (i := 47) rfl)
theorem pc_51_1 {B : Nat} {r : Nat → Nat → Option Nat} (S : PtC B r) : r (B + 51) 1 = some (B + 53) := S (51, 1, 53) (List.mem_of_getElem? (i := 48) rfl)
theorem pc_44_2 {B : Nat} {r : Nat → Nat → Option Nat} (S : PtC B r) : r (B + 44) 2 = some (B + 51) := S (44, 2, 51) (List.mem_of_getElem? (i := 49) rfl)
theorem pc_54_0 {B : Nat} {r : Nat → Nat → Option Nat} (S : PtC B r) : r (B + 54) 0 = some (B + 55) := S (54, 0, 55) (List.mem_of_getElem? (i := 50) rfl)
theorem pc_54_1 {B : Nat} {r : Nat → Nat → Option Nat} (S : PtC B r) : r (B + 54) 1 = some (B + 56) := S (54, 1, 56) (List.mem_of_getElem? (i := 51) rfl)
theorem pc_44_3 {B : Nat} {r : Nat → Nat → Option Nat} (S : PtC B r) : r (B + 44) 3 = some (B + 54) := S (44, 3, 54) (List.mem_of_getElem? (i := 52) rfl)
theorem pc_57_0 {B : Nat} {r : Nat → Nat → Option Nat} (S : PtC B r) : r (B + 57) 0 = some (B + 58) := S (57, 0, 58) (List.mem_of_getElem? (i := 53) rfl)
theorem pc_57_1 {B : Nat} {r : Nat → Nat → Option Nat} (S : PtC B r) : r (B + 57) 1 = some (B + 59) := S (57, 1, 59) (List.mem_of_getElem? (i := 54) rfl)
theorem pc_44_4 {B : Nat} {r : Nat → Nat → Option Nat} (S : PtC B r) : r (B + 44) 4 = some (B + 57) := S (44, 4, 57) (List.mem_of_getElem? (i := 55) rfl)
theorem pc_60_0 {B : Nat} {r : Nat → Nat → Option Nat} (S : PtC B r) : r (B + 60) 0 = some (B + 61) := S (60, 0, 61) (List.mem_of_getElem? (i := 56) rfl)
theorem pc_60_1 {B : Nat} {r : Nat → Nat → Option Nat} (S : PtC B r) : r (B + 60) 1 = some (B + 62) := S (60, 1, 62) (List.mem_of_getElem? (i := 57) rfl)
theorem pc_44_5 {B : Nat} {r : Nat → Nat → Option Nat} (S : PtC B r) : r (B + 44) 5 = some (B + 60) := S (44, 5, 60) (List.mem_of_getElem? (i := 58) rfl)
theorem pc_43_1 {B : Nat} {r : Nat → Nat → Option Nat} (S : PtC B r) : r (B + 43) 1 = some (B + 63) := S (43, 1, 63) (List.mem_of_getElem? (i := 59) rfl)
theorem pc_64_0 {B : Nat} {r : Nat → Nat → Option Nat} (S : PtC B r) : r (B + 64) 0 = some (B + 65) := S (64, 0, 65) (List.mem_of_getElem? (i := 60) rfl)
theorem pc_64_1 {B : Nat} {r : Nat → Nat → Option Nat} (S : PtC B r) : r (B + 64) 1 = some (B + 66) := S (64, 1, 66) (List.mem_of_getElem? (i := 61) rfl)
theorem pc_43_2 {B : Nat} {r : Nat → Nat → Option Nat} (S : PtC B r) : r (B + 43) 2 = some (B + 64) := S (43, 2, 64) (List.mem_of_getElem? (i := 62) rfl)
theorem pc_67_0 {B : Nat} {r : Nat → Nat → Option Nat} (S : PtC B r) : r (B + 67) 0 = some (B + 68) := S (67, 0, 68) (List.mem_of_getElem? (i := 63) rfl)
theorem pc_67_1 {B : Nat} {r : Nat → Nat → Option Nat} (S : PtC B r) : r (B + 67) 1 = some (B + 69) := S (67, 1, 69) (List.mem_of_getElem? (i := 64) rfl)
theorem pc_43_3 {B : Nat} {r : Nat → Nat → Option Nat} (S : PtC B r) : r (B + 43) 3 = some (B + 67) := S (43, 3, 67) (List.mem_of_getElem? (i := 65) rfl)
theorem pc_70_0 {B : Nat} {r : Nat → Nat → Option Nat} (S : PtC B r) : r (B + 70) 0 = some (B + 71) := S (70, 0, 71) (List.mem_of_getElem? (i := 66) rfl)
theorem pc_42_0 {B : Nat} {r : Nat → Nat → Option Nat} (S : PtC B r) : r (B + 42) 0 = some (B + 43) := S (42, 0, 43) (List.mem_of_getElem? (i := 67) rfl)
theorem pc_72_0 {B : Nat} {r : Nat → Nat → Option Nat} (S : PtC B r) : r (B + 72) 0 = some (B + 73) := S (72, 0, 73) (List.mem_of_getElem? (i := 68) rfl)
theorem pc_74_0 {B : Nat} {r : Nat → Nat → Option Nat} (S : PtC B r) : r (B + 74) 0 = some (B + 75) := S (74, 0, 75) (List.mem_of_getElem? (i := 69) rfl)
theorem pc_74_1 {B : Nat} {r : Nat → Nat → Option Nat} (S : PtC B r) : r (B + 74) 1 = some (B + 76) := S (74, 1, 76) (List.mem_of_getElem? (i := 70) rfl)
theorem pc_73_0 {B : Nat} {r : Nat → Nat → Option Nat} (S : PtC B r) : r (B + 73) 0 = some (B + 74) := S (73, 0, 74) (List.mem_of_getElem? (i := 71) rfl)
theorem pc_77_0 {B : Nat} {r : Nat → Nat → Option Nat} (S : PtC B r) : r (B + 77) 0 = some (B + 78) := S (77, 0, 78) (List.mem_of_getElem? (i := 72) rfl)
theorem pc_77_1 {B : Nat} {r : Nat → Nat → Option Nat} (S : PtC B r) : r (B + 77) 1 = some (B + 79) := S (77, 1, 79) (List.mem_of_getElem? (i := 73) rfl)
theorem pc_73_1 {B : Nat} {r : Nat → Nat → Option Nat} (S : PtC B r) : r (B + 73) 1 = some (B + 77) := S (73, 1, 77) (List.mem_of_getElem? (i := 74) rfl)
theorem pc_80_0 {B : Nat} {r : Nat → Nat → Option Nat} (S : PtC B r) : r (B + 80) 0 = some (B + 81) := S (80, 0, 81) (List.mem_of_getElem? (i := 75) rfl)
theorem pc_80_1 {B : Nat} {r : Nat → Nat → Option Nat} (S : PtC B r) : r (B + 80) 1 = some (B + 82) := S (80, 1, 82) (List.mem_of_getElem? (i := 76) rfl)
theorem pc_73_2 {B : Nat} {r : Nat → Nat → Option Nat} (S : PtC B r) : r (B + 73) 2 = some (B + 80) := S (73, 2, 80) (List.mem_of_getElem? (i := 77) rfl)
theorem pc_83_0 {B : Nat} {r : Nat → Nat → Option Nat} (S : PtC B r) : r (B + 83) 0 = some (B + 84) := S (83, 0, 84) (List.mem_of_getElem? (i := 78) rfl)
theorem pc_83_1 {B : Nat} {r : Nat → Nat → Option Nat} (S : PtC B r) : r (B + 83) 1 = some (B + 85) := S (83, 1, 85) (List.mem_of_getElem? (i := 79) rfl)
theorem pc_73_3 {B : Nat} {r : Nat → Nat → Option Nat} (S : PtC B r) : r (B + 73) 3 = some (B + 83) := S (73, 3, 83) (List.mem_of_getElem? (i := 80) rfl)
theorem pc_86_0 {B : Nat} {r : Nat → Nat → Option Nat} (S : PtC B r) : r (B + 86) 0 = some (B + 87) := S (86, 0, 87) (List.mem_of_getElem? (i := 81) rfl)
theorem pc_86_1 {B : Nat} {r : Nat → Nat → Option Nat} (S : PtC B r) : r (B + 86) 1 = some (B + 88) := S (86, 1, 88) (List.mem_of_getElem? (i := 82) rfl)
theorem pc_73_4 {B : Nat} {r : Nat → Nat → Option Nat} (S : PtC B r) : r (B + 73) 4 = some (B + 86) := S (73, 4, 86) (List.mem_of_getElem? (i := 83) rfl)
theorem pc_89_0 {B : Nat} {r : Nat → Nat → Option Nat} (S : PtC B r) : r (B + 89) 0 = some (B + 90) := S (89, 0, 90) (List.mem_of_getElem? (i := 84) rfl)
theorem pc_89_1 {B : Nat} {r : Nat → Nat → Option Nat} (S : PtC B r) : r (B + 89) 1 = some (B + 91) := S (89, 1, 91) (List.mem_of_getElem? (i := 85) rfl)
theorem pc_73_5 {B : Nat} {r : Nat → Nat → Option Nat} (S : PtC B r) : r (B + 73) 5 = some (B + 89) := S (73, 5, 89) (List.mem_of_getElem? (i := 86) rfl)
theorem pc_72_1 {B : Nat} {r : Nat → Nat → Option Nat} (S : PtC B r) : r (B + 72) 1 = some (B + 92) := S (72, 1, 92) (List.mem_of_getElem? (i := 87) rfl)
theorem pc_93_0 {B : Nat} {r : Nat → Nat → Option Nat} (S : PtC B r) : r (B + 93) 0 = some (B + 94) := S (93, 0, 94) (List.mem_of_getElem? (i := 88) rfl)
theorem pc_93_1 {B : Nat} {r : Nat → Nat → Option Nat} (S : PtC B r) : r (B + 93) 1 = some (B + 95) := S (93, 1, 95) (List.mem_of_getElem? (i := 89) rfl)
theorem pc_72_2 {B : Nat} {r : Nat → Nat → Option Nat} (S : PtC B r) : r (B + 72) 2 = some (B + 93) := S (72, 2, 93) (List.mem_of_getElem? (i := 90) rfl)
theorem pc_96_0 {B : Nat} {r : Nat → Nat → Option Nat} (S : PtC B r) : r (B + 96) 0 = some (B + 97) := S (96, 0, 97) (List.mem_of_getElem? (i := 91) rfl)
theorem pc_96_1 {B : Nat} {r : Nat → Nat → Option Nat} (S : PtC B r) : r (B + 96) 1 = some (B + 98) := S (96, 1, 98) (List.mem_of_getElem? (i := 92) rfl)
theorem pc_72_3 {B : Nat} {r : Nat → Nat → Option Nat} (S : PtC B r) : r (B + 72) 3 = some (B + 96) := S (72, 3, 96) (List.mem_of_getElem? (i := 93) rfl)
theorem pc_99_0 {B : Nat} {r : Nat → Nat → Option Nat} (S : PtC B r) : r (B + 99) 0 = some (B + 100) := S (99, 0, 100) (List.mem_of_getElem? (i := 94) rfl)
theorem pc_42_1 {B : Nat} {r : Nat → Nat → Option Nat} (S : PtC B r) : r (B + 42) 1 = some (B + 72) := S (42, 1, 72) (List.mem_of_getElem? (i := 95) rfl)
theorem pc_101_0 {B : Nat} {r : Nat → Nat → Option Nat} (S : PtC B r) : r (B + 101) 0 = some (B + 102) := S (101, 0, 102) (List.mem_of_getElem? (i := 96) rfl)
theorem pc_103_0 {B : Nat} {r : Nat → Nat → Option Nat} (S : PtC B r) : r (B + 103) 0 = some (B + 104) := S (103, 0, 104) (List.mem_of_getElem? (i := 97) rfl)
theorem pc_103_1 {B : Nat} {r : Nat → Nat → Option Nat} (S : PtC B r) : r (B + 103) 1 = some (B + 105) := S (103, 1, 105) (List.mem_of_getElem? (i := 98) rfl)
theorem pc_102_0 {B : Nat} {r : Nat → Nat → Option Nat} (S : PtC B r) : r (B + 102) 0 = some (B + 103) := S (102, 0, 103) (List.mem_of_getElem? (i := 99) rfl)
theorem pc_106_0 {B : Nat} {r : Nat → Nat → Option Nat} (S : PtC B r) : r (B + 106) 0 = some (B + 107) := S (106, 0, 107) (List.mem_of_getElem? (i := 100) rfl)
theorem pc_106_1 {B : Nat} {r : Nat → Nat → Option Nat} (S : PtC B r) : r (B + 106) 1 = some (B + 108) := S (106, 1, 108) (List.mem_of_getElem? (i := 101) rfl)
theorem pc_102_1 {B : Nat} {r : Nat → Nat → Option Nat} (S : PtC B r) : r (B + 102) 1 = some (B + 106) := S (102, 1, 106) (List.mem_of_getElem? (i := 102) rfl)
theorem pc_109_0 {B : Nat} {r : Nat → Nat → Option Nat} (S : PtC B r) : r (B + 109) 0 = some (B + 110) := S (109, 0, 110) (List.mem_of_getElem? (i := 103) rfl)
theorem pc_109_1 {B : Nat} {r : Nat → Nat → Option Nat} (S : PtC B r) : r (B + 109) 1 = some (B + 111) := S (109, 1, 111) (List.mem_of_getElem? (i := 104) rfl)
theorem pc_102_2 {B : Nat} {r : Nat → Nat → Option Nat} (S : PtC B r) : r (B + 102) 2 = some (B + 109) := S (102, 2, 109) (List.mem_of_getElem? (i := 105) rfl)
theorem pc_112_0 {B : Nat} {r : Nat → Nat → Option Nat} (S : PtC B r) : r (B + 112) 0 = some (B + 113) := S (112, 0, 113) (List.mem_of_getElem? (i := 106) rfl)
theorem pc_112_1 {B : Nat} {r : Nat → Nat → Option Nat} (S : PtC B r) : r (B + 112) 1 = some (B + 114) := S (112, 1, 114) (List.mem_of_getElem? (i := 107) rfl)
theorem pc_102_3 {B : Nat} {r : Nat → Nat → Option Nat} (S : PtC B r) : r (B + 102) 3 = some (B + 112) := S (102, 3, 112) (List.mem_of_getElem? (i := 108) rfl)
theorem pc_115_0 {B : Nat} {r : Nat → Nat → Option Nat} (S : PtC B r) : r (B + 115) 0 = some (B + 116) := S (115, 0, 116) (List.mem_of_getElem? (i := 109) rfl)
theorem pc_115_1 {B : Nat} {r : Nat → Nat → Option Nat} (S : PtC B r) : r (B + 115) 1 = some (B + 117) := S (115, 1, 117) (List.mem_of_getElem? (i := 110) rfl)
theorem pc_102_4 {B : Nat} {r : Nat → Nat → Option Nat} (S : PtC B r) : r (B + 102) 4 = some (B + 115) := S (102, 4, 115) (List.mem_of_getElem? (i := 111) rfl)
theorem pc_118_0 {B : Nat} {r : Nat → Nat → Option Nat} (S : PtC B r) : r (B + 118) 0 = some (B + 119) := S (118, 0, 119) (List.mem_of_getElem? (i := 112) rfl)
theorem pc_118_1 {B : Nat} {r : Nat → Nat → Option Nat} (S : PtC B r) : r (B + 118) 1 = some (B + 120) := S (118, 1, 120) (List.mem_of_getElem? (i := 113) rfl)
theorem pc_102_5 {B : Nat} {r : Nat → Nat → Option Nat} (S : PtC B r) : r (B + 102) 5 = some (B + 118) := S (102, 5, 118) (List.mem_of_getElem? (i := 114) rfl)
theorem pc_101_1 {B : Nat} {r : Nat → Nat → Option Nat} (S : PtC B r) : r (B + 101) 1 = some (B + 121) := S (101, 1, 121) (List.mem_of_getElem? (i := 115) rfl)
theorem pc_122_0 {B : Nat} {r : Nat → Nat → Option Nat} (S : PtC B r) : r (B + 122) 0 = some (B + 123) := S (122, 0, 123) (List.mem_of_getElem? (i := 116) rfl)
theorem pc_122_1 {B : Nat} {r : Nat → Nat → Option Nat} (S : PtC B r) : r (B + 122) 1 = some (B + 124) := S (122, 1, 124) (List.mem_of_getElem? (i := 117) rfl)
theorem pc_101_2 {B : Nat} {r : Nat → Nat → Option Nat} (S : PtC B r) : r (B + 101) 2 = some (B + 122) := S (101, 2, 122) (List.mem_of_getElem? (i := 118) rfl)
theorem pc_125_0 {B : Nat} {r : Nat → Nat → Option Nat} (S : PtC B r) : r (B + 125) 0 = some (B + 126) := S (125, 0, 126) (List.mem_of_getElem? (i := 119) rfl)
theorem pc_125_1 {B : Nat} {r : Nat → Nat → Option Nat} (S : PtC B r) : r (B + 125) 1 = some (B + 127) := S (125, 1, 127) (List.mem_of_getElem? (i := 120) rfl)
theorem pc_101_3 {B : Nat} {r : Nat → Nat → Option Nat} (S : PtC B r) : r (B + 101) 3 = some (B + 125) := S (101, 3, 125) (List.mem_of_getElem? (i := 121) rfl)
theorem pc_128_0 {B : Nat} {r : Nat → Nat → Option Nat} (S : PtC B r) : r (B + 128) 0 = some (B + 129) := S (128, 0, 129) (List.mem_of_getElem? (i := 122) rfl)
theorem pc_42_2 {B : Nat} {r : Nat → Nat → Option Nat} (S : PtC B r) : r (B + 42) 2 = some (B + 101) := S (42, 2, 101) (List.mem_of_getElem? (i := 123) rfl)
theorem pc_130_2 {B : Nat} {r : Nat → Nat → Option Nat} (S : PtC B r) : r (B + 130) 2 = some (B + 131) := S (130, 2, 131) (List.mem_of_getElem? (i := 124) rfl)
theorem pc_0_14 {B : Nat} {r : Nat → Nat → Option Nat} (S : PtC B r) : r B 14 = some (B + 130) := S (0, 14, 130) (List.mem_of_getElem? (i := 125) rfl)
theorem pc_0_7 {B : Nat} {r : Nat → Nat → Option Nat} (S : PtC B r) : r B 7 = some (B + 132) := S (0, 7, 132) (List.mem_of_getElem? (i := 126) rfl)
theorem pc_132_0 {B : Nat} {r : Nat → Nat → Option Nat} (S : PtC B r) : r (B + 132) 0 = some (B + 130) := S (132, 0, 130) (List.mem_of_getElem? (i := 127) rfl)
theorem pc_133_0 {B : Nat} {r : Nat → Nat → Option Nat} (S : PtC B r) : r (B + 133) 0 = some (B + 134) := S (133, 0, 134) (List.mem_of_getElem? (i := 128) rfl)
theorem pc_133_1 {B : Nat} {r : Nat → Nat → Option Nat} (S : PtC B r) : r (B + 133) 1 = some (B + 135) := S (133, 1, 135) (List.mem_of_getElem? (i := 129) rfl)
theorem pc_132_1 {B : Nat} {r : Nat → Nat → Option Nat} (S : PtC B r) : r (B + 132) 1 = some (B + 133) := S (132, 1, 133) (List.mem_of_getElem? (i := 130) rfl)
theorem pc_132_2 {B : Nat} {r : Nat → Nat → Option Nat} (S : PtC B r) : r (B + 132) 2 = some (B + 136) := S (132, 2, 136) (List.mem_of_getElem? (i := 131) rfl)
theorem pc_132_3 {B : Nat} {r : Nat → Nat → Option Nat} (S : PtC B r) : r (B + 132) 3 = some (B + 137) := S (132, 3, 137) (List.mem_of_getElem? (i := 132) rfl)
theorem pc_138_6 {B : Nat} {r : Nat → Nat → Option Nat} (S : PtC B r) : r (B + 138) 6 = some (B + 139) := S (138, 6, 139) (List.mem_of_getElem? (i := 133) rfl)
theorem pc_138_7 {B : Nat} {r : Nat → Nat → Option Nat} (S : PtC B r) : r (B + 138) 7 = some (B + 140) := S (138, 7, 140) (List.mem_of_getElem? (i := 134) rfl)
theorem pc_138_13 {B : Nat} {r : Nat → Nat → Option Nat} (S : PtC B r) : r (B + 138) 13 = some (B + 141) := S (138, 13, 141) (List.mem_of_getElem? (i := 135) rfl)
theorem pc_138_14 {B : Nat} {r : Nat → Nat → Option Nat} (S : PtC B r) : r (B + 138) 14 = some (B + 142) := S (138, 14, 142) (List.mem_of_getElem? (i := 136) rfl)
theorem pc_138_15 {B : Nat} {r : Nat → Nat → Option Nat} (S : PtC B r) : r (B + 138) 15 = some (B + 143) := S (138, 15, 143) (List.mem_of_getElem? (i := 137) rfl)
theorem pc_138_16 {B : Nat} {r : Nat → Nat → Option Nat} (S : PtC B r) : r (B + 138) 16 = some (B + 144) := S (138, 16, 144) (List.mem_of_getElem? (i := 138) rfl)
theorem pc_0_8 {B : Nat} {r : Nat → Nat → Option Nat} (S : PtC B r) : r B 8 = some (B + 138) := S (0, 8, 138) (List.mem_of_getElem? (i := 139) rfl)
theorem pc_145_0 {B : Nat} {r : Nat → Nat → Option Nat} (S : PtC B r) : r (B + 145) 0 = some (B + 146) := S (145, 0, 146) (List.mem_of_getElem? (i := 140) rfl)
theorem pc_147_0 {B : Nat} {r : Nat → Nat → Option Nat} (S : PtC B r) : r (B + 147) 0 = some (B + 148) := S (147, 0, 148) (List.mem_of_getElem? (i := 141) rfl)
theorem pc_147_1 {B : Nat} {r : Nat → Nat → Option Nat} (S : PtC B r) : r (B + 147) 1 = some (B + 149) := S (147, 1, 149) (List.mem_of_getElem? (i := 142) rfl)
theorem pc_146_0 {B : Nat} {r : Nat → Nat → Option Nat} (S : PtC B r) : r (B + 146) 0 = some (B + 147) := S (146, 0, 147) (List.mem_of_getElem? (i := 143) rfl)
theorem pc_150_0 {B : Nat} {r : Nat → Nat → Option Nat} (S : PtC B r) : r (B + 150) 0 = some (B + 151) := S (150, 0, 151) (List.mem_of_getElem? (i := 144) rfl)
theorem pc_150_1 {B : Nat} {r : Nat → Nat → Option Nat} (S : PtC B r) : r (B + 150) 1 = some (B + 152) := S (150, 1, 152) (List.mem_of_getElem? (i := 145) rfl)
theorem pc_146_1 {B : Nat} {r : Nat → Nat → Option Nat} (S : PtC B r) : r (B + 146) 1 = some (B + 150) := S (146, 1, 150) (List.mem_of_getElem? (i := 146) rfl)
theorem pc_153_0 {B : Nat} {r : Nat → Nat → Option Nat} (S : PtC B r) : r (B + 153) 0 = some (B + 154) := S (153, 0, 154) (List.mem_of_getElem? (i := 147) rfl)
theorem pc_153_1 {B : Nat} {r : Nat → Nat → Option Nat} (S : PtC B r) : r (B + 153) 1 = some (B + 155) := S (153, 1, 155) (List.mem_of_getElem? (i := 148) rfl)
theorem pc_146_2 {B : Nat} {r : Nat → Nat → Option Nat} (S : PtC B r) : r (B + 146) 2 = some (B + 153) := S (146, 2, 153) (List.mem_of_getElem? (i := 149) rfl)
theorem pc_156_0 {B : Nat} {r : Nat → Nat → Option Nat} (S : PtC B r) : r (B + 156) 0 = some (B + 157) := S (156, 0, 157) (List.mem_of_getElem? (i := 150) rfl)
theorem pc_156_1 {B : Nat} {r : Nat → Nat → Option Nat} (S : PtC B r) : r (B + 156) 1 = some (B + 158) := S (156, 1, 158) (List.mem_of_getElem? (i := 151) rfl)
theorem pc_146_3 {B : Nat} {r : Nat → Nat → Option Nat} (S : PtC B r) : r (B + 146) 3 = some (B + 156) := S (146, 3, 156) (List.mem_of_getElem? (i := 152) rfl)
theorem pc_159_0 {B : Nat} {r : Nat → Nat → Option Nat} (S : PtC B r) : r (B + 159) 0 = some (B + 160) := S (159, 0, 160) (List.mem_of_getElem? (i := 153) rfl)
theorem pc_159_1 {B : Nat} {r : Nat → Nat → Option Nat} (S : PtC B r) : r (B + 159) 1 = some (B + 161) := S (159, 1, 161) (List.mem_of_getElem? (i := 154) rfl)
theorem pc_146_4 {B : Nat} {r : Nat → Nat → Option Nat} (S : PtC B r) : r (B + 146) 4 = some (B + 159) := S (146, 4, 159) (List.mem_of_getElem? (i := 155) rfl)
theorem pc_162_0 {B : Nat} {r : Nat → Nat → Option Nat} (S : PtC B r) : r (B + 162) 0 = some (B + 163) := S (162, 0, 163) (List.mem_of_getElem? (i := 156) rfl)
theorem pc_162_1 {B : Nat} {r : Nat → Nat → Option Nat} (S : PtC B r) : r (B + 162) 1 = some (B + 164) := S (162, 1, 164) (List.mem_of_getElem? (i := 157) rfl)
theorem pc_146_5 {B : Nat} {r : Nat → Nat → Option Nat} (S : PtC B r) : r (B + 146) 5 = some (B + 162) := S (146, 5, 162) (List.mem_of_getElem? (i := 158) rfl)
theorem pc_145_1 {B : Nat} {r : Nat → Nat → Option Nat} (S : PtC B r) : r (B + 145) 1 = some (B + 165) := S (145, 1, 165) (List.mem_of_getElem? (i := 159) rfl)
theorem pc_166_0 {B : Nat} {r : Nat → Nat → Option Nat} (S : PtC B r) : r (B + 166) 0 = some (B + 167) := S (166, 0, 167) (List.mem_of_getElem? (i := 160) rfl)
theorem pc_166_1 {B : Nat} {r : Nat → Nat → Option Nat} (S : PtC B r) : r (B + 166) 1 = some (B + 168) := S (166, 1, 168) (List.mem_of_getElem? (i := 161) rfl)
theorem pc_145_2 {B : Nat} {r : Nat → Nat → Option Nat} (S : PtC B r) : r (B + 145) 2 = some (B + 166) := S (145, 2, 166) (List.mem_of_getElem? (i := 162) rfl)
theorem pc_169_0 {B : Nat} {r : Nat → Nat → Option Nat} (S : PtC B r) : r (B + 169) 0 = some (B + 170) := S (169, 0, 170) (List.mem_of_getElem? (i := 163) rfl)
theorem pc_169_1 {B : Nat} {r : Nat → Nat → Option Nat} (S : PtC B r) : r (B + 169) 1 = some (B + 171) := S (169, 1, 171) (List.mem_of_getElem? (i := 164) rfl)
theorem pc_145_3 {B : Nat} {r : Nat → Nat → Option Nat} (S : PtC B r) : r (B + 145) 3 = some (B + 169) := S (145, 3, 169) (List.mem_of_getElem? (i := 165) rfl)
theorem pc_172_0 {B : Nat} {r : Nat → Nat → Option Nat} (S : PtC B r) : r (B + 172) 0 = some (B + 173) := S (172, 0, 173) (List.mem_of_getElem? (i := 166) rfl)
theorem pc_0_11 {B : Nat} {r : Nat → Nat → Option Nat} (S : PtC B r) : r B 11 = some (B + 145) := S (0, 11, 145) (List.mem_of_getElem? (i := 167) rfl)
theorem pc_174_0 {B : Nat} {r : Nat → Nat → Option Nat} (S : PtC B r) : r (B + 174) 0 = some (B + 175) := S (174, 0, 175) (List.mem_of_getElem? (i := 168) rfl)
theorem pc_0_12 {B : Nat} {r : Nat → Nat → Option Nat} (S : PtC B r) : r B 12 = some (B + 174) := S (0, 12, 174) (List.mem_of_getElem? (i := 169) rfl)
theorem pc_176_6 {B : Nat} {r : Nat → Nat → Option Nat} (S : PtC B r) : r (B + 176) 6 = some (B + 177) := S (176, 6, 177) (List.mem_of_getElem? (i := 170) rfl)
theorem pc_176_7 {B : Nat} {r : Nat → Nat → Option Nat} (S : PtC B r) : r (B + 176) 7 = some (B + 178) := S (176, 7, 178) (List.mem_of_getElem? (i := 171) rfl)
theorem pc_176_13 {B : Nat} {r : Nat → Nat → Option Nat} (S : PtC B r) : r (B + 176) 13 = some (B + 179) := S (176, 13, 179) (List.mem_of_getElem? (i := 172) rfl)
theorem pc_176_14 {B : Nat} {r : Nat → Nat → Option Nat} (S : PtC B r) : r (B + 176) 14 = some (B + 180) := S (176, 14, 180) (List.mem_of_getElem? (i := 173) rfl)
theorem pc_176_15 {B : Nat} {r : Nat → Nat → Option Nat} (S : PtC B r) : r (B + 176) 15 = some (B + 181) := S (176, 15, 181) (List.mem_of_getElem? (i := 174) rfl)
theorem pc_176_16 {B : Nat} {r : Nat → Nat → Option Nat} (S : PtC B r) : r (B + 176) 16 = some (B + 182) := S (176, 16, 182) (List.mem_of_getElem? (i := 175) rfl)
theorem pc_0_13 {B : Nat} {r : Nat → Nat → Option Nat} (S : PtC B r) : r B 13 = some (B + 176) := S (0, 13, 176) (List.mem_of_getElem? (i := 176) rfl)
theorem pc_0_15 {B : Nat} {r : Nat → Nat → Option Nat} (S : PtC B r) : r B 15 = some (B + 183) := S (0, 15, 183) (List.mem_of_getElem? (i := 177) rfl)
theorem pc_0_16 {B : Nat} {r : Nat → Nat → Option Nat} (S : PtC B r) : r B 16 = some (B + 184) := S (0, 16, 184) (List.mem_of_getElem? (i := 178) rfl)
theorem pc_0_17 {B : Nat} {r : Nat → Nat → Option Nat} (S : PtC B r) : r B 17 = some (B + 185) := S (0, 17, 185) (List.mem_of_getElem? (i := 179) rfl)
theorem pc_0_18 {B : Nat} {r : Nat → Nat → Option Nat} (S : PtC B r) : r B 18 = some (B + 186) := S (0, 18, 186) (List.mem_of_getElem? (i := 180) rfl)
theorem pr_187_4 {B : Nat} {r : Nat → Nat → Option Nat} (S : PtR B r) : r (B + 187) 4 = some (B + 188) := S (187, 4, 188) (List.mem_of_getElem? (i := 0) rfl)
theorem pr_187_5 {B : Nat} {r : Nat → Nat → Option Nat} (S : PtR B r) : r (B + 187) 5 = some (B + 189) := S (187, 5, 189) (List.mem_of_getElem? (i := 1) rfl)
theorem pr_187_6 {B : Nat} {r : Nat → Nat → Option Nat} (S : PtR B r) : r (B + 187) 6 = some (B + 190) := S (187, 6, 190) (List.mem_of_getElem? (i := 2) rfl)
theorem pr_187_7 {B : Nat} {r : Nat → Nat → Option Nat} (S : PtR B r) : r (B + 187) 7 = some (B + 191) := S (187, 7, 191) (List.mem_of_getElem? (i := 3) rfl)
theorem pr_187_19 {B : Nat} {r : Nat → Nat → Option Nat} (S : PtR B r) : r (B + 187) 19 = some (B + 192) := S (187, 19, 192) (List.mem_of_getElem? (i := 4) rfl)
theorem pr_187_20 {B : Nat} {r : Nat → Nat → Option Nat} (S : PtR B r) : r (B + 187) 20 = some (B + 193) := S (187, 20, 193) (List.mem_of_getElem? (i := 5) rfl)
theorem pr_187_23 {B : Nat} {r : Nat → Nat → Option Nat} (S : PtR B r) : r (B + 187) 23 = some (B + 194) := S (187, 23, 194) (List.mem_of_getElem? (i := 6) rfl)
theorem pr_187_24 {B : Nat} {r : Nat → Nat → Option Nat} (S : PtR B r) : r (B + 187) 24 = some (B + 195) := S (187, 24, 195) (List.mem_of_getElem? (i := 7) rfl)
theorem pr_187_25 {B : Nat} {r : Nat → Nat → Option Nat} (S : PtR B r) : r (B + 187) 25 = some (B + 196) := S (187, 25, 196) (List.mem_of_getElem? (i := 8) rfl)
theorem pr_187_26 {B : Nat} {r : Nat → Nat → Option Nat} (S : PtR B r) : r (B + 187) 26 = some (B + 197) := S (187, 26, 197) (List.mem_of_getElem? (i := 9) rfl)
theorem pr_187_27 {B : Nat} {r : Nat → Nat → Option Nat} (S : PtR B r) : r (B + 187) 27 = some (B + 198) := S (187, 27, 198) (List.mem_of_getElem? (i := 10) rfl)
theorem pr_187_28 {B : Nat} {r : Nat → Nat → Option Nat} (S : PtR B r) : r (B + 187) 28 = some (B + 199) := S (187, 28, 199) (List.mem_of_getElem? (i := 11) rfl)
theorem pr_187_43 {B : Nat} {r : Nat → Nat → Option Nat} (S : PtR B r) : r (B + 187) 43 = some (B + 200) := S (187, 43, 200) (List.mem_of_getElem? (i := 12) rfl)
theorem pr_187_45 {B : Nat} {r : Nat → Nat → Option Nat} (S : PtR B r) : r (B + 187) 45 = some (B + 201) := S (187, 45, 201) (List.mem_of_getElem? (i := 13) rfl)
theorem pr_187_46 {B : Nat} {r : Nat → Nat → Option Nat} (S : PtR B r) : r (B + 187) 46 = some (B + 202) := S (187, 46, 202) (List.mem_of_getElem? (i := 14) rfl)
theorem pr_187_47 {B : Nat} {r : Nat → Nat → Option Nat} (S : PtR B r) : r (B + 187) 47 = some (B + 203) := S (187, 47, 203) (List.mem_of_getElem? (i := 15) rfl)
theorem pr_187_50 {B : Nat} {r : Nat → Nat → Option Nat} (S : PtR B r) : r (B + 187) 50 = some (B + 204) := S (187, 50, 204) (List.mem_of_getElem? (i := 16) rfl)
