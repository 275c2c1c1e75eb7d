/-! PURE: the fixed cells, the class's 0 .. 49 (46 .. 49 text 0), the model's 50 .. 75 (written by wip/whole/gen/gen_layout.py) -/
def shT : List (Nat × Nat × Nat) := [(0, 8, 11), (1, 12, 7), (2, 13, 6), (3, 1, 12), (4, 10, 4), (5, 10, 6), (6, 1, 12), (7, 10, 4), (8, 10, 6), (9, 1, 12), (10, 10, 4), (11, 10, 6), (12, 2, 1), (13, 10, 1024), (14, 7, 6), (15, 1, 12), (16, 10, 4), (17, 10, 6), (18, 6, 7), (19, 1, 12), (20, 10, 4), (21, 10, 6), (22, 15, 7), (23, 10, 4), (24, 10, 4), (25, 10, 4), (26, 10, 4), (27, 10, 4), (28, 10, 4), (29, 10, 4), (30, 10, 7), (31, 10, 4096), (32, 10, 1024), (33, 3, 11), (34, 10, 160), (35, 10, 160), (36, 10, 4), (37, 14, 4), (38, 4, 3), (39, 10, 40), (40, 4, 3), (41, 10, 40), (42, 4, 3), (43, 10, 40), (44, 4, 3), (45, 10, 40), (50, 9, 49), (51, 10, 7), (52, 10, 7), (53, 10, 7), (54, 10, 7), (55, 10, 160), (56, 10, 1200), (57, 10, 24), (58, 10, 8), (59, 10, 7), (60, 10, 4), (61, 10, 4), (62, 10, 160), (63, 10, 42), (64, 10, 96), (65, 10, 200), (66, 10, 200), (67, 10, 6), (68, 11, 4096), (69, 10, 4096), (70, 10, 64), (71, 10, 28), (72, 10, 49), (73, 10, 28), (74, 10, 49), (75, 10, 4)]
def rfT : List (Nat × Nat × Nat) := [(0, 0, 1), (0, 1, 2), (0, 2, 3), (0, 3, 6), (0, 4, 9), (0, 5, 14), (0, 6, 18), (0, 7, 33), (0, 8, 37), (3, 0, 1), (3, 1, 2), (3, 2, 4), (3, 3, 5), (6, 0, 1), (6, 1, 2), (6, 2, 7), (6, 3, 8), (9, 0, 1), (9, 1, 2), (9, 2, 10), (9, 3, 11), (12, 0, 13), (14, 0, 15), (14, 1, 12), (15, 0, 1), (15, 1, 2), (15, 2, 16), (15, 3, 17), (18, 0, 19), (18, 1, 22), (18, 2, 30), (18, 3, 12), (18, 4, 31), (18, 5, 32), (19, 0, 1), (19, 1, 2), (19, 2, 20), (19, 3, 21), (22, 0, 23), (22, 1, 24), (22, 2, 25), (22, 3, 26), (22, 4, 27), (22, 5, 28), (22, 6, 29), (33, 0, 34), (33, 1, 35), (33, 2, 36), (37, 0, 38), (37, 1, 40), (37, 2, 42), (37, 3, 44), (38, 0, 39), (40, 0, 41), (42, 0, 43), (44, 0, 45), (50, 6, 51), (50, 7, 52), (50, 8, 53), (50, 9, 54), (50, 11, 55), (50, 13, 56), (50, 14, 57), (50, 18, 58), (50, 19, 59), (50, 20, 60), (50, 21, 61), (50, 22, 62), (50, 23, 63), (50, 28, 64), (50, 29, 65), (50, 33, 66), (50, 34, 67), (50, 35, 68), (50, 36, 69), (50, 38, 70), (50, 43, 71), (50, 44, 72), (50, 45, 73), (50, 46, 74), (50, 47, 75)]
def SkOK (S : SK) : Prop := (∀ q ∈ shT, sh S q.1 = q.2) ∧ (∀ q ∈ rfT, rf S q.1 q.2.1 = some q.2.2) ∧ 76 ≤ S.1
theorem SkOK.s {S : SK} (h : SkOK S) {q : Nat × Nat × Nat} (i : Nat) (hi : shT[i]? = some q) : sh S q.1 = q.2 := h.1 q (List.mem_of_getElem? hi)
theorem SkOK.r {S : SK} (h : SkOK S) {q : Nat × Nat × Nat} (i : Nat) (hi : rfT[i]? = some q) : rf S q.1 q.2.1 = some q.2.2 := h.2.1 q (List.mem_of_getElem? hi)
theorem sk0 {S : SK} (h : SkOK S) : sh S 0 = (8, 11) := h.s (q := (0, 8, 11)) 0 rfl
theorem sk1 {S : SK} (h : SkOK S) : sh S 1 = (12, 7) := h.s (q := (1, 12, 7)) 1 rfl
theorem sk2 {S : SK} (h : SkOK S) : sh S 2 = (13, 6) := h.s (q := (2, 13, 6)) 2 rfl
theorem sk3 {S : SK} (h : SkOK S) : sh S 3 = (1, 12) := h.s (q := (3, 1, 12)) 3 rfl
theorem sk4 {S : SK} (h : SkOK S) : sh S 4 = (10, 4) := h.s (q := (4, 10, 4)) 4 rfl
theorem sk5 {S : SK} (h : SkOK S) : sh S 5 = (10, 6) := h.s (q := (5, 10, 6)) 5 rfl
theorem sk6 {S : SK} (h : SkOK S) : sh S 6 = (1, 12) := h.s (q := (6, 1, 12)) 6 rfl
theorem sk7 {S : SK} (h : SkOK S) : sh S 7 = (10, 4) := h.s (q := (7, 10, 4)) 7 rfl
theorem sk8 {S : SK} (h : SkOK S) : sh S 8 = (10, 6) := h.s (q := (8, 10, 6)) 8 rfl
theorem sk9 {S : SK} (h : SkOK S) : sh S 9 = (1, 12) := h.s (q := (9, 1, 12)) 9 rfl
theorem sk10 {S : SK} (h : SkOK S) : sh S 10 = (10, 4) := h.s (q := (10, 10, 4)) 10 rfl
theorem sk11 {S : SK} (h : SkOK S) : sh S 11 = (10, 6) := h.s (q := (11, 10, 6)) 11 rfl
theorem sk12 {S : SK} (h : SkOK S) : sh S 12 = (2, 1) := h.s (q := (12, 2, 1)) 12 rfl
theorem sk13 {S : SK} (h : SkOK S) : sh S 13 = (10, 1024) := h.s (q := (13, 10, 1024)) 13 rfl
theorem sk14 {S : SK} (h : SkOK S) : sh S 14 = (7, 6) := h.s (q := (14, 7, 6)) 14 rfl
theorem sk15 {S : SK} (h : SkOK S) : sh S 15 = (1, 12) := h.s (q := (15, 1, 12)) 15 rfl
theorem sk16 {S : SK} (h : SkOK S) : sh S 16 = (10, 4) := h.s (q := (16, 10, 4)) 16 rfl
theorem sk17 {S : SK} (h : SkOK S) : sh S 17 = (10, 6) := h.s (q := (17, 10, 6)) 17 rfl
theorem sk18 {S : SK} (h : SkOK S) : sh S 18 = (6, 7) := h.s (q := (18, 6, 7)) 18 rfl
theorem sk19 {S : SK} (h : SkOK S) : sh S 19 = (1, 12) := h.s (q := (19, 1, 12)) 19 rfl
theorem sk20 {S : SK} (h : SkOK S) : sh S 20 = (10, 4) := h.s (q := (20, 10, 4)) 20 rfl
theorem sk21 {S : SK} (h : SkOK S) : sh S 21 = (10, 6) := h.s (q := (21, 10, 6)) 21 rfl
theorem sk22 {S : SK} (h : SkOK S) : sh S 22 = (15, 7) := h.s (q := (22, 15, 7)) 22 rfl
theorem sk23 {S : SK} (h : SkOK S) : sh S 23 = (10, 4) := h.s (q := (23, 10, 4)) 23 rfl
theorem sk24 {S : SK} (h : SkOK S) : sh S 24 = (10, 4) := h.s (q := (24, 10, 4)) 24 rfl
theorem sk25 {S : SK} (h : SkOK S) : sh S 25 = (10, 4) := h.s (q := (25, 10, 4)) 25 rfl
theorem sk26 {S : SK} (h : SkOK S) : sh S 26 = (10, 4) := h.s (q := (26, 10, 4)) 26 rfl
theorem sk27 {S : SK} (h : SkOK S) : sh S 27 = (10, 4) := h.s (q := (27, 10, 4)) 27 rfl
theorem sk28 {S : SK} (h : SkOK S) : sh S 28 = (10, 4) := h.s (q := (28, 10, 4)) 28 rfl
theorem sk29 {S : SK} (h : SkOK S) : sh S 29 = (10, 4) := h.s (q := (29, 10, 4)) 29 rfl
theorem sk30 {S : SK} (h : SkOK S) : sh S 30 = (10, 7) := h.s (q := (30, 10, 7)) 30 rfl
theorem sk31 {S : SK} (h : SkOK S) : sh S 31 = (10, 4096) := h.s (q := (31, 10, 4096)) 31 rfl
theorem sk32 {S : SK} (h : SkOK S) : sh S 32 = (10, 1024) := h.s (q := (32, 10, 1024)) 32 rfl
theorem sk33 {S : SK} (h : SkOK S) : sh S 33 = (3, 11) := h.s (q := (33, 3, 11)) 33 rfl
theorem sk34 {S : SK} (h : SkOK S) : sh S 34 = (10, 160) := h.s (q := (34, 10, 160)) 34 rfl
theorem sk35 {S : SK} (h : SkOK S) : sh S 35 = (10, 160) := h.s (q := (35, 10, 160)) 35 rfl
theorem sk36 {S : SK} (h : SkOK S) : sh S 36 = (10, 4) := h.s (q := (36, 10, 4)) 36 rfl
theorem sk37 {S : SK} (h : SkOK S) : sh S 37 = (14, 4) := h.s (q := (37, 14, 4)) 37 rfl
theorem sk38 {S : SK} (h : SkOK S) : sh S 38 = (4, 3) := h.s (q := (38, 4, 3)) 38 rfl
theorem sk39 {S : SK} (h : SkOK S) : sh S 39 = (10, 40) := h.s (q := (39, 10, 40)) 39 rfl
theorem sk40 {S : SK} (h : SkOK S) : sh S 40 = (4, 3) := h.s (q := (40, 4, 3)) 40 rfl
theorem sk41 {S : SK} (h : SkOK S) : sh S 41 = (10, 40) := h.s (q := (41, 10, 40)) 41 rfl
theorem sk42 {S : SK} (h : SkOK S) : sh S 42 = (4, 3) := h.s (q := (42, 4, 3)) 42 rfl
theorem sk43 {S : SK} (h : SkOK S) : sh S 43 = (10, 40) := h.s (q := (43, 10, 40)) 43 rfl
theorem sk44 {S : SK} (h : SkOK S) : sh S 44 = (4, 3) := h.s (q := (44, 4, 3)) 44 rfl
theorem sk45 {S : SK} (h : SkOK S) : sh S 45 = (10, 40) := h.s (q := (45, 10, 40)) 45 rfl
theorem sk50 {S : SK} (h : SkOK S) : sh S 50 = (9, 49) := h.s (q := (50, 9, 49)) 46 rfl
theorem sk51 {S : SK} (h : SkOK S) : sh S 51 = (10, 7) := h.s (q := (51, 10, 7)) 47 rfl
theorem sk52 {S : SK} (h : SkOK S) : sh S 52 = (10, 7) := h.s (q := (52, 10, 7)) 48 rfl
theorem sk53 {S : SK} (h : SkOK S) : sh S 53 = (10, 7) := h.s (q := (53, 10, 7)) 49 rfl
theorem sk54 {S : SK} (h : SkOK S) : sh S 54 = (10, 7) := h.s (q := (54, 10, 7)) 50 rfl
theorem sk55 {S : SK} (h : SkOK S) : sh S 55 = (10, 160) := h.s (q := (55, 10, 160)) 51 rfl
theorem sk56 {S : SK} (h : SkOK S) : sh S 56 = (10, 1200) := h.s (q := (56, 10, 1200)) 52 rfl
theorem sk57 {S : SK} (h : SkOK S) : sh S 57 = (10, 24) := h.s (q := (57, 10, 24)) 53 rfl
theorem sk58 {S : SK} (h : SkOK S) : sh S 58 = (10, 8) := h.s (q := (58, 10, 8)) 54 rfl
theorem sk59 {S : SK} (h : SkOK S) : sh S 59 = (10, 7) := h.s (q := (59, 10, 7)) 55 rfl
theorem sk60 {S : SK} (h : SkOK S) : sh S 60 = (10, 4) := h.s (q := (60, 10, 4)) 56 rfl
theorem sk61 {S : SK} (h : SkOK S) : sh S 61 = (10, 4) := h.s (q := (61, 10, 4)) 57 rfl
theorem sk62 {S : SK} (h : SkOK S) : sh S 62 = (10, 160) := h.s (q := (62, 10, 160)) 58 rfl
theorem sk63 {S : SK} (h : SkOK S) : sh S 63 = (10, 42) := h.s (q := (63, 10, 42)) 59 rfl
theorem sk64 {S : SK} (h : SkOK S) : sh S 64 = (10, 96) := h.s (q := (64, 10, 96)) 60 rfl
theorem sk65 {S : SK} (h : SkOK S) : sh S 65 = (10, 200) := h.s (q := (65, 10, 200)) 61 rfl
theorem sk66 {S : SK} (h : SkOK S) : sh S 66 = (10, 200) := h.s (q := (66, 10, 200)) 62 rfl
theorem sk67 {S : SK} (h : SkOK S) : sh S 67 = (10, 6) := h.s (q := (67, 10, 6)) 63 rfl
theorem sk68 {S : SK} (h : SkOK S) : sh S 68 = (11, 4096) := h.s (q := (68, 11, 4096)) 64 rfl
theorem sk69 {S : SK} (h : SkOK S) : sh S 69 = (10, 4096) := h.s (q := (69, 10, 4096)) 65 rfl
theorem sk70 {S : SK} (h : SkOK S) : sh S 70 = (10, 64) := h.s (q := (70, 10, 64)) 66 rfl
theorem sk71 {S : SK} (h : SkOK S) : sh S 71 = (10, 28) := h.s (q := (71, 10, 28)) 67 rfl
theorem sk72 {S : SK} (h : SkOK S) : sh S 72 = (10, 49) := h.s (q := (72, 10, 49)) 68 rfl
theorem sk73 {S : SK} (h : SkOK S) : sh S 73 = (10, 28) := h.s (q := (73, 10, 28)) 69 rfl
theorem sk74 {S : SK} (h : SkOK S) : sh S 74 = (10, 49) := h.s (q := (74, 10, 49)) 70 rfl
theorem sk75 {S : SK} (h : SkOK S) : sh S 75 = (10, 4) := h.s (q := (75, 10, 4)) 71 rfl
theorem rk0_0 {S : SK} (h : SkOK S) : rf S 0 0 = some 1 := h.r (q := (0, 0, 1)) 0 rfl
theorem rk0_1 {S : SK} (h : SkOK S) : rf S 0 1 = some 2 := h.r (q := (0, 1, 2)) 1 rfl
theorem rk0_2 {S : SK} (h : SkOK S) : rf S 0 2 = some 3 := h.r (q := (0, 2, 3)) 2 rfl
theorem rk0_3 {S : SK} (h : SkOK S) : rf S 0 3 = some 6 := h.r (q := (0, 3, 6)) 3 rfl
theorem rk0_4 {S : SK} (h : SkOK S) : rf S 0 4 = some 9 := h.r (q := (0, 4, 9)) 4 rfl
theorem rk0_5 {S : SK} (h : SkOK S) : rf S 0 5 = some 14 := h.r (q := (0, 5, 14)) 5 rfl
theorem rk0_6 {S : SK} (h : SkOK S) : rf S 0 6 = some 18 := h.r (q := (0, 6, 18)) 6 rfl
theorem rk0_7 {S : SK} (h : SkOK S) : rf S 0 7 = some 33 := h.r (q := (0, 7, 33)) 7 rfl
theorem rk0_8 {S : SK} (h : SkOK S) : rf S 0 8 = some 37 := h.r (q := (0, 8, 37)) 8 rfl
theorem rk3_0 {S : SK} (h : SkOK S) : rf S 3 0 = some 1 := h.r (q := (3, 0, 1)) 9 rfl
theorem rk3_1 {S : SK} (h : SkOK S) : rf S 3 1 = some 2 := h.r (q := (3, 1, 2)) 10 rfl
theorem rk3_2 {S : SK} (h : SkOK S) : rf S 3 2 = some 4 := h.r (q := (3, 2, 4)) 11 rfl
theorem rk3_3 {S : SK} (h : SkOK S) : rf S 3 3 = some 5 := h.r (q := (3, 3, 5)) 12 rfl
theorem rk6_0 {S : SK} (h : SkOK S) : rf S 6 0 = some 1 := h.r (q := (6, 0, 1)) 13 rfl
theorem rk6_1 {S : SK} (h : SkOK S) : rf S 6 1 = some 2 := h.r (q := (6, 1, 2)) 14 rfl
theorem rk6_2 {S : SK} (h : SkOK S) : rf S 6 2 = some 7 := h.r (q := (6, 2, 7)) 15 rfl
theorem rk6_3 {S : SK} (h : SkOK S) : rf S 6 3 = some 8 := h.r (q := (6, 3, 8)) 16 rfl
theorem rk9_0 {S : SK} (h : SkOK S) : rf S 9 0 = some 1 := h.r (q := (9, 0, 1)) 17 rfl
theorem rk9_1 {S : SK} (h : SkOK S) : rf S 9 1 = some 2 := h.r (q := (9, 1, 2)) 18 rfl
theorem rk9_2 {S : SK} (h : SkOK S) : rf S 9 2 = some 10 := h.r (q := (9, 2, 10)) 19 rfl
theorem rk9_3 {S : SK} (h : SkOK S) : rf S 9 3 = some 11 := h.r (q := (9, 3, 11)) 20 rfl
theorem rk12_0 {S : SK} (h : SkOK S) : rf S 12 0 = some 13 := h.r (q := (12, 0, 13)) 21 rfl
theorem rk14_0 {S : SK} (h : SkOK S) : rf S 14 0 = some 15 := h.r (q := (14, 0, 15)) 22 rfl
theorem rk14_1 {S : SK} (h : SkOK S) : rf S 14 1 = some 12 := h.r (q := (14, 1, 12)) 23 rfl
theorem rk15_0 {S : SK} (h : SkOK S) : rf S 15 0 = some 1 := h.r (q := (15, 0, 1)) 24 rfl
theorem rk15_1 {S : SK} (h : SkOK S) : rf S 15 1 = some 2 := h.r (q := (15, 1, 2)) 25 rfl
theorem rk15_2 {S : SK} (h : SkOK S) : rf S 15 2 = some 16 := h.r (q := (15, 2, 16)) 26 rfl
theorem rk15_3 {S : SK} (h : SkOK S) : rf S 15 3 = some 17 := h.r (q := (15, 3, 17)) 27 rfl
theorem rk18_0 {S : SK} (h : SkOK S) : rf S 18 0 = some 19 := h.r (q := (18, 0, 19)) 28 rfl
theorem rk18_1 {S : SK} (h : SkOK S) : rf S 18 1 = some 22 := h.r (q := (18, 1, 22)) 29 rfl
theorem rk18_2 {S : SK} (h : SkOK S) : rf S 18 2 = some 30 := h.r (q := (18, 2, 30)) 30 rfl
theorem rk18_3 {S : SK} (h : SkOK S) : rf S 18 3 = some 12 := h.r (q := (18, 3, 12)) 31 rfl
theorem rk18_4 {S : SK} (h : SkOK S) : rf S 18 4 = some 31 := h.r (q := (18, 4, 31)) 32 rfl
theorem rk18_5 {S : SK} (h : SkOK S) : rf S 18 5 = some 32 := h.r (q := (18, 5, 32)) 33 rfl
theorem rk19_0 {S : SK} (h : SkOK S) : rf S 19 0 = some 1 := h.r (q := (19, 0, 1)) 34 rfl
theorem rk19_1 {S : SK} (h : SkOK S) : rf S 19 1 = some 2 := h.r (q := (19, 1, 2)) 35 rfl
theorem rk19_2 {S : SK} (h : SkOK S) : rf S 19 2 = some 20 := h.r (q := (19, 2, 20)) 36 rfl
theorem rk19_3 {S : SK} (h : SkOK S) : rf S 19 3 = some 21 := h.r (q := (19, 3, 21)) 37 rfl
theorem rk22_0 {S : SK} (h : SkOK S) : rf S 22 0 = some 23 := h.r (q := (22, 0, 23)) 38 rfl
theorem rk22_1 {S : SK} (h : SkOK S) : rf S 22 1 = some 24 := h.r (q := (22, 1, 24)) 39 rfl
theorem rk22_2 {S : SK} (h : SkOK S) : rf S 22 2 = some 25 := h.r (q := (22, 2, 25)) 40 rfl
theorem rk22_3 {S : SK} (h : SkOK S) : rf S 22 3 = some 26 := h.r (q := (22, 3, 26)) 41 rfl
theorem rk22_4 {S : SK} (h : SkOK S) : rf S 22 4 = some 27 := h.r (q := (22, 4, 27)) 42 rfl
theorem rk22_5 {S : SK} (h : SkOK S) : rf S 22 5 = some 28 := h.r (q := (22, 5, 28)) 43 rfl
theorem rk22_6 {S : SK} (h : SkOK S) : rf S 22 6 = some 29 := h.r (q := (22, 6, 29)) 44 rfl
theorem rk33_0 {S : SK} (h : SkOK S) : rf S 33 0 = some 34 := h.r (q := (33, 0, 34)) 45 rfl
theorem rk33_1 {S : SK} (h : SkOK S) : rf S 33 1 = some 35 := h.r (q := (33, 1, 35)) 46 rfl
theorem rk33_2 {S : SK} (h : SkOK S) : rf S 33 2 = some 36 := h.r (q := (33, 2, 36)) 47 rfl
theorem rk37_0 {S : SK} (h : SkOK S) : rf S 37 0 = some 38 := h.r (q := (37, 0, 38)) 48 rfl
theorem rk37_1 {S : SK} (h : SkOK S) : rf S 37 1 = some 40 := h.r (q := (37, 1, 40)) 49 rfl
theorem rk37_2 {S : SK} (h : SkOK S) : rf S 37 2 = some 42 := h.r (q := (37, 2, 42)) 50 rfl
theorem rk37_3 {S : SK} (h : SkOK S) : rf S 37 3 = some 44 := h.r (q := (37, 3, 44)) 51 rfl
theorem rk38_0 {S : SK} (h : SkOK S) : rf S 38 0 = some 39 := h.r (q := (38, 0, 39)) 52 rfl
theorem rk40_0 {S : SK} (h : SkOK S) : rf S 40 0 = some 41 := h.r (q := (40, 0, 41)) 53 rfl
theorem rk42_0 {S : SK} (h : SkOK S) : rf S 42 0 = some 43 := h.r (q := (42, 0, 43)) 54 rfl
theorem rk44_0 {S : SK} (h : SkOK S) : rf S 44 0 = some 45 := h.r (q := (44, 0, 45)) 55 rfl
theorem rk50_6 {S : SK} (h : SkOK S) : rf S 50 6 = some 51 := h.r (q := (50, 6, 51)) 56 rfl
theorem rk50_7 {S : SK} (h : SkOK S) : rf S 50 7 = some 52 := h.r (q := (50, 7, 52)) 57 rfl
theorem rk50_8 {S : SK} (h : SkOK S) : rf S 50 8 = some 53 := h.r (q := (50, 8, 53)) 58 rfl
theorem rk50_9 {S : SK} (h : SkOK S) : rf S 50 9 = some 54 := h.r (q := (50, 9, 54)) 59 rfl
theorem rk50_11 {S : SK} (h : SkOK S) : rf S 50 11 = some 55 := h.r (q := (50, 11, 55)) 60 rfl
theorem rk50_13 {S : SK} (h : SkOK S) : rf S 50 13 = some 56 := h.r (q := (50, 13, 56)) 61 rfl
theorem rk50_14 {S : SK} (h : SkOK S) : rf S 50 14 = some 57 := h.r (q := (50, 14, 57)) 62 rfl
theorem rk50_18 {S : SK} (h : SkOK S) : rf S 50 18 = some 58 := h.r (q := (50, 18, 58)) 63 rfl
theorem rk50_19 {S : SK} (h : SkOK S) : rf S 50 19 = some 59 := h.r (q := (50, 19, 59)) 64 rfl
theorem rk50_20 {S : SK} (h : SkOK S) : rf S 50 20 = some 60 := h.r (q := (50, 20, 60)) 65 rfl
theorem rk50_21 {S : SK} (h : SkOK S) : rf S 50 21 = some 61 := h.r (q := (50, 21, 61)) 66 rfl
theorem rk50_22 {S : SK} (h : SkOK S) : rf S 50 22 = some 62 := h.r (q := (50, 22, 62)) 67 rfl
theorem rk50_23 {S : SK} (h : SkOK S) : rf S 50 23 = some 63 := h.r (q := (50, 23, 63)) 68 rfl
theorem rk50_28 {S : SK} (h : SkOK S) : rf S 50 28 = some 64 := h.r (q := (50, 28, 64)) 69 rfl
theorem rk50_29 {S : SK} (h : SkOK S) : rf S 50 29 = some 65 := h.r (q := (50, 29, 65)) 70 rfl
theorem rk50_33 {S : SK} (h : SkOK S) : rf S 50 33 = some 66 := h.r (q := (50, 33, 66)) 71 rfl
theorem rk50_34 {S : SK} (h : SkOK S) : rf S 50 34 = some 67 := h.r (q := (50, 34, 67)) 72 rfl
theorem rk50_35 {S : SK} (h : SkOK S) : rf S 50 35 = some 68 := h.r (q := (50, 35, 68)) 73 rfl
theorem rk50_36 {S : SK} (h : SkOK S) : rf S 50 36 = some 69 := h.r (q := (50, 36, 69)) 74 rfl
theorem rk50_38 {S : SK} (h : SkOK S) : rf S 50 38 = some 70 := h.r (q := (50, 38, 70)) 75 rfl
theorem rk50_43 {S : SK} (h : SkOK S) : rf S 50 43 = some 71 := h.r (q := (50, 43, 71)) 76 rfl
theorem rk50_44 {S : SK} (h : SkOK S) : rf S 50 44 = some 72 := h.r (q := (50, 44, 72)) 77 rfl
theorem rk50_45 {S : SK} (h : SkOK S) : rf S 50 45 = some 73 := h.r (q := (50, 45, 73)) 78 rfl
theorem rk50_46 {S : SK} (h : SkOK S) : rf S 50 46 = some 74 := h.r (q := (50, 46, 74)) 79 rfl
theorem rk50_47 {S : SK} (h : SkOK S) : rf S 50 47 = some 75 := h.r (q := (50, 47, 75)) 80 rfl
/-- a gate's cells -/
def GS (S : SK) (g : Nat) : Prop := sh S g = (1, 12) ∧ sh S (g + 1) = (10, 4) ∧ sh S (g + 2) = (10, 6) ∧ rf S g 0 = some 1 ∧ rf S g 1 = some 2 ∧ rf S g 2 = some (g + 1) ∧ rf S g 3 = some (g + 2)
/-- the gates: the true one, the image, the one in thought, that of the ways, that of the turns -/
def isG (g : Nat) : Prop := g = 3 ∨ g = 6 ∨ g = 9 ∨ g = 15 ∨ g = 19
theorem GS_of {S : SK} (h : SkOK S) {g : Nat} (hg : isG g) : GS S g := by
  rcases hg with e | e | e | e | e <;> subst e
  · exact ⟨sk3 h, sk4 h, sk5 h, rk3_0 h, rk3_1 h, rk3_2 h, rk3_3 h⟩
  · exact ⟨sk6 h, sk7 h, sk8 h, rk6_0 h, rk6_1 h, rk6_2 h, rk6_3 h⟩
  · exact ⟨sk9 h, sk10 h, sk11 h, rk9_0 h, rk9_1 h, rk9_2 h, rk9_3 h⟩
  · exact ⟨sk15 h, sk16 h, sk17 h, rk15_0 h, rk15_1 h, rk15_2 h, rk15_3 h⟩
  · exact ⟨sk19 h, sk20 h, sk21 h, rk19_0 h, rk19_1 h, rk19_2 h, rk19_3 h⟩
