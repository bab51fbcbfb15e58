/-! ===== Blocks by name ===== -/
theorem e0 {av : List Value} {h : qHp} : qEntry PG 0 av h = (0, K0_0, qPad 4 (qArgs av), [], h) := rfl
theorem j0_0 {L : qLV} {st : List Value} {h : qHp} : qJump PG 0 0 L st h = (0, K0_0, qMask [true, false, true, false] L, st, h) := rfl
theorem j0_1 {L : qLV} {st : List Value} {h : qHp} : qJump PG 0 1 L st h = (0, K0_1, qMask [false, false, true, false] L, st, h) := rfl
theorem j0_2 {L : qLV} {st : List Value} {h : qHp} : qJump PG 0 2 L st h = (0, K0_2, qMask [false, false, false, false] L, st, h) := rfl
theorem e1 {av : List Value} {h : qHp} : qEntry PG 1 av h = (1, K1_0, qPad 2 (qArgs av), [], h) := rfl
theorem j1_0 {L : qLV} {st : List Value} {h : qHp} : qJump PG 1 0 L st h = (1, K1_0, qMask [true, true] L, st, h) := rfl
theorem j1_1 {L : qLV} {st : List Value} {h : qHp} : qJump PG 1 1 L st h = (1, K1_1, qMask [false, true] L, st, h) := rfl
theorem j1_2 {L : qLV} {st : List Value} {h : qHp} : qJump PG 1 2 L st h = (1, K1_2, qMask [false, false] L, st, h) := rfl
theorem e2 {av : List Value} {h : qHp} : qEntry PG 2 av h = (2, K2_0, qPad 4 (qArgs av), [], h) := rfl
theorem j2_0 {L : qLV} {st : List Value} {h : qHp} : qJump PG 2 0 L st h = (2, K2_0, qMask [true, false, true, false] L, st, h) := rfl
theorem j2_1 {L : qLV} {st : List Value} {h : qHp} : qJump PG 2 1 L st h = (2, K2_1, qMask [false, false, true, false] L, st, h) := rfl
theorem j2_2 {L : qLV} {st : List Value} {h : qHp} : qJump PG 2 2 L st h = (2, K2_2, qMask [false, false, false, false] L, st, h) := rfl
theorem e3 {av : List Value} {h : qHp} : qEntry PG 3 av h = (3, K3_0, qPad 2 (qArgs av), [], h) := rfl
theorem j3_0 {L : qLV} {st : List Value} {h : qHp} : qJump PG 3 0 L st h = (3, K3_0, qMask [true, true] L, st, h) := rfl
theorem j3_1 {L : qLV} {st : List Value} {h : qHp} : qJump PG 3 1 L st h = (3, K3_1, qMask [false, true] L, st, h) := rfl
theorem j3_2 {L : qLV} {st : List Value} {h : qHp} : qJump PG 3 2 L st h = (3, K3_2, qMask [false, false] L, st, h) := rfl
theorem e4 {av : List Value} {h : qHp} : qEntry PG 4 av h = (4, K4_0, qPad 1 (qArgs av), [], h) := rfl
theorem j4_0 {L : qLV} {st : List Value} {h : qHp} : qJump PG 4 0 L st h = (4, K4_0, qMask [true] L, st, h) := rfl
theorem e5 {av : List Value} {h : qHp} : qEntry PG 5 av h = (5, K5_0, qPad 3 (qArgs av), [], h) := rfl
theorem j5_0 {L : qLV} {st : List Value} {h : qHp} : qJump PG 5 0 L st h = (5, K5_0, qMask [true, true, false] L, st, h) := rfl
theorem j5_1 {L : qLV} {st : List Value} {h : qHp} : qJump PG 5 1 L st h = (5, K5_1, qMask [false, false, true] L, st, h) := rfl
theorem e6 {av : List Value} {h : qHp} : qEntry PG 6 av h = (6, K6_0, qPad 1 (qArgs av), [], h) := rfl
theorem j6_0 {L : qLV} {st : List Value} {h : qHp} : qJump PG 6 0 L st h = (6, K6_0, qMask [true] L, st, h) := rfl
theorem j6_1 {L : qLV} {st : List Value} {h : qHp} : qJump PG 6 1 L st h = (6, K6_1, qMask [true] L, st, h) := rfl
theorem j6_2 {L : qLV} {st : List Value} {h : qHp} : qJump PG 6 2 L st h = (6, K6_2, qMask [false] L, st, h) := rfl
theorem e7 {av : List Value} {h : qHp} : qEntry PG 7 av h = (7, K7_0, qPad 1 (qArgs av), [], h) := rfl
theorem j7_0 {L : qLV} {st : List Value} {h : qHp} : qJump PG 7 0 L st h = (7, K7_0, qMask [true] L, st, h) := rfl
theorem e8 {av : List Value} {h : qHp} : qEntry PG 8 av h = (8, K8_0, qPad 2 (qArgs av), [], h) := rfl
theorem j8_0 {L : qLV} {st : List Value} {h : qHp} : qJump PG 8 0 L st h = (8, K8_0, qMask [true, false] L, st, h) := rfl
theorem j8_1 {L : qLV} {st : List Value} {h : qHp} : qJump PG 8 1 L st h = (8, K8_1, qMask [true, true] L, st, h) := rfl
theorem j8_2 {L : qLV} {st : List Value} {h : qHp} : qJump PG 8 2 L st h = (8, K8_2, qMask [true, false] L, st, h) := rfl
theorem j8_3 {L : qLV} {st : List Value} {h : qHp} : qJump PG 8 3 L st h = (8, K8_3, qMask [true, true] L, st, h) := rfl
theorem j8_4 {L : qLV} {st : List Value} {h : qHp} : qJump PG 8 4 L st h = (8, K8_4, qMask [true, false] L, st, h) := rfl
theorem j8_5 {L : qLV} {st : List Value} {h : qHp} : qJump PG 8 5 L st h = (8, K8_5, qMask [true, true] L, st, h) := rfl
theorem j8_6 {L : qLV} {st : List Value} {h : qHp} : qJump PG 8 6 L st h = (8, K8_6, qMask [true, false] L, st, h) := rfl
theorem j8_7 {L : qLV} {st : List Value} {h : qHp} : qJump PG 8 7 L st h = (8, K8_7, qMask [true, true] L, st, h) := rfl
theorem j8_8 {L : qLV} {st : List Value} {h : qHp} : qJump PG 8 8 L st h = (8, K8_8, qMask [false, false] L, st, h) := rfl
theorem e9 {av : List Value} {h : qHp} : qEntry PG 9 av h = (9, K9_0, qPad 1 (qArgs av), [], h) := rfl
theorem j9_0 {L : qLV} {st : List Value} {h : qHp} : qJump PG 9 0 L st h = (9, K9_0, qMask [true] L, st, h) := rfl
theorem e10 {av : List Value} {h : qHp} : qEntry PG 10 av h = (10, K10_0, qPad 1 (qArgs av), [], h) := rfl
theorem j10_0 {L : qLV} {st : List Value} {h : qHp} : qJump PG 10 0 L st h = (10, K10_0, qMask [true] L, st, h) := rfl
theorem e11 {av : List Value} {h : qHp} : qEntry PG 11 av h = (11, K11_0, qPad 1 (qArgs av), [], h) := rfl
theorem j11_0 {L : qLV} {st : List Value} {h : qHp} : qJump PG 11 0 L st h = (11, K11_0, qMask [true] L, st, h) := rfl
theorem e12 {av : List Value} {h : qHp} : qEntry PG 12 av h = (12, K12_0, qPad 1 (qArgs av), [], h) := rfl
theorem j12_0 {L : qLV} {st : List Value} {h : qHp} : qJump PG 12 0 L st h = (12, K12_0, qMask [true] L, st, h) := rfl
theorem e13 {av : List Value} {h : qHp} : qEntry PG 13 av h = (13, K13_0, qPad 1 (qArgs av), [], h) := rfl
theorem j13_0 {L : qLV} {st : List Value} {h : qHp} : qJump PG 13 0 L st h = (13, K13_0, qMask [true] L, st, h) := rfl
theorem e14 {av : List Value} {h : qHp} : qEntry PG 14 av h = (14, K14_0, qPad 2 (qArgs av), [], h) := rfl
theorem j14_0 {L : qLV} {st : List Value} {h : qHp} : qJump PG 14 0 L st h = (14, K14_0, qMask [true, false] L, st, h) := rfl
theorem j14_1 {L : qLV} {st : List Value} {h : qHp} : qJump PG 14 1 L st h = (14, K14_1, qMask [true, true] L, st, h) := rfl
theorem j14_2 {L : qLV} {st : List Value} {h : qHp} : qJump PG 14 2 L st h = (14, K14_2, qMask [false, false] L, st, h) := rfl
theorem e15 {av : List Value} {h : qHp} : qEntry PG 15 av h = (15, K15_0, qPad 1 (qArgs av), [], h) := rfl
theorem j15_0 {L : qLV} {st : List Value} {h : qHp} : qJump PG 15 0 L st h = (15, K15_0, qMask [true] L, st, h) := rfl
theorem e16 {av : List Value} {h : qHp} : qEntry PG 16 av h = (16, K16_0, qPad 1 (qArgs av), [], h) := rfl
theorem j16_0 {L : qLV} {st : List Value} {h : qHp} : qJump PG 16 0 L st h = (16, K16_0, qMask [true] L, st, h) := rfl
theorem e17 {av : List Value} {h : qHp} : qEntry PG 17 av h = (17, K17_0, qPad 3 (qArgs av), [], h) := rfl
theorem j17_0 {L : qLV} {st : List Value} {h : qHp} : qJump PG 17 0 L st h = (17, K17_0, qMask [true, true, false] L, st, h) := rfl
theorem e18 {av : List Value} {h : qHp} : qEntry PG 18 av h = (18, K18_0, qPad 6 (qArgs av), [], h) := rfl
theorem j18_0 {L : qLV} {st : List Value} {h : qHp} : qJump PG 18 0 L st h = (18, K18_0, qMask [true, true, false, false, false, false] L, st, h) := rfl
theorem j18_1 {L : qLV} {st : List Value} {h : qHp} : qJump PG 18 1 L st h = (18, K18_1, qMask [true, true, false, true, true, false] L, st, h) := rfl
theorem j18_2 {L : qLV} {st : List Value} {h : qHp} : qJump PG 18 2 L st h = (18, K18_2, qMask [true, true, false, false, true, false] L, st, h) := rfl
theorem j18_3 {L : qLV} {st : List Value} {h : qHp} : qJump PG 18 3 L st h = (18, K18_3, qMask [true, true, false, false, true, false] L, st, h) := rfl
theorem j18_4 {L : qLV} {st : List Value} {h : qHp} : qJump PG 18 4 L st h = (18, K18_4, qMask [true, true, false, true, false, false] L, st, h) := rfl
theorem j18_5 {L : qLV} {st : List Value} {h : qHp} : qJump PG 18 5 L st h = (18, K18_5, qMask [true, true, false, false, false, false] L, st, h) := rfl
theorem j18_6 {L : qLV} {st : List Value} {h : qHp} : qJump PG 18 6 L st h = (18, K18_6, qMask [true, true, false, false, true, false] L, st, h) := rfl
theorem j18_7 {L : qLV} {st : List Value} {h : qHp} : qJump PG 18 7 L st h = (18, K18_7, qMask [true, true, false, false, true, false] L, st, h) := rfl
theorem j18_8 {L : qLV} {st : List Value} {h : qHp} : qJump PG 18 8 L st h = (18, K18_8, qMask [true, false, false, false, false, false] L, st, h) := rfl
theorem e19 {av : List Value} {h : qHp} : qEntry PG 19 av h = (19, K19_0, qPad 1 (qArgs av), [], h) := rfl
theorem j19_0 {L : qLV} {st : List Value} {h : qHp} : qJump PG 19 0 L st h = (19, K19_0, qMask [true] L, st, h) := rfl
theorem j19_1 {L : qLV} {st : List Value} {h : qHp} : qJump PG 19 1 L st h = (19, K19_1, qMask [true] L, st, h) := rfl
theorem e20 {av : List Value} {h : qHp} : qEntry PG 20 av h = (20, K20_0, qPad 3 (qArgs av), [], h) := rfl
theorem j20_0 {L : qLV} {st : List Value} {h : qHp} : qJump PG 20 0 L st h = (20, K20_0, qMask [true, false, false] L, st, h) := rfl
theorem j20_1 {L : qLV} {st : List Value} {h : qHp} : qJump PG 20 1 L st h = (20, K20_1, qMask [true, true, true] L, st, h) := rfl
theorem j20_2 {L : qLV} {st : List Value} {h : qHp} : qJump PG 20 2 L st h = (20, K20_2, qMask [true, false, false] L, st, h) := rfl
theorem e21 {av : List Value} {h : qHp} : qEntry PG 21 av h = (21, K21_0, qPad 2 (qArgs av), [], h) := rfl
theorem j21_0 {L : qLV} {st : List Value} {h : qHp} : qJump PG 21 0 L st h = (21, K21_0, qMask [true, false] L, st, h) := rfl
theorem j21_1 {L : qLV} {st : List Value} {h : qHp} : qJump PG 21 1 L st h = (21, K21_1, qMask [true, true] L, st, h) := rfl
theorem j21_2 {L : qLV} {st : List Value} {h : qHp} : qJump PG 21 2 L st h = (21, K21_2, qMask [true, false] L, st, h) := rfl
theorem e22 {av : List Value} {h : qHp} : qEntry PG 22 av h = (22, K22_0, qPad 1 (qArgs av), [], h) := rfl
theorem j22_0 {L : qLV} {st : List Value} {h : qHp} : qJump PG 22 0 L st h = (22, K22_0, qMask [true] L, st, h) := rfl
theorem e23 {av : List Value} {h : qHp} : qEntry PG 23 av h = (23, K23_0, qPad 2 (qArgs av), [], h) := rfl
theorem j23_0 {L : qLV} {st : List Value} {h : qHp} : qJump PG 23 0 L st h = (23, K23_0, qMask [true, false] L, st, h) := rfl
theorem j23_1 {L : qLV} {st : List Value} {h : qHp} : qJump PG 23 1 L st h = (23, K23_1, qMask [true, true] L, st, h) := rfl
theorem j23_2 {L : qLV} {st : List Value} {h : qHp} : qJump PG 23 2 L st h = (23, K23_2, qMask [true, true] L, st, h) := rfl
theorem j23_3 {L : qLV} {st : List Value} {h : qHp} : qJump PG 23 3 L st h = (23, K23_3, qMask [true, true] L, st, h) := rfl
theorem j23_4 {L : qLV} {st : List Value} {h : qHp} : qJump PG 23 4 L st h = (23, K23_4, qMask [true, true] L, st, h) := rfl
theorem j23_5 {L : qLV} {st : List Value} {h : qHp} : qJump PG 23 5 L st h = (23, K23_5, qMask [true, true] L, st, h) := rfl
theorem j23_6 {L : qLV} {st : List Value} {h : qHp} : qJump PG 23 6 L st h = (23, K23_6, qMask [true, true] L, st, h) := rfl
theorem j23_7 {L : qLV} {st : List Value} {h : qHp} : qJump PG 23 7 L st h = (23, K23_7, qMask [false, false] L, st, h) := rfl
theorem e24 {av : List Value} {h : qHp} : qEntry PG 24 av h = (24, K24_0, qPad 2 (qArgs av), [], h) := rfl
theorem j24_0 {L : qLV} {st : List Value} {h : qHp} : qJump PG 24 0 L st h = (24, K24_0, qMask [true, false] L, st, h) := rfl
theorem j24_1 {L : qLV} {st : List Value} {h : qHp} : qJump PG 24 1 L st h = (24, K24_1, qMask [true, true] L, st, h) := rfl
theorem j24_2 {L : qLV} {st : List Value} {h : qHp} : qJump PG 24 2 L st h = (24, K24_2, qMask [false, true] L, st, h) := rfl
theorem e25 {av : List Value} {h : qHp} : qEntry PG 25 av h = (25, K25_0, qPad 1 (qArgs av), [], h) := rfl
theorem j25_0 {L : qLV} {st : List Value} {h : qHp} : qJump PG 25 0 L st h = (25, K25_0, qMask [true] L, st, h) := rfl
theorem j25_1 {L : qLV} {st : List Value} {h : qHp} : qJump PG 25 1 L st h = (25, K25_1, qMask [false] L, st, h) := rfl
theorem e26 {av : List Value} {h : qHp} : qEntry PG 26 av h = (26, K26_0, qPad 4 (qArgs av), [], h) := rfl
theorem j26_0 {L : qLV} {st : List Value} {h : qHp} : qJump PG 26 0 L st h = (26, K26_0, qMask [true, true, true, false] L, st, h) := rfl
theorem j26_1 {L : qLV} {st : List Value} {h : qHp} : qJump PG 26 1 L st h = (26, K26_1, qMask [true, true, true, false] L, st, h) := rfl
theorem j26_2 {L : qLV} {st : List Value} {h : qHp} : qJump PG 26 2 L st h = (26, K26_2, qMask [true, true, true, true] L, st, h) := rfl
theorem j26_3 {L : qLV} {st : List Value} {h : qHp} : qJump PG 26 3 L st h = (26, K26_3, qMask [true, true, true, true] L, st, h) := rfl
theorem j26_4 {L : qLV} {st : List Value} {h : qHp} : qJump PG 26 4 L st h = (26, K26_4, qMask [false, false, false, false] L, st, h) := rfl
theorem e27 {av : List Value} {h : qHp} : qEntry PG 27 av h = (27, K27_0, qPad 3 (qArgs av), [], h) := rfl
theorem j27_0 {L : qLV} {st : List Value} {h : qHp} : qJump PG 27 0 L st h = (27, K27_0, qMask [true, true, false] L, st, h) := rfl
theorem j27_1 {L : qLV} {st : List Value} {h : qHp} : qJump PG 27 1 L st h = (27, K27_1, qMask [false, false, false] L, st, h) := rfl
theorem e28 {av : List Value} {h : qHp} : qEntry PG 28 av h = (28, K28_0, qPad 4 (qArgs av), [], h) := rfl
theorem j28_0 {L : qLV} {st : List Value} {h : qHp} : qJump PG 28 0 L st h = (28, K28_0, qMask [true, true, true, true] L, st, h) := rfl
theorem j28_1 {L : qLV} {st : List Value} {h : qHp} : qJump PG 28 1 L st h = (28, K28_1, qMask [false, false, false, false] L, st, h) := rfl
theorem e29 {av : List Value} {h : qHp} : qEntry PG 29 av h = (29, K29_0, qPad 3 (qArgs av), [], h) := rfl
theorem j29_0 {L : qLV} {st : List Value} {h : qHp} : qJump PG 29 0 L st h = (29, K29_0, qMask [true, true, true] L, st, h) := rfl
theorem j29_1 {L : qLV} {st : List Value} {h : qHp} : qJump PG 29 1 L st h = (29, K29_1, qMask [false, false, false] L, st, h) := rfl
theorem e30 {av : List Value} {h : qHp} : qEntry PG 30 av h = (30, K30_0, qPad 6 (qArgs av), [], h) := rfl
theorem j30_0 {L : qLV} {st : List Value} {h : qHp} : qJump PG 30 0 L st h = (30, K30_0, qMask [true, true, true, false, false, false] L, st, h) := rfl
theorem j30_1 {L : qLV} {st : List Value} {h : qHp} : qJump PG 30 1 L st h = (30, K30_1, qMask [true, true, true, false, false, false] L, st, h) := rfl
theorem j30_2 {L : qLV} {st : List Value} {h : qHp} : qJump PG 30 2 L st h = (30, K30_2, qMask [true, true, true, true, true, false] L, st, h) := rfl
theorem j30_3 {L : qLV} {st : List Value} {h : qHp} : qJump PG 30 3 L st h = (30, K30_3, qMask [true, true, true, true, true, false] L, st, h) := rfl
theorem j30_4 {L : qLV} {st : List Value} {h : qHp} : qJump PG 30 4 L st h = (30, K30_4, qMask [true, true, true, true, true, false] L, st, h) := rfl
theorem j30_5 {L : qLV} {st : List Value} {h : qHp} : qJump PG 30 5 L st h = (30, K30_5, qMask [true, false, false, true, false, false] L, st, h) := rfl
theorem j30_6 {L : qLV} {st : List Value} {h : qHp} : qJump PG 30 6 L st h = (30, K30_6, qMask [false, false, false, false, true, false] L, st, h) := rfl
theorem e31 {av : List Value} {h : qHp} : qEntry PG 31 av h = (31, K31_0, qPad 2 (qArgs av), [], h) := rfl
theorem j31_0 {L : qLV} {st : List Value} {h : qHp} : qJump PG 31 0 L st h = (31, K31_0, qMask [true, true] L, st, h) := rfl
theorem j31_1 {L : qLV} {st : List Value} {h : qHp} : qJump PG 31 1 L st h = (31, K31_1, qMask [false, false] L, st, h) := rfl
theorem e32 {av : List Value} {h : qHp} : qEntry PG 32 av h = (32, K32_0, qPad 6 (qArgs av), [], h) := rfl
theorem j32_0 {L : qLV} {st : List Value} {h : qHp} : qJump PG 32 0 L st h = (32, K32_0, qMask [true, true, false, false, false, false] L, st, h) := rfl
theorem j32_1 {L : qLV} {st : List Value} {h : qHp} : qJump PG 32 1 L st h = (32, K32_1, qMask [false, false, false, false, false, false] L, st, h) := rfl
theorem e33 {av : List Value} {h : qHp} : qEntry PG 33 av h = (33, K33_0, qPad 2 (qArgs av), [], h) := rfl
theorem j33_0 {L : qLV} {st : List Value} {h : qHp} : qJump PG 33 0 L st h = (33, K33_0, qMask [true, false] L, st, h) := rfl
theorem j33_1 {L : qLV} {st : List Value} {h : qHp} : qJump PG 33 1 L st h = (33, K33_1, qMask [false, false] L, st, h) := rfl
theorem j33_2 {L : qLV} {st : List Value} {h : qHp} : qJump PG 33 2 L st h = (33, K33_2, qMask [true, true] L, st, h) := rfl
theorem j33_3 {L : qLV} {st : List Value} {h : qHp} : qJump PG 33 3 L st h = (33, K33_3, qMask [true, false] L, st, h) := rfl
theorem e34 {av : List Value} {h : qHp} : qEntry PG 34 av h = (34, K34_0, qPad 5 (qArgs av), [], h) := rfl
theorem j34_0 {L : qLV} {st : List Value} {h : qHp} : qJump PG 34 0 L st h = (34, K34_0, qMask [true, true, true, true, true] L, st, h) := rfl
theorem j34_1 {L : qLV} {st : List Value} {h : qHp} : qJump PG 34 1 L st h = (34, K34_1, qMask [false, false, false, false, false] L, st, h) := rfl
theorem e35 {av : List Value} {h : qHp} : qEntry PG 35 av h = (35, K35_0, qPad 5 (qArgs av), [], h) := rfl
theorem j35_0 {L : qLV} {st : List Value} {h : qHp} : qJump PG 35 0 L st h = (35, K35_0, qMask [true, true, true, true, true] L, st, h) := rfl
theorem e36 {av : List Value} {h : qHp} : qEntry PG 36 av h = (36, K36_0, qPad 6 (qArgs av), [], h) := rfl
theorem j36_0 {L : qLV} {st : List Value} {h : qHp} : qJump PG 36 0 L st h = (36, K36_0, qMask [true, true, false, false, false, false] L, st, h) := rfl
theorem j36_1 {L : qLV} {st : List Value} {h : qHp} : qJump PG 36 1 L st h = (36, K36_1, qMask [false, false, false, false, false, false] L, st, h) := rfl
theorem e37 {av : List Value} {h : qHp} : qEntry PG 37 av h = (37, K37_0, qPad 5 (qArgs av), [], h) := rfl
theorem j37_0 {L : qLV} {st : List Value} {h : qHp} : qJump PG 37 0 L st h = (37, K37_0, qMask [true, true, true, true, true] L, st, h) := rfl
theorem j37_1 {L : qLV} {st : List Value} {h : qHp} : qJump PG 37 1 L st h = (37, K37_1, qMask [false, false, false, false, false] L, st, h) := rfl
theorem e38 {av : List Value} {h : qHp} : qEntry PG 38 av h = (38, K38_0, qPad 5 (qArgs av), [], h) := rfl
theorem j38_0 {L : qLV} {st : List Value} {h : qHp} : qJump PG 38 0 L st h = (38, K38_0, qMask [true, true, true, true, true] L, st, h) := rfl
theorem e39 {av : List Value} {h : qHp} : qEntry PG 39 av h = (39, K39_0, qPad 6 (qArgs av), [], h) := rfl
theorem j39_0 {L : qLV} {st : List Value} {h : qHp} : qJump PG 39 0 L st h = (39, K39_0, qMask [true, true, false, false, false, false] L, st, h) := rfl
theorem j39_1 {L : qLV} {st : List Value} {h : qHp} : qJump PG 39 1 L st h = (39, K39_1, qMask [false, false, false, false, false, false] L, st, h) := rfl
theorem e40 {av : List Value} {h : qHp} : qEntry PG 40 av h = (40, K40_0, qPad 5 (qArgs av), [], h) := rfl
theorem j40_0 {L : qLV} {st : List Value} {h : qHp} : qJump PG 40 0 L st h = (40, K40_0, qMask [true, true, true, true, true] L, st, h) := rfl
theorem j40_1 {L : qLV} {st : List Value} {h : qHp} : qJump PG 40 1 L st h = (40, K40_1, qMask [false, false, false, false, false] L, st, h) := rfl
theorem e41 {av : List Value} {h : qHp} : qEntry PG 41 av h = (41, K41_0, qPad 6 (qArgs av), [], h) := rfl
theorem j41_0 {L : qLV} {st : List Value} {h : qHp} : qJump PG 41 0 L st h = (41, K41_0, qMask [true, true, true, true, true, true] L, st, h) := rfl
theorem e42 {av : List Value} {h : qHp} : qEntry PG 42 av h = (42, K42_0, qPad 7 (qArgs av), [], h) := rfl
theorem j42_0 {L : qLV} {st : List Value} {h : qHp} : qJump PG 42 0 L st h = (42, K42_0, qMask [true, true, false, false, false, false, false] L, st, h) := rfl
theorem j42_1 {L : qLV} {st : List Value} {h : qHp} : qJump PG 42 1 L st h = (42, K42_1, qMask [false, false, false, false, false, false, false] L, st, h) := rfl
theorem e43 {av : List Value} {h : qHp} : qEntry PG 43 av h = (43, K43_0, qPad 6 (qArgs av), [], h) := rfl
theorem j43_0 {L : qLV} {st : List Value} {h : qHp} : qJump PG 43 0 L st h = (43, K43_0, qMask [true, true, true, true, true, true] L, st, h) := rfl
theorem j43_1 {L : qLV} {st : List Value} {h : qHp} : qJump PG 43 1 L st h = (43, K43_1, qMask [false, false, false, false, false, false] L, st, h) := rfl
theorem e44 {av : List Value} {h : qHp} : qEntry PG 44 av h = (44, K44_0, qPad 2 (qArgs av), [], h) := rfl
theorem j44_0 {L : qLV} {st : List Value} {h : qHp} : qJump PG 44 0 L st h = (44, K44_0, qMask [true, false] L, st, h) := rfl
theorem j44_1 {L : qLV} {st : List Value} {h : qHp} : qJump PG 44 1 L st h = (44, K44_1, qMask [false, false] L, st, h) := rfl
theorem e45 {av : List Value} {h : qHp} : qEntry PG 45 av h = (45, K45_0, qPad 1 (qArgs av), [], h) := rfl
theorem j45_0 {L : qLV} {st : List Value} {h : qHp} : qJump PG 45 0 L st h = (45, K45_0, qMask [true] L, st, h) := rfl
theorem j45_1 {L : qLV} {st : List Value} {h : qHp} : qJump PG 45 1 L st h = (45, K45_1, qMask [false] L, st, h) := rfl
theorem j45_2 {L : qLV} {st : List Value} {h : qHp} : qJump PG 45 2 L st h = (45, K45_2, qMask [true] L, st, h) := rfl
theorem j45_3 {L : qLV} {st : List Value} {h : qHp} : qJump PG 45 3 L st h = (45, K45_3, qMask [true] L, st, h) := rfl
theorem e46 {av : List Value} {h : qHp} : qEntry PG 46 av h = (46, K46_0, qPad 3 (qArgs av), [], h) := rfl
theorem j46_0 {L : qLV} {st : List Value} {h : qHp} : qJump PG 46 0 L st h = (46, K46_0, qMask [true, true, false] L, st, h) := rfl
theorem j46_1 {L : qLV} {st : List Value} {h : qHp} : qJump PG 46 1 L st h = (46, K46_1, qMask [true, true, true] L, st, h) := rfl
theorem j46_2 {L : qLV} {st : List Value} {h : qHp} : qJump PG 46 2 L st h = (46, K46_2, qMask [true, true, false] L, st, h) := rfl
theorem j46_3 {L : qLV} {st : List Value} {h : qHp} : qJump PG 46 3 L st h = (46, K46_3, qMask [true, true, true] L, st, h) := rfl
theorem j46_4 {L : qLV} {st : List Value} {h : qHp} : qJump PG 46 4 L st h = (46, K46_4, qMask [true, true, false] L, st, h) := rfl
theorem j46_5 {L : qLV} {st : List Value} {h : qHp} : qJump PG 46 5 L st h = (46, K46_5, qMask [true, true, true] L, st, h) := rfl
theorem j46_6 {L : qLV} {st : List Value} {h : qHp} : qJump PG 46 6 L st h = (46, K46_6, qMask [true, true, false] L, st, h) := rfl
theorem j46_7 {L : qLV} {st : List Value} {h : qHp} : qJump PG 46 7 L st h = (46, K46_7, qMask [true, true, true] L, st, h) := rfl
theorem j46_8 {L : qLV} {st : List Value} {h : qHp} : qJump PG 46 8 L st h = (46, K46_8, qMask [true, true, false] L, st, h) := rfl
theorem e47 {av : List Value} {h : qHp} : qEntry PG 47 av h = (47, K47_0, qPad 2 (qArgs av), [], h) := rfl
theorem j47_0 {L : qLV} {st : List Value} {h : qHp} : qJump PG 47 0 L st h = (47, K47_0, qMask [true, true] L, st, h) := rfl
theorem e48 {av : List Value} {h : qHp} : qEntry PG 48 av h = (48, K48_0, qPad 2 (qArgs av), [], h) := rfl
theorem j48_0 {L : qLV} {st : List Value} {h : qHp} : qJump PG 48 0 L st h = (48, K48_0, qMask [true, true] L, st, h) := rfl
theorem e49 {av : List Value} {h : qHp} : qEntry PG 49 av h = (49, K49_0, qPad 2 (qArgs av), [], h) := rfl
theorem j49_0 {L : qLV} {st : List Value} {h : qHp} : qJump PG 49 0 L st h = (49, K49_0, qMask [true, true] L, st, h) := rfl
theorem e50 {av : List Value} {h : qHp} : qEntry PG 50 av h = (50, K50_0, qPad 2 (qArgs av), [], h) := rfl
theorem j50_0 {L : qLV} {st : List Value} {h : qHp} : qJump PG 50 0 L st h = (50, K50_0, qMask [true, true] L, st, h) := rfl
theorem e51 {av : List Value} {h : qHp} : qEntry PG 51 av h = (51, K51_0, qPad 1 (qArgs av), [], h) := rfl
theorem j51_0 {L : qLV} {st : List Value} {h : qHp} : qJump PG 51 0 L st h = (51, K51_0, qMask [true] L, st, h) := rfl
theorem e52 {av : List Value} {h : qHp} : qEntry PG 52 av h = (52, K52_0, qPad 1 (qArgs av), [], h) := rfl
theorem j52_0 {L : qLV} {st : List Value} {h : qHp} : qJump PG 52 0 L st h = (52, K52_0, qMask [true] L, st, h) := rfl
theorem e53 {av : List Value} {h : qHp} : qEntry PG 53 av h = (53, K53_0, qPad 1 (qArgs av), [], h) := rfl
theorem j53_0 {L : qLV} {st : List Value} {h : qHp} : qJump PG 53 0 L st h = (53, K53_0, qMask [true] L, st, h) := rfl
theorem e54 {av : List Value} {h : qHp} : qEntry PG 54 av h = (54, K54_0, qPad 1 (qArgs av), [], h) := rfl
theorem j54_0 {L : qLV} {st : List Value} {h : qHp} : qJump PG 54 0 L st h = (54, K54_0, qMask [true] L, st, h) := rfl
theorem e55 {av : List Value} {h : qHp} : qEntry PG 55 av h = (55, K55_0, qPad 1 (qArgs av), [], h) := rfl
theorem j55_0 {L : qLV} {st : List Value} {h : qHp} : qJump PG 55 0 L st h = (55, K55_0, qMask [true] L, st, h) := rfl
theorem e56 {av : List Value} {h : qHp} : qEntry PG 56 av h = (56, K56_0, qPad 1 (qArgs av), [], h) := rfl
theorem j56_0 {L : qLV} {st : List Value} {h : qHp} : qJump PG 56 0 L st h = (56, K56_0, qMask [true] L, st, h) := rfl
theorem j56_1 {L : qLV} {st : List Value} {h : qHp} : qJump PG 56 1 L st h = (56, K56_1, qMask [false] L, st, h) := rfl
theorem j56_2 {L : qLV} {st : List Value} {h : qHp} : qJump PG 56 2 L st h = (56, K56_2, qMask [false] L, st, h) := rfl
theorem e57 {av : List Value} {h : qHp} : qEntry PG 57 av h = (57, K57_0, qPad 4 (qArgs av), [], h) := rfl
theorem j57_0 {L : qLV} {st : List Value} {h : qHp} : qJump PG 57 0 L st h = (57, K57_0, qMask [true, false, false, false] L, st, h) := rfl
theorem j57_1 {L : qLV} {st : List Value} {h : qHp} : qJump PG 57 1 L st h = (57, K57_1, qMask [true, true, false, true] L, st, h) := rfl
theorem j57_2 {L : qLV} {st : List Value} {h : qHp} : qJump PG 57 2 L st h = (57, K57_2, qMask [false, true, false, false] L, st, h) := rfl
theorem e58 {av : List Value} {h : qHp} : qEntry PG 58 av h = (58, K58_0, qPad 4 (qArgs av), [], h) := rfl
theorem j58_0 {L : qLV} {st : List Value} {h : qHp} : qJump PG 58 0 L st h = (58, K58_0, qMask [true, false, false, false] L, st, h) := rfl
theorem j58_1 {L : qLV} {st : List Value} {h : qHp} : qJump PG 58 1 L st h = (58, K58_1, qMask [true, true, false, true] L, st, h) := rfl
theorem j58_2 {L : qLV} {st : List Value} {h : qHp} : qJump PG 58 2 L st h = (58, K58_2, qMask [false, true, false, false] L, st, h) := rfl
theorem e59 {av : List Value} {h : qHp} : qEntry PG 59 av h = (59, K59_0, qPad 4 (qArgs av), [], h) := rfl
theorem j59_0 {L : qLV} {st : List Value} {h : qHp} : qJump PG 59 0 L st h = (59, K59_0, qMask [true, false, false, false] L, st, h) := rfl
theorem j59_1 {L : qLV} {st : List Value} {h : qHp} : qJump PG 59 1 L st h = (59, K59_1, qMask [true, true, false, true] L, st, h) := rfl
theorem j59_2 {L : qLV} {st : List Value} {h : qHp} : qJump PG 59 2 L st h = (59, K59_2, qMask [false, true, false, false] L, st, h) := rfl
theorem e60 {av : List Value} {h : qHp} : qEntry PG 60 av h = (60, K60_0, qPad 1 (qArgs av), [], h) := rfl
theorem j60_0 {L : qLV} {st : List Value} {h : qHp} : qJump PG 60 0 L st h = (60, K60_0, qMask [true] L, st, h) := rfl
theorem e61 {av : List Value} {h : qHp} : qEntry PG 61 av h = (61, K61_0, qPad 2 (qArgs av), [], h) := rfl
theorem j61_0 {L : qLV} {st : List Value} {h : qHp} : qJump PG 61 0 L st h = (61, K61_0, qMask [true, true] L, st, h) := rfl
theorem e62 {av : List Value} {h : qHp} : qEntry PG 62 av h = (62, K62_0, qPad 9 (qArgs av), [], h) := rfl
theorem j62_0 {L : qLV} {st : List Value} {h : qHp} : qJump PG 62 0 L st h = (62, K62_0, qMask [true, false, false, false, false, false, false, false, false] L, st, h) := rfl
theorem j62_1 {L : qLV} {st : List Value} {h : qHp} : qJump PG 62 1 L st h = (62, K62_1, qMask [true, true, false, true, false, true, false, false, false] L, st, h) := rfl
theorem j62_2 {L : qLV} {st : List Value} {h : qHp} : qJump PG 62 2 L st h = (62, K62_2, qMask [true, true, false, true, false, true, false, false, false] L, st, h) := rfl
theorem j62_3 {L : qLV} {st : List Value} {h : qHp} : qJump PG 62 3 L st h = (62, K62_3, qMask [true, true, false, false, false, false, false, false, false] L, st, h) := rfl
theorem j62_4 {L : qLV} {st : List Value} {h : qHp} : qJump PG 62 4 L st h = (62, K62_4, qMask [true, true, false, false, false, true, false, false, false] L, st, h) := rfl
theorem j62_5 {L : qLV} {st : List Value} {h : qHp} : qJump PG 62 5 L st h = (62, K62_5, qMask [true, true, false, false, false, false, false, false, false] L, st, h) := rfl
theorem e63 {av : List Value} {h : qHp} : qEntry PG 63 av h = (63, K63_0, qPad 8 (qArgs av), [], h) := rfl
theorem j63_0 {L : qLV} {st : List Value} {h : qHp} : qJump PG 63 0 L st h = (63, K63_0, qMask [true, true, false, false, false, false, false, false] L, st, h) := rfl
theorem j63_1 {L : qLV} {st : List Value} {h : qHp} : qJump PG 63 1 L st h = (63, K63_1, qMask [true, true, false, true, false, true, false, false] L, st, h) := rfl
theorem j63_2 {L : qLV} {st : List Value} {h : qHp} : qJump PG 63 2 L st h = (63, K63_2, qMask [true, true, false, true, false, true, false, false] L, st, h) := rfl
theorem j63_3 {L : qLV} {st : List Value} {h : qHp} : qJump PG 63 3 L st h = (63, K63_3, qMask [false, false, false, true, false, false, false, false] L, st, h) := rfl
theorem e64 {av : List Value} {h : qHp} : qEntry PG 64 av h = (64, K64_0, qPad 4 (qArgs av), [], h) := rfl
theorem j64_0 {L : qLV} {st : List Value} {h : qHp} : qJump PG 64 0 L st h = (64, K64_0, qMask [true, true, false, false] L, st, h) := rfl
theorem j64_1 {L : qLV} {st : List Value} {h : qHp} : qJump PG 64 1 L st h = (64, K64_1, qMask [false, false, false, false] L, st, h) := rfl
theorem j64_2 {L : qLV} {st : List Value} {h : qHp} : qJump PG 64 2 L st h = (64, K64_2, qMask [true, true, false, false] L, st, h) := rfl
theorem e65 {av : List Value} {h : qHp} : qEntry PG 65 av h = (65, K65_0, qPad 4 (qArgs av), [], h) := rfl
theorem j65_0 {L : qLV} {st : List Value} {h : qHp} : qJump PG 65 0 L st h = (65, K65_0, qMask [true, false, true, false] L, st, h) := rfl
theorem e66 {av : List Value} {h : qHp} : qEntry PG 66 av h = (66, K66_0, qPad 4 (qArgs av), [], h) := rfl
theorem j66_0 {L : qLV} {st : List Value} {h : qHp} : qJump PG 66 0 L st h = (66, K66_0, qMask [true, false, true, false] L, st, h) := rfl
theorem e67 {av : List Value} {h : qHp} : qEntry PG 67 av h = (67, K67_0, qPad 1 (qArgs av), [], h) := rfl
theorem j67_0 {L : qLV} {st : List Value} {h : qHp} : qJump PG 67 0 L st h = (67, K67_0, qMask [true] L, st, h) := rfl
theorem e68 {av : List Value} {h : qHp} : qEntry PG 68 av h = (68, K68_0, qPad 7 (qArgs av), [], h) := rfl
theorem j68_0 {L : qLV} {st : List Value} {h : qHp} : qJump PG 68 0 L st h = (68, K68_0, qMask [true, true, false, false, false, false, false] L, st, h) := rfl
theorem j68_1 {L : qLV} {st : List Value} {h : qHp} : qJump PG 68 1 L st h = (68, K68_1, qMask [true, false, true, false, false, false, false] L, st, h) := rfl
theorem j68_2 {L : qLV} {st : List Value} {h : qHp} : qJump PG 68 2 L st h = (68, K68_2, qMask [true, false, true, true, true, true, false] L, st, h) := rfl
theorem j68_3 {L : qLV} {st : List Value} {h : qHp} : qJump PG 68 3 L st h = (68, K68_3, qMask [true, false, true, true, true, true, false] L, st, h) := rfl
theorem j68_4 {L : qLV} {st : List Value} {h : qHp} : qJump PG 68 4 L st h = (68, K68_4, qMask [true, false, true, false, true, true, false] L, st, h) := rfl
theorem j68_5 {L : qLV} {st : List Value} {h : qHp} : qJump PG 68 5 L st h = (68, K68_5, qMask [true, false, true, true, true, true, false] L, st, h) := rfl
theorem j68_6 {L : qLV} {st : List Value} {h : qHp} : qJump PG 68 6 L st h = (68, K68_6, qMask [true, false, true, true, false, true, false] L, st, h) := rfl
theorem j68_7 {L : qLV} {st : List Value} {h : qHp} : qJump PG 68 7 L st h = (68, K68_7, qMask [true, false, true, true, true, false, false] L, st, h) := rfl
theorem j68_8 {L : qLV} {st : List Value} {h : qHp} : qJump PG 68 8 L st h = (68, K68_8, qMask [true, false, true, true, true, true, false] L, st, h) := rfl
theorem j68_9 {L : qLV} {st : List Value} {h : qHp} : qJump PG 68 9 L st h = (68, K68_9, qMask [false, false, false, false, false, false, false] L, st, h) := rfl
theorem e69 {av : List Value} {h : qHp} : qEntry PG 69 av h = (69, K69_0, qPad 1 (qArgs av), [], h) := rfl
theorem j69_0 {L : qLV} {st : List Value} {h : qHp} : qJump PG 69 0 L st h = (69, K69_0, qMask [true] L, st, h) := rfl
theorem j69_1 {L : qLV} {st : List Value} {h : qHp} : qJump PG 69 1 L st h = (69, K69_1, qMask [true] L, st, h) := rfl
theorem e70 {av : List Value} {h : qHp} : qEntry PG 70 av h = (70, K70_0, qPad 2 (qArgs av), [], h) := rfl
theorem j70_0 {L : qLV} {st : List Value} {h : qHp} : qJump PG 70 0 L st h = (70, K70_0, qMask [true, true] L, st, h) := rfl
theorem e71 {av : List Value} {h : qHp} : qEntry PG 71 av h = (71, K71_0, qPad 4 (qArgs av), [], h) := rfl
theorem j71_0 {L : qLV} {st : List Value} {h : qHp} : qJump PG 71 0 L st h = (71, K71_0, qMask [true, false, false, false] L, st, h) := rfl
theorem j71_1 {L : qLV} {st : List Value} {h : qHp} : qJump PG 71 1 L st h = (71, K71_1, qMask [true, true, false, true] L, st, h) := rfl
theorem j71_2 {L : qLV} {st : List Value} {h : qHp} : qJump PG 71 2 L st h = (71, K71_2, qMask [true, true, false, false] L, st, h) := rfl
theorem j71_3 {L : qLV} {st : List Value} {h : qHp} : qJump PG 71 3 L st h = (71, K71_3, qMask [true, true, false, true] L, st, h) := rfl
theorem j71_4 {L : qLV} {st : List Value} {h : qHp} : qJump PG 71 4 L st h = (71, K71_4, qMask [false, true, false, false] L, st, h) := rfl
theorem e72 {av : List Value} {h : qHp} : qEntry PG 72 av h = (72, K72_0, qPad 5 (qArgs av), [], h) := rfl
theorem j72_0 {L : qLV} {st : List Value} {h : qHp} : qJump PG 72 0 L st h = (72, K72_0, qMask [true, true, false, false, false] L, st, h) := rfl
theorem j72_1 {L : qLV} {st : List Value} {h : qHp} : qJump PG 72 1 L st h = (72, K72_1, qMask [false, false, false, false, false] L, st, h) := rfl
theorem j72_2 {L : qLV} {st : List Value} {h : qHp} : qJump PG 72 2 L st h = (72, K72_2, qMask [true, true, false, false, false] L, st, h) := rfl
theorem j72_3 {L : qLV} {st : List Value} {h : qHp} : qJump PG 72 3 L st h = (72, K72_3, qMask [true, true, true, false, true] L, st, h) := rfl
theorem j72_4 {L : qLV} {st : List Value} {h : qHp} : qJump PG 72 4 L st h = (72, K72_4, qMask [false, false, true, false, false] L, st, h) := rfl
theorem j72_5 {L : qLV} {st : List Value} {h : qHp} : qJump PG 72 5 L st h = (72, K72_5, qMask [false, false, true, false, false] L, st, h) := rfl
theorem j72_6 {L : qLV} {st : List Value} {h : qHp} : qJump PG 72 6 L st h = (72, K72_6, qMask [false, false, false, false, false] L, st, h) := rfl
theorem e73 {av : List Value} {h : qHp} : qEntry PG 73 av h = (73, K73_0, qPad 8 (qArgs av), [], h) := rfl
theorem j73_0 {L : qLV} {st : List Value} {h : qHp} : qJump PG 73 0 L st h = (73, K73_0, qMask [true, true, false, false, false, false, false, false] L, st, h) := rfl
theorem j73_1 {L : qLV} {st : List Value} {h : qHp} : qJump PG 73 1 L st h = (73, K73_1, qMask [true, true, false, true, false, true, false, false] L, st, h) := rfl
theorem j73_2 {L : qLV} {st : List Value} {h : qHp} : qJump PG 73 2 L st h = (73, K73_2, qMask [true, true, false, true, false, true, false, false] L, st, h) := rfl
theorem j73_3 {L : qLV} {st : List Value} {h : qHp} : qJump PG 73 3 L st h = (73, K73_3, qMask [false, false, false, true, false, false, false, false] L, st, h) := rfl
theorem e74 {av : List Value} {h : qHp} : qEntry PG 74 av h = (74, K74_0, qPad 2 (qArgs av), [], h) := rfl
theorem j74_0 {L : qLV} {st : List Value} {h : qHp} : qJump PG 74 0 L st h = (74, K74_0, qMask [true, true] L, st, h) := rfl
theorem j74_1 {L : qLV} {st : List Value} {h : qHp} : qJump PG 74 1 L st h = (74, K74_1, qMask [true, false] L, st, h) := rfl
theorem j74_2 {L : qLV} {st : List Value} {h : qHp} : qJump PG 74 2 L st h = (74, K74_2, qMask [true, false] L, st, h) := rfl
theorem j74_3 {L : qLV} {st : List Value} {h : qHp} : qJump PG 74 3 L st h = (74, K74_3, qMask [true, false] L, st, h) := rfl
theorem j74_4 {L : qLV} {st : List Value} {h : qHp} : qJump PG 74 4 L st h = (74, K74_4, qMask [true, false] L, st, h) := rfl
theorem j74_5 {L : qLV} {st : List Value} {h : qHp} : qJump PG 74 5 L st h = (74, K74_5, qMask [true, false] L, st, h) := rfl
theorem j74_6 {L : qLV} {st : List Value} {h : qHp} : qJump PG 74 6 L st h = (74, K74_6, qMask [true, false] L, st, h) := rfl
theorem j74_7 {L : qLV} {st : List Value} {h : qHp} : qJump PG 74 7 L st h = (74, K74_7, qMask [true, false] L, st, h) := rfl
theorem j74_8 {L : qLV} {st : List Value} {h : qHp} : qJump PG 74 8 L st h = (74, K74_8, qMask [true, false] L, st, h) := rfl
theorem j74_9 {L : qLV} {st : List Value} {h : qHp} : qJump PG 74 9 L st h = (74, K74_9, qMask [false, false] L, st, h) := rfl
theorem e75 {av : List Value} {h : qHp} : qEntry PG 75 av h = (75, K75_0, qPad 2 (qArgs av), [], h) := rfl
theorem j75_0 {L : qLV} {st : List Value} {h : qHp} : qJump PG 75 0 L st h = (75, K75_0, qMask [true, true] L, st, h) := rfl
theorem e76 {av : List Value} {h : qHp} : qEntry PG 76 av h = (76, K76_0, qPad 2 (qArgs av), [], h) := rfl
theorem j76_0 {L : qLV} {st : List Value} {h : qHp} : qJump PG 76 0 L st h = (76, K76_0, qMask [true, true] L, st, h) := rfl
theorem j76_1 {L : qLV} {st : List Value} {h : qHp} : qJump PG 76 1 L st h = (76, K76_1, qMask [false, false] L, st, h) := rfl
theorem j76_2 {L : qLV} {st : List Value} {h : qHp} : qJump PG 76 2 L st h = (76, K76_2, qMask [false, false] L, st, h) := rfl
theorem e77 {av : List Value} {h : qHp} : qEntry PG 77 av h = (77, K77_0, qPad 4 (qArgs av), [], h) := rfl
theorem j77_0 {L : qLV} {st : List Value} {h : qHp} : qJump PG 77 0 L st h = (77, K77_0, qMask [true, true, true, false] L, st, h) := rfl
theorem j77_1 {L : qLV} {st : List Value} {h : qHp} : qJump PG 77 1 L st h = (77, K77_1, qMask [false, false, false, true] L, st, h) := rfl
theorem j77_2 {L : qLV} {st : List Value} {h : qHp} : qJump PG 77 2 L st h = (77, K77_2, qMask [false, false, false, true] L, st, h) := rfl
theorem j77_3 {L : qLV} {st : List Value} {h : qHp} : qJump PG 77 3 L st h = (77, K77_3, qMask [false, false, false, true] L, st, h) := rfl
theorem j77_4 {L : qLV} {st : List Value} {h : qHp} : qJump PG 77 4 L st h = (77, K77_4, qMask [false, false, false, true] L, st, h) := rfl
theorem j77_5 {L : qLV} {st : List Value} {h : qHp} : qJump PG 77 5 L st h = (77, K77_5, qMask [false, false, false, true] L, st, h) := rfl
theorem j77_6 {L : qLV} {st : List Value} {h : qHp} : qJump PG 77 6 L st h = (77, K77_6, qMask [false, false, false, true] L, st, h) := rfl
theorem j77_7 {L : qLV} {st : List Value} {h : qHp} : qJump PG 77 7 L st h = (77, K77_7, qMask [true, false, false, true] L, st, h) := rfl
theorem j77_8 {L : qLV} {st : List Value} {h : qHp} : qJump PG 77 8 L st h = (77, K77_8, qMask [false, false, false, false] L, st, h) := rfl
theorem e78 {av : List Value} {h : qHp} : qEntry PG 78 av h = (78, K78_0, qPad 2 (qArgs av), [], h) := rfl
theorem j78_0 {L : qLV} {st : List Value} {h : qHp} : qJump PG 78 0 L st h = (78, K78_0, qMask [true, true] L, st, h) := rfl
theorem e79 {av : List Value} {h : qHp} : qEntry PG 79 av h = (79, K79_0, qPad 2 (qArgs av), [], h) := rfl
theorem j79_0 {L : qLV} {st : List Value} {h : qHp} : qJump PG 79 0 L st h = (79, K79_0, qMask [true, true] L, st, h) := rfl
theorem j79_1 {L : qLV} {st : List Value} {h : qHp} : qJump PG 79 1 L st h = (79, K79_1, qMask [false, false] L, st, h) := rfl
theorem j79_2 {L : qLV} {st : List Value} {h : qHp} : qJump PG 79 2 L st h = (79, K79_2, qMask [false, false] L, st, h) := rfl
theorem e80 {av : List Value} {h : qHp} : qEntry PG 80 av h = (80, K80_0, qPad 4 (qArgs av), [], h) := rfl
theorem j80_0 {L : qLV} {st : List Value} {h : qHp} : qJump PG 80 0 L st h = (80, K80_0, qMask [true, true, false, false] L, st, h) := rfl
theorem j80_1 {L : qLV} {st : List Value} {h : qHp} : qJump PG 80 1 L st h = (80, K80_1, qMask [true, false, true, true] L, st, h) := rfl
theorem j80_2 {L : qLV} {st : List Value} {h : qHp} : qJump PG 80 2 L st h = (80, K80_2, qMask [false, false, true, false] L, st, h) := rfl
theorem e81 {av : List Value} {h : qHp} : qEntry PG 81 av h = (81, K81_0, qPad 2 (qArgs av), [], h) := rfl
theorem j81_0 {L : qLV} {st : List Value} {h : qHp} : qJump PG 81 0 L st h = (81, K81_0, qMask [true, true] L, st, h) := rfl
theorem j81_1 {L : qLV} {st : List Value} {h : qHp} : qJump PG 81 1 L st h = (81, K81_1, qMask [false, false] L, st, h) := rfl
theorem j81_2 {L : qLV} {st : List Value} {h : qHp} : qJump PG 81 2 L st h = (81, K81_2, qMask [false, false] L, st, h) := rfl
theorem e82 {av : List Value} {h : qHp} : qEntry PG 82 av h = (82, K82_0, qPad 6 (qArgs av), [], h) := rfl
theorem j82_0 {L : qLV} {st : List Value} {h : qHp} : qJump PG 82 0 L st h = (82, K82_0, qMask [true, true, false, false, false, false] L, st, h) := rfl
theorem j82_1 {L : qLV} {st : List Value} {h : qHp} : qJump PG 82 1 L st h = (82, K82_1, qMask [true, false, true, false, true, true] L, st, h) := rfl
theorem j82_2 {L : qLV} {st : List Value} {h : qHp} : qJump PG 82 2 L st h = (82, K82_2, qMask [true, false, true, false, true, true] L, st, h) := rfl
theorem j82_3 {L : qLV} {st : List Value} {h : qHp} : qJump PG 82 3 L st h = (82, K82_3, qMask [false, false, true, false, false, false] L, st, h) := rfl
theorem e83 {av : List Value} {h : qHp} : qEntry PG 83 av h = (83, K83_0, qPad 5 (qArgs av), [], h) := rfl
theorem j83_0 {L : qLV} {st : List Value} {h : qHp} : qJump PG 83 0 L st h = (83, K83_0, qMask [true, true, false, false, false] L, st, h) := rfl
theorem j83_1 {L : qLV} {st : List Value} {h : qHp} : qJump PG 83 1 L st h = (83, K83_1, qMask [true, true, true, true, false] L, st, h) := rfl
theorem j83_2 {L : qLV} {st : List Value} {h : qHp} : qJump PG 83 2 L st h = (83, K83_2, qMask [true, true, true, true, false] L, st, h) := rfl
theorem j83_3 {L : qLV} {st : List Value} {h : qHp} : qJump PG 83 3 L st h = (83, K83_3, qMask [true, true, true, true, false] L, st, h) := rfl
theorem j83_4 {L : qLV} {st : List Value} {h : qHp} : qJump PG 83 4 L st h = (83, K83_4, qMask [false, false, true, false, false] L, st, h) := rfl
theorem e84 {av : List Value} {h : qHp} : qEntry PG 84 av h = (84, K84_0, qPad 2 (qArgs av), [], h) := rfl
theorem j84_0 {L : qLV} {st : List Value} {h : qHp} : qJump PG 84 0 L st h = (84, K84_0, qMask [true, true] L, st, h) := rfl
theorem e85 {av : List Value} {h : qHp} : qEntry PG 85 av h = (85, K85_0, qPad 4 (qArgs av), [], h) := rfl
theorem j85_0 {L : qLV} {st : List Value} {h : qHp} : qJump PG 85 0 L st h = (85, K85_0, qMask [true, true, true, false] L, st, h) := rfl
theorem j85_1 {L : qLV} {st : List Value} {h : qHp} : qJump PG 85 1 L st h = (85, K85_1, qMask [false, false, false, true] L, st, h) := rfl
theorem j85_2 {L : qLV} {st : List Value} {h : qHp} : qJump PG 85 2 L st h = (85, K85_2, qMask [false, false, false, true] L, st, h) := rfl
theorem j85_3 {L : qLV} {st : List Value} {h : qHp} : qJump PG 85 3 L st h = (85, K85_3, qMask [false, false, false, true] L, st, h) := rfl
theorem j85_4 {L : qLV} {st : List Value} {h : qHp} : qJump PG 85 4 L st h = (85, K85_4, qMask [false, false, false, true] L, st, h) := rfl
theorem j85_5 {L : qLV} {st : List Value} {h : qHp} : qJump PG 85 5 L st h = (85, K85_5, qMask [false, false, false, true] L, st, h) := rfl
theorem j85_6 {L : qLV} {st : List Value} {h : qHp} : qJump PG 85 6 L st h = (85, K85_6, qMask [false, false, false, true] L, st, h) := rfl
theorem j85_7 {L : qLV} {st : List Value} {h : qHp} : qJump PG 85 7 L st h = (85, K85_7, qMask [false, false, false, false] L, st, h) := rfl
theorem e86 {av : List Value} {h : qHp} : qEntry PG 86 av h = (86, K86_0, qPad 2 (qArgs av), [], h) := rfl
theorem j86_0 {L : qLV} {st : List Value} {h : qHp} : qJump PG 86 0 L st h = (86, K86_0, qMask [true, true] L, st, h) := rfl
theorem j86_1 {L : qLV} {st : List Value} {h : qHp} : qJump PG 86 1 L st h = (86, K86_1, qMask [false, false] L, st, h) := rfl
theorem j86_2 {L : qLV} {st : List Value} {h : qHp} : qJump PG 86 2 L st h = (86, K86_2, qMask [true, true] L, st, h) := rfl
theorem e87 {av : List Value} {h : qHp} : qEntry PG 87 av h = (87, K87_0, qPad 4 (qArgs av), [], h) := rfl
theorem j87_0 {L : qLV} {st : List Value} {h : qHp} : qJump PG 87 0 L st h = (87, K87_0, qMask [true, true, true, false] L, st, h) := rfl
theorem j87_1 {L : qLV} {st : List Value} {h : qHp} : qJump PG 87 1 L st h = (87, K87_1, qMask [false, false, false, false] L, st, h) := rfl
theorem j87_2 {L : qLV} {st : List Value} {h : qHp} : qJump PG 87 2 L st h = (87, K87_2, qMask [true, true, true, false] L, st, h) := rfl
theorem j87_3 {L : qLV} {st : List Value} {h : qHp} : qJump PG 87 3 L st h = (87, K87_3, qMask [false, false, false, true] L, st, h) := rfl
theorem j87_4 {L : qLV} {st : List Value} {h : qHp} : qJump PG 87 4 L st h = (87, K87_4, qMask [false, false, false, true] L, st, h) := rfl
theorem j87_5 {L : qLV} {st : List Value} {h : qHp} : qJump PG 87 5 L st h = (87, K87_5, qMask [false, false, false, true] L, st, h) := rfl
theorem j87_6 {L : qLV} {st : List Value} {h : qHp} : qJump PG 87 6 L st h = (87, K87_6, qMask [false, false, false, true] L, st, h) := rfl
theorem j87_7 {L : qLV} {st : List Value} {h : qHp} : qJump PG 87 7 L st h = (87, K87_7, qMask [false, false, false, false] L, st, h) := rfl
theorem e88 {av : List Value} {h : qHp} : qEntry PG 88 av h = (88, K88_0, qPad 4 (qArgs av), [], h) := rfl
theorem j88_0 {L : qLV} {st : List Value} {h : qHp} : qJump PG 88 0 L st h = (88, K88_0, qMask [true, true, true, false] L, st, h) := rfl
theorem j88_1 {L : qLV} {st : List Value} {h : qHp} : qJump PG 88 1 L st h = (88, K88_1, qMask [false, false, false, true] L, st, h) := rfl
theorem j88_2 {L : qLV} {st : List Value} {h : qHp} : qJump PG 88 2 L st h = (88, K88_2, qMask [false, false, false, true] L, st, h) := rfl
theorem j88_3 {L : qLV} {st : List Value} {h : qHp} : qJump PG 88 3 L st h = (88, K88_3, qMask [false, false, false, true] L, st, h) := rfl
theorem j88_4 {L : qLV} {st : List Value} {h : qHp} : qJump PG 88 4 L st h = (88, K88_4, qMask [false, false, false, true] L, st, h) := rfl
theorem j88_5 {L : qLV} {st : List Value} {h : qHp} : qJump PG 88 5 L st h = (88, K88_5, qMask [false, false, false, true] L, st, h) := rfl
theorem j88_6 {L : qLV} {st : List Value} {h : qHp} : qJump PG 88 6 L st h = (88, K88_6, qMask [false, false, false, false] L, st, h) := rfl
theorem e89 {av : List Value} {h : qHp} : qEntry PG 89 av h = (89, K89_0, qPad 2 (qArgs av), [], h) := rfl
theorem j89_0 {L : qLV} {st : List Value} {h : qHp} : qJump PG 89 0 L st h = (89, K89_0, qMask [true, true] L, st, h) := rfl
theorem e90 {av : List Value} {h : qHp} : qEntry PG 90 av h = (90, K90_0, qPad 2 (qArgs av), [], h) := rfl
theorem j90_0 {L : qLV} {st : List Value} {h : qHp} : qJump PG 90 0 L st h = (90, K90_0, qMask [true, true] L, st, h) := rfl
theorem j90_1 {L : qLV} {st : List Value} {h : qHp} : qJump PG 90 1 L st h = (90, K90_1, qMask [false, false] L, st, h) := rfl
theorem j90_2 {L : qLV} {st : List Value} {h : qHp} : qJump PG 90 2 L st h = (90, K90_2, qMask [false, false] L, st, h) := rfl
theorem e91 {av : List Value} {h : qHp} : qEntry PG 91 av h = (91, K91_0, qPad 2 (qArgs av), [], h) := rfl
theorem j91_0 {L : qLV} {st : List Value} {h : qHp} : qJump PG 91 0 L st h = (91, K91_0, qMask [true, true] L, st, h) := rfl
theorem e92 {av : List Value} {h : qHp} : qEntry PG 92 av h = (92, K92_0, qPad 3 (qArgs av), [], h) := rfl
theorem j92_0 {L : qLV} {st : List Value} {h : qHp} : qJump PG 92 0 L st h = (92, K92_0, qMask [true, true, false] L, st, h) := rfl
theorem j92_1 {L : qLV} {st : List Value} {h : qHp} : qJump PG 92 1 L st h = (92, K92_1, qMask [true, true, false] L, st, h) := rfl
theorem j92_2 {L : qLV} {st : List Value} {h : qHp} : qJump PG 92 2 L st h = (92, K92_2, qMask [true, true, true] L, st, h) := rfl
theorem j92_3 {L : qLV} {st : List Value} {h : qHp} : qJump PG 92 3 L st h = (92, K92_3, qMask [true, false, false] L, st, h) := rfl
theorem e93 {av : List Value} {h : qHp} : qEntry PG 93 av h = (93, K93_0, qPad 3 (qArgs av), [], h) := rfl
theorem j93_0 {L : qLV} {st : List Value} {h : qHp} : qJump PG 93 0 L st h = (93, K93_0, qMask [true, true, true] L, st, h) := rfl
theorem j93_1 {L : qLV} {st : List Value} {h : qHp} : qJump PG 93 1 L st h = (93, K93_1, qMask [false, false, false] L, st, h) := rfl
theorem j93_2 {L : qLV} {st : List Value} {h : qHp} : qJump PG 93 2 L st h = (93, K93_2, qMask [false, false, false] L, st, h) := rfl
theorem e94 {av : List Value} {h : qHp} : qEntry PG 94 av h = (94, K94_0, qPad 2 (qArgs av), [], h) := rfl
theorem j94_0 {L : qLV} {st : List Value} {h : qHp} : qJump PG 94 0 L st h = (94, K94_0, qMask [true, false] L, st, h) := rfl
theorem j94_1 {L : qLV} {st : List Value} {h : qHp} : qJump PG 94 1 L st h = (94, K94_1, qMask [true, true] L, st, h) := rfl
theorem j94_2 {L : qLV} {st : List Value} {h : qHp} : qJump PG 94 2 L st h = (94, K94_2, qMask [true, true] L, st, h) := rfl
theorem j94_3 {L : qLV} {st : List Value} {h : qHp} : qJump PG 94 3 L st h = (94, K94_3, qMask [true, false] L, st, h) := rfl
theorem j94_4 {L : qLV} {st : List Value} {h : qHp} : qJump PG 94 4 L st h = (94, K94_4, qMask [true, false] L, st, h) := rfl
theorem j94_5 {L : qLV} {st : List Value} {h : qHp} : qJump PG 94 5 L st h = (94, K94_5, qMask [true, true] L, st, h) := rfl
theorem j94_6 {L : qLV} {st : List Value} {h : qHp} : qJump PG 94 6 L st h = (94, K94_6, qMask [true, true] L, st, h) := rfl
theorem j94_7 {L : qLV} {st : List Value} {h : qHp} : qJump PG 94 7 L st h = (94, K94_7, qMask [false, false] L, st, h) := rfl
theorem e95 {av : List Value} {h : qHp} : qEntry PG 95 av h = (95, K95_0, qPad 3 (qArgs av), [], h) := rfl
theorem j95_0 {L : qLV} {st : List Value} {h : qHp} : qJump PG 95 0 L st h = (95, K95_0, qMask [true, true, false] L, st, h) := rfl
theorem e96 {av : List Value} {h : qHp} : qEntry PG 96 av h = (96, K96_0, qPad 4 (qArgs av), [], h) := rfl
theorem j96_0 {L : qLV} {st : List Value} {h : qHp} : qJump PG 96 0 L st h = (96, K96_0, qMask [true, true, true, false] L, st, h) := rfl
theorem j96_1 {L : qLV} {st : List Value} {h : qHp} : qJump PG 96 1 L st h = (96, K96_1, qMask [false, false, false, false] L, st, h) := rfl
theorem e97 {av : List Value} {h : qHp} : qEntry PG 97 av h = (97, K97_0, qPad 2 (qArgs av), [], h) := rfl
theorem j97_0 {L : qLV} {st : List Value} {h : qHp} : qJump PG 97 0 L st h = (97, K97_0, qMask [true, true] L, st, h) := rfl
theorem j97_1 {L : qLV} {st : List Value} {h : qHp} : qJump PG 97 1 L st h = (97, K97_1, qMask [false, false] L, st, h) := rfl
theorem j97_2 {L : qLV} {st : List Value} {h : qHp} : qJump PG 97 2 L st h = (97, K97_2, qMask [false, false] L, st, h) := rfl
theorem e98 {av : List Value} {h : qHp} : qEntry PG 98 av h = (98, K98_0, qPad 9 (qArgs av), [], h) := rfl
theorem j98_0 {L : qLV} {st : List Value} {h : qHp} : qJump PG 98 0 L st h = (98, K98_0, qMask [true, true, true, true, true, false, true, false, false] L, st, h) := rfl
theorem e99 {av : List Value} {h : qHp} : qEntry PG 99 av h = (99, K99_0, qPad 4 (qArgs av), [], h) := rfl
theorem j99_0 {L : qLV} {st : List Value} {h : qHp} : qJump PG 99 0 L st h = (99, K99_0, qMask [true, false, false, false] L, st, h) := rfl
theorem j99_1 {L : qLV} {st : List Value} {h : qHp} : qJump PG 99 1 L st h = (99, K99_1, qMask [true, true, false, false] L, st, h) := rfl
theorem j99_2 {L : qLV} {st : List Value} {h : qHp} : qJump PG 99 2 L st h = (99, K99_2, qMask [true, false, false, false] L, st, h) := rfl
theorem e100 {av : List Value} {h : qHp} : qEntry PG 100 av h = (100, K100_0, qPad 1 (qArgs av), [], h) := rfl
theorem j100_0 {L : qLV} {st : List Value} {h : qHp} : qJump PG 100 0 L st h = (100, K100_0, qMask [true] L, st, h) := rfl
theorem j100_1 {L : qLV} {st : List Value} {h : qHp} : qJump PG 100 1 L st h = (100, K100_1, qMask [false] L, st, h) := rfl
theorem j100_2 {L : qLV} {st : List Value} {h : qHp} : qJump PG 100 2 L st h = (100, K100_2, qMask [true] L, st, h) := rfl
theorem j100_3 {L : qLV} {st : List Value} {h : qHp} : qJump PG 100 3 L st h = (100, K100_3, qMask [true] L, st, h) := rfl
theorem j100_4 {L : qLV} {st : List Value} {h : qHp} : qJump PG 100 4 L st h = (100, K100_4, qMask [false] L, st, h) := rfl
theorem e101 {av : List Value} {h : qHp} : qEntry PG 101 av h = (101, K101_0, qPad 4 (qArgs av), [], h) := rfl
theorem j101_0 {L : qLV} {st : List Value} {h : qHp} : qJump PG 101 0 L st h = (101, K101_0, qMask [true, true, false, false] L, st, h) := rfl
theorem j101_1 {L : qLV} {st : List Value} {h : qHp} : qJump PG 101 1 L st h = (101, K101_1, qMask [false, false, true, false] L, st, h) := rfl
theorem e102 {av : List Value} {h : qHp} : qEntry PG 102 av h = (102, K102_0, qPad 4 (qArgs av), [], h) := rfl
theorem j102_0 {L : qLV} {st : List Value} {h : qHp} : qJump PG 102 0 L st h = (102, K102_0, qMask [true, true, true, false] L, st, h) := rfl
theorem e103 {av : List Value} {h : qHp} : qEntry PG 103 av h = (103, K103_0, qPad 9 (qArgs av), [], h) := rfl
theorem j103_0 {L : qLV} {st : List Value} {h : qHp} : qJump PG 103 0 L st h = (103, K103_0, qMask [true, true, false, false, false, false, false, false, false] L, st, h) := rfl
theorem j103_1 {L : qLV} {st : List Value} {h : qHp} : qJump PG 103 1 L st h = (103, K103_1, qMask [true, true, true, false, true, true, false, false, false] L, st, h) := rfl
theorem j103_2 {L : qLV} {st : List Value} {h : qHp} : qJump PG 103 2 L st h = (103, K103_2, qMask [true, true, true, false, false, false, false, false, false] L, st, h) := rfl
theorem e104 {av : List Value} {h : qHp} : qEntry PG 104 av h = (104, K104_0, qPad 2 (qArgs av), [], h) := rfl
theorem j104_0 {L : qLV} {st : List Value} {h : qHp} : qJump PG 104 0 L st h = (104, K104_0, qMask [true, false] L, st, h) := rfl
theorem j104_1 {L : qLV} {st : List Value} {h : qHp} : qJump PG 104 1 L st h = (104, K104_1, qMask [true, true] L, st, h) := rfl
theorem j104_2 {L : qLV} {st : List Value} {h : qHp} : qJump PG 104 2 L st h = (104, K104_2, qMask [true, true] L, st, h) := rfl
theorem j104_3 {L : qLV} {st : List Value} {h : qHp} : qJump PG 104 3 L st h = (104, K104_3, qMask [false, false] L, st, h) := rfl
theorem e105 {av : List Value} {h : qHp} : qEntry PG 105 av h = (105, K105_0, qPad 5 (qArgs av), [], h) := rfl
theorem j105_0 {L : qLV} {st : List Value} {h : qHp} : qJump PG 105 0 L st h = (105, K105_0, qMask [true, true, false, false, false] L, st, h) := rfl
theorem j105_1 {L : qLV} {st : List Value} {h : qHp} : qJump PG 105 1 L st h = (105, K105_1, qMask [false, false, false, false, false] L, st, h) := rfl
theorem e106 {av : List Value} {h : qHp} : qEntry PG 106 av h = (106, K106_0, qPad 5 (qArgs av), [], h) := rfl
theorem j106_0 {L : qLV} {st : List Value} {h : qHp} : qJump PG 106 0 L st h = (106, K106_0, qMask [true, true, true, true, false] L, st, h) := rfl
theorem e107 {av : List Value} {h : qHp} : qEntry PG 107 av h = (107, K107_0, qPad 4 (qArgs av), [], h) := rfl
theorem j107_0 {L : qLV} {st : List Value} {h : qHp} : qJump PG 107 0 L st h = (107, K107_0, qMask [true, true, true, true] L, st, h) := rfl
theorem j107_1 {L : qLV} {st : List Value} {h : qHp} : qJump PG 107 1 L st h = (107, K107_1, qMask [true, true, true, true] L, st, h) := rfl
theorem j107_2 {L : qLV} {st : List Value} {h : qHp} : qJump PG 107 2 L st h = (107, K107_2, qMask [true, true, true, true] L, st, h) := rfl
theorem e108 {av : List Value} {h : qHp} : qEntry PG 108 av h = (108, K108_0, qPad 2 (qArgs av), [], h) := rfl
theorem j108_0 {L : qLV} {st : List Value} {h : qHp} : qJump PG 108 0 L st h = (108, K108_0, qMask [true, true] L, st, h) := rfl
theorem j108_1 {L : qLV} {st : List Value} {h : qHp} : qJump PG 108 1 L st h = (108, K108_1, qMask [false, false] L, st, h) := rfl
theorem e109 {av : List Value} {h : qHp} : qEntry PG 109 av h = (109, K109_0, qPad 2 (qArgs av), [], h) := rfl
theorem j109_0 {L : qLV} {st : List Value} {h : qHp} : qJump PG 109 0 L st h = (109, K109_0, qMask [true, true] L, st, h) := rfl
theorem j109_1 {L : qLV} {st : List Value} {h : qHp} : qJump PG 109 1 L st h = (109, K109_1, qMask [true, false] L, st, h) := rfl
theorem j109_2 {L : qLV} {st : List Value} {h : qHp} : qJump PG 109 2 L st h = (109, K109_2, qMask [false, false] L, st, h) := rfl
theorem e110 {av : List Value} {h : qHp} : qEntry PG 110 av h = (110, K110_0, qPad 4 (qArgs av), [], h) := rfl
theorem j110_0 {L : qLV} {st : List Value} {h : qHp} : qJump PG 110 0 L st h = (110, K110_0, qMask [true, true, true, false] L, st, h) := rfl
theorem j110_1 {L : qLV} {st : List Value} {h : qHp} : qJump PG 110 1 L st h = (110, K110_1, qMask [true, false, true, false] L, st, h) := rfl
theorem j110_2 {L : qLV} {st : List Value} {h : qHp} : qJump PG 110 2 L st h = (110, K110_2, qMask [false, false, false, false] L, st, h) := rfl
theorem e111 {av : List Value} {h : qHp} : qEntry PG 111 av h = (111, K111_0, qPad 4 (qArgs av), [], h) := rfl
theorem j111_0 {L : qLV} {st : List Value} {h : qHp} : qJump PG 111 0 L st h = (111, K111_0, qMask [true, true, true, false] L, st, h) := rfl
theorem j111_1 {L : qLV} {st : List Value} {h : qHp} : qJump PG 111 1 L st h = (111, K111_1, qMask [true, false, true, true] L, st, h) := rfl
theorem j111_2 {L : qLV} {st : List Value} {h : qHp} : qJump PG 111 2 L st h = (111, K111_2, qMask [true, false, true, true] L, st, h) := rfl
theorem j111_3 {L : qLV} {st : List Value} {h : qHp} : qJump PG 111 3 L st h = (111, K111_3, qMask [true, false, true, true] L, st, h) := rfl
theorem j111_4 {L : qLV} {st : List Value} {h : qHp} : qJump PG 111 4 L st h = (111, K111_4, qMask [false, false, false, false] L, st, h) := rfl
theorem j111_5 {L : qLV} {st : List Value} {h : qHp} : qJump PG 111 5 L st h = (111, K111_5, qMask [true, false, true, true] L, st, h) := rfl
theorem e112 {av : List Value} {h : qHp} : qEntry PG 112 av h = (112, K112_0, qPad 4 (qArgs av), [], h) := rfl
theorem j112_0 {L : qLV} {st : List Value} {h : qHp} : qJump PG 112 0 L st h = (112, K112_0, qMask [true, true, true, true] L, st, h) := rfl
theorem j112_1 {L : qLV} {st : List Value} {h : qHp} : qJump PG 112 1 L st h = (112, K112_1, qMask [true, true, true, true] L, st, h) := rfl
theorem e113 {av : List Value} {h : qHp} : qEntry PG 113 av h = (113, K113_0, qPad 3 (qArgs av), [], h) := rfl
theorem j113_0 {L : qLV} {st : List Value} {h : qHp} : qJump PG 113 0 L st h = (113, K113_0, qMask [true, true, true] L, st, h) := rfl
theorem e114 {av : List Value} {h : qHp} : qEntry PG 114 av h = (114, K114_0, qPad 5 (qArgs av), [], h) := rfl
theorem j114_0 {L : qLV} {st : List Value} {h : qHp} : qJump PG 114 0 L st h = (114, K114_0, qMask [true, true, true, false, false] L, st, h) := rfl
theorem e115 {av : List Value} {h : qHp} : qEntry PG 115 av h = (115, K115_0, qPad 6 (qArgs av), [], h) := rfl
theorem j115_0 {L : qLV} {st : List Value} {h : qHp} : qJump PG 115 0 L st h = (115, K115_0, qMask [true, true, true, true, false, false] L, st, h) := rfl
theorem e116 {av : List Value} {h : qHp} : qEntry PG 116 av h = (116, K116_0, qPad 5 (qArgs av), [], h) := rfl
theorem j116_0 {L : qLV} {st : List Value} {h : qHp} : qJump PG 116 0 L st h = (116, K116_0, qMask [true, true, true, false, false] L, st, h) := rfl
theorem j116_1 {L : qLV} {st : List Value} {h : qHp} : qJump PG 116 1 L st h = (116, K116_1, qMask [true, false, true, true, false] L, st, h) := rfl
theorem e117 {av : List Value} {h : qHp} : qEntry PG 117 av h = (117, K117_0, qPad 6 (qArgs av), [], h) := rfl
theorem j117_0 {L : qLV} {st : List Value} {h : qHp} : qJump PG 117 0 L st h = (117, K117_0, qMask [true, true, true, true, true, true] L, st, h) := rfl
theorem j117_1 {L : qLV} {st : List Value} {h : qHp} : qJump PG 117 1 L st h = (117, K117_1, qMask [true, true, true, true, true, true] L, st, h) := rfl
theorem e118 {av : List Value} {h : qHp} : qEntry PG 118 av h = (118, K118_0, qPad 2 (qArgs av), [], h) := rfl
theorem j118_0 {L : qLV} {st : List Value} {h : qHp} : qJump PG 118 0 L st h = (118, K118_0, qMask [true, true] L, st, h) := rfl
theorem e119 {av : List Value} {h : qHp} : qEntry PG 119 av h = (119, K119_0, qPad 3 (qArgs av), [], h) := rfl
theorem j119_0 {L : qLV} {st : List Value} {h : qHp} : qJump PG 119 0 L st h = (119, K119_0, qMask [true, true, false] L, st, h) := rfl
theorem j119_1 {L : qLV} {st : List Value} {h : qHp} : qJump PG 119 1 L st h = (119, K119_1, qMask [true, false, true] L, st, h) := rfl
theorem j119_2 {L : qLV} {st : List Value} {h : qHp} : qJump PG 119 2 L st h = (119, K119_2, qMask [true, false, false] L, st, h) := rfl
theorem e120 {av : List Value} {h : qHp} : qEntry PG 120 av h = (120, K120_0, qPad 3 (qArgs av), [], h) := rfl
theorem j120_0 {L : qLV} {st : List Value} {h : qHp} : qJump PG 120 0 L st h = (120, K120_0, qMask [true, true, false] L, st, h) := rfl
theorem j120_1 {L : qLV} {st : List Value} {h : qHp} : qJump PG 120 1 L st h = (120, K120_1, qMask [true, true, true] L, st, h) := rfl
theorem e121 {av : List Value} {h : qHp} : qEntry PG 121 av h = (121, K121_0, qPad 6 (qArgs av), [], h) := rfl
theorem j121_0 {L : qLV} {st : List Value} {h : qHp} : qJump PG 121 0 L st h = (121, K121_0, qMask [true, true, true, true, true, true] L, st, h) := rfl
theorem j121_1 {L : qLV} {st : List Value} {h : qHp} : qJump PG 121 1 L st h = (121, K121_1, qMask [true, true, true, true, true, true] L, st, h) := rfl
theorem j121_2 {L : qLV} {st : List Value} {h : qHp} : qJump PG 121 2 L st h = (121, K121_2, qMask [true, true, true, true, true, true] L, st, h) := rfl
theorem j121_3 {L : qLV} {st : List Value} {h : qHp} : qJump PG 121 3 L st h = (121, K121_3, qMask [true, true, true, true, true, true] L, st, h) := rfl
theorem e122 {av : List Value} {h : qHp} : qEntry PG 122 av h = (122, K122_0, qPad 2 (qArgs av), [], h) := rfl
theorem j122_0 {L : qLV} {st : List Value} {h : qHp} : qJump PG 122 0 L st h = (122, K122_0, qMask [true, true] L, st, h) := rfl
theorem j122_1 {L : qLV} {st : List Value} {h : qHp} : qJump PG 122 1 L st h = (122, K122_1, qMask [false, false] L, st, h) := rfl
theorem j122_2 {L : qLV} {st : List Value} {h : qHp} : qJump PG 122 2 L st h = (122, K122_2, qMask [false, false] L, st, h) := rfl
theorem e123 {av : List Value} {h : qHp} : qEntry PG 123 av h = (123, K123_0, qPad 10 (qArgs av), [], h) := rfl
theorem j123_0 {L : qLV} {st : List Value} {h : qHp} : qJump PG 123 0 L st h = (123, K123_0, qMask [true, true, true, true, true, false, false, false, false, false] L, st, h) := rfl
theorem j123_1 {L : qLV} {st : List Value} {h : qHp} : qJump PG 123 1 L st h = (123, K123_1, qMask [true, true, true, true, true, true, true, true, true, false] L, st, h) := rfl
theorem j123_2 {L : qLV} {st : List Value} {h : qHp} : qJump PG 123 2 L st h = (123, K123_2, qMask [true, true, true, true, true, true, true, true, true, false] L, st, h) := rfl
theorem j123_3 {L : qLV} {st : List Value} {h : qHp} : qJump PG 123 3 L st h = (123, K123_3, qMask [true, true, true, true, true, true, true, true, true, false] L, st, h) := rfl
theorem j123_4 {L : qLV} {st : List Value} {h : qHp} : qJump PG 123 4 L st h = (123, K123_4, qMask [true, true, true, true, true, true, true, true, true, false] L, st, h) := rfl
theorem j123_5 {L : qLV} {st : List Value} {h : qHp} : qJump PG 123 5 L st h = (123, K123_5, qMask [true, true, true, true, true, true, true, false, true, false] L, st, h) := rfl
theorem j123_6 {L : qLV} {st : List Value} {h : qHp} : qJump PG 123 6 L st h = (123, K123_6, qMask [true, true, true, true, true, true, true, true, true, false] L, st, h) := rfl
theorem j123_7 {L : qLV} {st : List Value} {h : qHp} : qJump PG 123 7 L st h = (123, K123_7, qMask [true, true, true, true, false, false, false, true, false, false] L, st, h) := rfl
theorem j123_8 {L : qLV} {st : List Value} {h : qHp} : qJump PG 123 8 L st h = (123, K123_8, qMask [true, false, true, false, false, false, false, true, false, false] L, st, h) := rfl
theorem j123_9 {L : qLV} {st : List Value} {h : qHp} : qJump PG 123 9 L st h = (123, K123_9, qMask [false, false, false, false, false, false, false, true, false, false] L, st, h) := rfl
theorem e124 {av : List Value} {h : qHp} : qEntry PG 124 av h = (124, K124_0, qPad 5 (qArgs av), [], h) := rfl
theorem j124_0 {L : qLV} {st : List Value} {h : qHp} : qJump PG 124 0 L st h = (124, K124_0, qMask [true, true, true, true, true] L, st, h) := rfl
theorem j124_1 {L : qLV} {st : List Value} {h : qHp} : qJump PG 124 1 L st h = (124, K124_1, qMask [true, true, true, true, true] L, st, h) := rfl
theorem j124_2 {L : qLV} {st : List Value} {h : qHp} : qJump PG 124 2 L st h = (124, K124_2, qMask [true, true, true, true, true] L, st, h) := rfl
theorem j124_3 {L : qLV} {st : List Value} {h : qHp} : qJump PG 124 3 L st h = (124, K124_3, qMask [true, true, true, true, true] L, st, h) := rfl
theorem j124_4 {L : qLV} {st : List Value} {h : qHp} : qJump PG 124 4 L st h = (124, K124_4, qMask [true, true, true, true, true] L, st, h) := rfl
theorem j124_5 {L : qLV} {st : List Value} {h : qHp} : qJump PG 124 5 L st h = (124, K124_5, qMask [true, true, true, false, true] L, st, h) := rfl
theorem e125 {av : List Value} {h : qHp} : qEntry PG 125 av h = (125, K125_0, qPad 2 (qArgs av), [], h) := rfl
theorem j125_0 {L : qLV} {st : List Value} {h : qHp} : qJump PG 125 0 L st h = (125, K125_0, qMask [true, true] L, st, h) := rfl
theorem e126 {av : List Value} {h : qHp} : qEntry PG 126 av h = (126, K126_0, qPad 3 (qArgs av), [], h) := rfl
theorem j126_0 {L : qLV} {st : List Value} {h : qHp} : qJump PG 126 0 L st h = (126, K126_0, qMask [true, true, true] L, st, h) := rfl
theorem j126_1 {L : qLV} {st : List Value} {h : qHp} : qJump PG 126 1 L st h = (126, K126_1, qMask [false, false, false] L, st, h) := rfl
theorem j126_2 {L : qLV} {st : List Value} {h : qHp} : qJump PG 126 2 L st h = (126, K126_2, qMask [true, true, true] L, st, h) := rfl
theorem j126_3 {L : qLV} {st : List Value} {h : qHp} : qJump PG 126 3 L st h = (126, K126_3, qMask [true, true, true] L, st, h) := rfl
theorem j126_4 {L : qLV} {st : List Value} {h : qHp} : qJump PG 126 4 L st h = (126, K126_4, qMask [true, true, false] L, st, h) := rfl
theorem j126_5 {L : qLV} {st : List Value} {h : qHp} : qJump PG 126 5 L st h = (126, K126_5, qMask [false, false, false] L, st, h) := rfl
theorem e127 {av : List Value} {h : qHp} : qEntry PG 127 av h = (127, K127_0, qPad 3 (qArgs av), [], h) := rfl
theorem j127_0 {L : qLV} {st : List Value} {h : qHp} : qJump PG 127 0 L st h = (127, K127_0, qMask [true, true, true] L, st, h) := rfl
theorem j127_1 {L : qLV} {st : List Value} {h : qHp} : qJump PG 127 1 L st h = (127, K127_1, qMask [false, false, false] L, st, h) := rfl
theorem j127_2 {L : qLV} {st : List Value} {h : qHp} : qJump PG 127 2 L st h = (127, K127_2, qMask [true, true, true] L, st, h) := rfl
theorem e128 {av : List Value} {h : qHp} : qEntry PG 128 av h = (128, K128_0, qPad 4 (qArgs av), [], h) := rfl
theorem j128_0 {L : qLV} {st : List Value} {h : qHp} : qJump PG 128 0 L st h = (128, K128_0, qMask [true, true, true, false] L, st, h) := rfl
theorem e129 {av : List Value} {h : qHp} : qEntry PG 129 av h = (129, K129_0, qPad 3 (qArgs av), [], h) := rfl
theorem j129_0 {L : qLV} {st : List Value} {h : qHp} : qJump PG 129 0 L st h = (129, K129_0, qMask [true, true, true] L, st, h) := rfl
theorem j129_1 {L : qLV} {st : List Value} {h : qHp} : qJump PG 129 1 L st h = (129, K129_1, qMask [true, false, false] L, st, h) := rfl
theorem j129_2 {L : qLV} {st : List Value} {h : qHp} : qJump PG 129 2 L st h = (129, K129_2, qMask [false, false, false] L, st, h) := rfl
theorem e130 {av : List Value} {h : qHp} : qEntry PG 130 av h = (130, K130_0, qPad 6 (qArgs av), [], h) := rfl
theorem j130_0 {L : qLV} {st : List Value} {h : qHp} : qJump PG 130 0 L st h = (130, K130_0, qMask [true, true, true, true, true, false] L, st, h) := rfl
theorem j130_1 {L : qLV} {st : List Value} {h : qHp} : qJump PG 130 1 L st h = (130, K130_1, qMask [true, false, true, true, false, true] L, st, h) := rfl
theorem j130_2 {L : qLV} {st : List Value} {h : qHp} : qJump PG 130 2 L st h = (130, K130_2, qMask [false, false, false, false, false, false] L, st, h) := rfl
theorem e131 {av : List Value} {h : qHp} : qEntry PG 131 av h = (131, K131_0, qPad 3 (qArgs av), [], h) := rfl
theorem j131_0 {L : qLV} {st : List Value} {h : qHp} : qJump PG 131 0 L st h = (131, K131_0, qMask [true, true, true] L, st, h) := rfl
theorem j131_1 {L : qLV} {st : List Value} {h : qHp} : qJump PG 131 1 L st h = (131, K131_1, qMask [true, true, true] L, st, h) := rfl
theorem j131_2 {L : qLV} {st : List Value} {h : qHp} : qJump PG 131 2 L st h = (131, K131_2, qMask [true, true, false] L, st, h) := rfl
theorem j131_3 {L : qLV} {st : List Value} {h : qHp} : qJump PG 131 3 L st h = (131, K131_3, qMask [true, false, false] L, st, h) := rfl
theorem j131_4 {L : qLV} {st : List Value} {h : qHp} : qJump PG 131 4 L st h = (131, K131_4, qMask [false, false, false] L, st, h) := rfl
theorem e132 {av : List Value} {h : qHp} : qEntry PG 132 av h = (132, K132_0, qPad 3 (qArgs av), [], h) := rfl
theorem j132_0 {L : qLV} {st : List Value} {h : qHp} : qJump PG 132 0 L st h = (132, K132_0, qMask [true, false, false] L, st, h) := rfl
theorem j132_1 {L : qLV} {st : List Value} {h : qHp} : qJump PG 132 1 L st h = (132, K132_1, qMask [true, true, true] L, st, h) := rfl
theorem j132_2 {L : qLV} {st : List Value} {h : qHp} : qJump PG 132 2 L st h = (132, K132_2, qMask [true, true, true] L, st, h) := rfl
theorem j132_3 {L : qLV} {st : List Value} {h : qHp} : qJump PG 132 3 L st h = (132, K132_3, qMask [true, false, true] L, st, h) := rfl
theorem j132_4 {L : qLV} {st : List Value} {h : qHp} : qJump PG 132 4 L st h = (132, K132_4, qMask [false, true, false] L, st, h) := rfl
theorem e133 {av : List Value} {h : qHp} : qEntry PG 133 av h = (133, K133_0, qPad 1 (qArgs av), [], h) := rfl
theorem j133_0 {L : qLV} {st : List Value} {h : qHp} : qJump PG 133 0 L st h = (133, K133_0, qMask [true] L, st, h) := rfl
theorem e134 {av : List Value} {h : qHp} : qEntry PG 134 av h = (134, K134_0, qPad 3 (qArgs av), [], h) := rfl
theorem j134_0 {L : qLV} {st : List Value} {h : qHp} : qJump PG 134 0 L st h = (134, K134_0, qMask [true, true, true] L, st, h) := rfl
theorem e135 {av : List Value} {h : qHp} : qEntry PG 135 av h = (135, K135_0, qPad 4 (qArgs av), [], h) := rfl
theorem j135_0 {L : qLV} {st : List Value} {h : qHp} : qJump PG 135 0 L st h = (135, K135_0, qMask [true, true, true, false] L, st, h) := rfl
theorem j135_1 {L : qLV} {st : List Value} {h : qHp} : qJump PG 135 1 L st h = (135, K135_1, qMask [true, false, false, true] L, st, h) := rfl
theorem j135_2 {L : qLV} {st : List Value} {h : qHp} : qJump PG 135 2 L st h = (135, K135_2, qMask [false, false, false, false] L, st, h) := rfl
theorem e136 {av : List Value} {h : qHp} : qEntry PG 136 av h = (136, K136_0, qPad 2 (qArgs av), [], h) := rfl
theorem j136_0 {L : qLV} {st : List Value} {h : qHp} : qJump PG 136 0 L st h = (136, K136_0, qMask [true, false] L, st, h) := rfl
theorem j136_1 {L : qLV} {st : List Value} {h : qHp} : qJump PG 136 1 L st h = (136, K136_1, qMask [true, true] L, st, h) := rfl
theorem j136_2 {L : qLV} {st : List Value} {h : qHp} : qJump PG 136 2 L st h = (136, K136_2, qMask [true, true] L, st, h) := rfl
theorem j136_3 {L : qLV} {st : List Value} {h : qHp} : qJump PG 136 3 L st h = (136, K136_3, qMask [false, false] L, st, h) := rfl
theorem e137 {av : List Value} {h : qHp} : qEntry PG 137 av h = (137, K137_0, qPad 2 (qArgs av), [], h) := rfl
theorem j137_0 {L : qLV} {st : List Value} {h : qHp} : qJump PG 137 0 L st h = (137, K137_0, qMask [true, true] L, st, h) := rfl
theorem e138 {av : List Value} {h : qHp} : qEntry PG 138 av h = (138, K138_0, qPad 3 (qArgs av), [], h) := rfl
theorem j138_0 {L : qLV} {st : List Value} {h : qHp} : qJump PG 138 0 L st h = (138, K138_0, qMask [true, true, false] L, st, h) := rfl
theorem j138_1 {L : qLV} {st : List Value} {h : qHp} : qJump PG 138 1 L st h = (138, K138_1, qMask [false, false, false] L, st, h) := rfl
theorem j138_2 {L : qLV} {st : List Value} {h : qHp} : qJump PG 138 2 L st h = (138, K138_2, qMask [true, true, true] L, st, h) := rfl
theorem e139 {av : List Value} {h : qHp} : qEntry PG 139 av h = (139, K139_0, qPad 5 (qArgs av), [], h) := rfl
theorem j139_0 {L : qLV} {st : List Value} {h : qHp} : qJump PG 139 0 L st h = (139, K139_0, qMask [true, true, true, true, false] L, st, h) := rfl
theorem j139_1 {L : qLV} {st : List Value} {h : qHp} : qJump PG 139 1 L st h = (139, K139_1, qMask [false, false, false, false, false] L, st, h) := rfl
theorem j139_2 {L : qLV} {st : List Value} {h : qHp} : qJump PG 139 2 L st h = (139, K139_2, qMask [true, true, true, true, false] L, st, h) := rfl
theorem j139_3 {L : qLV} {st : List Value} {h : qHp} : qJump PG 139 3 L st h = (139, K139_3, qMask [true, false, true, true, true] L, st, h) := rfl
theorem j139_4 {L : qLV} {st : List Value} {h : qHp} : qJump PG 139 4 L st h = (139, K139_4, qMask [true, false, true, false, false] L, st, h) := rfl
theorem e140 {av : List Value} {h : qHp} : qEntry PG 140 av h = (140, K140_0, qPad 6 (qArgs av), [], h) := rfl
theorem j140_0 {L : qLV} {st : List Value} {h : qHp} : qJump PG 140 0 L st h = (140, K140_0, qMask [true, true, false, false, false, false] L, st, h) := rfl
theorem j140_1 {L : qLV} {st : List Value} {h : qHp} : qJump PG 140 1 L st h = (140, K140_1, qMask [true, false, true, true, false, true] L, st, h) := rfl
theorem j140_2 {L : qLV} {st : List Value} {h : qHp} : qJump PG 140 2 L st h = (140, K140_2, qMask [true, false, true, true, false, false] L, st, h) := rfl
theorem j140_3 {L : qLV} {st : List Value} {h : qHp} : qJump PG 140 3 L st h = (140, K140_3, qMask [true, false, true, true, false, true] L, st, h) := rfl
theorem j140_4 {L : qLV} {st : List Value} {h : qHp} : qJump PG 140 4 L st h = (140, K140_4, qMask [false, false, false, true, false, false] L, st, h) := rfl
theorem e141 {av : List Value} {h : qHp} : qEntry PG 141 av h = (141, K141_0, qPad 2 (qArgs av), [], h) := rfl
theorem j141_0 {L : qLV} {st : List Value} {h : qHp} : qJump PG 141 0 L st h = (141, K141_0, qMask [true, true] L, st, h) := rfl
theorem e142 {av : List Value} {h : qHp} : qEntry PG 142 av h = (142, K142_0, qPad 3 (qArgs av), [], h) := rfl
theorem j142_0 {L : qLV} {st : List Value} {h : qHp} : qJump PG 142 0 L st h = (142, K142_0, qMask [true, true, true] L, st, h) := rfl
theorem j142_1 {L : qLV} {st : List Value} {h : qHp} : qJump PG 142 1 L st h = (142, K142_1, qMask [false, false, false] L, st, h) := rfl
theorem j142_2 {L : qLV} {st : List Value} {h : qHp} : qJump PG 142 2 L st h = (142, K142_2, qMask [true, true, true] L, st, h) := rfl
theorem j142_3 {L : qLV} {st : List Value} {h : qHp} : qJump PG 142 3 L st h = (142, K142_3, qMask [false, false, false] L, st, h) := rfl
theorem j142_4 {L : qLV} {st : List Value} {h : qHp} : qJump PG 142 4 L st h = (142, K142_4, qMask [false, false, false] L, st, h) := rfl
theorem e143 {av : List Value} {h : qHp} : qEntry PG 143 av h = (143, K143_0, qPad 2 (qArgs av), [], h) := rfl
theorem j143_0 {L : qLV} {st : List Value} {h : qHp} : qJump PG 143 0 L st h = (143, K143_0, qMask [true, true] L, st, h) := rfl
theorem e144 {av : List Value} {h : qHp} : qEntry PG 144 av h = (144, K144_0, qPad 2 (qArgs av), [], h) := rfl
theorem j144_0 {L : qLV} {st : List Value} {h : qHp} : qJump PG 144 0 L st h = (144, K144_0, qMask [true, true] L, st, h) := rfl
theorem e145 {av : List Value} {h : qHp} : qEntry PG 145 av h = (145, K145_0, qPad 5 (qArgs av), [], h) := rfl
theorem j145_0 {L : qLV} {st : List Value} {h : qHp} : qJump PG 145 0 L st h = (145, K145_0, qMask [true, true, false, false, false] L, st, h) := rfl
theorem j145_1 {L : qLV} {st : List Value} {h : qHp} : qJump PG 145 1 L st h = (145, K145_1, qMask [true, true, true, false, true] L, st, h) := rfl
theorem j145_2 {L : qLV} {st : List Value} {h : qHp} : qJump PG 145 2 L st h = (145, K145_2, qMask [true, true, true, false, true] L, st, h) := rfl
theorem j145_3 {L : qLV} {st : List Value} {h : qHp} : qJump PG 145 3 L st h = (145, K145_3, qMask [false, false, true, false, false] L, st, h) := rfl
theorem e146 {av : List Value} {h : qHp} : qEntry PG 146 av h = (146, K146_0, qPad 3 (qArgs av), [], h) := rfl
theorem j146_0 {L : qLV} {st : List Value} {h : qHp} : qJump PG 146 0 L st h = (146, K146_0, qMask [true, true, false] L, st, h) := rfl
theorem j146_1 {L : qLV} {st : List Value} {h : qHp} : qJump PG 146 1 L st h = (146, K146_1, qMask [true, false, true] L, st, h) := rfl
theorem j146_2 {L : qLV} {st : List Value} {h : qHp} : qJump PG 146 2 L st h = (146, K146_2, qMask [false, false, false] L, st, h) := rfl
theorem e147 {av : List Value} {h : qHp} : qEntry PG 147 av h = (147, K147_0, qPad 3 (qArgs av), [], h) := rfl
theorem j147_0 {L : qLV} {st : List Value} {h : qHp} : qJump PG 147 0 L st h = (147, K147_0, qMask [true, true, false] L, st, h) := rfl
theorem j147_1 {L : qLV} {st : List Value} {h : qHp} : qJump PG 147 1 L st h = (147, K147_1, qMask [false, false, true] L, st, h) := rfl
theorem j147_2 {L : qLV} {st : List Value} {h : qHp} : qJump PG 147 2 L st h = (147, K147_2, qMask [false, false, true] L, st, h) := rfl
theorem j147_3 {L : qLV} {st : List Value} {h : qHp} : qJump PG 147 3 L st h = (147, K147_3, qMask [false, false, false] L, st, h) := rfl
theorem e148 {av : List Value} {h : qHp} : qEntry PG 148 av h = (148, K148_0, qPad 3 (qArgs av), [], h) := rfl
theorem j148_0 {L : qLV} {st : List Value} {h : qHp} : qJump PG 148 0 L st h = (148, K148_0, qMask [true, true, false] L, st, h) := rfl
theorem e149 {av : List Value} {h : qHp} : qEntry PG 149 av h = (149, K149_0, qPad 4 (qArgs av), [], h) := rfl
theorem j149_0 {L : qLV} {st : List Value} {h : qHp} : qJump PG 149 0 L st h = (149, K149_0, qMask [true, true, true, false] L, st, h) := rfl
theorem j149_1 {L : qLV} {st : List Value} {h : qHp} : qJump PG 149 1 L st h = (149, K149_1, qMask [true, false, true, true] L, st, h) := rfl
theorem e150 {av : List Value} {h : qHp} : qEntry PG 150 av h = (150, K150_0, qPad 3 (qArgs av), [], h) := rfl
theorem j150_0 {L : qLV} {st : List Value} {h : qHp} : qJump PG 150 0 L st h = (150, K150_0, qMask [true, true, true] L, st, h) := rfl
theorem e151 {av : List Value} {h : qHp} : qEntry PG 151 av h = (151, K151_0, qPad 11 (qArgs av), [], h) := rfl
theorem j151_0 {L : qLV} {st : List Value} {h : qHp} : qJump PG 151 0 L st h = (151, K151_0, qMask [true, true, false, false, false, false, false, false, false, false, false] L, st, h) := rfl
theorem j151_1 {L : qLV} {st : List Value} {h : qHp} : qJump PG 151 1 L st h = (151, K151_1, qMask [true, true, false, true, true, false, true, false, true, false, false] L, st, h) := rfl
theorem j151_2 {L : qLV} {st : List Value} {h : qHp} : qJump PG 151 2 L st h = (151, K151_2, qMask [true, true, false, true, true, false, true, false, true, false, false] L, st, h) := rfl
theorem j151_3 {L : qLV} {st : List Value} {h : qHp} : qJump PG 151 3 L st h = (151, K151_3, qMask [false, false, false, true, false, false, false, false, false, false, false] L, st, h) := rfl
theorem e152 {av : List Value} {h : qHp} : qEntry PG 152 av h = (152, K152_0, qPad 2 (qArgs av), [], h) := rfl
theorem j152_0 {L : qLV} {st : List Value} {h : qHp} : qJump PG 152 0 L st h = (152, K152_0, qMask [true, true] L, st, h) := rfl
theorem j152_1 {L : qLV} {st : List Value} {h : qHp} : qJump PG 152 1 L st h = (152, K152_1, qMask [true, true] L, st, h) := rfl
theorem e153 {av : List Value} {h : qHp} : qEntry PG 153 av h = (153, K153_0, qPad 1 (qArgs av), [], h) := rfl
theorem j153_0 {L : qLV} {st : List Value} {h : qHp} : qJump PG 153 0 L st h = (153, K153_0, qMask [true] L, st, h) := rfl
theorem e154 {av : List Value} {h : qHp} : qEntry PG 154 av h = (154, K154_0, qPad 3 (qArgs av), [], h) := rfl
theorem j154_0 {L : qLV} {st : List Value} {h : qHp} : qJump PG 154 0 L st h = (154, K154_0, qMask [true, true, false] L, st, h) := rfl
theorem j154_1 {L : qLV} {st : List Value} {h : qHp} : qJump PG 154 1 L st h = (154, K154_1, qMask [true, false, true] L, st, h) := rfl
theorem e155 {av : List Value} {h : qHp} : qEntry PG 155 av h = (155, K155_0, qPad 1 (qArgs av), [], h) := rfl
theorem j155_0 {L : qLV} {st : List Value} {h : qHp} : qJump PG 155 0 L st h = (155, K155_0, qMask [true] L, st, h) := rfl
theorem e156 {av : List Value} {h : qHp} : qEntry PG 156 av h = (156, K156_0, qPad 2 (qArgs av), [], h) := rfl
theorem j156_0 {L : qLV} {st : List Value} {h : qHp} : qJump PG 156 0 L st h = (156, K156_0, qMask [true, false] L, st, h) := rfl
theorem j156_1 {L : qLV} {st : List Value} {h : qHp} : qJump PG 156 1 L st h = (156, K156_1, qMask [true, true] L, st, h) := rfl
theorem j156_2 {L : qLV} {st : List Value} {h : qHp} : qJump PG 156 2 L st h = (156, K156_2, qMask [true, false] L, st, h) := rfl
theorem e157 {av : List Value} {h : qHp} : qEntry PG 157 av h = (157, K157_0, qPad 1 (qArgs av), [], h) := rfl
theorem j157_0 {L : qLV} {st : List Value} {h : qHp} : qJump PG 157 0 L st h = (157, K157_0, qMask [true] L, st, h) := rfl
theorem e158 {av : List Value} {h : qHp} : qEntry PG 158 av h = (158, K158_0, qPad 5 (qArgs av), [], h) := rfl
theorem j158_0 {L : qLV} {st : List Value} {h : qHp} : qJump PG 158 0 L st h = (158, K158_0, qMask [true, true, false, false, false] L, st, h) := rfl
theorem j158_1 {L : qLV} {st : List Value} {h : qHp} : qJump PG 158 1 L st h = (158, K158_1, qMask [true, true, false, true, true] L, st, h) := rfl
theorem j158_2 {L : qLV} {st : List Value} {h : qHp} : qJump PG 158 2 L st h = (158, K158_2, qMask [true, true, false, false, true] L, st, h) := rfl
theorem j158_3 {L : qLV} {st : List Value} {h : qHp} : qJump PG 158 3 L st h = (158, K158_3, qMask [true, true, false, false, true] L, st, h) := rfl
theorem j158_4 {L : qLV} {st : List Value} {h : qHp} : qJump PG 158 4 L st h = (158, K158_4, qMask [true, true, false, true, false] L, st, h) := rfl
theorem j158_5 {L : qLV} {st : List Value} {h : qHp} : qJump PG 158 5 L st h = (158, K158_5, qMask [true, true, false, false, false] L, st, h) := rfl
theorem j158_6 {L : qLV} {st : List Value} {h : qHp} : qJump PG 158 6 L st h = (158, K158_6, qMask [true, true, false, false, true] L, st, h) := rfl
theorem j158_7 {L : qLV} {st : List Value} {h : qHp} : qJump PG 158 7 L st h = (158, K158_7, qMask [true, true, false, false, true] L, st, h) := rfl
theorem j158_8 {L : qLV} {st : List Value} {h : qHp} : qJump PG 158 8 L st h = (158, K158_8, qMask [true, false, false, false, false] L, st, h) := rfl
theorem e159 {av : List Value} {h : qHp} : qEntry PG 159 av h = (159, K159_0, qPad 3 (qArgs av), [], h) := rfl
theorem j159_0 {L : qLV} {st : List Value} {h : qHp} : qJump PG 159 0 L st h = (159, K159_0, qMask [true, false, true] L, st, h) := rfl
theorem e160 {av : List Value} {h : qHp} : qEntry PG 160 av h = (160, K160_0, qPad 1 (qArgs av), [], h) := rfl
theorem j160_0 {L : qLV} {st : List Value} {h : qHp} : qJump PG 160 0 L st h = (160, K160_0, qMask [true] L, st, h) := rfl
theorem j160_1 {L : qLV} {st : List Value} {h : qHp} : qJump PG 160 1 L st h = (160, K160_1, qMask [true] L, st, h) := rfl
theorem j160_2 {L : qLV} {st : List Value} {h : qHp} : qJump PG 160 2 L st h = (160, K160_2, qMask [true] L, st, h) := rfl
theorem j160_3 {L : qLV} {st : List Value} {h : qHp} : qJump PG 160 3 L st h = (160, K160_3, qMask [true] L, st, h) := rfl
theorem j160_4 {L : qLV} {st : List Value} {h : qHp} : qJump PG 160 4 L st h = (160, K160_4, qMask [true] L, st, h) := rfl
theorem j160_5 {L : qLV} {st : List Value} {h : qHp} : qJump PG 160 5 L st h = (160, K160_5, qMask [true] L, st, h) := rfl
theorem e161 {av : List Value} {h : qHp} : qEntry PG 161 av h = (161, K161_0, qPad 1 (qArgs av), [], h) := rfl
theorem j161_0 {L : qLV} {st : List Value} {h : qHp} : qJump PG 161 0 L st h = (161, K161_0, qMask [true] L, st, h) := rfl
theorem j161_1 {L : qLV} {st : List Value} {h : qHp} : qJump PG 161 1 L st h = (161, K161_1, qMask [true] L, st, h) := rfl
theorem j161_2 {L : qLV} {st : List Value} {h : qHp} : qJump PG 161 2 L st h = (161, K161_2, qMask [true] L, st, h) := rfl
theorem j161_3 {L : qLV} {st : List Value} {h : qHp} : qJump PG 161 3 L st h = (161, K161_3, qMask [true] L, st, h) := rfl
theorem j161_4 {L : qLV} {st : List Value} {h : qHp} : qJump PG 161 4 L st h = (161, K161_4, qMask [true] L, st, h) := rfl
theorem j161_5 {L : qLV} {st : List Value} {h : qHp} : qJump PG 161 5 L st h = (161, K161_5, qMask [true] L, st, h) := rfl
theorem j161_6 {L : qLV} {st : List Value} {h : qHp} : qJump PG 161 6 L st h = (161, K161_6, qMask [true] L, st, h) := rfl
theorem j161_7 {L : qLV} {st : List Value} {h : qHp} : qJump PG 161 7 L st h = (161, K161_7, qMask [false] L, st, h) := rfl
theorem e162 {av : List Value} {h : qHp} : qEntry PG 162 av h = (162, K162_0, qPad 1 (qArgs av), [], h) := rfl
theorem j162_0 {L : qLV} {st : List Value} {h : qHp} : qJump PG 162 0 L st h = (162, K162_0, qMask [true] L, st, h) := rfl
theorem j162_1 {L : qLV} {st : List Value} {h : qHp} : qJump PG 162 1 L st h = (162, K162_1, qMask [true] L, st, h) := rfl
theorem j162_2 {L : qLV} {st : List Value} {h : qHp} : qJump PG 162 2 L st h = (162, K162_2, qMask [false] L, st, h) := rfl
theorem e163 {av : List Value} {h : qHp} : qEntry PG 163 av h = (163, K163_0, qPad 1 (qArgs av), [], h) := rfl
theorem j163_0 {L : qLV} {st : List Value} {h : qHp} : qJump PG 163 0 L st h = (163, K163_0, qMask [true] L, st, h) := rfl
theorem j163_1 {L : qLV} {st : List Value} {h : qHp} : qJump PG 163 1 L st h = (163, K163_1, qMask [true] L, st, h) := rfl
theorem e164 {av : List Value} {h : qHp} : qEntry PG 164 av h = (164, K164_0, qPad 1 (qArgs av), [], h) := rfl
theorem j164_0 {L : qLV} {st : List Value} {h : qHp} : qJump PG 164 0 L st h = (164, K164_0, qMask [true] L, st, h) := rfl
theorem j164_1 {L : qLV} {st : List Value} {h : qHp} : qJump PG 164 1 L st h = (164, K164_1, qMask [false] L, st, h) := rfl
theorem j164_2 {L : qLV} {st : List Value} {h : qHp} : qJump PG 164 2 L st h = (164, K164_2, qMask [false] L, st, h) := rfl
theorem e165 {av : List Value} {h : qHp} : qEntry PG 165 av h = (165, K165_0, qPad 6 (qArgs av), [], h) := rfl
theorem j165_0 {L : qLV} {st : List Value} {h : qHp} : qJump PG 165 0 L st h = (165, K165_0, qMask [true, false, true, false, true, false] L, st, h) := rfl
theorem j165_1 {L : qLV} {st : List Value} {h : qHp} : qJump PG 165 1 L st h = (165, K165_1, qMask [false, false, false, false, false, false] L, st, h) := rfl
theorem j165_2 {L : qLV} {st : List Value} {h : qHp} : qJump PG 165 2 L st h = (165, K165_2, qMask [false, false, false, false, false, false] L, st, h) := rfl
theorem e166 {av : List Value} {h : qHp} : qEntry PG 166 av h = (166, K166_0, qPad 4 (qArgs av), [], h) := rfl
theorem j166_0 {L : qLV} {st : List Value} {h : qHp} : qJump PG 166 0 L st h = (166, K166_0, qMask [true, true, false, false] L, st, h) := rfl
theorem j166_1 {L : qLV} {st : List Value} {h : qHp} : qJump PG 166 1 L st h = (166, K166_1, qMask [true, true, false, false] L, st, h) := rfl
theorem j166_2 {L : qLV} {st : List Value} {h : qHp} : qJump PG 166 2 L st h = (166, K166_2, qMask [true, true, false, false] L, st, h) := rfl
theorem j166_3 {L : qLV} {st : List Value} {h : qHp} : qJump PG 166 3 L st h = (166, K166_3, qMask [true, true, true, true] L, st, h) := rfl
theorem j166_4 {L : qLV} {st : List Value} {h : qHp} : qJump PG 166 4 L st h = (166, K166_4, qMask [true, true, false, true] L, st, h) := rfl
theorem j166_5 {L : qLV} {st : List Value} {h : qHp} : qJump PG 166 5 L st h = (166, K166_5, qMask [true, true, false, true] L, st, h) := rfl
theorem j166_6 {L : qLV} {st : List Value} {h : qHp} : qJump PG 166 6 L st h = (166, K166_6, qMask [false, false, true, false] L, st, h) := rfl
theorem e167 {av : List Value} {h : qHp} : qEntry PG 167 av h = (167, K167_0, qPad 3 (qArgs av), [], h) := rfl
theorem j167_0 {L : qLV} {st : List Value} {h : qHp} : qJump PG 167 0 L st h = (167, K167_0, qMask [true, false, false] L, st, h) := rfl
theorem j167_1 {L : qLV} {st : List Value} {h : qHp} : qJump PG 167 1 L st h = (167, K167_1, qMask [true, false, false] L, st, h) := rfl
theorem e168 {av : List Value} {h : qHp} : qEntry PG 168 av h = (168, K168_0, qPad 3 (qArgs av), [], h) := rfl
theorem j168_0 {L : qLV} {st : List Value} {h : qHp} : qJump PG 168 0 L st h = (168, K168_0, qMask [true, true, true] L, st, h) := rfl
theorem j168_1 {L : qLV} {st : List Value} {h : qHp} : qJump PG 168 1 L st h = (168, K168_1, qMask [true, false, false] L, st, h) := rfl
theorem j168_2 {L : qLV} {st : List Value} {h : qHp} : qJump PG 168 2 L st h = (168, K168_2, qMask [false, false, false] L, st, h) := rfl
theorem j168_3 {L : qLV} {st : List Value} {h : qHp} : qJump PG 168 3 L st h = (168, K168_3, qMask [false, false, false] L, st, h) := rfl
theorem e169 {av : List Value} {h : qHp} : qEntry PG 169 av h = (169, K169_0, qPad 2 (qArgs av), [], h) := rfl
theorem j169_0 {L : qLV} {st : List Value} {h : qHp} : qJump PG 169 0 L st h = (169, K169_0, qMask [true, true] L, st, h) := rfl
theorem j169_1 {L : qLV} {st : List Value} {h : qHp} : qJump PG 169 1 L st h = (169, K169_1, qMask [false, false] L, st, h) := rfl
theorem e170 {av : List Value} {h : qHp} : qEntry PG 170 av h = (170, K170_0, qPad 7 (qArgs av), [], h) := rfl
theorem j170_0 {L : qLV} {st : List Value} {h : qHp} : qJump PG 170 0 L st h = (170, K170_0, qMask [true, true, false, true, false, false, false] L, st, h) := rfl
theorem j170_1 {L : qLV} {st : List Value} {h : qHp} : qJump PG 170 1 L st h = (170, K170_1, qMask [true, true, false, true, false, false, false] L, st, h) := rfl
theorem j170_2 {L : qLV} {st : List Value} {h : qHp} : qJump PG 170 2 L st h = (170, K170_2, qMask [true, true, false, true, false, false, false] L, st, h) := rfl
theorem j170_3 {L : qLV} {st : List Value} {h : qHp} : qJump PG 170 3 L st h = (170, K170_3, qMask [true, true, false, true, false, true, false] L, st, h) := rfl
theorem j170_4 {L : qLV} {st : List Value} {h : qHp} : qJump PG 170 4 L st h = (170, K170_4, qMask [true, true, false, true, false, true, false] L, st, h) := rfl
theorem j170_5 {L : qLV} {st : List Value} {h : qHp} : qJump PG 170 5 L st h = (170, K170_5, qMask [false, false, false, false, false, true, false] L, st, h) := rfl
theorem e171 {av : List Value} {h : qHp} : qEntry PG 171 av h = (171, K171_0, qPad 2 (qArgs av), [], h) := rfl
theorem j171_0 {L : qLV} {st : List Value} {h : qHp} : qJump PG 171 0 L st h = (171, K171_0, qMask [true, false] L, st, h) := rfl
theorem j171_1 {L : qLV} {st : List Value} {h : qHp} : qJump PG 171 1 L st h = (171, K171_1, qMask [true, false] L, st, h) := rfl
theorem j171_2 {L : qLV} {st : List Value} {h : qHp} : qJump PG 171 2 L st h = (171, K171_2, qMask [true, true] L, st, h) := rfl
theorem j171_3 {L : qLV} {st : List Value} {h : qHp} : qJump PG 171 3 L st h = (171, K171_3, qMask [true, false] L, st, h) := rfl
theorem e172 {av : List Value} {h : qHp} : qEntry PG 172 av h = (172, K172_0, qPad 2 (qArgs av), [], h) := rfl
theorem j172_0 {L : qLV} {st : List Value} {h : qHp} : qJump PG 172 0 L st h = (172, K172_0, qMask [true, true] L, st, h) := rfl
theorem e173 {av : List Value} {h : qHp} : qEntry PG 173 av h = (173, K173_0, qPad 2 (qArgs av), [], h) := rfl
theorem j173_0 {L : qLV} {st : List Value} {h : qHp} : qJump PG 173 0 L st h = (173, K173_0, qMask [true, false] L, st, h) := rfl
theorem j173_1 {L : qLV} {st : List Value} {h : qHp} : qJump PG 173 1 L st h = (173, K173_1, qMask [true, false] L, st, h) := rfl
theorem e174 {av : List Value} {h : qHp} : qEntry PG 174 av h = (174, K174_0, qPad 2 (qArgs av), [], h) := rfl
theorem j174_0 {L : qLV} {st : List Value} {h : qHp} : qJump PG 174 0 L st h = (174, K174_0, qMask [true, true] L, st, h) := rfl
theorem e175 {av : List Value} {h : qHp} : qEntry PG 175 av h = (175, K175_0, qPad 2 (qArgs av), [], h) := rfl
theorem j175_0 {L : qLV} {st : List Value} {h : qHp} : qJump PG 175 0 L st h = (175, K175_0, qMask [true, false] L, st, h) := rfl
theorem j175_1 {L : qLV} {st : List Value} {h : qHp} : qJump PG 175 1 L st h = (175, K175_1, qMask [true, false] L, st, h) := rfl
theorem e176 {av : List Value} {h : qHp} : qEntry PG 176 av h = (176, K176_0, qPad 2 (qArgs av), [], h) := rfl
theorem j176_0 {L : qLV} {st : List Value} {h : qHp} : qJump PG 176 0 L st h = (176, K176_0, qMask [true, true] L, st, h) := rfl
theorem e177 {av : List Value} {h : qHp} : qEntry PG 177 av h = (177, K177_0, qPad 2 (qArgs av), [], h) := rfl
theorem j177_0 {L : qLV} {st : List Value} {h : qHp} : qJump PG 177 0 L st h = (177, K177_0, qMask [true, false] L, st, h) := rfl
theorem j177_1 {L : qLV} {st : List Value} {h : qHp} : qJump PG 177 1 L st h = (177, K177_1, qMask [true, false] L, st, h) := rfl
theorem e178 {av : List Value} {h : qHp} : qEntry PG 178 av h = (178, K178_0, qPad 2 (qArgs av), [], h) := rfl
theorem j178_0 {L : qLV} {st : List Value} {h : qHp} : qJump PG 178 0 L st h = (178, K178_0, qMask [true, true] L, st, h) := rfl
theorem e179 {av : List Value} {h : qHp} : qEntry PG 179 av h = (179, K179_0, qPad 1 (qArgs av), [], h) := rfl
theorem j179_0 {L : qLV} {st : List Value} {h : qHp} : qJump PG 179 0 L st h = (179, K179_0, qMask [true] L, st, h) := rfl
theorem j179_1 {L : qLV} {st : List Value} {h : qHp} : qJump PG 179 1 L st h = (179, K179_1, qMask [false] L, st, h) := rfl
theorem j179_2 {L : qLV} {st : List Value} {h : qHp} : qJump PG 179 2 L st h = (179, K179_2, qMask [true] L, st, h) := rfl
theorem j179_3 {L : qLV} {st : List Value} {h : qHp} : qJump PG 179 3 L st h = (179, K179_3, qMask [true] L, st, h) := rfl
theorem e180 {av : List Value} {h : qHp} : qEntry PG 180 av h = (180, K180_0, qPad 5 (qArgs av), [], h) := rfl
theorem j180_0 {L : qLV} {st : List Value} {h : qHp} : qJump PG 180 0 L st h = (180, K180_0, qMask [true, true, true, true, false] L, st, h) := rfl
theorem j180_1 {L : qLV} {st : List Value} {h : qHp} : qJump PG 180 1 L st h = (180, K180_1, qMask [true, true, true, true, true] L, st, h) := rfl
theorem j180_2 {L : qLV} {st : List Value} {h : qHp} : qJump PG 180 2 L st h = (180, K180_2, qMask [false, false, false, false, false] L, st, h) := rfl
theorem e181 {av : List Value} {h : qHp} : qEntry PG 181 av h = (181, K181_0, qPad 2 (qArgs av), [], h) := rfl
theorem j181_0 {L : qLV} {st : List Value} {h : qHp} : qJump PG 181 0 L st h = (181, K181_0, qMask [true, true] L, st, h) := rfl
theorem e182 {av : List Value} {h : qHp} : qEntry PG 182 av h = (182, K182_0, qPad 1 (qArgs av), [], h) := rfl
theorem j182_0 {L : qLV} {st : List Value} {h : qHp} : qJump PG 182 0 L st h = (182, K182_0, qMask [true] L, st, h) := rfl
theorem e183 {av : List Value} {h : qHp} : qEntry PG 183 av h = (183, K183_0, qPad 1 (qArgs av), [], h) := rfl
theorem j183_0 {L : qLV} {st : List Value} {h : qHp} : qJump PG 183 0 L st h = (183, K183_0, qMask [true] L, st, h) := rfl
theorem e184 {av : List Value} {h : qHp} : qEntry PG 184 av h = (184, K184_0, qPad 2 (qArgs av), [], h) := rfl
theorem j184_0 {L : qLV} {st : List Value} {h : qHp} : qJump PG 184 0 L st h = (184, K184_0, qMask [true, true] L, st, h) := rfl
theorem j184_1 {L : qLV} {st : List Value} {h : qHp} : qJump PG 184 1 L st h = (184, K184_1, qMask [true, true] L, st, h) := rfl
theorem j184_2 {L : qLV} {st : List Value} {h : qHp} : qJump PG 184 2 L st h = (184, K184_2, qMask [true, true] L, st, h) := rfl
theorem j184_3 {L : qLV} {st : List Value} {h : qHp} : qJump PG 184 3 L st h = (184, K184_3, qMask [true, true] L, st, h) := rfl
theorem j184_4 {L : qLV} {st : List Value} {h : qHp} : qJump PG 184 4 L st h = (184, K184_4, qMask [false, false] L, st, h) := rfl
theorem e185 {av : List Value} {h : qHp} : qEntry PG 185 av h = (185, K185_0, qPad 3 (qArgs av), [], h) := rfl
theorem j185_0 {L : qLV} {st : List Value} {h : qHp} : qJump PG 185 0 L st h = (185, K185_0, qMask [true, true, true] L, st, h) := rfl
theorem j185_1 {L : qLV} {st : List Value} {h : qHp} : qJump PG 185 1 L st h = (185, K185_1, qMask [false, true, true] L, st, h) := rfl
theorem j185_2 {L : qLV} {st : List Value} {h : qHp} : qJump PG 185 2 L st h = (185, K185_2, qMask [false, true, false] L, st, h) := rfl
theorem j185_3 {L : qLV} {st : List Value} {h : qHp} : qJump PG 185 3 L st h = (185, K185_3, qMask [false, false, false] L, st, h) := rfl
theorem j185_4 {L : qLV} {st : List Value} {h : qHp} : qJump PG 185 4 L st h = (185, K185_4, qMask [false, false, false] L, st, h) := rfl
theorem e186 {av : List Value} {h : qHp} : qEntry PG 186 av h = (186, K186_0, qPad 1 (qArgs av), [], h) := rfl
theorem j186_0 {L : qLV} {st : List Value} {h : qHp} : qJump PG 186 0 L st h = (186, K186_0, qMask [true] L, st, h) := rfl
theorem e187 {av : List Value} {h : qHp} : qEntry PG 187 av h = (187, K187_0, qPad 1 (qArgs av), [], h) := rfl
theorem j187_0 {L : qLV} {st : List Value} {h : qHp} : qJump PG 187 0 L st h = (187, K187_0, qMask [true] L, st, h) := rfl
theorem e188 {av : List Value} {h : qHp} : qEntry PG 188 av h = (188, K188_0, qPad 2 (qArgs av), [], h) := rfl
theorem j188_0 {L : qLV} {st : List Value} {h : qHp} : qJump PG 188 0 L st h = (188, K188_0, qMask [true, true] L, st, h) := rfl
theorem j188_1 {L : qLV} {st : List Value} {h : qHp} : qJump PG 188 1 L st h = (188, K188_1, qMask [true, true] L, st, h) := rfl
theorem j188_2 {L : qLV} {st : List Value} {h : qHp} : qJump PG 188 2 L st h = (188, K188_2, qMask [false, false] L, st, h) := rfl
theorem e189 {av : List Value} {h : qHp} : qEntry PG 189 av h = (189, K189_0, qPad 3 (qArgs av), [], h) := rfl
theorem j189_0 {L : qLV} {st : List Value} {h : qHp} : qJump PG 189 0 L st h = (189, K189_0, qMask [true, true, true] L, st, h) := rfl
theorem e190 {av : List Value} {h : qHp} : qEntry PG 190 av h = (190, K190_0, qPad 3 (qArgs av), [], h) := rfl
theorem j190_0 {L : qLV} {st : List Value} {h : qHp} : qJump PG 190 0 L st h = (190, K190_0, qMask [true, true, true] L, st, h) := rfl
theorem j190_1 {L : qLV} {st : List Value} {h : qHp} : qJump PG 190 1 L st h = (190, K190_1, qMask [false, false, false] L, st, h) := rfl
theorem j190_2 {L : qLV} {st : List Value} {h : qHp} : qJump PG 190 2 L st h = (190, K190_2, qMask [true, true, true] L, st, h) := rfl
theorem j190_3 {L : qLV} {st : List Value} {h : qHp} : qJump PG 190 3 L st h = (190, K190_3, qMask [true, true, false] L, st, h) := rfl
theorem j190_4 {L : qLV} {st : List Value} {h : qHp} : qJump PG 190 4 L st h = (190, K190_4, qMask [false, false, false] L, st, h) := rfl
theorem e191 {av : List Value} {h : qHp} : qEntry PG 191 av h = (191, K191_0, qPad 3 (qArgs av), [], h) := rfl
theorem j191_0 {L : qLV} {st : List Value} {h : qHp} : qJump PG 191 0 L st h = (191, K191_0, qMask [true, true, true] L, st, h) := rfl
theorem e192 {av : List Value} {h : qHp} : qEntry PG 192 av h = (192, K192_0, qPad 4 (qArgs av), [], h) := rfl
theorem j192_0 {L : qLV} {st : List Value} {h : qHp} : qJump PG 192 0 L st h = (192, K192_0, qMask [true, true, false, false] L, st, h) := rfl
theorem j192_1 {L : qLV} {st : List Value} {h : qHp} : qJump PG 192 1 L st h = (192, K192_1, qMask [true, false, true, true] L, st, h) := rfl
theorem j192_2 {L : qLV} {st : List Value} {h : qHp} : qJump PG 192 2 L st h = (192, K192_2, qMask [false, false, true, false] L, st, h) := rfl
theorem e193 {av : List Value} {h : qHp} : qEntry PG 193 av h = (193, K193_0, qPad 2 (qArgs av), [], h) := rfl
theorem j193_0 {L : qLV} {st : List Value} {h : qHp} : qJump PG 193 0 L st h = (193, K193_0, qMask [true, true] L, st, h) := rfl
theorem e194 {av : List Value} {h : qHp} : qEntry PG 194 av h = (194, K194_0, qPad 2 (qArgs av), [], h) := rfl
theorem j194_0 {L : qLV} {st : List Value} {h : qHp} : qJump PG 194 0 L st h = (194, K194_0, qMask [true, true] L, st, h) := rfl
theorem j194_1 {L : qLV} {st : List Value} {h : qHp} : qJump PG 194 1 L st h = (194, K194_1, qMask [true, true] L, st, h) := rfl
theorem j194_2 {L : qLV} {st : List Value} {h : qHp} : qJump PG 194 2 L st h = (194, K194_2, qMask [false, false] L, st, h) := rfl
theorem e195 {av : List Value} {h : qHp} : qEntry PG 195 av h = (195, K195_0, qPad 5 (qArgs av), [], h) := rfl
theorem j195_0 {L : qLV} {st : List Value} {h : qHp} : qJump PG 195 0 L st h = (195, K195_0, qMask [true, true, false, false, false] L, st, h) := rfl
theorem j195_1 {L : qLV} {st : List Value} {h : qHp} : qJump PG 195 1 L st h = (195, K195_1, qMask [true, true, true, true, false] L, st, h) := rfl
theorem j195_2 {L : qLV} {st : List Value} {h : qHp} : qJump PG 195 2 L st h = (195, K195_2, qMask [true, true, false, true, false] L, st, h) := rfl
theorem j195_3 {L : qLV} {st : List Value} {h : qHp} : qJump PG 195 3 L st h = (195, K195_3, qMask [true, true, false, true, false] L, st, h) := rfl
theorem j195_4 {L : qLV} {st : List Value} {h : qHp} : qJump PG 195 4 L st h = (195, K195_4, qMask [true, true, false, true, false] L, st, h) := rfl
theorem j195_5 {L : qLV} {st : List Value} {h : qHp} : qJump PG 195 5 L st h = (195, K195_5, qMask [false, false, true, false, false] L, st, h) := rfl
theorem e196 {av : List Value} {h : qHp} : qEntry PG 196 av h = (196, K196_0, qPad 6 (qArgs av), [], h) := rfl
theorem j196_0 {L : qLV} {st : List Value} {h : qHp} : qJump PG 196 0 L st h = (196, K196_0, qMask [true, true, false, false, false, false] L, st, h) := rfl
theorem j196_1 {L : qLV} {st : List Value} {h : qHp} : qJump PG 196 1 L st h = (196, K196_1, qMask [true, true, false, false, false, false] L, st, h) := rfl
theorem j196_2 {L : qLV} {st : List Value} {h : qHp} : qJump PG 196 2 L st h = (196, K196_2, qMask [true, false, true, false, true, true] L, st, h) := rfl
theorem j196_3 {L : qLV} {st : List Value} {h : qHp} : qJump PG 196 3 L st h = (196, K196_3, qMask [true, false, false, false, true, true] L, st, h) := rfl
theorem j196_4 {L : qLV} {st : List Value} {h : qHp} : qJump PG 196 4 L st h = (196, K196_4, qMask [true, false, false, false, true, true] L, st, h) := rfl
theorem j196_5 {L : qLV} {st : List Value} {h : qHp} : qJump PG 196 5 L st h = (196, K196_5, qMask [false, false, true, false, false, false] L, st, h) := rfl
theorem e197 {av : List Value} {h : qHp} : qEntry PG 197 av h = (197, K197_0, qPad 3 (qArgs av), [], h) := rfl
theorem j197_0 {L : qLV} {st : List Value} {h : qHp} : qJump PG 197 0 L st h = (197, K197_0, qMask [true, true, true] L, st, h) := rfl
theorem j197_1 {L : qLV} {st : List Value} {h : qHp} : qJump PG 197 1 L st h = (197, K197_1, qMask [false, false, false] L, st, h) := rfl
theorem j197_2 {L : qLV} {st : List Value} {h : qHp} : qJump PG 197 2 L st h = (197, K197_2, qMask [true, true, true] L, st, h) := rfl
theorem j197_3 {L : qLV} {st : List Value} {h : qHp} : qJump PG 197 3 L st h = (197, K197_3, qMask [false, false, false] L, st, h) := rfl
theorem e198 {av : List Value} {h : qHp} : qEntry PG 198 av h = (198, K198_0, qPad 3 (qArgs av), [], h) := rfl
theorem j198_0 {L : qLV} {st : List Value} {h : qHp} : qJump PG 198 0 L st h = (198, K198_0, qMask [true, true, true] L, st, h) := rfl
theorem e199 {av : List Value} {h : qHp} : qEntry PG 199 av h = (199, K199_0, qPad 3 (qArgs av), [], h) := rfl
theorem j199_0 {L : qLV} {st : List Value} {h : qHp} : qJump PG 199 0 L st h = (199, K199_0, qMask [true, true, true] L, st, h) := rfl
theorem j199_1 {L : qLV} {st : List Value} {h : qHp} : qJump PG 199 1 L st h = (199, K199_1, qMask [false, false, false] L, st, h) := rfl
theorem j199_2 {L : qLV} {st : List Value} {h : qHp} : qJump PG 199 2 L st h = (199, K199_2, qMask [true, true, true] L, st, h) := rfl
theorem j199_3 {L : qLV} {st : List Value} {h : qHp} : qJump PG 199 3 L st h = (199, K199_3, qMask [false, false, false] L, st, h) := rfl
theorem e200 {av : List Value} {h : qHp} : qEntry PG 200 av h = (200, K200_0, qPad 3 (qArgs av), [], h) := rfl
theorem j200_0 {L : qLV} {st : List Value} {h : qHp} : qJump PG 200 0 L st h = (200, K200_0, qMask [true, true, true] L, st, h) := rfl
theorem j200_1 {L : qLV} {st : List Value} {h : qHp} : qJump PG 200 1 L st h = (200, K200_1, qMask [false, false, false] L, st, h) := rfl
theorem j200_2 {L : qLV} {st : List Value} {h : qHp} : qJump PG 200 2 L st h = (200, K200_2, qMask [true, true, true] L, st, h) := rfl
theorem j200_3 {L : qLV} {st : List Value} {h : qHp} : qJump PG 200 3 L st h = (200, K200_3, qMask [false, false, false] L, st, h) := rfl
theorem e201 {av : List Value} {h : qHp} : qEntry PG 201 av h = (201, K201_0, qPad 3 (qArgs av), [], h) := rfl
theorem j201_0 {L : qLV} {st : List Value} {h : qHp} : qJump PG 201 0 L st h = (201, K201_0, qMask [true, true, true] L, st, h) := rfl
theorem e202 {av : List Value} {h : qHp} : qEntry PG 202 av h = (202, K202_0, qPad 2 (qArgs av), [], h) := rfl
theorem j202_0 {L : qLV} {st : List Value} {h : qHp} : qJump PG 202 0 L st h = (202, K202_0, qMask [true, true] L, st, h) := rfl
theorem j202_1 {L : qLV} {st : List Value} {h : qHp} : qJump PG 202 1 L st h = (202, K202_1, qMask [true, true] L, st, h) := rfl
theorem j202_2 {L : qLV} {st : List Value} {h : qHp} : qJump PG 202 2 L st h = (202, K202_2, qMask [false, false] L, st, h) := rfl
theorem e203 {av : List Value} {h : qHp} : qEntry PG 203 av h = (203, K203_0, qPad 4 (qArgs av), [], h) := rfl
theorem j203_0 {L : qLV} {st : List Value} {h : qHp} : qJump PG 203 0 L st h = (203, K203_0, qMask [true, true, false, false] L, st, h) := rfl
theorem j203_1 {L : qLV} {st : List Value} {h : qHp} : qJump PG 203 1 L st h = (203, K203_1, qMask [false, false, false, false] L, st, h) := rfl
theorem j203_2 {L : qLV} {st : List Value} {h : qHp} : qJump PG 203 2 L st h = (203, K203_2, qMask [true, true, false, false] L, st, h) := rfl
theorem e204 {av : List Value} {h : qHp} : qEntry PG 204 av h = (204, K204_0, qPad 2 (qArgs av), [], h) := rfl
theorem j204_0 {L : qLV} {st : List Value} {h : qHp} : qJump PG 204 0 L st h = (204, K204_0, qMask [true, true] L, st, h) := rfl
theorem j204_1 {L : qLV} {st : List Value} {h : qHp} : qJump PG 204 1 L st h = (204, K204_1, qMask [false, false] L, st, h) := rfl
theorem j204_2 {L : qLV} {st : List Value} {h : qHp} : qJump PG 204 2 L st h = (204, K204_2, qMask [false, false] L, st, h) := rfl
theorem e205 {av : List Value} {h : qHp} : qEntry PG 205 av h = (205, K205_0, qPad 4 (qArgs av), [], h) := rfl
theorem j205_0 {L : qLV} {st : List Value} {h : qHp} : qJump PG 205 0 L st h = (205, K205_0, qMask [true, false, true, false] L, st, h) := rfl
theorem e206 {av : List Value} {h : qHp} : qEntry PG 206 av h = (206, K206_0, qPad 4 (qArgs av), [], h) := rfl
theorem j206_0 {L : qLV} {st : List Value} {h : qHp} : qJump PG 206 0 L st h = (206, K206_0, qMask [true, false, false, false] L, st, h) := rfl
theorem j206_1 {L : qLV} {st : List Value} {h : qHp} : qJump PG 206 1 L st h = (206, K206_1, qMask [true, true, false, true] L, st, h) := rfl
theorem j206_2 {L : qLV} {st : List Value} {h : qHp} : qJump PG 206 2 L st h = (206, K206_2, qMask [true, true, false, false] L, st, h) := rfl
theorem j206_3 {L : qLV} {st : List Value} {h : qHp} : qJump PG 206 3 L st h = (206, K206_3, qMask [true, true, false, true] L, st, h) := rfl
theorem j206_4 {L : qLV} {st : List Value} {h : qHp} : qJump PG 206 4 L st h = (206, K206_4, qMask [true, true, false, false] L, st, h) := rfl
theorem j206_5 {L : qLV} {st : List Value} {h : qHp} : qJump PG 206 5 L st h = (206, K206_5, qMask [false, false, false, false] L, st, h) := rfl
theorem j206_6 {L : qLV} {st : List Value} {h : qHp} : qJump PG 206 6 L st h = (206, K206_6, qMask [false, false, false, false] L, st, h) := rfl
theorem e207 {av : List Value} {h : qHp} : qEntry PG 207 av h = (207, K207_0, qPad 4 (qArgs av), [], h) := rfl
theorem j207_0 {L : qLV} {st : List Value} {h : qHp} : qJump PG 207 0 L st h = (207, K207_0, qMask [true, false, false, false] L, st, h) := rfl
theorem j207_1 {L : qLV} {st : List Value} {h : qHp} : qJump PG 207 1 L st h = (207, K207_1, qMask [true, true, false, true] L, st, h) := rfl
theorem j207_2 {L : qLV} {st : List Value} {h : qHp} : qJump PG 207 2 L st h = (207, K207_2, qMask [false, true, false, false] L, st, h) := rfl
theorem e208 {av : List Value} {h : qHp} : qEntry PG 208 av h = (208, K208_0, qPad 3 (qArgs av), [], h) := rfl
theorem j208_0 {L : qLV} {st : List Value} {h : qHp} : qJump PG 208 0 L st h = (208, K208_0, qMask [true, true, false] L, st, h) := rfl
theorem j208_1 {L : qLV} {st : List Value} {h : qHp} : qJump PG 208 1 L st h = (208, K208_1, qMask [true, true, false] L, st, h) := rfl
theorem j208_2 {L : qLV} {st : List Value} {h : qHp} : qJump PG 208 2 L st h = (208, K208_2, qMask [true, true, false] L, st, h) := rfl
theorem j208_3 {L : qLV} {st : List Value} {h : qHp} : qJump PG 208 3 L st h = (208, K208_3, qMask [true, true, true] L, st, h) := rfl
theorem j208_4 {L : qLV} {st : List Value} {h : qHp} : qJump PG 208 4 L st h = (208, K208_4, qMask [true, false, false] L, st, h) := rfl
theorem e209 {av : List Value} {h : qHp} : qEntry PG 209 av h = (209, K209_0, qPad 2 (qArgs av), [], h) := rfl
theorem j209_0 {L : qLV} {st : List Value} {h : qHp} : qJump PG 209 0 L st h = (209, K209_0, qMask [true, false] L, st, h) := rfl
theorem j209_1 {L : qLV} {st : List Value} {h : qHp} : qJump PG 209 1 L st h = (209, K209_1, qMask [true, true] L, st, h) := rfl
theorem j209_2 {L : qLV} {st : List Value} {h : qHp} : qJump PG 209 2 L st h = (209, K209_2, qMask [true, false] L, st, h) := rfl
theorem j209_3 {L : qLV} {st : List Value} {h : qHp} : qJump PG 209 3 L st h = (209, K209_3, qMask [true, false] L, st, h) := rfl
theorem e210 {av : List Value} {h : qHp} : qEntry PG 210 av h = (210, K210_0, qPad 1 (qArgs av), [], h) := rfl
theorem j210_0 {L : qLV} {st : List Value} {h : qHp} : qJump PG 210 0 L st h = (210, K210_0, qMask [true] L, st, h) := rfl
theorem e211 {av : List Value} {h : qHp} : qEntry PG 211 av h = (211, K211_0, qPad 2 (qArgs av), [], h) := rfl
theorem j211_0 {L : qLV} {st : List Value} {h : qHp} : qJump PG 211 0 L st h = (211, K211_0, qMask [true, false] L, st, h) := rfl
theorem j211_1 {L : qLV} {st : List Value} {h : qHp} : qJump PG 211 1 L st h = (211, K211_1, qMask [true, true] L, st, h) := rfl
theorem j211_2 {L : qLV} {st : List Value} {h : qHp} : qJump PG 211 2 L st h = (211, K211_2, qMask [true, true] L, st, h) := rfl
theorem j211_3 {L : qLV} {st : List Value} {h : qHp} : qJump PG 211 3 L st h = (211, K211_3, qMask [true, false] L, st, h) := rfl
theorem j211_4 {L : qLV} {st : List Value} {h : qHp} : qJump PG 211 4 L st h = (211, K211_4, qMask [true, false] L, st, h) := rfl
theorem j211_5 {L : qLV} {st : List Value} {h : qHp} : qJump PG 211 5 L st h = (211, K211_5, qMask [true, true] L, st, h) := rfl
theorem j211_6 {L : qLV} {st : List Value} {h : qHp} : qJump PG 211 6 L st h = (211, K211_6, qMask [true, true] L, st, h) := rfl
theorem j211_7 {L : qLV} {st : List Value} {h : qHp} : qJump PG 211 7 L st h = (211, K211_7, qMask [false, false] L, st, h) := rfl
theorem e212 {av : List Value} {h : qHp} : qEntry PG 212 av h = (212, K212_0, qPad 6 (qArgs av), [], h) := rfl
theorem j212_0 {L : qLV} {st : List Value} {h : qHp} : qJump PG 212 0 L st h = (212, K212_0, qMask [true, true, false, false, false, false] L, st, h) := rfl
theorem j212_1 {L : qLV} {st : List Value} {h : qHp} : qJump PG 212 1 L st h = (212, K212_1, qMask [true, true, true, false, true, false] L, st, h) := rfl
theorem j212_2 {L : qLV} {st : List Value} {h : qHp} : qJump PG 212 2 L st h = (212, K212_2, qMask [true, true, true, false, false, false] L, st, h) := rfl
theorem e213 {av : List Value} {h : qHp} : qEntry PG 213 av h = (213, K213_0, qPad 8 (qArgs av), [], h) := rfl
theorem j213_0 {L : qLV} {st : List Value} {h : qHp} : qJump PG 213 0 L st h = (213, K213_0, qMask [true, true, true, true, false, true, false, false] L, st, h) := rfl
theorem e214 {av : List Value} {h : qHp} : qEntry PG 214 av h = (214, K214_0, qPad 6 (qArgs av), [], h) := rfl
theorem j214_0 {L : qLV} {st : List Value} {h : qHp} : qJump PG 214 0 L st h = (214, K214_0, qMask [true, false, false, false, false, false] L, st, h) := rfl
theorem j214_1 {L : qLV} {st : List Value} {h : qHp} : qJump PG 214 1 L st h = (214, K214_1, qMask [true, true, false, false, false, false] L, st, h) := rfl
theorem j214_2 {L : qLV} {st : List Value} {h : qHp} : qJump PG 214 2 L st h = (214, K214_2, qMask [true, true, true, false, false, false] L, st, h) := rfl
theorem j214_3 {L : qLV} {st : List Value} {h : qHp} : qJump PG 214 3 L st h = (214, K214_3, qMask [true, true, false, false, false, false] L, st, h) := rfl
theorem j214_4 {L : qLV} {st : List Value} {h : qHp} : qJump PG 214 4 L st h = (214, K214_4, qMask [true, true, false, false, false, false] L, st, h) := rfl
theorem j214_5 {L : qLV} {st : List Value} {h : qHp} : qJump PG 214 5 L st h = (214, K214_5, qMask [true, true, false, false, false, false] L, st, h) := rfl
theorem j214_6 {L : qLV} {st : List Value} {h : qHp} : qJump PG 214 6 L st h = (214, K214_6, qMask [true, true, false, false, false, false] L, st, h) := rfl
theorem j214_7 {L : qLV} {st : List Value} {h : qHp} : qJump PG 214 7 L st h = (214, K214_7, qMask [false, false, false, false, false, false] L, st, h) := rfl
theorem e215 {av : List Value} {h : qHp} : qEntry PG 215 av h = (215, K215_0, qPad 5 (qArgs av), [], h) := rfl
theorem j215_0 {L : qLV} {st : List Value} {h : qHp} : qJump PG 215 0 L st h = (215, K215_0, qMask [true, true, true, true, false] L, st, h) := rfl
theorem e216 {av : List Value} {h : qHp} : qEntry PG 216 av h = (216, K216_0, qPad 6 (qArgs av), [], h) := rfl
theorem j216_0 {L : qLV} {st : List Value} {h : qHp} : qJump PG 216 0 L st h = (216, K216_0, qMask [true, false, false, false, false, false] L, st, h) := rfl
theorem j216_1 {L : qLV} {st : List Value} {h : qHp} : qJump PG 216 1 L st h = (216, K216_1, qMask [true, true, false, true, true, false] L, st, h) := rfl
theorem j216_2 {L : qLV} {st : List Value} {h : qHp} : qJump PG 216 2 L st h = (216, K216_2, qMask [true, true, false, true, true, false] L, st, h) := rfl
theorem j216_3 {L : qLV} {st : List Value} {h : qHp} : qJump PG 216 3 L st h = (216, K216_3, qMask [true, true, false, true, true, true] L, st, h) := rfl
theorem j216_4 {L : qLV} {st : List Value} {h : qHp} : qJump PG 216 4 L st h = (216, K216_4, qMask [true, true, false, true, true, true] L, st, h) := rfl
theorem j216_5 {L : qLV} {st : List Value} {h : qHp} : qJump PG 216 5 L st h = (216, K216_5, qMask [true, true, false, true, true, false] L, st, h) := rfl
theorem j216_6 {L : qLV} {st : List Value} {h : qHp} : qJump PG 216 6 L st h = (216, K216_6, qMask [true, true, false, true, false, false] L, st, h) := rfl
theorem j216_7 {L : qLV} {st : List Value} {h : qHp} : qJump PG 216 7 L st h = (216, K216_7, qMask [true, true, false, true, true, false] L, st, h) := rfl
theorem j216_8 {L : qLV} {st : List Value} {h : qHp} : qJump PG 216 8 L st h = (216, K216_8, qMask [true, true, false, false, false, false] L, st, h) := rfl
theorem j216_9 {L : qLV} {st : List Value} {h : qHp} : qJump PG 216 9 L st h = (216, K216_9, qMask [true, true, false, false, true, false] L, st, h) := rfl
theorem j216_10 {L : qLV} {st : List Value} {h : qHp} : qJump PG 216 10 L st h = (216, K216_10, qMask [true, true, false, false, false, false] L, st, h) := rfl
theorem e217 {av : List Value} {h : qHp} : qEntry PG 217 av h = (217, K217_0, qPad 4 (qArgs av), [], h) := rfl
theorem j217_0 {L : qLV} {st : List Value} {h : qHp} : qJump PG 217 0 L st h = (217, K217_0, qMask [true, true, true, false] L, st, h) := rfl
theorem e218 {av : List Value} {h : qHp} : qEntry PG 218 av h = (218, K218_0, qPad 3 (qArgs av), [], h) := rfl
theorem j218_0 {L : qLV} {st : List Value} {h : qHp} : qJump PG 218 0 L st h = (218, K218_0, qMask [true, true, false] L, st, h) := rfl
theorem j218_1 {L : qLV} {st : List Value} {h : qHp} : qJump PG 218 1 L st h = (218, K218_1, qMask [true, true, true] L, st, h) := rfl
theorem j218_2 {L : qLV} {st : List Value} {h : qHp} : qJump PG 218 2 L st h = (218, K218_2, qMask [true, true, true] L, st, h) := rfl
theorem e219 {av : List Value} {h : qHp} : qEntry PG 219 av h = (219, K219_0, qPad 5 (qArgs av), [], h) := rfl
theorem j219_0 {L : qLV} {st : List Value} {h : qHp} : qJump PG 219 0 L st h = (219, K219_0, qMask [true, true, true, true, false] L, st, h) := rfl
theorem e220 {av : List Value} {h : qHp} : qEntry PG 220 av h = (220, K220_0, qPad 4 (qArgs av), [], h) := rfl
theorem j220_0 {L : qLV} {st : List Value} {h : qHp} : qJump PG 220 0 L st h = (220, K220_0, qMask [true, true, true, false] L, st, h) := rfl
theorem e221 {av : List Value} {h : qHp} : qEntry PG 221 av h = (221, K221_0, qPad 3 (qArgs av), [], h) := rfl
theorem j221_0 {L : qLV} {st : List Value} {h : qHp} : qJump PG 221 0 L st h = (221, K221_0, qMask [true, true, false] L, st, h) := rfl
theorem j221_1 {L : qLV} {st : List Value} {h : qHp} : qJump PG 221 1 L st h = (221, K221_1, qMask [true, true, true] L, st, h) := rfl
theorem j221_2 {L : qLV} {st : List Value} {h : qHp} : qJump PG 221 2 L st h = (221, K221_2, qMask [true, true, false] L, st, h) := rfl
theorem e222 {av : List Value} {h : qHp} : qEntry PG 222 av h = (222, K222_0, qPad 5 (qArgs av), [], h) := rfl
theorem j222_0 {L : qLV} {st : List Value} {h : qHp} : qJump PG 222 0 L st h = (222, K222_0, qMask [true, true, true, false, false] L, st, h) := rfl
theorem e223 {av : List Value} {h : qHp} : qEntry PG 223 av h = (223, K223_0, qPad 3 (qArgs av), [], h) := rfl
theorem j223_0 {L : qLV} {st : List Value} {h : qHp} : qJump PG 223 0 L st h = (223, K223_0, qMask [true, true, false] L, st, h) := rfl
theorem j223_1 {L : qLV} {st : List Value} {h : qHp} : qJump PG 223 1 L st h = (223, K223_1, qMask [true, true, true] L, st, h) := rfl
theorem j223_2 {L : qLV} {st : List Value} {h : qHp} : qJump PG 223 2 L st h = (223, K223_2, qMask [true, true, true] L, st, h) := rfl
theorem j223_3 {L : qLV} {st : List Value} {h : qHp} : qJump PG 223 3 L st h = (223, K223_3, qMask [false, false, false] L, st, h) := rfl
theorem e224 {av : List Value} {h : qHp} : qEntry PG 224 av h = (224, K224_0, qPad 2 (qArgs av), [], h) := rfl
theorem j224_0 {L : qLV} {st : List Value} {h : qHp} : qJump PG 224 0 L st h = (224, K224_0, qMask [true, true] L, st, h) := rfl
theorem j224_1 {L : qLV} {st : List Value} {h : qHp} : qJump PG 224 1 L st h = (224, K224_1, qMask [true, true] L, st, h) := rfl
theorem e225 {av : List Value} {h : qHp} : qEntry PG 225 av h = (225, K225_0, qPad 1 (qArgs av), [], h) := rfl
theorem j225_0 {L : qLV} {st : List Value} {h : qHp} : qJump PG 225 0 L st h = (225, K225_0, qMask [true] L, st, h) := rfl
theorem e226 {av : List Value} {h : qHp} : qEntry PG 226 av h = (226, K226_0, qPad 4 (qArgs av), [], h) := rfl
theorem j226_0 {L : qLV} {st : List Value} {h : qHp} : qJump PG 226 0 L st h = (226, K226_0, qMask [true, true, true, true] L, st, h) := rfl
theorem j226_1 {L : qLV} {st : List Value} {h : qHp} : qJump PG 226 1 L st h = (226, K226_1, qMask [true, true, true, true] L, st, h) := rfl
theorem j226_2 {L : qLV} {st : List Value} {h : qHp} : qJump PG 226 2 L st h = (226, K226_2, qMask [true, true, true, true] L, st, h) := rfl
theorem j226_3 {L : qLV} {st : List Value} {h : qHp} : qJump PG 226 3 L st h = (226, K226_3, qMask [false, false, false, false] L, st, h) := rfl
theorem j226_4 {L : qLV} {st : List Value} {h : qHp} : qJump PG 226 4 L st h = (226, K226_4, qMask [true, true, true, true] L, st, h) := rfl
theorem e227 {av : List Value} {h : qHp} : qEntry PG 227 av h = (227, K227_0, qPad 1 (qArgs av), [], h) := rfl
theorem j227_0 {L : qLV} {st : List Value} {h : qHp} : qJump PG 227 0 L st h = (227, K227_0, qMask [true] L, st, h) := rfl
theorem e228 {av : List Value} {h : qHp} : qEntry PG 228 av h = (228, K228_0, qPad 4 (qArgs av), [], h) := rfl
theorem j228_0 {L : qLV} {st : List Value} {h : qHp} : qJump PG 228 0 L st h = (228, K228_0, qMask [true, true, true, true] L, st, h) := rfl
theorem j228_1 {L : qLV} {st : List Value} {h : qHp} : qJump PG 228 1 L st h = (228, K228_1, qMask [true, true, true, true] L, st, h) := rfl
theorem j228_2 {L : qLV} {st : List Value} {h : qHp} : qJump PG 228 2 L st h = (228, K228_2, qMask [true, true, true, true] L, st, h) := rfl
theorem j228_3 {L : qLV} {st : List Value} {h : qHp} : qJump PG 228 3 L st h = (228, K228_3, qMask [true, true, true, true] L, st, h) := rfl
theorem j228_4 {L : qLV} {st : List Value} {h : qHp} : qJump PG 228 4 L st h = (228, K228_4, qMask [true, true, true, true] L, st, h) := rfl
theorem j228_5 {L : qLV} {st : List Value} {h : qHp} : qJump PG 228 5 L st h = (228, K228_5, qMask [false, false, false, false] L, st, h) := rfl
theorem j228_6 {L : qLV} {st : List Value} {h : qHp} : qJump PG 228 6 L st h = (228, K228_6, qMask [true, true, true, true] L, st, h) := rfl
theorem j228_7 {L : qLV} {st : List Value} {h : qHp} : qJump PG 228 7 L st h = (228, K228_7, qMask [true, true, true, true] L, st, h) := rfl
theorem e229 {av : List Value} {h : qHp} : qEntry PG 229 av h = (229, K229_0, qPad 2 (qArgs av), [], h) := rfl
theorem j229_0 {L : qLV} {st : List Value} {h : qHp} : qJump PG 229 0 L st h = (229, K229_0, qMask [true, true] L, st, h) := rfl
theorem j229_1 {L : qLV} {st : List Value} {h : qHp} : qJump PG 229 1 L st h = (229, K229_1, qMask [false, false] L, st, h) := rfl
theorem j229_2 {L : qLV} {st : List Value} {h : qHp} : qJump PG 229 2 L st h = (229, K229_2, qMask [false, false] L, st, h) := rfl
theorem j229_3 {L : qLV} {st : List Value} {h : qHp} : qJump PG 229 3 L st h = (229, K229_3, qMask [false, false] L, st, h) := rfl
theorem e230 {av : List Value} {h : qHp} : qEntry PG 230 av h = (230, K230_0, qPad 1 (qArgs av), [], h) := rfl
theorem j230_0 {L : qLV} {st : List Value} {h : qHp} : qJump PG 230 0 L st h = (230, K230_0, qMask [true] L, st, h) := rfl
theorem j230_1 {L : qLV} {st : List Value} {h : qHp} : qJump PG 230 1 L st h = (230, K230_1, qMask [true] L, st, h) := rfl
theorem j230_2 {L : qLV} {st : List Value} {h : qHp} : qJump PG 230 2 L st h = (230, K230_2, qMask [false] L, st, h) := rfl
theorem e231 {av : List Value} {h : qHp} : qEntry PG 231 av h = (231, K231_0, qPad 3 (qArgs av), [], h) := rfl
theorem j231_0 {L : qLV} {st : List Value} {h : qHp} : qJump PG 231 0 L st h = (231, K231_0, qMask [true, true, true] L, st, h) := rfl
theorem j231_1 {L : qLV} {st : List Value} {h : qHp} : qJump PG 231 1 L st h = (231, K231_1, qMask [true, true, true] L, st, h) := rfl
theorem j231_2 {L : qLV} {st : List Value} {h : qHp} : qJump PG 231 2 L st h = (231, K231_2, qMask [true, true, true] L, st, h) := rfl
theorem j231_3 {L : qLV} {st : List Value} {h : qHp} : qJump PG 231 3 L st h = (231, K231_3, qMask [false, false, false] L, st, h) := rfl
theorem j231_4 {L : qLV} {st : List Value} {h : qHp} : qJump PG 231 4 L st h = (231, K231_4, qMask [true, true, true] L, st, h) := rfl
theorem j231_5 {L : qLV} {st : List Value} {h : qHp} : qJump PG 231 5 L st h = (231, K231_5, qMask [true, true, true] L, st, h) := rfl
theorem j231_6 {L : qLV} {st : List Value} {h : qHp} : qJump PG 231 6 L st h = (231, K231_6, qMask [true, true, true] L, st, h) := rfl
theorem j231_7 {L : qLV} {st : List Value} {h : qHp} : qJump PG 231 7 L st h = (231, K231_7, qMask [true, true, true] L, st, h) := rfl
theorem j231_8 {L : qLV} {st : List Value} {h : qHp} : qJump PG 231 8 L st h = (231, K231_8, qMask [true, true, true] L, st, h) := rfl
theorem e232 {av : List Value} {h : qHp} : qEntry PG 232 av h = (232, K232_0, qPad 4 (qArgs av), [], h) := rfl
theorem j232_0 {L : qLV} {st : List Value} {h : qHp} : qJump PG 232 0 L st h = (232, K232_0, qMask [true, true, true, true] L, st, h) := rfl
theorem j232_1 {L : qLV} {st : List Value} {h : qHp} : qJump PG 232 1 L st h = (232, K232_1, qMask [true, true, true, true] L, st, h) := rfl
theorem j232_2 {L : qLV} {st : List Value} {h : qHp} : qJump PG 232 2 L st h = (232, K232_2, qMask [true, true, true, true] L, st, h) := rfl
theorem j232_3 {L : qLV} {st : List Value} {h : qHp} : qJump PG 232 3 L st h = (232, K232_3, qMask [true, true, true, true] L, st, h) := rfl
theorem j232_4 {L : qLV} {st : List Value} {h : qHp} : qJump PG 232 4 L st h = (232, K232_4, qMask [true, true, true, true] L, st, h) := rfl
theorem j232_5 {L : qLV} {st : List Value} {h : qHp} : qJump PG 232 5 L st h = (232, K232_5, qMask [false, false, false, false] L, st, h) := rfl
theorem j232_6 {L : qLV} {st : List Value} {h : qHp} : qJump PG 232 6 L st h = (232, K232_6, qMask [true, true, true, true] L, st, h) := rfl
theorem e233 {av : List Value} {h : qHp} : qEntry PG 233 av h = (233, K233_0, qPad 3 (qArgs av), [], h) := rfl
theorem j233_0 {L : qLV} {st : List Value} {h : qHp} : qJump PG 233 0 L st h = (233, K233_0, qMask [true, true, true] L, st, h) := rfl
theorem j233_1 {L : qLV} {st : List Value} {h : qHp} : qJump PG 233 1 L st h = (233, K233_1, qMask [false, false, false] L, st, h) := rfl
theorem j233_2 {L : qLV} {st : List Value} {h : qHp} : qJump PG 233 2 L st h = (233, K233_2, qMask [true, true, true] L, st, h) := rfl
theorem e234 {av : List Value} {h : qHp} : qEntry PG 234 av h = (234, K234_0, qPad 3 (qArgs av), [], h) := rfl
theorem j234_0 {L : qLV} {st : List Value} {h : qHp} : qJump PG 234 0 L st h = (234, K234_0, qMask [true, true, true] L, st, h) := rfl
theorem j234_1 {L : qLV} {st : List Value} {h : qHp} : qJump PG 234 1 L st h = (234, K234_1, qMask [false, false, false] L, st, h) := rfl
theorem j234_2 {L : qLV} {st : List Value} {h : qHp} : qJump PG 234 2 L st h = (234, K234_2, qMask [true, true, true] L, st, h) := rfl
theorem e235 {av : List Value} {h : qHp} : qEntry PG 235 av h = (235, K235_0, qPad 6 (qArgs av), [], h) := rfl
theorem j235_0 {L : qLV} {st : List Value} {h : qHp} : qJump PG 235 0 L st h = (235, K235_0, qMask [true, true, true, false, false, false] L, st, h) := rfl
theorem e236 {av : List Value} {h : qHp} : qEntry PG 236 av h = (236, K236_0, qPad 5 (qArgs av), [], h) := rfl
theorem j236_0 {L : qLV} {st : List Value} {h : qHp} : qJump PG 236 0 L st h = (236, K236_0, qMask [true, true, true, true, false] L, st, h) := rfl
theorem j236_1 {L : qLV} {st : List Value} {h : qHp} : qJump PG 236 1 L st h = (236, K236_1, qMask [true, true, true, true, false] L, st, h) := rfl
theorem j236_2 {L : qLV} {st : List Value} {h : qHp} : qJump PG 236 2 L st h = (236, K236_2, qMask [true, true, true, true, false] L, st, h) := rfl
theorem j236_3 {L : qLV} {st : List Value} {h : qHp} : qJump PG 236 3 L st h = (236, K236_3, qMask [false, false, false, false, false] L, st, h) := rfl
theorem j236_4 {L : qLV} {st : List Value} {h : qHp} : qJump PG 236 4 L st h = (236, K236_4, qMask [true, true, true, true, false] L, st, h) := rfl
theorem e237 {av : List Value} {h : qHp} : qEntry PG 237 av h = (237, K237_0, qPad 3 (qArgs av), [], h) := rfl
theorem j237_0 {L : qLV} {st : List Value} {h : qHp} : qJump PG 237 0 L st h = (237, K237_0, qMask [true, true, true] L, st, h) := rfl
theorem j237_1 {L : qLV} {st : List Value} {h : qHp} : qJump PG 237 1 L st h = (237, K237_1, qMask [false, false, false] L, st, h) := rfl
theorem j237_2 {L : qLV} {st : List Value} {h : qHp} : qJump PG 237 2 L st h = (237, K237_2, qMask [true, true, true] L, st, h) := rfl
theorem j237_3 {L : qLV} {st : List Value} {h : qHp} : qJump PG 237 3 L st h = (237, K237_3, qMask [true, true, true] L, st, h) := rfl
theorem j237_4 {L : qLV} {st : List Value} {h : qHp} : qJump PG 237 4 L st h = (237, K237_4, qMask [false, false, false] L, st, h) := rfl
theorem e238 {av : List Value} {h : qHp} : qEntry PG 238 av h = (238, K238_0, qPad 8 (qArgs av), [], h) := rfl
theorem j238_0 {L : qLV} {st : List Value} {h : qHp} : qJump PG 238 0 L st h = (238, K238_0, qMask [true, true, true, true, true, true, false, false] L, st, h) := rfl
theorem j238_1 {L : qLV} {st : List Value} {h : qHp} : qJump PG 238 1 L st h = (238, K238_1, qMask [true, true, true, true, true, true, false, false] L, st, h) := rfl
theorem j238_2 {L : qLV} {st : List Value} {h : qHp} : qJump PG 238 2 L st h = (238, K238_2, qMask [true, true, true, true, true, true, false, false] L, st, h) := rfl
theorem j238_3 {L : qLV} {st : List Value} {h : qHp} : qJump PG 238 3 L st h = (238, K238_3, qMask [true, true, true, true, true, true, true, false] L, st, h) := rfl
theorem j238_4 {L : qLV} {st : List Value} {h : qHp} : qJump PG 238 4 L st h = (238, K238_4, qMask [true, true, true, true, true, true, true, false] L, st, h) := rfl
theorem j238_5 {L : qLV} {st : List Value} {h : qHp} : qJump PG 238 5 L st h = (238, K238_5, qMask [false, false, false, false, false, false, false, false] L, st, h) := rfl
theorem j238_6 {L : qLV} {st : List Value} {h : qHp} : qJump PG 238 6 L st h = (238, K238_6, qMask [true, true, true, true, true, true, false, false] L, st, h) := rfl
theorem j238_7 {L : qLV} {st : List Value} {h : qHp} : qJump PG 238 7 L st h = (238, K238_7, qMask [true, true, true, true, true, true, false, false] L, st, h) := rfl
theorem e239 {av : List Value} {h : qHp} : qEntry PG 239 av h = (239, K239_0, qPad 3 (qArgs av), [], h) := rfl
theorem j239_0 {L : qLV} {st : List Value} {h : qHp} : qJump PG 239 0 L st h = (239, K239_0, qMask [true, true, false] L, st, h) := rfl
theorem j239_1 {L : qLV} {st : List Value} {h : qHp} : qJump PG 239 1 L st h = (239, K239_1, qMask [true, true, false] L, st, h) := rfl
theorem j239_2 {L : qLV} {st : List Value} {h : qHp} : qJump PG 239 2 L st h = (239, K239_2, qMask [true, false, true] L, st, h) := rfl
theorem j239_3 {L : qLV} {st : List Value} {h : qHp} : qJump PG 239 3 L st h = (239, K239_3, qMask [true, false, false] L, st, h) := rfl
theorem e240 {av : List Value} {h : qHp} : qEntry PG 240 av h = (240, K240_0, qPad 2 (qArgs av), [], h) := rfl
theorem j240_0 {L : qLV} {st : List Value} {h : qHp} : qJump PG 240 0 L st h = (240, K240_0, qMask [true, true] L, st, h) := rfl
theorem j240_1 {L : qLV} {st : List Value} {h : qHp} : qJump PG 240 1 L st h = (240, K240_1, qMask [true, true] L, st, h) := rfl
theorem j240_2 {L : qLV} {st : List Value} {h : qHp} : qJump PG 240 2 L st h = (240, K240_2, qMask [true, true] L, st, h) := rfl
theorem e241 {av : List Value} {h : qHp} : qEntry PG 241 av h = (241, K241_0, qPad 2 (qArgs av), [], h) := rfl
theorem j241_0 {L : qLV} {st : List Value} {h : qHp} : qJump PG 241 0 L st h = (241, K241_0, qMask [true, true] L, st, h) := rfl
theorem j241_1 {L : qLV} {st : List Value} {h : qHp} : qJump PG 241 1 L st h = (241, K241_1, qMask [false, false] L, st, h) := rfl
theorem j241_2 {L : qLV} {st : List Value} {h : qHp} : qJump PG 241 2 L st h = (241, K241_2, qMask [false, false] L, st, h) := rfl
theorem e242 {av : List Value} {h : qHp} : qEntry PG 242 av h = (242, K242_0, qPad 3 (qArgs av), [], h) := rfl
theorem j242_0 {L : qLV} {st : List Value} {h : qHp} : qJump PG 242 0 L st h = (242, K242_0, qMask [true, true, true] L, st, h) := rfl
theorem j242_1 {L : qLV} {st : List Value} {h : qHp} : qJump PG 242 1 L st h = (242, K242_1, qMask [false, false, false] L, st, h) := rfl
theorem j242_2 {L : qLV} {st : List Value} {h : qHp} : qJump PG 242 2 L st h = (242, K242_2, qMask [true, true, true] L, st, h) := rfl
theorem j242_3 {L : qLV} {st : List Value} {h : qHp} : qJump PG 242 3 L st h = (242, K242_3, qMask [true, true, true] L, st, h) := rfl
theorem e243 {av : List Value} {h : qHp} : qEntry PG 243 av h = (243, K243_0, qPad 2 (qArgs av), [], h) := rfl
theorem j243_0 {L : qLV} {st : List Value} {h : qHp} : qJump PG 243 0 L st h = (243, K243_0, qMask [true, true] L, st, h) := rfl
theorem j243_1 {L : qLV} {st : List Value} {h : qHp} : qJump PG 243 1 L st h = (243, K243_1, qMask [true, true] L, st, h) := rfl
theorem e244 {av : List Value} {h : qHp} : qEntry PG 244 av h = (244, K244_0, qPad 16 (qArgs av), [], h) := rfl
theorem j244_0 {L : qLV} {st : List Value} {h : qHp} : qJump PG 244 0 L st h = (244, K244_0, qMask [true, true, true, true, true, true, false, false, false, false, false, false, false, false, false, false] L, st, h) := rfl
theorem j244_1 {L : qLV} {st : List Value} {h : qHp} : qJump PG 244 1 L st h = (244, K244_1, qMask [true, true, true, true, true, true, false, false, false, false, false, false, false, false, false, false] L, st, h) := rfl
theorem j244_2 {L : qLV} {st : List Value} {h : qHp} : qJump PG 244 2 L st h = (244, K244_2, qMask [true, true, true, true, true, true, false, false, false, false, false, false, false, false, false, false] L, st, h) := rfl
theorem j244_3 {L : qLV} {st : List Value} {h : qHp} : qJump PG 244 3 L st h = (244, K244_3, qMask [true, true, true, true, true, true, true, false, false, false, false, false, false, false, false, false] L, st, h) := rfl
theorem j244_4 {L : qLV} {st : List Value} {h : qHp} : qJump PG 244 4 L st h = (244, K244_4, qMask [true, true, true, true, true, true, true, false, false, false, false, false, false, false, false, false] L, st, h) := rfl
theorem j244_5 {L : qLV} {st : List Value} {h : qHp} : qJump PG 244 5 L st h = (244, K244_5, qMask [true, true, true, true, true, true, true, false, false, false, false, false, false, false, false, false] L, st, h) := rfl
theorem j244_6 {L : qLV} {st : List Value} {h : qHp} : qJump PG 244 6 L st h = (244, K244_6, qMask [true, true, true, true, true, true, true, false, false, false, false, false, false, false, false, false] L, st, h) := rfl
theorem j244_7 {L : qLV} {st : List Value} {h : qHp} : qJump PG 244 7 L st h = (244, K244_7, qMask [true, true, true, true, true, true, true, true, false, false, false, false, false, false, false, false] L, st, h) := rfl
theorem j244_8 {L : qLV} {st : List Value} {h : qHp} : qJump PG 244 8 L st h = (244, K244_8, qMask [true, true, true, true, true, true, true, true, false, false, false, false, false, false, false, false] L, st, h) := rfl
theorem j244_9 {L : qLV} {st : List Value} {h : qHp} : qJump PG 244 9 L st h = (244, K244_9, qMask [true, true, true, true, true, true, true, true, false, false, false, false, false, false, false, false] L, st, h) := rfl
theorem j244_10 {L : qLV} {st : List Value} {h : qHp} : qJump PG 244 10 L st h = (244, K244_10, qMask [false, false, false, false, false, false, false, false, false, false, false, false, false, false, false, false] L, st, h) := rfl
theorem j244_11 {L : qLV} {st : List Value} {h : qHp} : qJump PG 244 11 L st h = (244, K244_11, qMask [true, true, true, true, true, true, true, false, false, false, false, false, false, false, false, false] L, st, h) := rfl
theorem j244_12 {L : qLV} {st : List Value} {h : qHp} : qJump PG 244 12 L st h = (244, K244_12, qMask [true, true, true, true, true, true, true, false, false, true, true, true, false, true, false, false] L, st, h) := rfl
theorem j244_13 {L : qLV} {st : List Value} {h : qHp} : qJump PG 244 13 L st h = (244, K244_13, qMask [true, true, true, true, true, true, true, false, false, true, true, true, false, true, false, false] L, st, h) := rfl
theorem j244_14 {L : qLV} {st : List Value} {h : qHp} : qJump PG 244 14 L st h = (244, K244_14, qMask [true, true, true, true, true, true, true, false, false, true, true, true, false, true, false, false] L, st, h) := rfl
theorem j244_15 {L : qLV} {st : List Value} {h : qHp} : qJump PG 244 15 L st h = (244, K244_15, qMask [true, true, true, true, true, true, true, false, false, true, true, true, false, true, false, false] L, st, h) := rfl
theorem j244_16 {L : qLV} {st : List Value} {h : qHp} : qJump PG 244 16 L st h = (244, K244_16, qMask [true, true, true, true, true, true, true, false, false, true, true, true, false, true, false, false] L, st, h) := rfl
theorem j244_17 {L : qLV} {st : List Value} {h : qHp} : qJump PG 244 17 L st h = (244, K244_17, qMask [true, true, true, true, true, true, true, false, false, true, true, false, false, true, false, false] L, st, h) := rfl
theorem j244_18 {L : qLV} {st : List Value} {h : qHp} : qJump PG 244 18 L st h = (244, K244_18, qMask [true, true, true, true, true, true, true, false, false, true, true, true, false, true, false, false] L, st, h) := rfl
theorem j244_19 {L : qLV} {st : List Value} {h : qHp} : qJump PG 244 19 L st h = (244, K244_19, qMask [true, true, true, true, true, false, true, false, false, false, false, true, false, false, false, false] L, st, h) := rfl
theorem j244_20 {L : qLV} {st : List Value} {h : qHp} : qJump PG 244 20 L st h = (244, K244_20, qMask [true, false, false, true, false, false, true, false, false, false, false, true, false, false, false, false] L, st, h) := rfl
theorem j244_21 {L : qLV} {st : List Value} {h : qHp} : qJump PG 244 21 L st h = (244, K244_21, qMask [false, false, false, false, false, false, false, false, false, false, false, true, false, false, false, false] L, st, h) := rfl
theorem e245 {av : List Value} {h : qHp} : qEntry PG 245 av h = (245, K245_0, qPad 2 (qArgs av), [], h) := rfl
theorem j245_0 {L : qLV} {st : List Value} {h : qHp} : qJump PG 245 0 L st h = (245, K245_0, qMask [true, true] L, st, h) := rfl
theorem e246 {av : List Value} {h : qHp} : qEntry PG 246 av h = (246, K246_0, qPad 3 (qArgs av), [], h) := rfl
theorem j246_0 {L : qLV} {st : List Value} {h : qHp} : qJump PG 246 0 L st h = (246, K246_0, qMask [true, false, false] L, st, h) := rfl
theorem j246_1 {L : qLV} {st : List Value} {h : qHp} : qJump PG 246 1 L st h = (246, K246_1, qMask [false, true, true] L, st, h) := rfl
theorem j246_2 {L : qLV} {st : List Value} {h : qHp} : qJump PG 246 2 L st h = (246, K246_2, qMask [false, true, false] L, st, h) := rfl
theorem e247 {av : List Value} {h : qHp} : qEntry PG 247 av h = (247, K247_0, qPad 6 (qArgs av), [], h) := rfl
theorem j247_0 {L : qLV} {st : List Value} {h : qHp} : qJump PG 247 0 L st h = (247, K247_0, qMask [true, true, true, true, true, false] L, st, h) := rfl
theorem j247_1 {L : qLV} {st : List Value} {h : qHp} : qJump PG 247 1 L st h = (247, K247_1, qMask [true, true, true, true, true, false] L, st, h) := rfl
theorem j247_2 {L : qLV} {st : List Value} {h : qHp} : qJump PG 247 2 L st h = (247, K247_2, qMask [true, true, true, true, true, false] L, st, h) := rfl
theorem j247_3 {L : qLV} {st : List Value} {h : qHp} : qJump PG 247 3 L st h = (247, K247_3, qMask [true, true, true, true, true, false] L, st, h) := rfl
theorem j247_4 {L : qLV} {st : List Value} {h : qHp} : qJump PG 247 4 L st h = (247, K247_4, qMask [true, true, true, true, true, true] L, st, h) := rfl
theorem j247_5 {L : qLV} {st : List Value} {h : qHp} : qJump PG 247 5 L st h = (247, K247_5, qMask [true, true, true, true, true, true] L, st, h) := rfl
theorem j247_6 {L : qLV} {st : List Value} {h : qHp} : qJump PG 247 6 L st h = (247, K247_6, qMask [true, true, true, true, true, true] L, st, h) := rfl
theorem j247_7 {L : qLV} {st : List Value} {h : qHp} : qJump PG 247 7 L st h = (247, K247_7, qMask [true, true, true, true, true, true] L, st, h) := rfl
theorem j247_8 {L : qLV} {st : List Value} {h : qHp} : qJump PG 247 8 L st h = (247, K247_8, qMask [true, true, true, true, true, true] L, st, h) := rfl
theorem j247_9 {L : qLV} {st : List Value} {h : qHp} : qJump PG 247 9 L st h = (247, K247_9, qMask [false, false, false, false, false, false] L, st, h) := rfl
theorem j247_10 {L : qLV} {st : List Value} {h : qHp} : qJump PG 247 10 L st h = (247, K247_10, qMask [true, true, true, true, true, true] L, st, h) := rfl
theorem j247_11 {L : qLV} {st : List Value} {h : qHp} : qJump PG 247 11 L st h = (247, K247_11, qMask [true, true, false, false, true, false] L, st, h) := rfl
theorem j247_12 {L : qLV} {st : List Value} {h : qHp} : qJump PG 247 12 L st h = (247, K247_12, qMask [true, true, false, false, false, false] L, st, h) := rfl
theorem j247_13 {L : qLV} {st : List Value} {h : qHp} : qJump PG 247 13 L st h = (247, K247_13, qMask [true, true, false, false, false, false] L, st, h) := rfl
theorem e248 {av : List Value} {h : qHp} : qEntry PG 248 av h = (248, K248_0, qPad 2 (qArgs av), [], h) := rfl
theorem j248_0 {L : qLV} {st : List Value} {h : qHp} : qJump PG 248 0 L st h = (248, K248_0, qMask [true, true] L, st, h) := rfl
theorem j248_1 {L : qLV} {st : List Value} {h : qHp} : qJump PG 248 1 L st h = (248, K248_1, qMask [true, true] L, st, h) := rfl
theorem j248_2 {L : qLV} {st : List Value} {h : qHp} : qJump PG 248 2 L st h = (248, K248_2, qMask [false, false] L, st, h) := rfl
theorem e249 {av : List Value} {h : qHp} : qEntry PG 249 av h = (249, K249_0, qPad 1 (qArgs av), [], h) := rfl
theorem j249_0 {L : qLV} {st : List Value} {h : qHp} : qJump PG 249 0 L st h = (249, K249_0, qMask [true] L, st, h) := rfl
theorem e250 {av : List Value} {h : qHp} : qEntry PG 250 av h = (250, K250_0, qPad 6 (qArgs av), [], h) := rfl
theorem j250_0 {L : qLV} {st : List Value} {h : qHp} : qJump PG 250 0 L st h = (250, K250_0, qMask [true, false, false, false, false, false] L, st, h) := rfl
theorem j250_1 {L : qLV} {st : List Value} {h : qHp} : qJump PG 250 1 L st h = (250, K250_1, qMask [true, true, false, false, false, false] L, st, h) := rfl
theorem j250_2 {L : qLV} {st : List Value} {h : qHp} : qJump PG 250 2 L st h = (250, K250_2, qMask [true, false, false, false, false, false] L, st, h) := rfl
theorem j250_3 {L : qLV} {st : List Value} {h : qHp} : qJump PG 250 3 L st h = (250, K250_3, qMask [true, true, false, false, false, false] L, st, h) := rfl
theorem j250_4 {L : qLV} {st : List Value} {h : qHp} : qJump PG 250 4 L st h = (250, K250_4, qMask [true, true, true, true, true, false] L, st, h) := rfl
theorem j250_5 {L : qLV} {st : List Value} {h : qHp} : qJump PG 250 5 L st h = (250, K250_5, qMask [true, true, true, true, true, false] L, st, h) := rfl
theorem j250_6 {L : qLV} {st : List Value} {h : qHp} : qJump PG 250 6 L st h = (250, K250_6, qMask [true, true, false, true, true, false] L, st, h) := rfl
theorem j250_7 {L : qLV} {st : List Value} {h : qHp} : qJump PG 250 7 L st h = (250, K250_7, qMask [true, true, true, true, true, false] L, st, h) := rfl
theorem j250_8 {L : qLV} {st : List Value} {h : qHp} : qJump PG 250 8 L st h = (250, K250_8, qMask [true, true, true, false, true, false] L, st, h) := rfl
theorem j250_9 {L : qLV} {st : List Value} {h : qHp} : qJump PG 250 9 L st h = (250, K250_9, qMask [true, true, true, true, false, false] L, st, h) := rfl
theorem j250_10 {L : qLV} {st : List Value} {h : qHp} : qJump PG 250 10 L st h = (250, K250_10, qMask [true, true, true, true, true, false] L, st, h) := rfl
theorem e251 {av : List Value} {h : qHp} : qEntry PG 251 av h = (251, K251_0, qPad 3 (qArgs av), [], h) := rfl
theorem j251_0 {L : qLV} {st : List Value} {h : qHp} : qJump PG 251 0 L st h = (251, K251_0, qMask [true, true, true] L, st, h) := rfl
theorem j251_1 {L : qLV} {st : List Value} {h : qHp} : qJump PG 251 1 L st h = (251, K251_1, qMask [true, true, true] L, st, h) := rfl
theorem j251_2 {L : qLV} {st : List Value} {h : qHp} : qJump PG 251 2 L st h = (251, K251_2, qMask [true, true, true] L, st, h) := rfl
theorem j251_3 {L : qLV} {st : List Value} {h : qHp} : qJump PG 251 3 L st h = (251, K251_3, qMask [true, true, true] L, st, h) := rfl
theorem j251_4 {L : qLV} {st : List Value} {h : qHp} : qJump PG 251 4 L st h = (251, K251_4, qMask [true, true, false] L, st, h) := rfl
theorem j251_5 {L : qLV} {st : List Value} {h : qHp} : qJump PG 251 5 L st h = (251, K251_5, qMask [false, false, false] L, st, h) := rfl
theorem e252 {av : List Value} {h : qHp} : qEntry PG 252 av h = (252, K252_0, qPad 1 (qArgs av), [], h) := rfl
theorem j252_0 {L : qLV} {st : List Value} {h : qHp} : qJump PG 252 0 L st h = (252, K252_0, qMask [true] L, st, h) := rfl
theorem j252_1 {L : qLV} {st : List Value} {h : qHp} : qJump PG 252 1 L st h = (252, K252_1, qMask [true] L, st, h) := rfl
theorem e253 {av : List Value} {h : qHp} : qEntry PG 253 av h = (253, K253_0, qPad 4 (qArgs av), [], h) := rfl
theorem j253_0 {L : qLV} {st : List Value} {h : qHp} : qJump PG 253 0 L st h = (253, K253_0, qMask [true, true, true, false] L, st, h) := rfl
theorem j253_1 {L : qLV} {st : List Value} {h : qHp} : qJump PG 253 1 L st h = (253, K253_1, qMask [true, true, true, false] L, st, h) := rfl
theorem j253_2 {L : qLV} {st : List Value} {h : qHp} : qJump PG 253 2 L st h = (253, K253_2, qMask [false, false, false, false] L, st, h) := rfl
theorem j253_3 {L : qLV} {st : List Value} {h : qHp} : qJump PG 253 3 L st h = (253, K253_3, qMask [false, false, false, false] L, st, h) := rfl
theorem e254 {av : List Value} {h : qHp} : qEntry PG 254 av h = (254, K254_0, qPad 4 (qArgs av), [], h) := rfl
theorem j254_0 {L : qLV} {st : List Value} {h : qHp} : qJump PG 254 0 L st h = (254, K254_0, qMask [true, true, true, false] L, st, h) := rfl
theorem j254_1 {L : qLV} {st : List Value} {h : qHp} : qJump PG 254 1 L st h = (254, K254_1, qMask [true, true, true, false] L, st, h) := rfl
theorem j254_2 {L : qLV} {st : List Value} {h : qHp} : qJump PG 254 2 L st h = (254, K254_2, qMask [true, true, true, false] L, st, h) := rfl
theorem j254_3 {L : qLV} {st : List Value} {h : qHp} : qJump PG 254 3 L st h = (254, K254_3, qMask [true, true, true, false] L, st, h) := rfl
theorem j254_4 {L : qLV} {st : List Value} {h : qHp} : qJump PG 254 4 L st h = (254, K254_4, qMask [true, false, false, true] L, st, h) := rfl
theorem j254_5 {L : qLV} {st : List Value} {h : qHp} : qJump PG 254 5 L st h = (254, K254_5, qMask [false, false, false, false] L, st, h) := rfl
theorem e255 {av : List Value} {h : qHp} : qEntry PG 255 av h = (255, K255_0, qPad 1 (qArgs av), [], h) := rfl
theorem j255_0 {L : qLV} {st : List Value} {h : qHp} : qJump PG 255 0 L st h = (255, K255_0, qMask [true] L, st, h) := rfl
theorem e256 {av : List Value} {h : qHp} : qEntry PG 256 av h = (256, K256_0, qPad 3 (qArgs av), [], h) := rfl
theorem j256_0 {L : qLV} {st : List Value} {h : qHp} : qJump PG 256 0 L st h = (256, K256_0, qMask [true, true, false] L, st, h) := rfl
theorem j256_1 {L : qLV} {st : List Value} {h : qHp} : qJump PG 256 1 L st h = (256, K256_1, qMask [true, true, true] L, st, h) := rfl
theorem j256_2 {L : qLV} {st : List Value} {h : qHp} : qJump PG 256 2 L st h = (256, K256_2, qMask [true, false, false] L, st, h) := rfl
theorem e257 {av : List Value} {h : qHp} : qEntry PG 257 av h = (257, K257_0, qPad 4 (qArgs av), [], h) := rfl
theorem j257_0 {L : qLV} {st : List Value} {h : qHp} : qJump PG 257 0 L st h = (257, K257_0, qMask [true, true, false, false] L, st, h) := rfl
theorem j257_1 {L : qLV} {st : List Value} {h : qHp} : qJump PG 257 1 L st h = (257, K257_1, qMask [true, true, true, true] L, st, h) := rfl
theorem j257_2 {L : qLV} {st : List Value} {h : qHp} : qJump PG 257 2 L st h = (257, K257_2, qMask [true, true, true, true] L, st, h) := rfl
theorem j257_3 {L : qLV} {st : List Value} {h : qHp} : qJump PG 257 3 L st h = (257, K257_3, qMask [true, true, false, true] L, st, h) := rfl
theorem j257_4 {L : qLV} {st : List Value} {h : qHp} : qJump PG 257 4 L st h = (257, K257_4, qMask [false, false, true, false] L, st, h) := rfl
theorem e258 {av : List Value} {h : qHp} : qEntry PG 258 av h = (258, K258_0, qPad 3 (qArgs av), [], h) := rfl
theorem j258_0 {L : qLV} {st : List Value} {h : qHp} : qJump PG 258 0 L st h = (258, K258_0, qMask [true, true, true] L, st, h) := rfl
theorem j258_1 {L : qLV} {st : List Value} {h : qHp} : qJump PG 258 1 L st h = (258, K258_1, qMask [false, false, false] L, st, h) := rfl
theorem j258_2 {L : qLV} {st : List Value} {h : qHp} : qJump PG 258 2 L st h = (258, K258_2, qMask [true, true, true] L, st, h) := rfl
theorem e259 {av : List Value} {h : qHp} : qEntry PG 259 av h = (259, K259_0, qPad 6 (qArgs av), [], h) := rfl
theorem j259_0 {L : qLV} {st : List Value} {h : qHp} : qJump PG 259 0 L st h = (259, K259_0, qMask [true, true, true, false, false, false] L, st, h) := rfl
theorem j259_1 {L : qLV} {st : List Value} {h : qHp} : qJump PG 259 1 L st h = (259, K259_1, qMask [true, true, true, true, false, true] L, st, h) := rfl
theorem j259_2 {L : qLV} {st : List Value} {h : qHp} : qJump PG 259 2 L st h = (259, K259_2, qMask [true, false, false, true, false, false] L, st, h) := rfl
theorem e260 {av : List Value} {h : qHp} : qEntry PG 260 av h = (260, K260_0, qPad 2 (qArgs av), [], h) := rfl
theorem j260_0 {L : qLV} {st : List Value} {h : qHp} : qJump PG 260 0 L st h = (260, K260_0, qMask [true, true] L, st, h) := rfl
theorem j260_1 {L : qLV} {st : List Value} {h : qHp} : qJump PG 260 1 L st h = (260, K260_1, qMask [true, true] L, st, h) := rfl
theorem j260_2 {L : qLV} {st : List Value} {h : qHp} : qJump PG 260 2 L st h = (260, K260_2, qMask [false, false] L, st, h) := rfl
theorem e261 {av : List Value} {h : qHp} : qEntry PG 261 av h = (261, K261_0, qPad 5 (qArgs av), [], h) := rfl
theorem j261_0 {L : qLV} {st : List Value} {h : qHp} : qJump PG 261 0 L st h = (261, K261_0, qMask [true, true, true, false, false] L, st, h) := rfl
theorem j261_1 {L : qLV} {st : List Value} {h : qHp} : qJump PG 261 1 L st h = (261, K261_1, qMask [false, false, false, false, false] L, st, h) := rfl
theorem j261_2 {L : qLV} {st : List Value} {h : qHp} : qJump PG 261 2 L st h = (261, K261_2, qMask [true, true, true, false, false] L, st, h) := rfl
theorem j261_3 {L : qLV} {st : List Value} {h : qHp} : qJump PG 261 3 L st h = (261, K261_3, qMask [true, true, true, true, false] L, st, h) := rfl
theorem j261_4 {L : qLV} {st : List Value} {h : qHp} : qJump PG 261 4 L st h = (261, K261_4, qMask [true, true, false, false, false] L, st, h) := rfl
theorem j261_5 {L : qLV} {st : List Value} {h : qHp} : qJump PG 261 5 L st h = (261, K261_5, qMask [true, false, false, false, false] L, st, h) := rfl
theorem j261_6 {L : qLV} {st : List Value} {h : qHp} : qJump PG 261 6 L st h = (261, K261_6, qMask [true, false, false, false, false] L, st, h) := rfl
theorem e262 {av : List Value} {h : qHp} : qEntry PG 262 av h = (262, K262_0, qPad 4 (qArgs av), [], h) := rfl
theorem j262_0 {L : qLV} {st : List Value} {h : qHp} : qJump PG 262 0 L st h = (262, K262_0, qMask [true, true, false, false] L, st, h) := rfl
theorem j262_1 {L : qLV} {st : List Value} {h : qHp} : qJump PG 262 1 L st h = (262, K262_1, qMask [true, true, false, false] L, st, h) := rfl
theorem j262_2 {L : qLV} {st : List Value} {h : qHp} : qJump PG 262 2 L st h = (262, K262_2, qMask [false, false, false, false] L, st, h) := rfl
theorem j262_3 {L : qLV} {st : List Value} {h : qHp} : qJump PG 262 3 L st h = (262, K262_3, qMask [true, true, false, false] L, st, h) := rfl
theorem j262_4 {L : qLV} {st : List Value} {h : qHp} : qJump PG 262 4 L st h = (262, K262_4, qMask [true, true, false, false] L, st, h) := rfl
theorem j262_5 {L : qLV} {st : List Value} {h : qHp} : qJump PG 262 5 L st h = (262, K262_5, qMask [true, true, false, false] L, st, h) := rfl
theorem e263 {av : List Value} {h : qHp} : qEntry PG 263 av h = (263, K263_0, qPad 5 (qArgs av), [], h) := rfl
theorem j263_0 {L : qLV} {st : List Value} {h : qHp} : qJump PG 263 0 L st h = (263, K263_0, qMask [true, true, false, false, false] L, st, h) := rfl
theorem j263_1 {L : qLV} {st : List Value} {h : qHp} : qJump PG 263 1 L st h = (263, K263_1, qMask [true, true, false, false, false] L, st, h) := rfl
theorem j263_2 {L : qLV} {st : List Value} {h : qHp} : qJump PG 263 2 L st h = (263, K263_2, qMask [true, true, true, false, true] L, st, h) := rfl
theorem j263_3 {L : qLV} {st : List Value} {h : qHp} : qJump PG 263 3 L st h = (263, K263_3, qMask [false, false, true, false, false] L, st, h) := rfl
theorem e264 {av : List Value} {h : qHp} : qEntry PG 264 av h = (264, K264_0, qPad 7 (qArgs av), [], h) := rfl
theorem j264_0 {L : qLV} {st : List Value} {h : qHp} : qJump PG 264 0 L st h = (264, K264_0, qMask [true, true, true, false, false, false, false] L, st, h) := rfl
theorem j264_1 {L : qLV} {st : List Value} {h : qHp} : qJump PG 264 1 L st h = (264, K264_1, qMask [true, true, true, true, false, true, false] L, st, h) := rfl
theorem j264_2 {L : qLV} {st : List Value} {h : qHp} : qJump PG 264 2 L st h = (264, K264_2, qMask [true, true, true, true, false, true, false] L, st, h) := rfl
theorem j264_3 {L : qLV} {st : List Value} {h : qHp} : qJump PG 264 3 L st h = (264, K264_3, qMask [true, true, true, true, false, true, false] L, st, h) := rfl
theorem j264_4 {L : qLV} {st : List Value} {h : qHp} : qJump PG 264 4 L st h = (264, K264_4, qMask [true, true, true, true, false, true, false] L, st, h) := rfl
theorem j264_5 {L : qLV} {st : List Value} {h : qHp} : qJump PG 264 5 L st h = (264, K264_5, qMask [true, true, true, false, false, true, false] L, st, h) := rfl
theorem j264_6 {L : qLV} {st : List Value} {h : qHp} : qJump PG 264 6 L st h = (264, K264_6, qMask [true, true, true, false, false, true, false] L, st, h) := rfl
theorem j264_7 {L : qLV} {st : List Value} {h : qHp} : qJump PG 264 7 L st h = (264, K264_7, qMask [false, false, false, true, false, false, false] L, st, h) := rfl
theorem e265 {av : List Value} {h : qHp} : qEntry PG 265 av h = (265, K265_0, qPad 8 (qArgs av), [], h) := rfl
theorem j265_0 {L : qLV} {st : List Value} {h : qHp} : qJump PG 265 0 L st h = (265, K265_0, qMask [true, true, false, true, false, true, false, false] L, st, h) := rfl
theorem j265_1 {L : qLV} {st : List Value} {h : qHp} : qJump PG 265 1 L st h = (265, K265_1, qMask [false, false, false, false, false, false, false, false] L, st, h) := rfl
theorem j265_2 {L : qLV} {st : List Value} {h : qHp} : qJump PG 265 2 L st h = (265, K265_2, qMask [false, false, false, true, false, false, true, false] L, st, h) := rfl
theorem j265_3 {L : qLV} {st : List Value} {h : qHp} : qJump PG 265 3 L st h = (265, K265_3, qMask [false, false, false, true, false, false, true, false] L, st, h) := rfl
theorem j265_4 {L : qLV} {st : List Value} {h : qHp} : qJump PG 265 4 L st h = (265, K265_4, qMask [false, false, false, false, false, false, false, false] L, st, h) := rfl
theorem e266 {av : List Value} {h : qHp} : qEntry PG 266 av h = (266, K266_0, qPad 2 (qArgs av), [], h) := rfl
theorem j266_0 {L : qLV} {st : List Value} {h : qHp} : qJump PG 266 0 L st h = (266, K266_0, qMask [true, true] L, st, h) := rfl
theorem j266_1 {L : qLV} {st : List Value} {h : qHp} : qJump PG 266 1 L st h = (266, K266_1, qMask [true, true] L, st, h) := rfl
theorem e267 {av : List Value} {h : qHp} : qEntry PG 267 av h = (267, K267_0, qPad 2 (qArgs av), [], h) := rfl
theorem j267_0 {L : qLV} {st : List Value} {h : qHp} : qJump PG 267 0 L st h = (267, K267_0, qMask [true, true] L, st, h) := rfl
theorem j267_1 {L : qLV} {st : List Value} {h : qHp} : qJump PG 267 1 L st h = (267, K267_1, qMask [true, true] L, st, h) := rfl
theorem j267_2 {L : qLV} {st : List Value} {h : qHp} : qJump PG 267 2 L st h = (267, K267_2, qMask [false, false] L, st, h) := rfl
theorem e268 {av : List Value} {h : qHp} : qEntry PG 268 av h = (268, K268_0, qPad 10 (qArgs av), [], h) := rfl
theorem j268_0 {L : qLV} {st : List Value} {h : qHp} : qJump PG 268 0 L st h = (268, K268_0, qMask [true, true, true, false, false, false, false, false, false, false] L, st, h) := rfl
theorem j268_1 {L : qLV} {st : List Value} {h : qHp} : qJump PG 268 1 L st h = (268, K268_1, qMask [true, true, true, false, false, false, false, false, false, false] L, st, h) := rfl
theorem j268_2 {L : qLV} {st : List Value} {h : qHp} : qJump PG 268 2 L st h = (268, K268_2, qMask [true, true, true, false, false, false, false, false, false, false] L, st, h) := rfl
theorem j268_3 {L : qLV} {st : List Value} {h : qHp} : qJump PG 268 3 L st h = (268, K268_3, qMask [true, true, true, false, false, false, false, false, false, false] L, st, h) := rfl
theorem j268_4 {L : qLV} {st : List Value} {h : qHp} : qJump PG 268 4 L st h = (268, K268_4, qMask [true, true, true, true, true, false, true, false, false, false] L, st, h) := rfl
theorem j268_5 {L : qLV} {st : List Value} {h : qHp} : qJump PG 268 5 L st h = (268, K268_5, qMask [true, true, true, true, true, false, true, true, false, true] L, st, h) := rfl
theorem j268_6 {L : qLV} {st : List Value} {h : qHp} : qJump PG 268 6 L st h = (268, K268_6, qMask [true, true, true, true, true, false, true, false, false, true] L, st, h) := rfl
theorem j268_7 {L : qLV} {st : List Value} {h : qHp} : qJump PG 268 7 L st h = (268, K268_7, qMask [true, true, true, true, true, false, true, false, false, true] L, st, h) := rfl
theorem j268_8 {L : qLV} {st : List Value} {h : qHp} : qJump PG 268 8 L st h = (268, K268_8, qMask [true, true, true, true, true, false, true, true, false, false] L, st, h) := rfl
theorem j268_9 {L : qLV} {st : List Value} {h : qHp} : qJump PG 268 9 L st h = (268, K268_9, qMask [true, true, true, false, false, false, true, true, false, false] L, st, h) := rfl
theorem j268_10 {L : qLV} {st : List Value} {h : qHp} : qJump PG 268 10 L st h = (268, K268_10, qMask [true, true, true, true, true, false, true, false, false, false] L, st, h) := rfl
theorem j268_11 {L : qLV} {st : List Value} {h : qHp} : qJump PG 268 11 L st h = (268, K268_11, qMask [true, false, false, true, false, false, false, false, false, false] L, st, h) := rfl
theorem e269 {av : List Value} {h : qHp} : qEntry PG 269 av h = (269, K269_0, qPad 2 (qArgs av), [], h) := rfl
theorem j269_0 {L : qLV} {st : List Value} {h : qHp} : qJump PG 269 0 L st h = (269, K269_0, qMask [true, true] L, st, h) := rfl
theorem j269_1 {L : qLV} {st : List Value} {h : qHp} : qJump PG 269 1 L st h = (269, K269_1, qMask [false, false] L, st, h) := rfl
theorem j269_2 {L : qLV} {st : List Value} {h : qHp} : qJump PG 269 2 L st h = (269, K269_2, qMask [true, true] L, st, h) := rfl
theorem e270 {av : List Value} {h : qHp} : qEntry PG 270 av h = (270, K270_0, qPad 2 (qArgs av), [], h) := rfl
theorem j270_0 {L : qLV} {st : List Value} {h : qHp} : qJump PG 270 0 L st h = (270, K270_0, qMask [true, true] L, st, h) := rfl
theorem j270_1 {L : qLV} {st : List Value} {h : qHp} : qJump PG 270 1 L st h = (270, K270_1, qMask [true, true] L, st, h) := rfl
theorem j270_2 {L : qLV} {st : List Value} {h : qHp} : qJump PG 270 2 L st h = (270, K270_2, qMask [true, true] L, st, h) := rfl
theorem j270_3 {L : qLV} {st : List Value} {h : qHp} : qJump PG 270 3 L st h = (270, K270_3, qMask [true, true] L, st, h) := rfl
theorem j270_4 {L : qLV} {st : List Value} {h : qHp} : qJump PG 270 4 L st h = (270, K270_4, qMask [false, false] L, st, h) := rfl
theorem e271 {av : List Value} {h : qHp} : qEntry PG 271 av h = (271, K271_0, qPad 4 (qArgs av), [], h) := rfl
theorem j271_0 {L : qLV} {st : List Value} {h : qHp} : qJump PG 271 0 L st h = (271, K271_0, qMask [true, false, false, false] L, st, h) := rfl
theorem j271_1 {L : qLV} {st : List Value} {h : qHp} : qJump PG 271 1 L st h = (271, K271_1, qMask [true, true, false, true] L, st, h) := rfl
theorem j271_2 {L : qLV} {st : List Value} {h : qHp} : qJump PG 271 2 L st h = (271, K271_2, qMask [true, true, false, false] L, st, h) := rfl
theorem j271_3 {L : qLV} {st : List Value} {h : qHp} : qJump PG 271 3 L st h = (271, K271_3, qMask [true, true, false, true] L, st, h) := rfl
theorem j271_4 {L : qLV} {st : List Value} {h : qHp} : qJump PG 271 4 L st h = (271, K271_4, qMask [false, true, false, false] L, st, h) := rfl
theorem e272 {av : List Value} {h : qHp} : qEntry PG 272 av h = (272, K272_0, qPad 4 (qArgs av), [], h) := rfl
theorem j272_0 {L : qLV} {st : List Value} {h : qHp} : qJump PG 272 0 L st h = (272, K272_0, qMask [true, true, false, false] L, st, h) := rfl
theorem j272_1 {L : qLV} {st : List Value} {h : qHp} : qJump PG 272 1 L st h = (272, K272_1, qMask [true, true, true, true] L, st, h) := rfl
theorem j272_2 {L : qLV} {st : List Value} {h : qHp} : qJump PG 272 2 L st h = (272, K272_2, qMask [true, true, true, false] L, st, h) := rfl
theorem j272_3 {L : qLV} {st : List Value} {h : qHp} : qJump PG 272 3 L st h = (272, K272_3, qMask [true, true, true, true] L, st, h) := rfl
theorem j272_4 {L : qLV} {st : List Value} {h : qHp} : qJump PG 272 4 L st h = (272, K272_4, qMask [true, true, true, false] L, st, h) := rfl
theorem j272_5 {L : qLV} {st : List Value} {h : qHp} : qJump PG 272 5 L st h = (272, K272_5, qMask [false, false, false, false] L, st, h) := rfl
theorem j272_6 {L : qLV} {st : List Value} {h : qHp} : qJump PG 272 6 L st h = (272, K272_6, qMask [false, false, false, false] L, st, h) := rfl
theorem e273 {av : List Value} {h : qHp} : qEntry PG 273 av h = (273, K273_0, qPad 4 (qArgs av), [], h) := rfl
theorem j273_0 {L : qLV} {st : List Value} {h : qHp} : qJump PG 273 0 L st h = (273, K273_0, qMask [true, true, true, false] L, st, h) := rfl
theorem j273_1 {L : qLV} {st : List Value} {h : qHp} : qJump PG 273 1 L st h = (273, K273_1, qMask [true, true, true, false] L, st, h) := rfl
theorem j273_2 {L : qLV} {st : List Value} {h : qHp} : qJump PG 273 2 L st h = (273, K273_2, qMask [true, true, true, true] L, st, h) := rfl
theorem j273_3 {L : qLV} {st : List Value} {h : qHp} : qJump PG 273 3 L st h = (273, K273_3, qMask [true, true, true, true] L, st, h) := rfl
theorem e274 {av : List Value} {h : qHp} : qEntry PG 274 av h = (274, K274_0, qPad 2 (qArgs av), [], h) := rfl
theorem j274_0 {L : qLV} {st : List Value} {h : qHp} : qJump PG 274 0 L st h = (274, K274_0, qMask [true, true] L, st, h) := rfl
theorem j274_1 {L : qLV} {st : List Value} {h : qHp} : qJump PG 274 1 L st h = (274, K274_1, qMask [true, true] L, st, h) := rfl
theorem j274_2 {L : qLV} {st : List Value} {h : qHp} : qJump PG 274 2 L st h = (274, K274_2, qMask [false, false] L, st, h) := rfl
theorem e275 {av : List Value} {h : qHp} : qEntry PG 275 av h = (275, K275_0, qPad 2 (qArgs av), [], h) := rfl
theorem j275_0 {L : qLV} {st : List Value} {h : qHp} : qJump PG 275 0 L st h = (275, K275_0, qMask [true, true] L, st, h) := rfl
theorem j275_1 {L : qLV} {st : List Value} {h : qHp} : qJump PG 275 1 L st h = (275, K275_1, qMask [true, true] L, st, h) := rfl
theorem e276 {av : List Value} {h : qHp} : qEntry PG 276 av h = (276, K276_0, qPad 2 (qArgs av), [], h) := rfl
theorem j276_0 {L : qLV} {st : List Value} {h : qHp} : qJump PG 276 0 L st h = (276, K276_0, qMask [true, true] L, st, h) := rfl
theorem j276_1 {L : qLV} {st : List Value} {h : qHp} : qJump PG 276 1 L st h = (276, K276_1, qMask [true, true] L, st, h) := rfl
theorem j276_2 {L : qLV} {st : List Value} {h : qHp} : qJump PG 276 2 L st h = (276, K276_2, qMask [true, true] L, st, h) := rfl
theorem e277 {av : List Value} {h : qHp} : qEntry PG 277 av h = (277, K277_0, qPad 4 (qArgs av), [], h) := rfl
theorem j277_0 {L : qLV} {st : List Value} {h : qHp} : qJump PG 277 0 L st h = (277, K277_0, qMask [true, true, true, false] L, st, h) := rfl
theorem j277_1 {L : qLV} {st : List Value} {h : qHp} : qJump PG 277 1 L st h = (277, K277_1, qMask [false, false, false, false] L, st, h) := rfl
theorem j277_2 {L : qLV} {st : List Value} {h : qHp} : qJump PG 277 2 L st h = (277, K277_2, qMask [false, false, false, false] L, st, h) := rfl
theorem e278 {av : List Value} {h : qHp} : qEntry PG 278 av h = (278, K278_0, qPad 4 (qArgs av), [], h) := rfl
theorem j278_0 {L : qLV} {st : List Value} {h : qHp} : qJump PG 278 0 L st h = (278, K278_0, qMask [true, true, true, false] L, st, h) := rfl
theorem j278_1 {L : qLV} {st : List Value} {h : qHp} : qJump PG 278 1 L st h = (278, K278_1, qMask [false, false, false, false] L, st, h) := rfl
theorem j278_2 {L : qLV} {st : List Value} {h : qHp} : qJump PG 278 2 L st h = (278, K278_2, qMask [false, false, false, false] L, st, h) := rfl
theorem e279 {av : List Value} {h : qHp} : qEntry PG 279 av h = (279, K279_0, qPad 5 (qArgs av), [], h) := rfl
theorem j279_0 {L : qLV} {st : List Value} {h : qHp} : qJump PG 279 0 L st h = (279, K279_0, qMask [true, true, true, true, false] L, st, h) := rfl
theorem j279_1 {L : qLV} {st : List Value} {h : qHp} : qJump PG 279 1 L st h = (279, K279_1, qMask [false, false, false, false, false] L, st, h) := rfl
theorem j279_2 {L : qLV} {st : List Value} {h : qHp} : qJump PG 279 2 L st h = (279, K279_2, qMask [false, false, false, false, false] L, st, h) := rfl
theorem j279_3 {L : qLV} {st : List Value} {h : qHp} : qJump PG 279 3 L st h = (279, K279_3, qMask [false, false, false, false, false] L, st, h) := rfl
theorem e280 {av : List Value} {h : qHp} : qEntry PG 280 av h = (280, K280_0, qPad 4 (qArgs av), [], h) := rfl
theorem j280_0 {L : qLV} {st : List Value} {h : qHp} : qJump PG 280 0 L st h = (280, K280_0, qMask [true, true, true, false] L, st, h) := rfl
theorem j280_1 {L : qLV} {st : List Value} {h : qHp} : qJump PG 280 1 L st h = (280, K280_1, qMask [false, false, false, false] L, st, h) := rfl
theorem j280_2 {L : qLV} {st : List Value} {h : qHp} : qJump PG 280 2 L st h = (280, K280_2, qMask [false, false, false, false] L, st, h) := rfl
theorem e281 {av : List Value} {h : qHp} : qEntry PG 281 av h = (281, K281_0, qPad 4 (qArgs av), [], h) := rfl
theorem j281_0 {L : qLV} {st : List Value} {h : qHp} : qJump PG 281 0 L st h = (281, K281_0, qMask [true, true, true, false] L, st, h) := rfl
theorem j281_1 {L : qLV} {st : List Value} {h : qHp} : qJump PG 281 1 L st h = (281, K281_1, qMask [false, false, false, false] L, st, h) := rfl
theorem j281_2 {L : qLV} {st : List Value} {h : qHp} : qJump PG 281 2 L st h = (281, K281_2, qMask [false, false, false, false] L, st, h) := rfl
theorem e282 {av : List Value} {h : qHp} : qEntry PG 282 av h = (282, K282_0, qPad 5 (qArgs av), [], h) := rfl
theorem j282_0 {L : qLV} {st : List Value} {h : qHp} : qJump PG 282 0 L st h = (282, K282_0, qMask [true, true, true, true, false] L, st, h) := rfl
theorem j282_1 {L : qLV} {st : List Value} {h : qHp} : qJump PG 282 1 L st h = (282, K282_1, qMask [false, false, false, false, false] L, st, h) := rfl
theorem j282_2 {L : qLV} {st : List Value} {h : qHp} : qJump PG 282 2 L st h = (282, K282_2, qMask [false, false, false, false, false] L, st, h) := rfl
theorem j282_3 {L : qLV} {st : List Value} {h : qHp} : qJump PG 282 3 L st h = (282, K282_3, qMask [false, false, false, false, false] L, st, h) := rfl
theorem e283 {av : List Value} {h : qHp} : qEntry PG 283 av h = (283, K283_0, qPad 5 (qArgs av), [], h) := rfl
theorem j283_0 {L : qLV} {st : List Value} {h : qHp} : qJump PG 283 0 L st h = (283, K283_0, qMask [true, true, true, true, false] L, st, h) := rfl
theorem j283_1 {L : qLV} {st : List Value} {h : qHp} : qJump PG 283 1 L st h = (283, K283_1, qMask [false, false, false, false, false] L, st, h) := rfl
theorem j283_2 {L : qLV} {st : List Value} {h : qHp} : qJump PG 283 2 L st h = (283, K283_2, qMask [false, false, false, false, false] L, st, h) := rfl
theorem j283_3 {L : qLV} {st : List Value} {h : qHp} : qJump PG 283 3 L st h = (283, K283_3, qMask [false, false, false, false, false] L, st, h) := rfl
theorem e284 {av : List Value} {h : qHp} : qEntry PG 284 av h = (284, K284_0, qPad 5 (qArgs av), [], h) := rfl
theorem j284_0 {L : qLV} {st : List Value} {h : qHp} : qJump PG 284 0 L st h = (284, K284_0, qMask [true, true, true, true, false] L, st, h) := rfl
theorem j284_1 {L : qLV} {st : List Value} {h : qHp} : qJump PG 284 1 L st h = (284, K284_1, qMask [false, false, false, false, false] L, st, h) := rfl
theorem j284_2 {L : qLV} {st : List Value} {h : qHp} : qJump PG 284 2 L st h = (284, K284_2, qMask [false, false, false, false, false] L, st, h) := rfl
theorem j284_3 {L : qLV} {st : List Value} {h : qHp} : qJump PG 284 3 L st h = (284, K284_3, qMask [false, false, false, false, false] L, st, h) := rfl
theorem e285 {av : List Value} {h : qHp} : qEntry PG 285 av h = (285, K285_0, qPad 4 (qArgs av), [], h) := rfl
theorem j285_0 {L : qLV} {st : List Value} {h : qHp} : qJump PG 285 0 L st h = (285, K285_0, qMask [true, true, true, false] L, st, h) := rfl
theorem j285_1 {L : qLV} {st : List Value} {h : qHp} : qJump PG 285 1 L st h = (285, K285_1, qMask [false, false, false, false] L, st, h) := rfl
theorem j285_2 {L : qLV} {st : List Value} {h : qHp} : qJump PG 285 2 L st h = (285, K285_2, qMask [false, false, false, false] L, st, h) := rfl
theorem e286 {av : List Value} {h : qHp} : qEntry PG 286 av h = (286, K286_0, qPad 4 (qArgs av), [], h) := rfl
theorem j286_0 {L : qLV} {st : List Value} {h : qHp} : qJump PG 286 0 L st h = (286, K286_0, qMask [true, true, true, false] L, st, h) := rfl
theorem j286_1 {L : qLV} {st : List Value} {h : qHp} : qJump PG 286 1 L st h = (286, K286_1, qMask [false, false, false, false] L, st, h) := rfl
theorem j286_2 {L : qLV} {st : List Value} {h : qHp} : qJump PG 286 2 L st h = (286, K286_2, qMask [false, false, false, false] L, st, h) := rfl
theorem e287 {av : List Value} {h : qHp} : qEntry PG 287 av h = (287, K287_0, qPad 6 (qArgs av), [], h) := rfl
theorem j287_0 {L : qLV} {st : List Value} {h : qHp} : qJump PG 287 0 L st h = (287, K287_0, qMask [true, true, true, true, true, false] L, st, h) := rfl
theorem j287_1 {L : qLV} {st : List Value} {h : qHp} : qJump PG 287 1 L st h = (287, K287_1, qMask [false, false, false, false, false, false] L, st, h) := rfl
theorem j287_2 {L : qLV} {st : List Value} {h : qHp} : qJump PG 287 2 L st h = (287, K287_2, qMask [false, false, false, false, false, false] L, st, h) := rfl
theorem j287_3 {L : qLV} {st : List Value} {h : qHp} : qJump PG 287 3 L st h = (287, K287_3, qMask [false, false, false, false, false, false] L, st, h) := rfl
theorem e288 {av : List Value} {h : qHp} : qEntry PG 288 av h = (288, K288_0, qPad 6 (qArgs av), [], h) := rfl
theorem j288_0 {L : qLV} {st : List Value} {h : qHp} : qJump PG 288 0 L st h = (288, K288_0, qMask [true, true, true, true, true, false] L, st, h) := rfl
theorem j288_1 {L : qLV} {st : List Value} {h : qHp} : qJump PG 288 1 L st h = (288, K288_1, qMask [false, false, false, false, false, false] L, st, h) := rfl
theorem j288_2 {L : qLV} {st : List Value} {h : qHp} : qJump PG 288 2 L st h = (288, K288_2, qMask [false, false, false, false, false, false] L, st, h) := rfl
theorem j288_3 {L : qLV} {st : List Value} {h : qHp} : qJump PG 288 3 L st h = (288, K288_3, qMask [false, false, false, false, false, false] L, st, h) := rfl
theorem e289 {av : List Value} {h : qHp} : qEntry PG 289 av h = (289, K289_0, qPad 5 (qArgs av), [], h) := rfl
theorem j289_0 {L : qLV} {st : List Value} {h : qHp} : qJump PG 289 0 L st h = (289, K289_0, qMask [true, true, true, true, false] L, st, h) := rfl
theorem j289_1 {L : qLV} {st : List Value} {h : qHp} : qJump PG 289 1 L st h = (289, K289_1, qMask [false, false, false, false, false] L, st, h) := rfl
theorem j289_2 {L : qLV} {st : List Value} {h : qHp} : qJump PG 289 2 L st h = (289, K289_2, qMask [false, false, false, false, false] L, st, h) := rfl
theorem j289_3 {L : qLV} {st : List Value} {h : qHp} : qJump PG 289 3 L st h = (289, K289_3, qMask [false, false, false, false, false] L, st, h) := rfl
theorem e290 {av : List Value} {h : qHp} : qEntry PG 290 av h = (290, K290_0, qPad 6 (qArgs av), [], h) := rfl
theorem j290_0 {L : qLV} {st : List Value} {h : qHp} : qJump PG 290 0 L st h = (290, K290_0, qMask [true, true, true, true, true, false] L, st, h) := rfl
theorem j290_1 {L : qLV} {st : List Value} {h : qHp} : qJump PG 290 1 L st h = (290, K290_1, qMask [false, false, false, false, false, false] L, st, h) := rfl
theorem j290_2 {L : qLV} {st : List Value} {h : qHp} : qJump PG 290 2 L st h = (290, K290_2, qMask [false, false, false, false, false, false] L, st, h) := rfl
theorem j290_3 {L : qLV} {st : List Value} {h : qHp} : qJump PG 290 3 L st h = (290, K290_3, qMask [false, false, false, false, false, false] L, st, h) := rfl
theorem e291 {av : List Value} {h : qHp} : qEntry PG 291 av h = (291, K291_0, qPad 5 (qArgs av), [], h) := rfl
theorem j291_0 {L : qLV} {st : List Value} {h : qHp} : qJump PG 291 0 L st h = (291, K291_0, qMask [true, true, true, true, false] L, st, h) := rfl
theorem j291_1 {L : qLV} {st : List Value} {h : qHp} : qJump PG 291 1 L st h = (291, K291_1, qMask [false, false, false, false, false] L, st, h) := rfl
theorem j291_2 {L : qLV} {st : List Value} {h : qHp} : qJump PG 291 2 L st h = (291, K291_2, qMask [false, false, false, false, false] L, st, h) := rfl
theorem j291_3 {L : qLV} {st : List Value} {h : qHp} : qJump PG 291 3 L st h = (291, K291_3, qMask [false, false, false, false, false] L, st, h) := rfl
theorem e292 {av : List Value} {h : qHp} : qEntry PG 292 av h = (292, K292_0, qPad 5 (qArgs av), [], h) := rfl
theorem j292_0 {L : qLV} {st : List Value} {h : qHp} : qJump PG 292 0 L st h = (292, K292_0, qMask [true, true, true, true, false] L, st, h) := rfl
theorem j292_1 {L : qLV} {st : List Value} {h : qHp} : qJump PG 292 1 L st h = (292, K292_1, qMask [false, false, false, false, false] L, st, h) := rfl
theorem j292_2 {L : qLV} {st : List Value} {h : qHp} : qJump PG 292 2 L st h = (292, K292_2, qMask [false, false, false, false, false] L, st, h) := rfl
theorem j292_3 {L : qLV} {st : List Value} {h : qHp} : qJump PG 292 3 L st h = (292, K292_3, qMask [false, false, false, false, false] L, st, h) := rfl
theorem e293 {av : List Value} {h : qHp} : qEntry PG 293 av h = (293, K293_0, qPad 6 (qArgs av), [], h) := rfl
theorem j293_0 {L : qLV} {st : List Value} {h : qHp} : qJump PG 293 0 L st h = (293, K293_0, qMask [true, true, true, true, true, false] L, st, h) := rfl
theorem j293_1 {L : qLV} {st : List Value} {h : qHp} : qJump PG 293 1 L st h = (293, K293_1, qMask [false, false, false, false, false, false] L, st, h) := rfl
theorem j293_2 {L : qLV} {st : List Value} {h : qHp} : qJump PG 293 2 L st h = (293, K293_2, qMask [false, false, false, false, false, false] L, st, h) := rfl
theorem j293_3 {L : qLV} {st : List Value} {h : qHp} : qJump PG 293 3 L st h = (293, K293_3, qMask [false, false, false, false, false, false] L, st, h) := rfl
theorem e294 {av : List Value} {h : qHp} : qEntry PG 294 av h = (294, K294_0, qPad 5 (qArgs av), [], h) := rfl
theorem j294_0 {L : qLV} {st : List Value} {h : qHp} : qJump PG 294 0 L st h = (294, K294_0, qMask [true, true, true, true, false] L, st, h) := rfl
theorem j294_1 {L : qLV} {st : List Value} {h : qHp} : qJump PG 294 1 L st h = (294, K294_1, qMask [false, false, false, false, false] L, st, h) := rfl
theorem j294_2 {L : qLV} {st : List Value} {h : qHp} : qJump PG 294 2 L st h = (294, K294_2, qMask [false, false, false, false, false] L, st, h) := rfl
theorem j294_3 {L : qLV} {st : List Value} {h : qHp} : qJump PG 294 3 L st h = (294, K294_3, qMask [false, false, false, false, false] L, st, h) := rfl
theorem e295 {av : List Value} {h : qHp} : qEntry PG 295 av h = (295, K295_0, qPad 8 (qArgs av), [], h) := rfl
theorem j295_0 {L : qLV} {st : List Value} {h : qHp} : qJump PG 295 0 L st h = (295, K295_0, qMask [true, true, true, true, true, true, true, false] L, st, h) := rfl
theorem j295_1 {L : qLV} {st : List Value} {h : qHp} : qJump PG 295 1 L st h = (295, K295_1, qMask [false, false, false, false, false, false, false, false] L, st, h) := rfl
theorem j295_2 {L : qLV} {st : List Value} {h : qHp} : qJump PG 295 2 L st h = (295, K295_2, qMask [false, false, false, false, false, false, false, false] L, st, h) := rfl
theorem j295_3 {L : qLV} {st : List Value} {h : qHp} : qJump PG 295 3 L st h = (295, K295_3, qMask [false, false, false, false, false, false, false, false] L, st, h) := rfl
theorem e296 {av : List Value} {h : qHp} : qEntry PG 296 av h = (296, K296_0, qPad 4 (qArgs av), [], h) := rfl
theorem j296_0 {L : qLV} {st : List Value} {h : qHp} : qJump PG 296 0 L st h = (296, K296_0, qMask [true, true, true, false] L, st, h) := rfl
theorem j296_1 {L : qLV} {st : List Value} {h : qHp} : qJump PG 296 1 L st h = (296, K296_1, qMask [false, false, false, false] L, st, h) := rfl
theorem j296_2 {L : qLV} {st : List Value} {h : qHp} : qJump PG 296 2 L st h = (296, K296_2, qMask [false, false, false, false] L, st, h) := rfl
theorem e297 {av : List Value} {h : qHp} : qEntry PG 297 av h = (297, K297_0, qPad 4 (qArgs av), [], h) := rfl
theorem j297_0 {L : qLV} {st : List Value} {h : qHp} : qJump PG 297 0 L st h = (297, K297_0, qMask [true, true, true, false] L, st, h) := rfl
theorem j297_1 {L : qLV} {st : List Value} {h : qHp} : qJump PG 297 1 L st h = (297, K297_1, qMask [false, false, false, false] L, st, h) := rfl
theorem j297_2 {L : qLV} {st : List Value} {h : qHp} : qJump PG 297 2 L st h = (297, K297_2, qMask [false, false, false, false] L, st, h) := rfl
theorem e298 {av : List Value} {h : qHp} : qEntry PG 298 av h = (298, K298_0, qPad 8 (qArgs av), [], h) := rfl
theorem j298_0 {L : qLV} {st : List Value} {h : qHp} : qJump PG 298 0 L st h = (298, K298_0, qMask [true, true, true, true, true, true, true, false] L, st, h) := rfl
theorem j298_1 {L : qLV} {st : List Value} {h : qHp} : qJump PG 298 1 L st h = (298, K298_1, qMask [false, false, false, false, false, false, false, false] L, st, h) := rfl
theorem j298_2 {L : qLV} {st : List Value} {h : qHp} : qJump PG 298 2 L st h = (298, K298_2, qMask [false, false, false, false, false, false, false, false] L, st, h) := rfl
theorem j298_3 {L : qLV} {st : List Value} {h : qHp} : qJump PG 298 3 L st h = (298, K298_3, qMask [false, false, false, false, false, false, false, false] L, st, h) := rfl
theorem e299 {av : List Value} {h : qHp} : qEntry PG 299 av h = (299, K299_0, qPad 7 (qArgs av), [], h) := rfl
theorem j299_0 {L : qLV} {st : List Value} {h : qHp} : qJump PG 299 0 L st h = (299, K299_0, qMask [true, true, true, true, true, true, false] L, st, h) := rfl
theorem j299_1 {L : qLV} {st : List Value} {h : qHp} : qJump PG 299 1 L st h = (299, K299_1, qMask [false, false, false, false, false, false, false] L, st, h) := rfl
theorem j299_2 {L : qLV} {st : List Value} {h : qHp} : qJump PG 299 2 L st h = (299, K299_2, qMask [false, false, false, false, false, false, false] L, st, h) := rfl
theorem j299_3 {L : qLV} {st : List Value} {h : qHp} : qJump PG 299 3 L st h = (299, K299_3, qMask [false, false, false, false, false, false, false] L, st, h) := rfl
theorem e300 {av : List Value} {h : qHp} : qEntry PG 300 av h = (300, K300_0, qPad 4 (qArgs av), [], h) := rfl
theorem j300_0 {L : qLV} {st : List Value} {h : qHp} : qJump PG 300 0 L st h = (300, K300_0, qMask [true, true, true, false] L, st, h) := rfl
theorem j300_1 {L : qLV} {st : List Value} {h : qHp} : qJump PG 300 1 L st h = (300, K300_1, qMask [false, false, false, false] L, st, h) := rfl
theorem j300_2 {L : qLV} {st : List Value} {h : qHp} : qJump PG 300 2 L st h = (300, K300_2, qMask [false, false, false, false] L, st, h) := rfl
theorem e301 {av : List Value} {h : qHp} : qEntry PG 301 av h = (301, K301_0, qPad 5 (qArgs av), [], h) := rfl
theorem j301_0 {L : qLV} {st : List Value} {h : qHp} : qJump PG 301 0 L st h = (301, K301_0, qMask [true, true, true, true, false] L, st, h) := rfl
theorem j301_1 {L : qLV} {st : List Value} {h : qHp} : qJump PG 301 1 L st h = (301, K301_1, qMask [false, false, false, false, false] L, st, h) := rfl
theorem j301_2 {L : qLV} {st : List Value} {h : qHp} : qJump PG 301 2 L st h = (301, K301_2, qMask [false, false, false, false, false] L, st, h) := rfl
theorem e302 {av : List Value} {h : qHp} : qEntry PG 302 av h = (302, K302_0, qPad 5 (qArgs av), [], h) := rfl
theorem j302_0 {L : qLV} {st : List Value} {h : qHp} : qJump PG 302 0 L st h = (302, K302_0, qMask [true, true, true, true, false] L, st, h) := rfl
theorem j302_1 {L : qLV} {st : List Value} {h : qHp} : qJump PG 302 1 L st h = (302, K302_1, qMask [false, false, false, false, false] L, st, h) := rfl
theorem j302_2 {L : qLV} {st : List Value} {h : qHp} : qJump PG 302 2 L st h = (302, K302_2, qMask [false, false, false, false, false] L, st, h) := rfl
theorem e303 {av : List Value} {h : qHp} : qEntry PG 303 av h = (303, K303_0, qPad 5 (qArgs av), [], h) := rfl
theorem j303_0 {L : qLV} {st : List Value} {h : qHp} : qJump PG 303 0 L st h = (303, K303_0, qMask [true, true, true, true, false] L, st, h) := rfl
theorem j303_1 {L : qLV} {st : List Value} {h : qHp} : qJump PG 303 1 L st h = (303, K303_1, qMask [false, false, false, false, false] L, st, h) := rfl
theorem j303_2 {L : qLV} {st : List Value} {h : qHp} : qJump PG 303 2 L st h = (303, K303_2, qMask [false, false, false, false, false] L, st, h) := rfl
theorem e304 {av : List Value} {h : qHp} : qEntry PG 304 av h = (304, K304_0, qPad 5 (qArgs av), [], h) := rfl
theorem j304_0 {L : qLV} {st : List Value} {h : qHp} : qJump PG 304 0 L st h = (304, K304_0, qMask [true, true, true, true, false] L, st, h) := rfl
theorem j304_1 {L : qLV} {st : List Value} {h : qHp} : qJump PG 304 1 L st h = (304, K304_1, qMask [false, false, false, false, false] L, st, h) := rfl
theorem j304_2 {L : qLV} {st : List Value} {h : qHp} : qJump PG 304 2 L st h = (304, K304_2, qMask [false, false, false, false, false] L, st, h) := rfl
theorem j304_3 {L : qLV} {st : List Value} {h : qHp} : qJump PG 304 3 L st h = (304, K304_3, qMask [false, false, false, false, false] L, st, h) := rfl
theorem e305 {av : List Value} {h : qHp} : qEntry PG 305 av h = (305, K305_0, qPad 5 (qArgs av), [], h) := rfl
theorem j305_0 {L : qLV} {st : List Value} {h : qHp} : qJump PG 305 0 L st h = (305, K305_0, qMask [true, true, true, true, false] L, st, h) := rfl
theorem j305_1 {L : qLV} {st : List Value} {h : qHp} : qJump PG 305 1 L st h = (305, K305_1, qMask [false, false, false, false, false] L, st, h) := rfl
theorem j305_2 {L : qLV} {st : List Value} {h : qHp} : qJump PG 305 2 L st h = (305, K305_2, qMask [false, false, false, false, false] L, st, h) := rfl
theorem j305_3 {L : qLV} {st : List Value} {h : qHp} : qJump PG 305 3 L st h = (305, K305_3, qMask [false, false, false, false, false] L, st, h) := rfl
theorem e306 {av : List Value} {h : qHp} : qEntry PG 306 av h = (306, K306_0, qPad 4 (qArgs av), [], h) := rfl
theorem j306_0 {L : qLV} {st : List Value} {h : qHp} : qJump PG 306 0 L st h = (306, K306_0, qMask [true, true, true, false] L, st, h) := rfl
theorem j306_1 {L : qLV} {st : List Value} {h : qHp} : qJump PG 306 1 L st h = (306, K306_1, qMask [false, false, false, false] L, st, h) := rfl
theorem j306_2 {L : qLV} {st : List Value} {h : qHp} : qJump PG 306 2 L st h = (306, K306_2, qMask [false, false, false, false] L, st, h) := rfl
theorem e307 {av : List Value} {h : qHp} : qEntry PG 307 av h = (307, K307_0, qPad 4 (qArgs av), [], h) := rfl
theorem j307_0 {L : qLV} {st : List Value} {h : qHp} : qJump PG 307 0 L st h = (307, K307_0, qMask [true, true, true, false] L, st, h) := rfl
theorem j307_1 {L : qLV} {st : List Value} {h : qHp} : qJump PG 307 1 L st h = (307, K307_1, qMask [false, false, false, false] L, st, h) := rfl
theorem j307_2 {L : qLV} {st : List Value} {h : qHp} : qJump PG 307 2 L st h = (307, K307_2, qMask [false, false, false, false] L, st, h) := rfl
theorem e308 {av : List Value} {h : qHp} : qEntry PG 308 av h = (308, K308_0, qPad 4 (qArgs av), [], h) := rfl
theorem j308_0 {L : qLV} {st : List Value} {h : qHp} : qJump PG 308 0 L st h = (308, K308_0, qMask [true, true, true, false] L, st, h) := rfl
theorem j308_1 {L : qLV} {st : List Value} {h : qHp} : qJump PG 308 1 L st h = (308, K308_1, qMask [false, false, false, false] L, st, h) := rfl
theorem j308_2 {L : qLV} {st : List Value} {h : qHp} : qJump PG 308 2 L st h = (308, K308_2, qMask [false, false, false, false] L, st, h) := rfl
theorem e309 {av : List Value} {h : qHp} : qEntry PG 309 av h = (309, K309_0, qPad 4 (qArgs av), [], h) := rfl
theorem j309_0 {L : qLV} {st : List Value} {h : qHp} : qJump PG 309 0 L st h = (309, K309_0, qMask [true, true, true, false] L, st, h) := rfl
theorem j309_1 {L : qLV} {st : List Value} {h : qHp} : qJump PG 309 1 L st h = (309, K309_1, qMask [false, false, false, false] L, st, h) := rfl
theorem j309_2 {L : qLV} {st : List Value} {h : qHp} : qJump PG 309 2 L st h = (309, K309_2, qMask [false, false, false, false] L, st, h) := rfl
theorem e310 {av : List Value} {h : qHp} : qEntry PG 310 av h = (310, K310_0, qPad 4 (qArgs av), [], h) := rfl
theorem j310_0 {L : qLV} {st : List Value} {h : qHp} : qJump PG 310 0 L st h = (310, K310_0, qMask [true, true, true, false] L, st, h) := rfl
theorem j310_1 {L : qLV} {st : List Value} {h : qHp} : qJump PG 310 1 L st h = (310, K310_1, qMask [false, false, false, false] L, st, h) := rfl
theorem j310_2 {L : qLV} {st : List Value} {h : qHp} : qJump PG 310 2 L st h = (310, K310_2, qMask [false, false, false, false] L, st, h) := rfl
theorem e311 {av : List Value} {h : qHp} : qEntry PG 311 av h = (311, K311_0, qPad 4 (qArgs av), [], h) := rfl
theorem j311_0 {L : qLV} {st : List Value} {h : qHp} : qJump PG 311 0 L st h = (311, K311_0, qMask [true, true, true, false] L, st, h) := rfl
theorem j311_1 {L : qLV} {st : List Value} {h : qHp} : qJump PG 311 1 L st h = (311, K311_1, qMask [false, false, false, false] L, st, h) := rfl
theorem j311_2 {L : qLV} {st : List Value} {h : qHp} : qJump PG 311 2 L st h = (311, K311_2, qMask [false, false, false, false] L, st, h) := rfl
theorem e312 {av : List Value} {h : qHp} : qEntry PG 312 av h = (312, K312_0, qPad 4 (qArgs av), [], h) := rfl
theorem j312_0 {L : qLV} {st : List Value} {h : qHp} : qJump PG 312 0 L st h = (312, K312_0, qMask [true, true, true, false] L, st, h) := rfl
theorem j312_1 {L : qLV} {st : List Value} {h : qHp} : qJump PG 312 1 L st h = (312, K312_1, qMask [false, false, false, false] L, st, h) := rfl
theorem j312_2 {L : qLV} {st : List Value} {h : qHp} : qJump PG 312 2 L st h = (312, K312_2, qMask [false, false, false, false] L, st, h) := rfl
theorem e313 {av : List Value} {h : qHp} : qEntry PG 313 av h = (313, K313_0, qPad 4 (qArgs av), [], h) := rfl
theorem j313_0 {L : qLV} {st : List Value} {h : qHp} : qJump PG 313 0 L st h = (313, K313_0, qMask [true, true, true, false] L, st, h) := rfl
theorem j313_1 {L : qLV} {st : List Value} {h : qHp} : qJump PG 313 1 L st h = (313, K313_1, qMask [false, false, false, false] L, st, h) := rfl
theorem j313_2 {L : qLV} {st : List Value} {h : qHp} : qJump PG 313 2 L st h = (313, K313_2, qMask [false, false, false, false] L, st, h) := rfl
theorem e314 {av : List Value} {h : qHp} : qEntry PG 314 av h = (314, K314_0, qPad 5 (qArgs av), [], h) := rfl
theorem j314_0 {L : qLV} {st : List Value} {h : qHp} : qJump PG 314 0 L st h = (314, K314_0, qMask [true, true, true, true, false] L, st, h) := rfl
theorem j314_1 {L : qLV} {st : List Value} {h : qHp} : qJump PG 314 1 L st h = (314, K314_1, qMask [false, false, false, false, false] L, st, h) := rfl
theorem j314_2 {L : qLV} {st : List Value} {h : qHp} : qJump PG 314 2 L st h = (314, K314_2, qMask [false, false, false, false, false] L, st, h) := rfl
theorem j314_3 {L : qLV} {st : List Value} {h : qHp} : qJump PG 314 3 L st h = (314, K314_3, qMask [false, false, false, false, false] L, st, h) := rfl
theorem e315 {av : List Value} {h : qHp} : qEntry PG 315 av h = (315, K315_0, qPad 5 (qArgs av), [], h) := rfl
theorem j315_0 {L : qLV} {st : List Value} {h : qHp} : qJump PG 315 0 L st h = (315, K315_0, qMask [true, true, true, true, false] L, st, h) := rfl
theorem j315_1 {L : qLV} {st : List Value} {h : qHp} : qJump PG 315 1 L st h = (315, K315_1, qMask [false, false, false, false, false] L, st, h) := rfl
theorem j315_2 {L : qLV} {st : List Value} {h : qHp} : qJump PG 315 2 L st h = (315, K315_2, qMask [false, false, false, false, false] L, st, h) := rfl
theorem e316 {av : List Value} {h : qHp} : qEntry PG 316 av h = (316, K316_0, qPad 4 (qArgs av), [], h) := rfl
theorem j316_0 {L : qLV} {st : List Value} {h : qHp} : qJump PG 316 0 L st h = (316, K316_0, qMask [true, true, true, false] L, st, h) := rfl
theorem j316_1 {L : qLV} {st : List Value} {h : qHp} : qJump PG 316 1 L st h = (316, K316_1, qMask [false, false, false, false] L, st, h) := rfl
theorem j316_2 {L : qLV} {st : List Value} {h : qHp} : qJump PG 316 2 L st h = (316, K316_2, qMask [false, false, false, false] L, st, h) := rfl
theorem e317 {av : List Value} {h : qHp} : qEntry PG 317 av h = (317, K317_0, qPad 4 (qArgs av), [], h) := rfl
theorem j317_0 {L : qLV} {st : List Value} {h : qHp} : qJump PG 317 0 L st h = (317, K317_0, qMask [true, true, true, false] L, st, h) := rfl
theorem j317_1 {L : qLV} {st : List Value} {h : qHp} : qJump PG 317 1 L st h = (317, K317_1, qMask [false, false, false, false] L, st, h) := rfl
theorem j317_2 {L : qLV} {st : List Value} {h : qHp} : qJump PG 317 2 L st h = (317, K317_2, qMask [false, false, false, false] L, st, h) := rfl
theorem e318 {av : List Value} {h : qHp} : qEntry PG 318 av h = (318, K318_0, qPad 9 (qArgs av), [], h) := rfl
theorem j318_0 {L : qLV} {st : List Value} {h : qHp} : qJump PG 318 0 L st h = (318, K318_0, qMask [true, false, false, false, false, false, false, false, false] L, st, h) := rfl
theorem j318_1 {L : qLV} {st : List Value} {h : qHp} : qJump PG 318 1 L st h = (318, K318_1, qMask [true, true, true, true, true, true, false, false, false] L, st, h) := rfl
theorem j318_2 {L : qLV} {st : List Value} {h : qHp} : qJump PG 318 2 L st h = (318, K318_2, qMask [true, true, true, true, true, true, false, false, false] L, st, h) := rfl
theorem j318_3 {L : qLV} {st : List Value} {h : qHp} : qJump PG 318 3 L st h = (318, K318_3, qMask [true, true, true, true, true, true, false, false, false] L, st, h) := rfl
theorem j318_4 {L : qLV} {st : List Value} {h : qHp} : qJump PG 318 4 L st h = (318, K318_4, qMask [true, true, true, true, true, true, false, false, false] L, st, h) := rfl
theorem j318_5 {L : qLV} {st : List Value} {h : qHp} : qJump PG 318 5 L st h = (318, K318_5, qMask [true, true, true, true, true, true, false, false, false] L, st, h) := rfl
theorem j318_6 {L : qLV} {st : List Value} {h : qHp} : qJump PG 318 6 L st h = (318, K318_6, qMask [true, true, true, true, true, true, false, false, false] L, st, h) := rfl
theorem j318_7 {L : qLV} {st : List Value} {h : qHp} : qJump PG 318 7 L st h = (318, K318_7, qMask [true, true, true, true, true, true, true, true, false] L, st, h) := rfl
theorem j318_8 {L : qLV} {st : List Value} {h : qHp} : qJump PG 318 8 L st h = (318, K318_8, qMask [true, true, true, true, true, true, false, false, false] L, st, h) := rfl
theorem j318_9 {L : qLV} {st : List Value} {h : qHp} : qJump PG 318 9 L st h = (318, K318_9, qMask [true, true, true, true, true, true, false, false, false] L, st, h) := rfl
theorem j318_10 {L : qLV} {st : List Value} {h : qHp} : qJump PG 318 10 L st h = (318, K318_10, qMask [true, true, true, true, true, true, false, false, false] L, st, h) := rfl
theorem j318_11 {L : qLV} {st : List Value} {h : qHp} : qJump PG 318 11 L st h = (318, K318_11, qMask [true, true, true, true, true, true, false, false, false] L, st, h) := rfl
theorem j318_12 {L : qLV} {st : List Value} {h : qHp} : qJump PG 318 12 L st h = (318, K318_12, qMask [true, true, true, true, true, true, true, true, false] L, st, h) := rfl
theorem j318_13 {L : qLV} {st : List Value} {h : qHp} : qJump PG 318 13 L st h = (318, K318_13, qMask [true, true, true, true, true, true, false, false, false] L, st, h) := rfl
theorem j318_14 {L : qLV} {st : List Value} {h : qHp} : qJump PG 318 14 L st h = (318, K318_14, qMask [true, true, true, true, true, true, false, false, false] L, st, h) := rfl
theorem j318_15 {L : qLV} {st : List Value} {h : qHp} : qJump PG 318 15 L st h = (318, K318_15, qMask [true, true, true, true, true, true, true, true, false] L, st, h) := rfl
theorem j318_16 {L : qLV} {st : List Value} {h : qHp} : qJump PG 318 16 L st h = (318, K318_16, qMask [true, true, true, true, true, true, false, false, false] L, st, h) := rfl
theorem j318_17 {L : qLV} {st : List Value} {h : qHp} : qJump PG 318 17 L st h = (318, K318_17, qMask [true, true, true, true, true, true, false, false, false] L, st, h) := rfl
theorem j318_18 {L : qLV} {st : List Value} {h : qHp} : qJump PG 318 18 L st h = (318, K318_18, qMask [true, true, true, true, true, true, true, true, false] L, st, h) := rfl
theorem j318_19 {L : qLV} {st : List Value} {h : qHp} : qJump PG 318 19 L st h = (318, K318_19, qMask [true, true, true, true, true, true, false, false, false] L, st, h) := rfl
theorem j318_20 {L : qLV} {st : List Value} {h : qHp} : qJump PG 318 20 L st h = (318, K318_20, qMask [true, true, true, true, true, true, false, false, false] L, st, h) := rfl
theorem j318_21 {L : qLV} {st : List Value} {h : qHp} : qJump PG 318 21 L st h = (318, K318_21, qMask [true, true, true, true, true, true, true, true, false] L, st, h) := rfl
theorem j318_22 {L : qLV} {st : List Value} {h : qHp} : qJump PG 318 22 L st h = (318, K318_22, qMask [true, true, true, true, true, true, false, false, false] L, st, h) := rfl
theorem j318_23 {L : qLV} {st : List Value} {h : qHp} : qJump PG 318 23 L st h = (318, K318_23, qMask [true, true, true, true, true, true, false, false, false] L, st, h) := rfl
theorem j318_24 {L : qLV} {st : List Value} {h : qHp} : qJump PG 318 24 L st h = (318, K318_24, qMask [true, true, true, true, true, true, true, true, false] L, st, h) := rfl
theorem j318_25 {L : qLV} {st : List Value} {h : qHp} : qJump PG 318 25 L st h = (318, K318_25, qMask [true, true, true, true, true, true, false, false, false] L, st, h) := rfl
theorem j318_26 {L : qLV} {st : List Value} {h : qHp} : qJump PG 318 26 L st h = (318, K318_26, qMask [true, true, true, true, true, true, false, false, false] L, st, h) := rfl
theorem j318_27 {L : qLV} {st : List Value} {h : qHp} : qJump PG 318 27 L st h = (318, K318_27, qMask [true, true, true, true, true, true, true, true, false] L, st, h) := rfl
theorem j318_28 {L : qLV} {st : List Value} {h : qHp} : qJump PG 318 28 L st h = (318, K318_28, qMask [true, true, true, true, true, true, false, false, false] L, st, h) := rfl
theorem j318_29 {L : qLV} {st : List Value} {h : qHp} : qJump PG 318 29 L st h = (318, K318_29, qMask [true, true, true, true, true, true, false, false, false] L, st, h) := rfl
theorem j318_30 {L : qLV} {st : List Value} {h : qHp} : qJump PG 318 30 L st h = (318, K318_30, qMask [true, true, true, true, true, true, true, true, false] L, st, h) := rfl
theorem j318_31 {L : qLV} {st : List Value} {h : qHp} : qJump PG 318 31 L st h = (318, K318_31, qMask [true, true, true, true, true, true, false, false, false] L, st, h) := rfl
theorem j318_32 {L : qLV} {st : List Value} {h : qHp} : qJump PG 318 32 L st h = (318, K318_32, qMask [true, true, true, true, true, true, false, false, false] L, st, h) := rfl
theorem j318_33 {L : qLV} {st : List Value} {h : qHp} : qJump PG 318 33 L st h = (318, K318_33, qMask [true, true, true, true, true, true, true, true, false] L, st, h) := rfl
theorem j318_34 {L : qLV} {st : List Value} {h : qHp} : qJump PG 318 34 L st h = (318, K318_34, qMask [true, true, true, true, true, true, false, false, false] L, st, h) := rfl
theorem j318_35 {L : qLV} {st : List Value} {h : qHp} : qJump PG 318 35 L st h = (318, K318_35, qMask [true, true, true, true, true, true, false, false, false] L, st, h) := rfl
theorem j318_36 {L : qLV} {st : List Value} {h : qHp} : qJump PG 318 36 L st h = (318, K318_36, qMask [true, true, true, true, true, true, false, false, false] L, st, h) := rfl
theorem j318_37 {L : qLV} {st : List Value} {h : qHp} : qJump PG 318 37 L st h = (318, K318_37, qMask [true, true, true, true, true, true, true, true, false] L, st, h) := rfl
theorem j318_38 {L : qLV} {st : List Value} {h : qHp} : qJump PG 318 38 L st h = (318, K318_38, qMask [true, true, true, true, true, true, false, false, false] L, st, h) := rfl
theorem j318_39 {L : qLV} {st : List Value} {h : qHp} : qJump PG 318 39 L st h = (318, K318_39, qMask [true, true, true, true, true, true, false, false, false] L, st, h) := rfl
theorem j318_40 {L : qLV} {st : List Value} {h : qHp} : qJump PG 318 40 L st h = (318, K318_40, qMask [true, true, true, true, true, true, false, false, false] L, st, h) := rfl
theorem j318_41 {L : qLV} {st : List Value} {h : qHp} : qJump PG 318 41 L st h = (318, K318_41, qMask [true, true, true, true, true, true, true, true, false] L, st, h) := rfl
theorem j318_42 {L : qLV} {st : List Value} {h : qHp} : qJump PG 318 42 L st h = (318, K318_42, qMask [true, true, true, true, true, true, false, false, false] L, st, h) := rfl
theorem j318_43 {L : qLV} {st : List Value} {h : qHp} : qJump PG 318 43 L st h = (318, K318_43, qMask [true, true, true, true, true, true, false, false, false] L, st, h) := rfl
theorem j318_44 {L : qLV} {st : List Value} {h : qHp} : qJump PG 318 44 L st h = (318, K318_44, qMask [true, true, true, true, true, true, true, true, false] L, st, h) := rfl
theorem j318_45 {L : qLV} {st : List Value} {h : qHp} : qJump PG 318 45 L st h = (318, K318_45, qMask [true, true, true, true, true, true, false, false, false] L, st, h) := rfl
theorem j318_46 {L : qLV} {st : List Value} {h : qHp} : qJump PG 318 46 L st h = (318, K318_46, qMask [true, true, true, true, true, true, false, false, false] L, st, h) := rfl
theorem j318_47 {L : qLV} {st : List Value} {h : qHp} : qJump PG 318 47 L st h = (318, K318_47, qMask [true, true, true, true, true, true, true, true, false] L, st, h) := rfl
theorem j318_48 {L : qLV} {st : List Value} {h : qHp} : qJump PG 318 48 L st h = (318, K318_48, qMask [true, true, true, true, true, true, false, false, false] L, st, h) := rfl
theorem j318_49 {L : qLV} {st : List Value} {h : qHp} : qJump PG 318 49 L st h = (318, K318_49, qMask [true, true, true, true, true, true, false, false, false] L, st, h) := rfl
theorem j318_50 {L : qLV} {st : List Value} {h : qHp} : qJump PG 318 50 L st h = (318, K318_50, qMask [true, true, true, true, true, true, true, true, false] L, st, h) := rfl
theorem j318_51 {L : qLV} {st : List Value} {h : qHp} : qJump PG 318 51 L st h = (318, K318_51, qMask [true, true, true, true, true, true, false, false, false] L, st, h) := rfl
theorem j318_52 {L : qLV} {st : List Value} {h : qHp} : qJump PG 318 52 L st h = (318, K318_52, qMask [true, true, true, true, true, true, false, false, false] L, st, h) := rfl
theorem j318_53 {L : qLV} {st : List Value} {h : qHp} : qJump PG 318 53 L st h = (318, K318_53, qMask [true, true, true, true, true, true, true, true, false] L, st, h) := rfl
theorem j318_54 {L : qLV} {st : List Value} {h : qHp} : qJump PG 318 54 L st h = (318, K318_54, qMask [true, true, true, true, true, true, false, false, false] L, st, h) := rfl
theorem j318_55 {L : qLV} {st : List Value} {h : qHp} : qJump PG 318 55 L st h = (318, K318_55, qMask [true, true, true, true, true, true, false, false, false] L, st, h) := rfl
theorem j318_56 {L : qLV} {st : List Value} {h : qHp} : qJump PG 318 56 L st h = (318, K318_56, qMask [true, true, true, true, true, true, true, true, false] L, st, h) := rfl
theorem j318_57 {L : qLV} {st : List Value} {h : qHp} : qJump PG 318 57 L st h = (318, K318_57, qMask [true, true, true, true, true, true, false, false, false] L, st, h) := rfl
theorem j318_58 {L : qLV} {st : List Value} {h : qHp} : qJump PG 318 58 L st h = (318, K318_58, qMask [true, true, true, true, true, true, false, false, false] L, st, h) := rfl
theorem j318_59 {L : qLV} {st : List Value} {h : qHp} : qJump PG 318 59 L st h = (318, K318_59, qMask [true, true, true, true, true, true, true, true, false] L, st, h) := rfl
theorem j318_60 {L : qLV} {st : List Value} {h : qHp} : qJump PG 318 60 L st h = (318, K318_60, qMask [true, true, true, true, true, true, false, false, false] L, st, h) := rfl
theorem j318_61 {L : qLV} {st : List Value} {h : qHp} : qJump PG 318 61 L st h = (318, K318_61, qMask [true, true, true, true, true, true, false, false, false] L, st, h) := rfl
theorem j318_62 {L : qLV} {st : List Value} {h : qHp} : qJump PG 318 62 L st h = (318, K318_62, qMask [true, true, true, true, true, true, true, true, false] L, st, h) := rfl
theorem j318_63 {L : qLV} {st : List Value} {h : qHp} : qJump PG 318 63 L st h = (318, K318_63, qMask [true, true, true, true, true, true, false, false, false] L, st, h) := rfl
theorem j318_64 {L : qLV} {st : List Value} {h : qHp} : qJump PG 318 64 L st h = (318, K318_64, qMask [true, true, true, true, true, true, false, false, false] L, st, h) := rfl
theorem j318_65 {L : qLV} {st : List Value} {h : qHp} : qJump PG 318 65 L st h = (318, K318_65, qMask [true, true, true, true, true, true, true, true, false] L, st, h) := rfl
theorem j318_66 {L : qLV} {st : List Value} {h : qHp} : qJump PG 318 66 L st h = (318, K318_66, qMask [true, true, true, true, true, true, false, false, false] L, st, h) := rfl
theorem j318_67 {L : qLV} {st : List Value} {h : qHp} : qJump PG 318 67 L st h = (318, K318_67, qMask [true, true, true, true, true, true, false, false, false] L, st, h) := rfl
theorem j318_68 {L : qLV} {st : List Value} {h : qHp} : qJump PG 318 68 L st h = (318, K318_68, qMask [true, true, true, true, true, true, true, true, false] L, st, h) := rfl
theorem j318_69 {L : qLV} {st : List Value} {h : qHp} : qJump PG 318 69 L st h = (318, K318_69, qMask [true, true, true, true, true, true, false, false, false] L, st, h) := rfl
theorem j318_70 {L : qLV} {st : List Value} {h : qHp} : qJump PG 318 70 L st h = (318, K318_70, qMask [true, true, true, true, true, true, false, false, false] L, st, h) := rfl
theorem j318_71 {L : qLV} {st : List Value} {h : qHp} : qJump PG 318 71 L st h = (318, K318_71, qMask [true, true, true, true, true, true, true, true, false] L, st, h) := rfl
theorem j318_72 {L : qLV} {st : List Value} {h : qHp} : qJump PG 318 72 L st h = (318, K318_72, qMask [true, true, true, true, true, true, false, false, false] L, st, h) := rfl
theorem j318_73 {L : qLV} {st : List Value} {h : qHp} : qJump PG 318 73 L st h = (318, K318_73, qMask [true, true, true, true, true, true, false, false, false] L, st, h) := rfl
theorem j318_74 {L : qLV} {st : List Value} {h : qHp} : qJump PG 318 74 L st h = (318, K318_74, qMask [true, true, true, true, true, true, true, true, false] L, st, h) := rfl
theorem j318_75 {L : qLV} {st : List Value} {h : qHp} : qJump PG 318 75 L st h = (318, K318_75, qMask [true, true, true, true, true, true, false, false, false] L, st, h) := rfl
theorem j318_76 {L : qLV} {st : List Value} {h : qHp} : qJump PG 318 76 L st h = (318, K318_76, qMask [true, true, true, true, true, true, false, false, false] L, st, h) := rfl
theorem j318_77 {L : qLV} {st : List Value} {h : qHp} : qJump PG 318 77 L st h = (318, K318_77, qMask [true, true, true, true, true, true, true, true, false] L, st, h) := rfl
theorem j318_78 {L : qLV} {st : List Value} {h : qHp} : qJump PG 318 78 L st h = (318, K318_78, qMask [true, true, true, true, true, true, false, false, false] L, st, h) := rfl
theorem j318_79 {L : qLV} {st : List Value} {h : qHp} : qJump PG 318 79 L st h = (318, K318_79, qMask [true, true, true, true, true, true, false, false, false] L, st, h) := rfl
theorem j318_80 {L : qLV} {st : List Value} {h : qHp} : qJump PG 318 80 L st h = (318, K318_80, qMask [true, true, true, true, true, true, true, true, false] L, st, h) := rfl
theorem j318_81 {L : qLV} {st : List Value} {h : qHp} : qJump PG 318 81 L st h = (318, K318_81, qMask [true, true, true, true, true, true, false, false, false] L, st, h) := rfl
theorem j318_82 {L : qLV} {st : List Value} {h : qHp} : qJump PG 318 82 L st h = (318, K318_82, qMask [true, true, true, true, true, true, false, false, false] L, st, h) := rfl
theorem j318_83 {L : qLV} {st : List Value} {h : qHp} : qJump PG 318 83 L st h = (318, K318_83, qMask [true, true, true, true, true, true, false, false, false] L, st, h) := rfl
theorem j318_84 {L : qLV} {st : List Value} {h : qHp} : qJump PG 318 84 L st h = (318, K318_84, qMask [true, true, true, true, true, true, true, true, false] L, st, h) := rfl
theorem j318_85 {L : qLV} {st : List Value} {h : qHp} : qJump PG 318 85 L st h = (318, K318_85, qMask [true, true, true, true, true, true, false, false, false] L, st, h) := rfl
theorem j318_86 {L : qLV} {st : List Value} {h : qHp} : qJump PG 318 86 L st h = (318, K318_86, qMask [true, true, true, true, true, true, false, false, false] L, st, h) := rfl
theorem j318_87 {L : qLV} {st : List Value} {h : qHp} : qJump PG 318 87 L st h = (318, K318_87, qMask [true, true, true, true, true, true, false, false, false] L, st, h) := rfl
theorem j318_88 {L : qLV} {st : List Value} {h : qHp} : qJump PG 318 88 L st h = (318, K318_88, qMask [true, true, true, true, true, true, true, true, false] L, st, h) := rfl
theorem j318_89 {L : qLV} {st : List Value} {h : qHp} : qJump PG 318 89 L st h = (318, K318_89, qMask [true, true, true, true, true, true, false, false, false] L, st, h) := rfl
theorem j318_90 {L : qLV} {st : List Value} {h : qHp} : qJump PG 318 90 L st h = (318, K318_90, qMask [true, true, true, true, true, true, false, false, false] L, st, h) := rfl
theorem j318_91 {L : qLV} {st : List Value} {h : qHp} : qJump PG 318 91 L st h = (318, K318_91, qMask [true, true, true, true, true, true, true, true, false] L, st, h) := rfl
theorem j318_92 {L : qLV} {st : List Value} {h : qHp} : qJump PG 318 92 L st h = (318, K318_92, qMask [true, true, true, true, true, true, false, false, false] L, st, h) := rfl
theorem j318_93 {L : qLV} {st : List Value} {h : qHp} : qJump PG 318 93 L st h = (318, K318_93, qMask [true, true, true, true, true, true, false, false, false] L, st, h) := rfl
theorem j318_94 {L : qLV} {st : List Value} {h : qHp} : qJump PG 318 94 L st h = (318, K318_94, qMask [true, true, true, true, true, true, true, true, false] L, st, h) := rfl
theorem j318_95 {L : qLV} {st : List Value} {h : qHp} : qJump PG 318 95 L st h = (318, K318_95, qMask [true, true, true, true, true, true, false, false, false] L, st, h) := rfl
theorem j318_96 {L : qLV} {st : List Value} {h : qHp} : qJump PG 318 96 L st h = (318, K318_96, qMask [true, true, true, true, true, true, false, false, false] L, st, h) := rfl
theorem j318_97 {L : qLV} {st : List Value} {h : qHp} : qJump PG 318 97 L st h = (318, K318_97, qMask [true, true, true, true, true, true, true, true, false] L, st, h) := rfl
theorem j318_98 {L : qLV} {st : List Value} {h : qHp} : qJump PG 318 98 L st h = (318, K318_98, qMask [true, true, true, true, true, true, false, false, false] L, st, h) := rfl
theorem j318_99 {L : qLV} {st : List Value} {h : qHp} : qJump PG 318 99 L st h = (318, K318_99, qMask [true, true, true, true, true, true, false, false, false] L, st, h) := rfl
theorem j318_100 {L : qLV} {st : List Value} {h : qHp} : qJump PG 318 100 L st h = (318, K318_100, qMask [true, true, true, true, true, true, true, true, false] L, st, h) := rfl
theorem j318_101 {L : qLV} {st : List Value} {h : qHp} : qJump PG 318 101 L st h = (318, K318_101, qMask [true, true, true, true, true, true, false, false, false] L, st, h) := rfl
theorem j318_102 {L : qLV} {st : List Value} {h : qHp} : qJump PG 318 102 L st h = (318, K318_102, qMask [true, true, true, true, true, true, false, false, false] L, st, h) := rfl
theorem j318_103 {L : qLV} {st : List Value} {h : qHp} : qJump PG 318 103 L st h = (318, K318_103, qMask [true, true, true, true, true, true, true, true, false] L, st, h) := rfl
theorem j318_104 {L : qLV} {st : List Value} {h : qHp} : qJump PG 318 104 L st h = (318, K318_104, qMask [true, true, true, true, true, true, false, false, false] L, st, h) := rfl
theorem j318_105 {L : qLV} {st : List Value} {h : qHp} : qJump PG 318 105 L st h = (318, K318_105, qMask [true, true, true, true, true, true, false, false, false] L, st, h) := rfl
theorem j318_106 {L : qLV} {st : List Value} {h : qHp} : qJump PG 318 106 L st h = (318, K318_106, qMask [true, true, true, true, true, true, true, true, false] L, st, h) := rfl
theorem j318_107 {L : qLV} {st : List Value} {h : qHp} : qJump PG 318 107 L st h = (318, K318_107, qMask [true, true, true, true, true, true, false, false, false] L, st, h) := rfl
theorem j318_108 {L : qLV} {st : List Value} {h : qHp} : qJump PG 318 108 L st h = (318, K318_108, qMask [true, true, true, true, true, true, false, false, false] L, st, h) := rfl
theorem j318_109 {L : qLV} {st : List Value} {h : qHp} : qJump PG 318 109 L st h = (318, K318_109, qMask [true, true, true, true, true, true, true, true, false] L, st, h) := rfl
theorem j318_110 {L : qLV} {st : List Value} {h : qHp} : qJump PG 318 110 L st h = (318, K318_110, qMask [true, true, true, true, true, true, false, false, false] L, st, h) := rfl
theorem j318_111 {L : qLV} {st : List Value} {h : qHp} : qJump PG 318 111 L st h = (318, K318_111, qMask [true, true, true, true, true, true, false, false, false] L, st, h) := rfl
theorem j318_112 {L : qLV} {st : List Value} {h : qHp} : qJump PG 318 112 L st h = (318, K318_112, qMask [true, true, true, true, true, true, true, true, false] L, st, h) := rfl
theorem j318_113 {L : qLV} {st : List Value} {h : qHp} : qJump PG 318 113 L st h = (318, K318_113, qMask [true, true, true, true, true, true, false, false, false] L, st, h) := rfl
theorem j318_114 {L : qLV} {st : List Value} {h : qHp} : qJump PG 318 114 L st h = (318, K318_114, qMask [true, true, true, true, true, true, false, false, false] L, st, h) := rfl
theorem j318_115 {L : qLV} {st : List Value} {h : qHp} : qJump PG 318 115 L st h = (318, K318_115, qMask [true, true, true, true, true, true, true, true, false] L, st, h) := rfl
theorem j318_116 {L : qLV} {st : List Value} {h : qHp} : qJump PG 318 116 L st h = (318, K318_116, qMask [false, false, false, false, false, false, false, false, false] L, st, h) := rfl
theorem j318_117 {L : qLV} {st : List Value} {h : qHp} : qJump PG 318 117 L st h = (318, K318_117, qMask [true, true, true, true, true, true, false, false, false] L, st, h) := rfl
theorem j318_118 {L : qLV} {st : List Value} {h : qHp} : qJump PG 318 118 L st h = (318, K318_118, qMask [true, true, true, true, true, true, false, false, false] L, st, h) := rfl
theorem j318_119 {L : qLV} {st : List Value} {h : qHp} : qJump PG 318 119 L st h = (318, K318_119, qMask [true, true, true, true, true, true, true, true, false] L, st, h) := rfl
theorem j318_120 {L : qLV} {st : List Value} {h : qHp} : qJump PG 318 120 L st h = (318, K318_120, qMask [false, false, false, false, false, false, false, false, false] L, st, h) := rfl
theorem j318_121 {L : qLV} {st : List Value} {h : qHp} : qJump PG 318 121 L st h = (318, K318_121, qMask [true, true, true, true, true, true, false, false, false] L, st, h) := rfl
theorem j318_122 {L : qLV} {st : List Value} {h : qHp} : qJump PG 318 122 L st h = (318, K318_122, qMask [true, true, true, true, true, true, false, false, false] L, st, h) := rfl
theorem j318_123 {L : qLV} {st : List Value} {h : qHp} : qJump PG 318 123 L st h = (318, K318_123, qMask [true, true, true, true, true, true, true, true, false] L, st, h) := rfl
theorem j318_124 {L : qLV} {st : List Value} {h : qHp} : qJump PG 318 124 L st h = (318, K318_124, qMask [true, true, true, true, true, true, false, false, false] L, st, h) := rfl
theorem j318_125 {L : qLV} {st : List Value} {h : qHp} : qJump PG 318 125 L st h = (318, K318_125, qMask [true, true, true, true, true, true, false, false, false] L, st, h) := rfl
theorem j318_126 {L : qLV} {st : List Value} {h : qHp} : qJump PG 318 126 L st h = (318, K318_126, qMask [true, true, true, true, true, true, false, false, false] L, st, h) := rfl
theorem j318_127 {L : qLV} {st : List Value} {h : qHp} : qJump PG 318 127 L st h = (318, K318_127, qMask [true, true, true, true, true, true, true, true, false] L, st, h) := rfl
theorem j318_128 {L : qLV} {st : List Value} {h : qHp} : qJump PG 318 128 L st h = (318, K318_128, qMask [true, true, true, true, true, true, false, false, false] L, st, h) := rfl
theorem j318_129 {L : qLV} {st : List Value} {h : qHp} : qJump PG 318 129 L st h = (318, K318_129, qMask [true, true, true, true, true, true, false, false, false] L, st, h) := rfl
theorem j318_130 {L : qLV} {st : List Value} {h : qHp} : qJump PG 318 130 L st h = (318, K318_130, qMask [true, true, true, true, true, true, false, false, false] L, st, h) := rfl
theorem j318_131 {L : qLV} {st : List Value} {h : qHp} : qJump PG 318 131 L st h = (318, K318_131, qMask [true, true, true, true, true, true, true, true, false] L, st, h) := rfl
theorem j318_132 {L : qLV} {st : List Value} {h : qHp} : qJump PG 318 132 L st h = (318, K318_132, qMask [true, true, true, true, true, true, false, false, false] L, st, h) := rfl
theorem j318_133 {L : qLV} {st : List Value} {h : qHp} : qJump PG 318 133 L st h = (318, K318_133, qMask [true, true, true, true, true, true, false, false, false] L, st, h) := rfl
theorem j318_134 {L : qLV} {st : List Value} {h : qHp} : qJump PG 318 134 L st h = (318, K318_134, qMask [true, true, true, true, true, true, true, true, false] L, st, h) := rfl
theorem j318_135 {L : qLV} {st : List Value} {h : qHp} : qJump PG 318 135 L st h = (318, K318_135, qMask [true, true, true, true, true, true, false, false, false] L, st, h) := rfl
theorem j318_136 {L : qLV} {st : List Value} {h : qHp} : qJump PG 318 136 L st h = (318, K318_136, qMask [true, true, true, true, true, true, false, false, false] L, st, h) := rfl
theorem j318_137 {L : qLV} {st : List Value} {h : qHp} : qJump PG 318 137 L st h = (318, K318_137, qMask [true, true, true, true, true, true, true, true, false] L, st, h) := rfl
theorem j318_138 {L : qLV} {st : List Value} {h : qHp} : qJump PG 318 138 L st h = (318, K318_138, qMask [true, true, true, true, true, true, false, false, false] L, st, h) := rfl
theorem j318_139 {L : qLV} {st : List Value} {h : qHp} : qJump PG 318 139 L st h = (318, K318_139, qMask [true, true, true, true, true, true, false, false, false] L, st, h) := rfl
theorem j318_140 {L : qLV} {st : List Value} {h : qHp} : qJump PG 318 140 L st h = (318, K318_140, qMask [false, false, false, false, false, false, false, false, false] L, st, h) := rfl
