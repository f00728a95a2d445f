/-! THE LAYOUT: the fixed cells (written by wip/tools/gen15.py): the class 8, its parts 9 to 43, the model 44, its arrays 45 to 106, out 107 -/
section LAYO
/-- the model's arrays: field, address, kind, length -/
def mA : List (Nat × Nat × Nat × Nat) := [(3, 45, 100, 100), (4, 46, 100, 100), (7, 47, 100, 1500), (8, 48, 100, 1500), (9, 49, 100, 1500), (10, 50, 100, 1500), (11, 51, 100, 1500), (12, 52, 100, 1200), (15, 53, 100, 6), (16, 54, 100, 120), (17, 55, 101, 120), (18, 56, 100, 120), (19, 57, 100, 120), (20, 58, 100, 120), (21, 59, 100, 120), (22, 60, 100, 120), (23, 61, 100, 120), (24, 62, 100, 120), (25, 63, 100, 7200), (26, 64, 100, 7200), (34, 65, 100, 20), (35, 66, 100, 6), (39, 67, 100, 60), (40, 68, 100, 60), (41, 69, 100, 360), (42, 70, 102, 60), (43, 71, 102, 1200), (44, 72, 100, 1200), (45, 73, 102, 1200), (46, 74, 100, 1200), (47, 75, 102, 1200), (48, 76, 100, 60), (49, 77, 100, 60), (54, 78, 100, 60), (55, 79, 100, 1200), (56, 80, 100, 1200), (57, 81, 100, 6), (58, 82, 100, 96), (59, 83, 100, 96), (60, 84, 100, 96), (61, 85, 100, 20), (65, 86, 100, 1200), (66, 87, 100, 1200), (67, 88, 102, 1200), (68, 89, 100, 100), (70, 90, 100, 12), (71, 91, 100, 12), (72, 92, 100, 144), (73, 93, 100, 144), (74, 94, 100, 144), (75, 95, 100, 144), (76, 96, 102, 12), (77, 97, 100, 12), (78, 98, 100, 12), (81, 99, 100, 12), (83, 100, 100, 12), (84, 101, 100, 12), (85, 102, 100, 12), (86, 103, 100, 12), (87, 104, 100, 12), (88, 105, 100, 144), (90, 106, 100, 3000)]
def MF (h : aH) : Prop := gK h 44 = 14 ∧ 108 ≤ gN h ∧ ∀ q ∈ mA, gR h 44 q.1 = q.2.1 ∧ gK h q.2.1 = q.2.2.1 ∧ gL h q.2.1 = q.2.2.2
variable {h : aH}
theorem mr_3 (f : MF h) : gR h 44 3 = 45 := (f.2.2 (3, 45, 100, 100) (by decide)).1
theorem mk_45 (f : MF h) : gK h 45 = 100 := (f.2.2 (3, 45, 100, 100) (by decide)).2.1
theorem ml_45 (f : MF h) : gL h 45 = 100 := (f.2.2 (3, 45, 100, 100) (by decide)).2.2
theorem mr_4 (f : MF h) : gR h 44 4 = 46 := (f.2.2 (4, 46, 100, 100) (by decide)).1
theorem mk_46 (f : MF h) : gK h 46 = 100 := (f.2.2 (4, 46, 100, 100) (by decide)).2.1
theorem ml_46 (f : MF h) : gL h 46 = 100 := (f.2.2 (4, 46, 100, 100) (by decide)).2.2
theorem mr_7 (f : MF h) : gR h 44 7 = 47 := (f.2.2 (7, 47, 100, 1500) (by decide)).1
theorem mk_47 (f : MF h) : gK h 47 = 100 := (f.2.2 (7, 47, 100, 1500) (by decide)).2.1
theorem ml_47 (f : MF h) : gL h 47 = 1500 := (f.2.2 (7, 47, 100, 1500) (by decide)).2.2
theorem mr_8 (f : MF h) : gR h 44 8 = 48 := (f.2.2 (8, 48, 100, 1500) (by decide)).1
theorem mk_48 (f : MF h) : gK h 48 = 100 := (f.2.2 (8, 48, 100, 1500) (by decide)).2.1
theorem ml_48 (f : MF h) : gL h 48 = 1500 := (f.2.2 (8, 48, 100, 1500) (by decide)).2.2
theorem mr_9 (f : MF h) : gR h 44 9 = 49 := (f.2.2 (9, 49, 100, 1500) (by decide)).1
theorem mk_49 (f : MF h) : gK h 49 = 100 := (f.2.2 (9, 49, 100, 1500) (by decide)).2.1
theorem ml_49 (f : MF h) : gL h 49 = 1500 := (f.2.2 (9, 49, 100, 1500) (by decide)).2.2
theorem mr_10 (f : MF h) : gR h 44 10 = 50 := (f.2.2 (10, 50, 100, 1500) (by decide)).1
theorem mk_50 (f : MF h) : gK h 50 = 100 := (f.2.2 (10, 50, 100, 1500) (by decide)).2.1
theorem ml_50 (f : MF h) : gL h 50 = 1500 := (f.2.2 (10, 50, 100, 1500) (by decide)).2.2
theorem mr_11 (f : MF h) : gR h 44 11 = 51 := (f.2.2 (11, 51, 100, 1500) (by decide)).1
theorem mk_51 (f : MF h) : gK h 51 = 100 := (f.2.2 (11, 51, 100, 1500) (by decide)).2.1
theorem ml_51 (f : MF h) : gL h 51 = 1500 := (f.2.2 (11, 51, 100, 1500) (by decide)).2.2
theorem mr_12 (f : MF h) : gR h 44 12 = 52 := (f.2.2 (12, 52, 100, 1200) (by decide)).1
theorem mk_52 (f : MF h) : gK h 52 = 100 := (f.2.2 (12, 52, 100, 1200) (by decide)).2.1
theorem ml_52 (f : MF h) : gL h 52 = 1200 := (f.2.2 (12, 52, 100, 1200) (by decide)).2.2
theorem mr_15 (f : MF h) : gR h 44 15 = 53 := (f.2.2 (15, 53, 100, 6) (by decide)).1
theorem mk_53 (f : MF h) : gK h 53 = 100 := (f.2.2 (15, 53, 100, 6) (by decide)).2.1
theorem ml_53 (f : MF h) : gL h 53 = 6 := (f.2.2 (15, 53, 100, 6) (by decide)).2.2
theorem mr_16 (f : MF h) : gR h 44 16 = 54 := (f.2.2 (16, 54, 100, 120) (by decide)).1
theorem mk_54 (f : MF h) : gK h 54 = 100 := (f.2.2 (16, 54, 100, 120) (by decide)).2.1
theorem ml_54 (f : MF h) : gL h 54 = 120 := (f.2.2 (16, 54, 100, 120) (by decide)).2.2
theorem mr_17 (f : MF h) : gR h 44 17 = 55 := (f.2.2 (17, 55, 101, 120) (by decide)).1
theorem mk_55 (f : MF h) : gK h 55 = 101 := (f.2.2 (17, 55, 101, 120) (by decide)).2.1
theorem ml_55 (f : MF h) : gL h 55 = 120 := (f.2.2 (17, 55, 101, 120) (by decide)).2.2
theorem mr_18 (f : MF h) : gR h 44 18 = 56 := (f.2.2 (18, 56, 100, 120) (by decide)).1
theorem mk_56 (f : MF h) : gK h 56 = 100 := (f.2.2 (18, 56, 100, 120) (by decide)).2.1
theorem ml_56 (f : MF h) : gL h 56 = 120 := (f.2.2 (18, 56, 100, 120) (by decide)).2.2
theorem mr_19 (f : MF h) : gR h 44 19 = 57 := (f.2.2 (19, 57, 100, 120) (by decide)).1
theorem mk_57 (f : MF h) : gK h 57 = 100 := (f.2.2 (19, 57, 100, 120) (by decide)).2.1
theorem ml_57 (f : MF h) : gL h 57 = 120 := (f.2.2 (19, 57, 100, 120) (by decide)).2.2
theorem mr_20 (f : MF h) : gR h 44 20 = 58 := (f.2.2 (20, 58, 100, 120) (by decide)).1
theorem mk_58 (f : MF h) : gK h 58 = 100 := (f.2.2 (20, 58, 100, 120) (by decide)).2.1
theorem ml_58 (f : MF h) : gL h 58 = 120 := (f.2.2 (20, 58, 100, 120) (by decide)).2.2
theorem mr_21 (f : MF h) : gR h 44 21 = 59 := (f.2.2 (21, 59, 100, 120) (by decide)).1
theorem mk_59 (f : MF h) : gK h 59 = 100 := (f.2.2 (21, 59, 100, 120) (by decide)).2.1
theorem ml_59 (f : MF h) : gL h 59 = 120 := (f.2.2 (21, 59, 100, 120) (by decide)).2.2
theorem mr_22 (f : MF h) : gR h 44 22 = 60 := (f.2.2 (22, 60, 100, 120) (by decide)).1
theorem mk_60 (f : MF h) : gK h 60 = 100 := (f.2.2 (22, 60, 100, 120) (by decide)).2.1
theorem ml_60 (f : MF h) : gL h 60 = 120 := (f.2.2 (22, 60, 100, 120) (by decide)).2.2
theorem mr_23 (f : MF h) : gR h 44 23 = 61 := (f.2.2 (23, 61, 100, 120) (by decide)).1
theorem mk_61 (f : MF h) : gK h 61 = 100 := (f.2.2 (23, 61, 100, 120) (by decide)).2.1
theorem ml_61 (f : MF h) : gL h 61 = 120 := (f.2.2 (23, 61, 100, 120) (by decide)).2.2
theorem mr_24 (f : MF h) : gR h 44 24 = 62 := (f.2.2 (24, 62, 100, 120) (by decide)).1
theorem mk_62 (f : MF h) : gK h 62 = 100 := (f.2.2 (24, 62, 100, 120) (by decide)).2.1
theorem ml_62 (f : MF h) : gL h 62 = 120 := (f.2.2 (24, 62, 100, 120) (by decide)).2.2
theorem mr_25 (f : MF h) : gR h 44 25 = 63 := (f.2.2 (25, 63, 100, 7200) (by decide)).1
theorem mk_63 (f : MF h) : gK h 63 = 100 := (f.2.2 (25, 63, 100, 7200) (by decide)).2.1
theorem ml_63 (f : MF h) : gL h 63 = 7200 := (f.2.2 (25, 63, 100, 7200) (by decide)).2.2
theorem mr_26 (f : MF h) : gR h 44 26 = 64 := (f.2.2 (26, 64, 100, 7200) (by decide)).1
theorem mk_64 (f : MF h) : gK h 64 = 100 := (f.2.2 (26, 64, 100, 7200) (by decide)).2.1
theorem ml_64 (f : MF h) : gL h 64 = 7200 := (f.2.2 (26, 64, 100, 7200) (by decide)).2.2
theorem mr_34 (f : MF h) : gR h 44 34 = 65 := (f.2.2 (34, 65, 100, 20) (by decide)).1
theorem mk_65 (f : MF h) : gK h 65 = 100 := (f.2.2 (34, 65, 100, 20) (by decide)).2.1
theorem ml_65 (f : MF h) : gL h 65 = 20 := (f.2.2 (34, 65, 100, 20) (by decide)).2.2
theorem mr_35 (f : MF h) : gR h 44 35 = 66 := (f.2.2 (35, 66, 100, 6) (by decide)).1
theorem mk_66 (f : MF h) : gK h 66 = 100 := (f.2.2 (35, 66, 100, 6) (by decide)).2.1
theorem ml_66 (f : MF h) : gL h 66 = 6 := (f.2.2 (35, 66, 100, 6) (by decide)).2.2
theorem mr_39 (f : MF h) : gR h 44 39 = 67 := (f.2.2 (39, 67, 100, 60) (by decide)).1
theorem mk_67 (f : MF h) : gK h 67 = 100 := (f.2.2 (39, 67, 100, 60) (by decide)).2.1
theorem ml_67 (f : MF h) : gL h 67 = 60 := (f.2.2 (39, 67, 100, 60) (by decide)).2.2
theorem mr_40 (f : MF h) : gR h 44 40 = 68 := (f.2.2 (40, 68, 100, 60) (by decide)).1
theorem mk_68 (f : MF h) : gK h 68 = 100 := (f.2.2 (40, 68, 100, 60) (by decide)).2.1
theorem ml_68 (f : MF h) : gL h 68 = 60 := (f.2.2 (40, 68, 100, 60) (by decide)).2.2
theorem mr_41 (f : MF h) : gR h 44 41 = 69 := (f.2.2 (41, 69, 100, 360) (by decide)).1
theorem mk_69 (f : MF h) : gK h 69 = 100 := (f.2.2 (41, 69, 100, 360) (by decide)).2.1
theorem ml_69 (f : MF h) : gL h 69 = 360 := (f.2.2 (41, 69, 100, 360) (by decide)).2.2
theorem mr_42 (f : MF h) : gR h 44 42 = 70 := (f.2.2 (42, 70, 102, 60) (by decide)).1
theorem mk_70 (f : MF h) : gK h 70 = 102 := (f.2.2 (42, 70, 102, 60) (by decide)).2.1
theorem ml_70 (f : MF h) : gL h 70 = 60 := (f.2.2 (42, 70, 102, 60) (by decide)).2.2
theorem mr_43 (f : MF h) : gR h 44 43 = 71 := (f.2.2 (43, 71, 102, 1200) (by decide)).1
theorem mk_71 (f : MF h) : gK h 71 = 102 := (f.2.2 (43, 71, 102, 1200) (by decide)).2.1
theorem ml_71 (f : MF h) : gL h 71 = 1200 := (f.2.2 (43, 71, 102, 1200) (by decide)).2.2
theorem mr_44 (f : MF h) : gR h 44 44 = 72 := (f.2.2 (44, 72, 100, 1200) (by decide)).1
theorem mk_72 (f : MF h) : gK h 72 = 100 := (f.2.2 (44, 72, 100, 1200) (by decide)).2.1
theorem ml_72 (f : MF h) : gL h 72 = 1200 := (f.2.2 (44, 72, 100, 1200) (by decide)).2.2
theorem mr_45 (f : MF h) : gR h 44 45 = 73 := (f.2.2 (45, 73, 102, 1200) (by decide)).1
theorem mk_73 (f : MF h) : gK h 73 = 102 := (f.2.2 (45, 73, 102, 1200) (by decide)).2.1
theorem ml_73 (f : MF h) : gL h 73 = 1200 := (f.2.2 (45, 73, 102, 1200) (by decide)).2.2
theorem mr_46 (f : MF h) : gR h 44 46 = 74 := (f.2.2 (46, 74, 100, 1200) (by decide)).1
theorem mk_74 (f : MF h) : gK h 74 = 100 := (f.2.2 (46, 74, 100, 1200) (by decide)).2.1
theorem ml_74 (f : MF h) : gL h 74 = 1200 := (f.2.2 (46, 74, 100, 1200) (by decide)).2.2
theorem mr_47 (f : MF h) : gR h 44 47 = 75 := (f.2.2 (47, 75, 102, 1200) (by decide)).1
theorem mk_75 (f : MF h) : gK h 75 = 102 := (f.2.2 (47, 75, 102, 1200) (by decide)).2.1
theorem ml_75 (f : MF h) : gL h 75 = 1200 := (f.2.2 (47, 75, 102, 1200) (by decide)).2.2
theorem mr_48 (f : MF h) : gR h 44 48 = 76 := (f.2.2 (48, 76, 100, 60) (by decide)).1
theorem mk_76 (f : MF h) : gK h 76 = 100 := (f.2.2 (48, 76, 100, 60) (by decide)).2.1
theorem ml_76 (f : MF h) : gL h 76 = 60 := (f.2.2 (48, 76, 100, 60) (by decide)).2.2
theorem mr_49 (f : MF h) : gR h 44 49 = 77 := (f.2.2 (49, 77, 100, 60) (by decide)).1
theorem mk_77 (f : MF h) : gK h 77 = 100 := (f.2.2 (49, 77, 100, 60) (by decide)).2.1
theorem ml_77 (f : MF h) : gL h 77 = 60 := (f.2.2 (49, 77, 100, 60) (by decide)).2.2
theorem mr_54 (f : MF h) : gR h 44 54 = 78 := (f.2.2 (54, 78, 100, 60) (by decide)).1
theorem mk_78 (f : MF h) : gK h 78 = 100 := (f.2.2 (54, 78, 100, 60) (by decide)).2.1
theorem ml_78 (f : MF h) : gL h 78 = 60 := (f.2.2 (54, 78, 100, 60) (by decide)).2.2
theorem mr_55 (f : MF h) : gR h 44 55 = 79 := (f.2.2 (55, 79, 100, 1200) (by decide)).1
theorem mk_79 (f : MF h) : gK h 79 = 100 := (f.2.2 (55, 79, 100, 1200) (by decide)).2.1
theorem ml_79 (f : MF h) : gL h 79 = 1200 := (f.2.2 (55, 79, 100, 1200) (by decide)).2.2
theorem mr_56 (f : MF h) : gR h 44 56 = 80 := (f.2.2 (56, 80, 100, 1200) (by decide)).1
theorem mk_80 (f : MF h) : gK h 80 = 100 := (f.2.2 (56, 80, 100, 1200) (by decide)).2.1
theorem ml_80 (f : MF h) : gL h 80 = 1200 := (f.2.2 (56, 80, 100, 1200) (by decide)).2.2
theorem mr_57 (f : MF h) : gR h 44 57 = 81 := (f.2.2 (57, 81, 100, 6) (by decide)).1
theorem mk_81 (f : MF h) : gK h 81 = 100 := (f.2.2 (57, 81, 100, 6) (by decide)).2.1
theorem ml_81 (f : MF h) : gL h 81 = 6 := (f.2.2 (57, 81, 100, 6) (by decide)).2.2
theorem mr_58 (f : MF h) : gR h 44 58 = 82 := (f.2.2 (58, 82, 100, 96) (by decide)).1
theorem mk_82 (f : MF h) : gK h 82 = 100 := (f.2.2 (58, 82, 100, 96) (by decide)).2.1
theorem ml_82 (f : MF h) : gL h 82 = 96 := (f.2.2 (58, 82, 100, 96) (by decide)).2.2
theorem mr_59 (f : MF h) : gR h 44 59 = 83 := (f.2.2 (59, 83, 100, 96) (by decide)).1
theorem mk_83 (f : MF h) : gK h 83 = 100 := (f.2.2 (59, 83, 100, 96) (by decide)).2.1
theorem ml_83 (f : MF h) : gL h 83 = 96 := (f.2.2 (59, 83, 100, 96) (by decide)).2.2
theorem mr_60 (f : MF h) : gR h 44 60 = 84 := (f.2.2 (60, 84, 100, 96) (by decide)).1
theorem mk_84 (f : MF h) : gK h 84 = 100 := (f.2.2 (60, 84, 100, 96) (by decide)).2.1
theorem ml_84 (f : MF h) : gL h 84 = 96 := (f.2.2 (60, 84, 100, 96) (by decide)).2.2
theorem mr_61 (f : MF h) : gR h 44 61 = 85 := (f.2.2 (61, 85, 100, 20) (by decide)).1
theorem mk_85 (f : MF h) : gK h 85 = 100 := (f.2.2 (61, 85, 100, 20) (by decide)).2.1
theorem ml_85 (f : MF h) : gL h 85 = 20 := (f.2.2 (61, 85, 100, 20) (by decide)).2.2
theorem mr_65 (f : MF h) : gR h 44 65 = 86 := (f.2.2 (65, 86, 100, 1200) (by decide)).1
theorem mk_86 (f : MF h) : gK h 86 = 100 := (f.2.2 (65, 86, 100, 1200) (by decide)).2.1
theorem ml_86 (f : MF h) : gL h 86 = 1200 := (f.2.2 (65, 86, 100, 1200) (by decide)).2.2
theorem mr_66 (f : MF h) : gR h 44 66 = 87 := (f.2.2 (66, 87, 100, 1200) (by decide)).1
theorem mk_87 (f : MF h) : gK h 87 = 100 := (f.2.2 (66, 87, 100, 1200) (by decide)).2.1
theorem ml_87 (f : MF h) : gL h 87 = 1200 := (f.2.2 (66, 87, 100, 1200) (by decide)).2.2
theorem mr_67 (f : MF h) : gR h 44 67 = 88 := (f.2.2 (67, 88, 102, 1200) (by decide)).1
theorem mk_88 (f : MF h) : gK h 88 = 102 := (f.2.2 (67, 88, 102, 1200) (by decide)).2.1
theorem ml_88 (f : MF h) : gL h 88 = 1200 := (f.2.2 (67, 88, 102, 1200) (by decide)).2.2
theorem mr_68 (f : MF h) : gR h 44 68 = 89 := (f.2.2 (68, 89, 100, 100) (by decide)).1
theorem mk_89 (f : MF h) : gK h 89 = 100 := (f.2.2 (68, 89, 100, 100) (by decide)).2.1
theorem ml_89 (f : MF h) : gL h 89 = 100 := (f.2.2 (68, 89, 100, 100) (by decide)).2.2
theorem mr_70 (f : MF h) : gR h 44 70 = 90 := (f.2.2 (70, 90, 100, 12) (by decide)).1
theorem mk_90 (f : MF h) : gK h 90 = 100 := (f.2.2 (70, 90, 100, 12) (by decide)).2.1
theorem ml_90 (f : MF h) : gL h 90 = 12 := (f.2.2 (70, 90, 100, 12) (by decide)).2.2
theorem mr_71 (f : MF h) : gR h 44 71 = 91 := (f.2.2 (71, 91, 100, 12) (by decide)).1
theorem mk_91 (f : MF h) : gK h 91 = 100 := (f.2.2 (71, 91, 100, 12) (by decide)).2.1
theorem ml_91 (f : MF h) : gL h 91 = 12 := (f.2.2 (71, 91, 100, 12) (by decide)).2.2
theorem mr_72 (f : MF h) : gR h 44 72 = 92 := (f.2.2 (72, 92, 100, 144) (by decide)).1
theorem mk_92 (f : MF h) : gK h 92 = 100 := (f.2.2 (72, 92, 100, 144) (by decide)).2.1
theorem ml_92 (f : MF h) : gL h 92 = 144 := (f.2.2 (72, 92, 100, 144) (by decide)).2.2
theorem mr_73 (f : MF h) : gR h 44 73 = 93 := (f.2.2 (73, 93, 100, 144) (by decide)).1
theorem mk_93 (f : MF h) : gK h 93 = 100 := (f.2.2 (73, 93, 100, 144) (by decide)).2.1
theorem ml_93 (f : MF h) : gL h 93 = 144 := (f.2.2 (73, 93, 100, 144) (by decide)).2.2
theorem mr_74 (f : MF h) : gR h 44 74 = 94 := (f.2.2 (74, 94, 100, 144) (by decide)).1
theorem mk_94 (f : MF h) : gK h 94 = 100 := (f.2.2 (74, 94, 100, 144) (by decide)).2.1
theorem ml_94 (f : MF h) : gL h 94 = 144 := (f.2.2 (74, 94, 100, 144) (by decide)).2.2
theorem mr_75 (f : MF h) : gR h 44 75 = 95 := (f.2.2 (75, 95, 100, 144) (by decide)).1
theorem mk_95 (f : MF h) : gK h 95 = 100 := (f.2.2 (75, 95, 100, 144) (by decide)).2.1
theorem ml_95 (f : MF h) : gL h 95 = 144 := (f.2.2 (75, 95, 100, 144) (by decide)).2.2
theorem mr_76 (f : MF h) : gR h 44 76 = 96 := (f.2.2 (76, 96, 102, 12) (by decide)).1
theorem mk_96 (f : MF h) : gK h 96 = 102 := (f.2.2 (76, 96, 102, 12) (by decide)).2.1
theorem ml_96 (f : MF h) : gL h 96 = 12 := (f.2.2 (76, 96, 102, 12) (by decide)).2.2
theorem mr_77 (f : MF h) : gR h 44 77 = 97 := (f.2.2 (77, 97, 100, 12) (by decide)).1
theorem mk_97 (f : MF h) : gK h 97 = 100 := (f.2.2 (77, 97, 100, 12) (by decide)).2.1
theorem ml_97 (f : MF h) : gL h 97 = 12 := (f.2.2 (77, 97, 100, 12) (by decide)).2.2
theorem mr_78 (f : MF h) : gR h 44 78 = 98 := (f.2.2 (78, 98, 100, 12) (by decide)).1
theorem mk_98 (f : MF h) : gK h 98 = 100 := (f.2.2 (78, 98, 100, 12) (by decide)).2.1
theorem ml_98 (f : MF h) : gL h 98 = 12 := (f.2.2 (78, 98, 100, 12) (by decide)).2.2
theorem mr_81 (f : MF h) : gR h 44 81 = 99 := (f.2.2 (81, 99, 100, 12) (by decide)).1
theorem mk_99 (f : MF h) : gK h 99 = 100 := (f.2.2 (81, 99, 100, 12) (by decide)).2.1
theorem ml_99 (f : MF h) : gL h 99 = 12 := (f.2.2 (81, 99, 100, 12) (by decide)).2.2
theorem mr_83 (f : MF h) : gR h 44 83 = 100 := (f.2.2 (83, 100, 100, 12) (by decide)).1
theorem mk_100 (f : MF h) : gK h 100 = 100 := (f.2.2 (83, 100, 100, 12) (by decide)).2.1
theorem ml_100 (f : MF h) : gL h 100 = 12 := (f.2.2 (83, 100, 100, 12) (by decide)).2.2
theorem mr_84 (f : MF h) : gR h 44 84 = 101 := (f.2.2 (84, 101, 100, 12) (by decide)).1
theorem mk_101 (f : MF h) : gK h 101 = 100 := (f.2.2 (84, 101, 100, 12) (by decide)).2.1
theorem ml_101 (f : MF h) : gL h 101 = 12 := (f.2.2 (84, 101, 100, 12) (by decide)).2.2
theorem mr_85 (f : MF h) : gR h 44 85 = 102 := (f.2.2 (85, 102, 100, 12) (by decide)).1
theorem mk_102 (f : MF h) : gK h 102 = 100 := (f.2.2 (85, 102, 100, 12) (by decide)).2.1
theorem ml_102 (f : MF h) : gL h 102 = 12 := (f.2.2 (85, 102, 100, 12) (by decide)).2.2
theorem mr_86 (f : MF h) : gR h 44 86 = 103 := (f.2.2 (86, 103, 100, 12) (by decide)).1
theorem mk_103 (f : MF h) : gK h 103 = 100 := (f.2.2 (86, 103, 100, 12) (by decide)).2.1
theorem ml_103 (f : MF h) : gL h 103 = 12 := (f.2.2 (86, 103, 100, 12) (by decide)).2.2
theorem mr_87 (f : MF h) : gR h 44 87 = 104 := (f.2.2 (87, 104, 100, 12) (by decide)).1
theorem mk_104 (f : MF h) : gK h 104 = 100 := (f.2.2 (87, 104, 100, 12) (by decide)).2.1
theorem ml_104 (f : MF h) : gL h 104 = 12 := (f.2.2 (87, 104, 100, 12) (by decide)).2.2
theorem mr_88 (f : MF h) : gR h 44 88 = 105 := (f.2.2 (88, 105, 100, 144) (by decide)).1
theorem mk_105 (f : MF h) : gK h 105 = 100 := (f.2.2 (88, 105, 100, 144) (by decide)).2.1
theorem ml_105 (f : MF h) : gL h 105 = 144 := (f.2.2 (88, 105, 100, 144) (by decide)).2.2
theorem mr_90 (f : MF h) : gR h 44 90 = 106 := (f.2.2 (90, 106, 100, 3000) (by decide)).1
theorem mk_106 (f : MF h) : gK h 106 = 100 := (f.2.2 (90, 106, 100, 3000) (by decide)).2.1
theorem ml_106 (f : MF h) : gL h 106 = 3000 := (f.2.2 (90, 106, 100, 3000) (by decide)).2.2
theorem MF_pI {a i : Nat} {x : Int32} (f : MF h) : MF (pI h a i x) := f
theorem MF_pJ {a i : Nat} {x : Int64} (f : MF h) : MF (pJ h a i x) := f
theorem mA_in : ∀ q ∈ mA, 44 < q.2.1 ∧ q.2.1 < 107 := by decide
/-- the model's cells are kept -/
theorem MF_keeps {h1 : aH} {p : Nat → Prop} (f : MF h) (k : keeps h h1 p) (hp : ¬ p 44) : MF h1 := by
  obtain ⟨f1, f2, f3⟩ := f
  obtain ⟨k1, k2, k3, k4⟩ := k
  refine ⟨by rw [(k3 44 (by omega)).1]; exact f1, by omega, fun q hq => ?_⟩
  have hi := mA_in q hq
  obtain ⟨g1, g2, g3⟩ := f3 q hq
  exact ⟨by rw [(k4 44 (by omega) hp).2.2.2.2]; exact g1, by rw [(k3 _ (by omega)).1]; exact g2, by rw [(k3 _ (by omega)).2]; exact g3⟩
def cK : List (Nat × Nat) := [(8, 1), (9, 6), (10, 8), (12, 8), (17, 12), (19, 4), (32, 2), (34, 13), (35, 13), (36, 13), (37, 13), (38, 13), (39, 13), (40, 8), (42, 8), (14, 100), (15, 100), (16, 100), (18, 103), (33, 100), (107, 101)]
def cR : List (Nat × Nat × Nat) := [(8, 0, 9), (8, 1, 17), (8, 2, 19), (8, 3, 32), (8, 4, 34), (8, 5, 35), (8, 6, 36), (8, 7, 37), (8, 8, 38), (8, 9, 39), (8, 10, 40), (8, 11, 42), (9, 0, 10), (9, 1, 12), (9, 2, 14), (9, 3, 15), (9, 4, 16), (17, 0, 18), (19, 0, 17), (32, 0, 33)]
def cL : List (Nat × Nat) := [(14, 100), (15, 100), (16, 100), (18, 1200), (33, 20), (107, 1)]
/-- the class's fixed cells -/
def CF (h : aH) : Prop := 108 ≤ gN h ∧ (∀ q ∈ cK, gK h q.1 = q.2) ∧ (∀ q ∈ cL, gL h q.1 = q.2) ∧ ∀ q ∈ cR, gR h q.1 q.2.1 = q.2.2
theorem ck_8 (f : CF h) : gK h 8 = 1 := f.2.1 (8, 1) (by decide)
theorem ck_9 (f : CF h) : gK h 9 = 6 := f.2.1 (9, 6) (by decide)
theorem ck_10 (f : CF h) : gK h 10 = 8 := f.2.1 (10, 8) (by decide)
theorem ck_12 (f : CF h) : gK h 12 = 8 := f.2.1 (12, 8) (by decide)
theorem ck_17 (f : CF h) : gK h 17 = 12 := f.2.1 (17, 12) (by decide)
theorem ck_19 (f : CF h) : gK h 19 = 4 := f.2.1 (19, 4) (by decide)
theorem ck_32 (f : CF h) : gK h 32 = 2 := f.2.1 (32, 2) (by decide)
theorem ck_34 (f : CF h) : gK h 34 = 13 := f.2.1 (34, 13) (by decide)
theorem ck_35 (f : CF h) : gK h 35 = 13 := f.2.1 (35, 13) (by decide)
theorem ck_36 (f : CF h) : gK h 36 = 13 := f.2.1 (36, 13) (by decide)
theorem ck_37 (f : CF h) : gK h 37 = 13 := f.2.1 (37, 13) (by decide)
theorem ck_38 (f : CF h) : gK h 38 = 13 := f.2.1 (38, 13) (by decide)
theorem ck_39 (f : CF h) : gK h 39 = 13 := f.2.1 (39, 13) (by decide)
theorem ck_40 (f : CF h) : gK h 40 = 8 := f.2.1 (40, 8) (by decide)
theorem ck_42 (f : CF h) : gK h 42 = 8 := f.2.1 (42, 8) (by decide)
theorem ck_14 (f : CF h) : gK h 14 = 100 := f.2.1 (14, 100) (by decide)
theorem cl_14 (f : CF h) : gL h 14 = 100 := f.2.2.1 (14, 100) (by decide)
theorem ck_15 (f : CF h) : gK h 15 = 100 := f.2.1 (15, 100) (by decide)
theorem cl_15 (f : CF h) : gL h 15 = 100 := f.2.2.1 (15, 100) (by decide)
theorem ck_16 (f : CF h) : gK h 16 = 100 := f.2.1 (16, 100) (by decide)
theorem cl_16 (f : CF h) : gL h 16 = 100 := f.2.2.1 (16, 100) (by decide)
theorem ck_18 (f : CF h) : gK h 18 = 103 := f.2.1 (18, 103) (by decide)
theorem cl_18 (f : CF h) : gL h 18 = 1200 := f.2.2.1 (18, 1200) (by decide)
theorem ck_33 (f : CF h) : gK h 33 = 100 := f.2.1 (33, 100) (by decide)
theorem cl_33 (f : CF h) : gL h 33 = 20 := f.2.2.1 (33, 20) (by decide)
theorem ck_107 (f : CF h) : gK h 107 = 101 := f.2.1 (107, 101) (by decide)
theorem cl_107 (f : CF h) : gL h 107 = 1 := f.2.2.1 (107, 1) (by decide)
theorem cr_8_0 (f : CF h) : gR h 8 0 = 9 := f.2.2.2 (8, 0, 9) (by decide)
theorem cr_8_1 (f : CF h) : gR h 8 1 = 17 := f.2.2.2 (8, 1, 17) (by decide)
theorem cr_8_2 (f : CF h) : gR h 8 2 = 19 := f.2.2.2 (8, 2, 19) (by decide)
theorem cr_8_3 (f : CF h) : gR h 8 3 = 32 := f.2.2.2 (8, 3, 32) (by decide)
theorem cr_8_4 (f : CF h) : gR h 8 4 = 34 := f.2.2.2 (8, 4, 34) (by decide)
theorem cr_8_5 (f : CF h) : gR h 8 5 = 35 := f.2.2.2 (8, 5, 35) (by decide)
theorem cr_8_6 (f : CF h) : gR h 8 6 = 36 := f.2.2.2 (8, 6, 36) (by decide)
theorem cr_8_7 (f : CF h) : gR h 8 7 = 37 := f.2.2.2 (8, 7, 37) (by decide)
theorem cr_8_8 (f : CF h) : gR h 8 8 = 38 := f.2.2.2 (8, 8, 38) (by decide)
theorem cr_8_9 (f : CF h) : gR h 8 9 = 39 := f.2.2.2 (8, 9, 39) (by decide)
theorem cr_8_10 (f : CF h) : gR h 8 10 = 40 := f.2.2.2 (8, 10, 40) (by decide)
theorem cr_8_11 (f : CF h) : gR h 8 11 = 42 := f.2.2.2 (8, 11, 42) (by decide)
theorem cr_9_0 (f : CF h) : gR h 9 0 = 10 := f.2.2.2 (9, 0, 10) (by decide)
theorem cr_9_1 (f : CF h) : gR h 9 1 = 12 := f.2.2.2 (9, 1, 12) (by decide)
theorem cr_9_2 (f : CF h) : gR h 9 2 = 14 := f.2.2.2 (9, 2, 14) (by decide)
theorem cr_9_3 (f : CF h) : gR h 9 3 = 15 := f.2.2.2 (9, 3, 15) (by decide)
theorem cr_9_4 (f : CF h) : gR h 9 4 = 16 := f.2.2.2 (9, 4, 16) (by decide)
theorem cr_17_0 (f : CF h) : gR h 17 0 = 18 := f.2.2.2 (17, 0, 18) (by decide)
theorem cr_19_0 (f : CF h) : gR h 19 0 = 17 := f.2.2.2 (19, 0, 17) (by decide)
theorem cr_32_0 (f : CF h) : gR h 32 0 = 33 := f.2.2.2 (32, 0, 33) (by decide)
theorem CF_pI {a i : Nat} {x : Int32} (f : CF h) : CF (pI h a i x) := f
theorem CF_pJ {a i : Nat} {x : Int64} (f : CF h) : CF (pJ h a i x) := f
theorem cF_in : (∀ q ∈ cK, q.1 < 108) ∧ (∀ q ∈ cL, q.1 < 108) ∧ ∀ q ∈ cR, q.1 = 8 ∨ q.1 = 9 ∨ (q.1 = 17 ∧ q.2.1 = 0) ∨ (q.1 = 19 ∧ q.2.1 = 0) ∨ q.1 = 32 := by decide
theorem CF_pR {a i x : Nat} (f : CF h) (ha : a ≠ 8 ∧ a ≠ 9 ∧ a ≠ 17 ∧ a ≠ 32) (hi : a = 19 → i ≠ 0) : CF (pR h a i x) := by
  obtain ⟨f0, f1, f2, f3⟩ := f
  refine ⟨f0, f1, f2, fun q hq => ?_⟩
  have := cF_in.2.2 q hq
  rw [gR_pR, if_neg (by omega)]
  exact f3 q hq
/-- the class's fixed references are kept: what 8, 9, 17, 19 (field 0) and 32 refer to -/
theorem CF_of {h1 : aH} (f : CF h) (hn : gN h ≤ gN h1) (hk : ∀ a, a < gN h → gK h1 a = gK h a ∧ gL h1 a = gL h a) (hr : ∀ q ∈ cR, gR h1 q.1 q.2.1 = gR h q.1 q.2.1) : CF h1 := by
  obtain ⟨f0, f1, f2, f3⟩ := f
  refine ⟨by omega, fun q hq => ?_, fun q hq => ?_, fun q hq => ?_⟩
  · rw [(hk _ (by have := cF_in.1 q hq; omega)).1]; exact f1 q hq
  · rw [(hk _ (by have := cF_in.2.1 q hq; omega)).2]; exact f2 q hq
  · rw [hr q hq]; exact f3 q hq
end LAYO
