/-! TABLES OF RANGES (c) -/
def A_cA : List (Nat × Int × Int) := [(1, (-128), (127)), (3, (-128), (127)), (4, (0), (12000)), (8, (0), (24000)), (9, (-12000), (12000)), (12, (0), (100)), (13, (0), (8)), (14, (0), (30000)), (15, (0), (400)), (18, (0), (99)), (19, (0), (0)), (20, (0), (0)), (23, (0), (0)), (24, (0), (0)), (25, (0), (0)), (26, (0), (1)), (27, (0), (255)), (35, (0), (99)), (36, (0), (0)), (37, (0), (0)), (42, (0), (3)), (43, (0), (0)), (49, (0), (99)), (50, (0), (0)), (51, (0), (0)), (56, (0), (3)), (57, (0), (0)), (67, (0), (1)), (68, (0), (99)), (72, (0), (1)), (74, (0), (30000)), (75, (0), (42000)), (76, (-1), (43000)), (77, (0), (319)), (79, (0), (30000)), (80, (0), (42000)), (81, (-1), (43000)), (83, (0), (99)), (84, (0), (0)), (85, (0), (0)), (88, (0), (0)), (89, (0), (0)), (90, (0), (3)), (91, (0), (1)), (94, (0), (99)), (101, (0), (3)), (102, (0), (1)), (104, (0), (99)), (111, (0), (3)), (112, (0), (1)), (114, (0), (99)), (121, (0), (3)), (122, (0), (1)), (124, (0), (99)), (131, (0), (3)), (132, (0), (1)), (134, (0), (99)), (141, (0), (3)), (142, (0), (1)), (144, (-128), (127)), (145, (0), (1114111)), (1001, (0), (1886545264)), (1002, (0), (30)), (1003, (0), (68)), (1006, (-3), (3)), (1007, (0), (12))]
def F_cA : List (Nat × List (Nat × Int × Int)) := [(0, [(1, (0), (12000)), (7, (0), (100))]), (2, [(1, (0), (12000)), (2, (0), (1)), (5, (0), (16)), (6, (0), (65535)), (7, (0), (65535)), (8, (0), (65535)), (11, (0), (12)), (12, (0), (23986)), (13, (0), (65535)), (14, (0), (32767)), (15, (0), (500))]), (5, [(0, (0), (12000)), (1, (0), (12000)), (2, (0), (12000)), (3, (0), (12000)), (4, (0), (12000)), (5, (0), (12000)), (6, (0), (12000)), (7, (0), (12000)), (8, (0), (12000)), (9, (0), (12000)), (10, (0), (12000))]), (6, [(0, (0), (2)), (1, (0), (64)), (2, (0), (64)), (3, (0), (64)), (4, (0), (16)), (5, (0), (256)), (6, (0), (4))]), (16, [(4, (0), (30000)), (5, (-12000), (36000)), (6, (0), (1)), (7, (0), (65535)), (8, (0), (65535)), (9, (-32768), (65535)), (10, (-32768), (65535))]), (17, [(9, (0), (100)), (10, (0), (20)), (11, (0), (0))]), (30, [(7, (0), (48)), (8, (0), (1)), (9, (0), (1))]), (31, [(1, (0), (256)), (3, (0), (64))]), (34, [(9, (0), (64)), (10, (0), (20)), (11, (0), (0))]), (45, [(1, (0), (256)), (3, (0), (64))]), (48, [(9, (0), (64)), (10, (0), (20)), (11, (0), (0))]), (60, [(7, (0), (100)), (9, (0), (100)), (11, (-2147483648), (8193)), (12, (-8193), (2147483647))]), (69, [(5, (0), (256)), (6, 0, 0), (7, 0, 0), (8, (0), (1)), (9, (0), (30000)), (10, (0), (42000)), (11, (-1), (43000)), (12, (0), (48)), (13, (0), (20000)), (14, (0), (15)), (15, (-30001), (41999)), (16, (0), (256))]), (70, [(0, (-16384), (16384)), (1, (-16384), (16384)), (2, (-16384), (16384)), (3, (-16384), (16384)), (4, (-16384), (16384)), (5, (-16384), (16384)), (8, (0), (65535)), (9, (0), (128)), (10, (0), (96)), (11, (-1408), (1408)), (12, (-16384), (16384)), (13, (-16384), (16384))]), (73, [(3, (0), (16)), (9, (0), (32))]), (82, [(9, (0), (0)), (10, (0), (0)), (11, (0), (0))]), (93, [(9, (0), (100)), (10, (0), (20)), (11, (2), (2))]), (103, [(9, (0), (100)), (10, (0), (20)), (11, (2), (2))]), (113, [(9, (0), (100)), (10, (0), (20)), (11, (2), (2))]), (123, [(9, (0), (100)), (10, (0), (20)), (11, (2), (2))]), (133, [(9, (0), (100)), (10, (0), (20)), (11, (2), (2))]), (143, [(1, (0), (128)), (2, (0), (128))]), (1004, [(0, (1), (1)), (1, (0), (0)), (2, (0), (0)), (3, (0), (0)), (4, (0), (0)), (5, (0), (0)), (6, (0), (0))]), (1005, [(0, (2), (2)), (1, (64), (64)), (2, (64), (64)), (3, (64), (64)), (4, (16), (16)), (5, (256), (256)), (6, (4), (4))])]
def R_cA (a k : Nat) : Option (Int × Int) := R_of A_cA F_cA a k
def A_cU : List (Nat × Int × Int) := [(1, (-128), (127)), (3, (-128), (127)), (4, (0), (12000)), (8, (0), (24000)), (9, (-12000), (12000)), (12, (0), (100)), (13, (0), (8)), (14, (0), (30000)), (15, (0), (400)), (18, (0), (99)), (19, (0), (0)), (20, (0), (0)), (23, (0), (0)), (24, (0), (0)), (25, (0), (0)), (26, (0), (1)), (27, (0), (255)), (35, (0), (99)), (36, (0), (0)), (37, (0), (0)), (42, (0), (3)), (43, (0), (0)), (49, (0), (99)), (50, (0), (0)), (51, (0), (0)), (56, (0), (3)), (57, (0), (0)), (67, (0), (1)), (68, (0), (99)), (72, (0), (1)), (74, (0), (30000)), (75, (0), (42000)), (76, (-1), (43000)), (77, (0), (319)), (79, (0), (30000)), (80, (0), (42000)), (81, (-1), (43000)), (83, (0), (99)), (84, (0), (0)), (85, (0), (0)), (88, (0), (0)), (89, (0), (0)), (90, (0), (3)), (91, (0), (1)), (94, (0), (99)), (101, (0), (3)), (102, (0), (1)), (104, (0), (99)), (111, (0), (3)), (112, (0), (1)), (114, (0), (99)), (121, (0), (3)), (122, (0), (1)), (124, (0), (99)), (131, (0), (3)), (132, (0), (1)), (134, (0), (99)), (141, (0), (3)), (142, (0), (1)), (144, (-128), (127)), (145, (0), (1114111)), (1001, (0), (1886545264)), (1002, (0), (30)), (1003, (0), (68)), (1006, (-3), (3)), (1007, (0), (12))]
def F_cU : List (Nat × List (Nat × Int × Int)) := [(0, [(1, (0), (12000)), (7, (0), (100))]), (2, [(1, (0), (12000)), (2, (0), (0)), (5, (0), (16)), (6, (0), (65535)), (7, (0), (65535)), (8, (0), (65535)), (11, (0), (12)), (12, (0), (23986)), (13, (0), (65535)), (14, (0), (32767)), (15, (0), (500))]), (5, [(0, (0), (12000)), (1, (0), (12000)), (2, (0), (12000)), (3, (0), (12000)), (4, (0), (12000)), (5, (0), (12000)), (6, (0), (12000)), (7, (0), (12000)), (8, (0), (12000)), (9, (0), (12000)), (10, (0), (12000))]), (6, [(0, (0), (2)), (1, (0), (64)), (2, (0), (64)), (3, (0), (64)), (4, (0), (16)), (5, (0), (256)), (6, (0), (4))]), (16, [(4, (0), (30000)), (5, (-12000), (36000)), (6, (0), (1)), (7, (0), (65535)), (8, (0), (65535)), (9, (-32768), (65535)), (10, (-32768), (65535))]), (17, [(9, (0), (100)), (10, (0), (20)), (11, (0), (0))]), (30, [(7, (0), (48)), (8, (0), (1)), (9, (0), (1))]), (31, [(1, (0), (256)), (3, (0), (64))]), (34, [(9, (0), (64)), (10, (0), (20)), (11, (0), (0))]), (45, [(1, (0), (256)), (3, (0), (64))]), (48, [(9, (0), (64)), (10, (0), (20)), (11, (0), (0))]), (60, [(7, (0), (100)), (9, (0), (100)), (11, (-2147483648), (8193)), (12, (-8193), (2147483647))]), (69, [(5, (0), (256)), (6, 0, 0), (7, 0, 0), (8, (0), (1)), (9, (0), (30000)), (10, (0), (42000)), (11, (-1), (43000)), (12, (0), (48)), (13, (0), (20000)), (14, (0), (15)), (15, (-30001), (41999)), (16, (0), (256))]), (70, [(0, (-16384), (16384)), (1, (-16384), (16384)), (2, (-16384), (16384)), (3, (-16384), (16384)), (4, (-16384), (16384)), (5, (-16384), (16384)), (8, (0), (65535)), (9, (0), (128)), (10, (0), (96)), (11, (-1408), (1408)), (12, (-16384), (16384)), (13, (-16384), (16384))]), (73, [(3, (0), (16)), (9, (0), (32))]), (82, [(9, (0), (0)), (10, (0), (0)), (11, (0), (0))]), (93, [(9, (0), (100)), (10, (0), (20)), (11, (2), (2))]), (103, [(9, (0), (100)), (10, (0), (20)), (11, (2), (2))]), (113, [(9, (0), (100)), (10, (0), (20)), (11, (2), (2))]), (123, [(9, (0), (100)), (10, (0), (20)), (11, (2), (2))]), (133, [(9, (0), (100)), (10, (0), (20)), (11, (2), (2))]), (143, [(1, (0), (128)), (2, (0), (128))]), (1004, [(0, (1), (1)), (1, (0), (0)), (2, (0), (0)), (3, (0), (0)), (4, (0), (0)), (5, (0), (0)), (6, (0), (0))]), (1005, [(0, (2), (2)), (1, (64), (64)), (2, (64), (64)), (3, (64), (64)), (4, (16), (16)), (5, (256), (256)), (6, (4), (4))])]
def R_cU (a k : Nat) : Option (Int × Int) := R_of A_cU F_cU a k
def A_cM : List (Nat × Int × Int) := [(1, (-128), (127)), (3, (-128), (127)), (4, (0), (12000)), (8, (0), (24000)), (9, (-12000), (12000)), (12, (0), (100)), (13, (0), (8)), (14, (0), (30000)), (15, (0), (400)), (18, (0), (99)), (19, (0), (0)), (20, (0), (0)), (23, (0), (0)), (24, (0), (0)), (25, (0), (0)), (26, (0), (1)), (27, (0), (255)), (35, (0), (99)), (36, (0), (0)), (37, (0), (0)), (42, (0), (3)), (43, (0), (0)), (49, (0), (99)), (50, (0), (0)), (51, (0), (0)), (56, (0), (3)), (57, (0), (0)), (67, (0), (1)), (68, (0), (99)), (72, (0), (1)), (74, (0), (30000)), (75, (0), (42000)), (76, (-1), (43000)), (77, (0), (319)), (79, (0), (30000)), (80, (0), (42000)), (81, (-1), (43000)), (83, (0), (99)), (84, (0), (0)), (85, (0), (0)), (88, (0), (0)), (89, (0), (0)), (90, (0), (3)), (91, (0), (1)), (94, (0), (99)), (101, (0), (3)), (102, (0), (1)), (104, (0), (99)), (111, (0), (3)), (112, (0), (1)), (114, (0), (99)), (121, (0), (3)), (122, (0), (1)), (124, (0), (99)), (131, (0), (3)), (132, (0), (1)), (134, (0), (99)), (141, (0), (3)), (142, (0), (1)), (144, (-128), (127)), (145, (0), (1114111)), (1001, (0), (1886545264)), (1002, (0), (30)), (1003, (0), (68)), (1006, (-3), (3)), (1007, (0), (12))]
def F_cM : List (Nat × List (Nat × Int × Int)) := [(0, [(1, (0), (12000)), (7, (0), (100))]), (2, [(1, (0), (12000)), (2, (0), (1)), (5, (0), (16)), (6, (0), (65535)), (7, (1), (200)), (8, (0), (65535)), (11, (0), (12)), (12, (0), (23986)), (13, (0), (65535)), (14, (0), (32767)), (15, (0), (500))]), (5, [(0, (0), (12000)), (1, (0), (12000)), (2, (0), (12000)), (3, (0), (12000)), (4, (0), (12000)), (5, (0), (12000)), (6, (0), (12000)), (7, (0), (12000)), (8, (0), (12000)), (9, (0), (12000)), (10, (0), (12000))]), (6, [(0, (1), (2)), (1, (0), (64)), (2, (0), (64)), (3, (0), (64)), (4, (0), (16)), (5, (0), (256)), (6, (0), (4))]), (16, [(4, (0), (30000)), (5, (-12000), (36000)), (6, (0), (1)), (7, (0), (65535)), (8, (0), (65535)), (9, (-32768), (65535)), (10, (-32768), (65535))]), (17, [(9, (0), (100)), (10, (0), (20)), (11, (0), (0))]), (30, [(7, (0), (48)), (8, (0), (1)), (9, (0), (1))]), (31, [(1, (0), (256)), (3, (0), (64))]), (34, [(9, (0), (64)), (10, (0), (20)), (11, (0), (0))]), (45, [(1, (0), (256)), (3, (0), (64))]), (48, [(9, (0), (64)), (10, (0), (20)), (11, (0), (0))]), (60, [(7, (0), (100)), (9, (0), (100)), (11, (-2147483648), (8193)), (12, (-8193), (2147483647))]), (69, [(5, (0), (256)), (6, 0, 0), (7, 0, 0), (8, (0), (1)), (9, (0), (30000)), (10, (0), (42000)), (11, (-1), (43000)), (12, (0), (48)), (13, (0), (20000)), (14, (0), (15)), (15, (-30001), (41999)), (16, (0), (256))]), (70, [(0, (-16384), (16384)), (1, (-16384), (16384)), (2, (-16384), (16384)), (3, (-16384), (16384)), (4, (-16384), (16384)), (5, (-16384), (16384)), (8, (0), (65535)), (9, (0), (128)), (10, (0), (96)), (11, (-1408), (1408)), (12, (-16384), (16384)), (13, (-16384), (16384))]), (73, [(3, (0), (16)), (9, (0), (32))]), (82, [(9, (0), (0)), (10, (0), (0)), (11, (0), (0))]), (93, [(9, (0), (100)), (10, (0), (20)), (11, (2), (2))]), (103, [(9, (0), (100)), (10, (0), (20)), (11, (2), (2))]), (113, [(9, (0), (100)), (10, (0), (20)), (11, (2), (2))]), (123, [(9, (0), (100)), (10, (0), (20)), (11, (2), (2))]), (133, [(9, (0), (100)), (10, (0), (20)), (11, (2), (2))]), (143, [(1, (0), (128)), (2, (0), (128))]), (1004, [(0, (1), (1)), (1, (0), (0)), (2, (0), (0)), (3, (0), (0)), (4, (0), (0)), (5, (0), (0)), (6, (0), (0))]), (1005, [(0, (2), (2)), (1, (64), (64)), (2, (64), (64)), (3, (64), (64)), (4, (16), (16)), (5, (256), (256)), (6, (4), (4))])]
def R_cM (a k : Nat) : Option (Int × Int) := R_of A_cM F_cM a k
def A_cP : List (Nat × Int × Int) := [(1, (-128), (127)), (3, (-128), (127)), (4, (0), (12000)), (8, (0), (24000)), (9, (-12000), (12000)), (12, (0), (100)), (13, (0), (8)), (14, (0), (30000)), (15, (0), (400)), (18, (0), (99)), (19, (0), (0)), (20, (0), (0)), (23, (0), (0)), (24, (0), (0)), (25, (0), (0)), (26, (0), (1)), (27, (0), (255)), (35, (0), (99)), (36, (0), (0)), (37, (0), (0)), (42, (0), (3)), (43, (0), (0)), (49, (0), (99)), (50, (0), (0)), (51, (0), (0)), (56, (0), (3)), (57, (0), (0)), (67, (0), (1)), (68, (0), (99)), (72, (0), (1)), (74, (0), (30000)), (75, (0), (42000)), (76, (-1), (43000)), (77, (0), (319)), (79, (0), (30000)), (80, (0), (42000)), (81, (-1), (43000)), (83, (0), (99)), (84, (0), (0)), (85, (0), (0)), (88, (0), (0)), (89, (0), (0)), (90, (0), (3)), (91, (0), (1)), (94, (0), (99)), (101, (0), (3)), (102, (0), (1)), (104, (0), (99)), (111, (0), (3)), (112, (0), (1)), (114, (0), (99)), (121, (0), (3)), (122, (0), (1)), (124, (0), (99)), (131, (0), (3)), (132, (0), (1)), (134, (0), (99)), (141, (0), (3)), (142, (0), (1)), (144, (-128), (127)), (145, (0), (1114111)), (1001, (0), (1886545264)), (1002, (0), (30)), (1003, (0), (68)), (1006, (-3), (3)), (1007, (0), (12))]
def F_cP : List (Nat × List (Nat × Int × Int)) := [(0, [(1, (0), (12000)), (7, (0), (100))]), (2, [(1, (0), (12000)), (2, (0), (1)), (5, (0), (16)), (6, (0), (65535)), (7, (1), (200)), (8, (0), (65535)), (11, (0), (12)), (12, (0), (23986)), (13, (0), (65535)), (14, (0), (32767)), (15, (0), (500))]), (5, [(0, (0), (12000)), (1, (0), (12000)), (2, (0), (12000)), (3, (0), (12000)), (4, (0), (12000)), (5, (0), (12000)), (6, (0), (12000)), (7, (0), (12000)), (8, (0), (512)), (9, (0), (12000)), (10, (0), (12000))]), (6, [(0, (1), (2)), (1, (0), (64)), (2, (0), (64)), (3, (0), (64)), (4, (0), (16)), (5, (0), (256)), (6, (0), (4))]), (16, [(4, (0), (30000)), (5, (-12000), (36000)), (6, (0), (1)), (7, (0), (65535)), (8, (0), (65535)), (9, (-32768), (65535)), (10, (-32768), (65535))]), (17, [(9, (0), (100)), (10, (0), (20)), (11, (0), (0))]), (30, [(7, (0), (48)), (8, (0), (1)), (9, (0), (1))]), (31, [(1, (0), (256)), (3, (0), (64))]), (34, [(9, (0), (64)), (10, (0), (20)), (11, (0), (0))]), (45, [(1, (0), (256)), (3, (0), (64))]), (48, [(9, (0), (64)), (10, (0), (20)), (11, (0), (0))]), (60, [(7, (0), (100)), (9, (0), (100)), (11, (-2147483648), (8193)), (12, (-8193), (2147483647))]), (69, [(5, (0), (256)), (6, 0, 0), (7, 0, 0), (8, (0), (1)), (9, (0), (30000)), (10, (0), (42000)), (11, (-1), (43000)), (12, (0), (48)), (13, (0), (20000)), (14, (0), (15)), (15, (-30001), (41999)), (16, (0), (256))]), (70, [(0, (-16384), (16384)), (1, (-16384), (16384)), (2, (-16384), (16384)), (3, (-16384), (16384)), (4, (-16384), (16384)), (5, (-16384), (16384)), (8, (0), (65535)), (9, (0), (128)), (10, (0), (96)), (11, (-1408), (1408)), (12, (-16384), (16384)), (13, (-16384), (16384))]), (73, [(3, (0), (16)), (9, (0), (32))]), (82, [(9, (0), (0)), (10, (0), (0)), (11, (0), (0))]), (93, [(9, (0), (100)), (10, (0), (20)), (11, (2), (2))]), (103, [(9, (0), (100)), (10, (0), (20)), (11, (2), (2))]), (113, [(9, (0), (100)), (10, (0), (20)), (11, (2), (2))]), (123, [(9, (0), (100)), (10, (0), (20)), (11, (2), (2))]), (133, [(9, (0), (100)), (10, (0), (20)), (11, (2), (2))]), (143, [(1, (0), (128)), (2, (0), (128))]), (1004, [(0, (1), (1)), (1, (0), (0)), (2, (0), (0)), (3, (0), (0)), (4, (0), (0)), (5, (0), (0)), (6, (0), (0))]), (1005, [(0, (2), (2)), (1, (64), (64)), (2, (64), (64)), (3, (64), (64)), (4, (16), (16)), (5, (256), (256)), (6, (4), (4))])]
def R_cP (a k : Nat) : Option (Int × Int) := R_of A_cP F_cP a k
def A_cR : List (Nat × Int × Int) := A_cP
def F_cR : List (Nat × List (Nat × Int × Int)) := F_cP
def R_cR (a k : Nat) : Option (Int × Int) := R_of A_cR F_cR a k
def gh_c (a k : Nat) : Bool := decide (146 ≤ a) || (a == 0 && k == 1) || a == 1
def gh_m (a k : Nat) : Bool := gh_c a k || (a == 69 && (k == 6 || k == 7))
def T_cA : Tb := (R_cA, gh_c, X1, xs1)
def T_cU : Tb := (R_cU, gh_c, X1, xs1)
def T_cM : Tb := (R_cM, gh_c, X1, xs1)
def T_cP : Tb := (R_cP, gh_c, X1, xs1)
def T_cR : Tb := (R_cR, gh_m, X1, xs1)
theorem X_cP {G V : sv_V} (S : SIx T_cP G V) : X1 V := S.2.2.2.2.1
theorem ocl_len {b : Nat} (m : b ∈ ocl) : sv_len 0 (b + 1) = some 20 := by
  simp only [ocl, List.mem_cons, List.not_mem_nil, or_false] at m
  rcases m with rfl | rfl | rfl | rfl | rfl <;> decide +kernel
theorem ocl_T {b : Nat} (m : b ∈ ocl) : (T_cP.2.1 b 9 = false ∧ T_cP.2.1 b 10 = false ∧ ∀ j, T_cP.2.1 (b + 1) j = false) ∧ T_cP.1 b 9 = some (0, 100) ∧ T_cP.1 b 10 = some (0, 20) ∧ ∀ j, T_cP.1 (b + 1) j = some (0, 99) := by
  simp only [ocl, List.mem_cons, List.not_mem_nil, or_false] at m
  rcases m with rfl | rfl | rfl | rfl | rfl <;> exact ⟨⟨rfl, rfl, fun _ => rfl⟩, rfl, rfl, fun _ => rfl⟩
theorem rg_some {x : Int32} {l h : Int} {o : Option (Int × Int)} (e : o = some (l, h)) (r : rg x l h) : ∀ l2 h2, o = some (l2, h2) → rg x l2 h2 := by
  intro l2 h2 q
  rw [e] at q
  cases q
  exact r
theorem app_w {G V V2 : sv_V} {b : Nat} {x y : Int32} (q : V2 = sv_I V b 9 x) (S : SIx T_cP G V) (m : b ∈ ocl) (rx : rg x 0 100) (ry : rg y 0 20) (hn : ∀ k : Nat, (k : Int) < y.toInt → (V.1 (b + 1) k).toInt < x.toInt) : SIx T_cP G (sv_I V2 b 10 y) := by
  subst q
  obtain ⟨⟨g9, g10, _⟩, t9, t10, _⟩ := ocl_T m
  exact S.wX2 g9 g10 (rg_some t9 rx) (rg_some t10 ry) (X1_910 (X_cP S) m hn)
theorem out_w {G V V2 : sv_V} {b : Nat} {x y : Int32} (q : V2 = sv_I V b 10 y) (S : SIx T_cP G V) (m : b ∈ ocl) (rx : rg x 0 100) (ry : rg y 0 20) (hn : ∀ k : Nat, (k : Int) < y.toInt → (V.1 (b + 1) k).toInt < x.toInt) : SIx T_cP G (sv_I V2 b 9 x) := by
  subst q
  obtain ⟨⟨g9, g10, _⟩, t9, t10, _⟩ := ocl_T m
  exact S.wX2 g10 g9 (rg_some t10 ry) (rg_some t9 rx) (X1_109 (X_cP S) m hn)
theorem begin_w {G V V2 : sv_V} {b : Nat} (q : V2 = sv_I V b 9 0) (S : SIx T_cP G V) (m : b ∈ [93, 103, 113, 123, 133]) : SIx T_cP G (sv_I V2 b 10 0) :=
  app_w q S m (rg_m (rg_c (x := (0 : Int32)) (n := 0) rfl) (by decide) (by decide)) (rg_m (rg_c (x := (0 : Int32)) (n := 0) rfl) (by decide) (by decide)) (fun k hk => absurd hk (by rw [show (0 : Int32).toInt = 0 from rfl]; omega))
theorem end_w {G V : sv_V} {b j : Nat} {x : Int32} (S : SIx T_cP G V) (m : b ∈ ocl) (h : (V.1 b 10).toInt ≤ (j : Int)) (r : rg x 0 99) : SIx T_cP G (sv_I V (b + 1) j x) := by
  obtain ⟨⟨_, _, ge⟩, _, _, te⟩ := ocl_T m
  exact S.wX (ge j) (rg_some (te j) r) (X1_end (X_cP S) m h)
/-- the ends written behind the first outline's own -/
def AE (l1 l2 : Nat) (l4 : Int32) (V : sv_V) : Prop := ∀ k : Nat, (V.1 l1 10).toInt ≤ (k : Int) → (k : Int) < (V.1 l1 10).toInt + l4.toInt → (V.1 (l1 + 1) k).toInt < (V.1 l1 9).toInt + (V.1 l2 9).toInt
theorem AE_0 {l1 l2 : Nat} {V : sv_V} : AE l1 l2 0 V := fun k h1 h2 => absurd h2 (by rw [show (0 : Int32).toInt = 0 from rfl]; omega)
theorem refs_of {V1 V2 V3 : sv_V} {bo bm : Nat} (q1 : V2 = sv_R V1 69 6 (some bm)) (q2 : V3 = sv_R V2 69 7 (some bo)) (m : bo ∈ [82, 93, 103, 113, 123, 133]) (n : bm ∈ [31, 45]) : RefsOf V3 bo bm := by
  subst q1
  subst q2
  exact ⟨m, n, by simp [sv_R], by simp [sv_R]⟩
theorem run_own {G V : sv_V} (S : SIx T_cP G V) : SIx T_cR V V := S.own gh_m
theorem run_back {G V : sv_V} {o : Option sv_V} (S : SIx T_cP G V) (h : Sg (SIx T_cR V) o) : Sg (SIx T_cP G) o := by
  obtain ⟨W, e, k⟩ := h
  refine ⟨W, e, S.back (gh := gh_m) k (fun a k h => ?_)⟩
  unfold gh_m
  rw [show gh_c a k = true from h]
  rfl
theorem oc_RcA_1_3 : okC T_cA 1 3 := fun i j => ⟨⟨rfl, rfl⟩, fun l h e => ⟨_, _, rfl, by cases (show some _ = some (l, h) from e); decide, by cases (show some _ = some (l, h) from e); decide⟩⟩
theorem oi_RcA_2_1 : okI T_cA 2 1 (0) (12000) := ⟨⟨rfl, rfl⟩, by decide +kernel⟩
theorem oi_RcA_2_2 : okI T_cA 2 2 (0) (1) := ⟨⟨rfl, rfl⟩, by decide +kernel⟩
theorem r_RcA_2_1 : T_cA.1 2 1 = some (0, 12000) := by decide +kernel
theorem r_RcM_2_1 : T_cM.1 2 1 = some (0, 12000) := by decide +kernel
theorem r_RcP_2_1 : T_cP.1 2 1 = some (0, 12000) := by decide +kernel
theorem r_RcR_2_1 : T_cR.1 2 1 = some (0, 12000) := by decide +kernel
theorem r_RcP_4_4 : T_cP.1 4 4 = some (0, 12000) := by decide +kernel
theorem r_RcP_2_8 : T_cP.1 2 8 = some (0, 65535) := by decide +kernel
theorem r_RcP_2_15 : T_cP.1 2 15 = some (0, 500) := by decide +kernel
theorem r_RcP_4_7 : T_cP.1 4 7 = some (0, 12000) := by decide +kernel
theorem r_RcP_2_14 : T_cP.1 2 14 = some (0, 32767) := by decide +kernel
theorem r_RcP_2_12 : T_cP.1 2 12 = some (0, 23986) := by decide +kernel
theorem r_RcP_2_13 : T_cP.1 2 13 = some (0, 65535) := by decide +kernel
theorem r_RcM_16_4 : T_cM.1 16 4 = some (0, 30000) := by decide +kernel
theorem oi_RcM_16_4 : okI T_cM 16 4 (0) (30000) := ⟨⟨rfl, rfl⟩, by decide +kernel⟩
theorem r_RcM_16_5 : T_cM.1 16 5 = some (-12000, 36000) := by decide +kernel
theorem oi_RcM_16_6 : okI T_cM 16 6 (0) (1) := ⟨⟨rfl, rfl⟩, by decide +kernel⟩
theorem r_RcP_16_4 : T_cP.1 16 4 = some (0, 30000) := by decide +kernel
theorem oi_RcP_16_4 : okI T_cP 16 4 (0) (30000) := ⟨⟨rfl, rfl⟩, by decide +kernel⟩
theorem r_RcP_16_5 : T_cP.1 16 5 = some (-12000, 36000) := by decide +kernel
theorem oi_RcP_16_6 : okI T_cP 16 6 (0) (1) := ⟨⟨rfl, rfl⟩, by decide +kernel⟩
theorem r_RcM_16_6 : T_cM.1 16 6 = some (0, 1) := by decide +kernel
theorem oia_RcM_14 : ∀ k, okI T_cM 14 k (0) (30000) := fun k => ⟨⟨rfl, rfl⟩, rfl⟩
theorem oia_RcM_15 : ∀ k, okI T_cM 15 k (0) (400) := fun k => ⟨⟨rfl, rfl⟩, rfl⟩
theorem r_RcP_16_6 : T_cP.1 16 6 = some (0, 1) := by decide +kernel
theorem oia_RcP_14 : ∀ k, okI T_cP 14 k (0) (30000) := fun k => ⟨⟨rfl, rfl⟩, rfl⟩
theorem oia_RcP_15 : ∀ k, okI T_cP 15 k (0) (400) := fun k => ⟨⟨rfl, rfl⟩, rfl⟩
theorem oia_RcM_27 : ∀ k, okI T_cM 27 k (0) (255) := fun k => ⟨⟨rfl, rfl⟩, rfl⟩
theorem oia_RcP_27 : ∀ k, okI T_cP 27 k (0) (255) := fun k => ⟨⟨rfl, rfl⟩, rfl⟩
theorem osa_RcM_2122 : ∀ k, ([21, 22] : List Nat).all (fun a => !(T_cM.2.1 a k) && !(T_cM.2.2.2 a k) && (T_cM.1 a k).isNone) = true := fun k => rfl
theorem osa_RcP_9798107108117118127128137138 : ∀ k, ([97, 98, 107, 108, 117, 118, 127, 128, 137, 138] : List Nat).all (fun a => !(T_cP.2.1 a k) && !(T_cP.2.2.2 a k) && (T_cP.1 a k).isNone) = true := fun k => rfl
theorem on_RcM_16_11 : okN T_cM 16 11 := ⟨⟨rfl, rfl⟩, by decide +kernel⟩
theorem on_RcM_16_12 : okN T_cM 16 12 := ⟨⟨rfl, rfl⟩, by decide +kernel⟩
theorem on_RcM_16_13 : okN T_cM 16 13 := ⟨⟨rfl, rfl⟩, by decide +kernel⟩
theorem on_RcM_16_14 : okN T_cM 16 14 := ⟨⟨rfl, rfl⟩, by decide +kernel⟩
theorem r_RcM_16_7 : T_cM.1 16 7 = some (0, 65535) := by decide +kernel
theorem r_RcM_16_9 : T_cM.1 16 9 = some (-32768, 65535) := by decide +kernel
theorem r_RcM_16_10 : T_cM.1 16 10 = some (-32768, 65535) := by decide +kernel
theorem on_RcP_16_11 : okN T_cP 16 11 := ⟨⟨rfl, rfl⟩, by decide +kernel⟩
theorem on_RcP_16_12 : okN T_cP 16 12 := ⟨⟨rfl, rfl⟩, by decide +kernel⟩
theorem on_RcP_16_13 : okN T_cP 16 13 := ⟨⟨rfl, rfl⟩, by decide +kernel⟩
theorem on_RcP_16_14 : okN T_cP 16 14 := ⟨⟨rfl, rfl⟩, by decide +kernel⟩
theorem r_RcP_16_7 : T_cP.1 16 7 = some (0, 65535) := by decide +kernel
theorem r_RcP_16_9 : T_cP.1 16 9 = some (-32768, 65535) := by decide +kernel
theorem r_RcP_16_10 : T_cP.1 16 10 = some (-32768, 65535) := by decide +kernel
theorem oi_RcM_16_10 : okI T_cM 16 10 (-32768) (65535) := ⟨⟨rfl, rfl⟩, by decide +kernel⟩
theorem oi_RcP_16_10 : okI T_cP 16 10 (-32768) (65535) := ⟨⟨rfl, rfl⟩, by decide +kernel⟩
theorem oi_RcM_16_9 : okI T_cM 16 9 (-32768) (65535) := ⟨⟨rfl, rfl⟩, by decide +kernel⟩
theorem oi_RcP_16_9 : okI T_cP 16 9 (-32768) (65535) := ⟨⟨rfl, rfl⟩, by decide +kernel⟩
theorem oi_RcM_16_7 : okI T_cM 16 7 (0) (65535) := ⟨⟨rfl, rfl⟩, by decide +kernel⟩
theorem oi_RcM_16_8 : okI T_cM 16 8 (0) (65535) := ⟨⟨rfl, rfl⟩, by decide +kernel⟩
theorem oi_RcP_16_7 : okI T_cP 16 7 (0) (65535) := ⟨⟨rfl, rfl⟩, by decide +kernel⟩
theorem oi_RcP_16_8 : okI T_cP 16 8 (0) (65535) := ⟨⟨rfl, rfl⟩, by decide +kernel⟩
theorem oi_RcA_2_5 : okI T_cA 2 5 (0) (16) := ⟨⟨rfl, rfl⟩, by decide +kernel⟩
theorem r_RcA_2_5 : T_cA.1 2 5 = some (0, 16) := by decide +kernel
theorem r_RcA_4_2 : T_cA.1 4 2 = some (0, 12000) := by decide +kernel
theorem oi_RcA_2_6 : okI T_cA 2 6 (0) (65535) := ⟨⟨rfl, rfl⟩, by decide +kernel⟩
theorem on_RcA_2_9 : okN T_cA 2 9 := ⟨⟨rfl, rfl⟩, by decide +kernel⟩
theorem r_RcM_4_3 : T_cM.1 4 3 = some (0, 12000) := by decide +kernel
theorem oi_RcM_2_8 : okI T_cM 2 8 (0) (65535) := ⟨⟨rfl, rfl⟩, by decide +kernel⟩
theorem r_RcM_2_7 : T_cM.1 2 7 = some (1, 200) := by decide +kernel
theorem r_RcM_4_5 : T_cM.1 4 5 = some (0, 12000) := by decide +kernel
theorem r_RcM_5_1 : T_cM.1 5 1 = some (0, 12000) := by decide +kernel
theorem r_RcM_4_1 : T_cM.1 4 1 = some (0, 12000) := by decide +kernel
theorem oia_RcM_8 : ∀ k, okI T_cM 8 k (0) (24000) := fun k => ⟨⟨rfl, rfl⟩, rfl⟩
theorem oia_RcM_9 : ∀ k, okI T_cM 9 k (-12000) (12000) := fun k => ⟨⟨rfl, rfl⟩, rfl⟩
theorem r_RcM_4_0 : T_cM.1 4 0 = some (0, 12000) := by decide +kernel
theorem r_RcM_5_0 : T_cM.1 5 0 = some (0, 12000) := by decide +kernel
theorem oi_RcM_2_12 : okI T_cM 2 12 (0) (23986) := ⟨⟨rfl, rfl⟩, by decide +kernel⟩
theorem oi_RcM_2_11 : okI T_cM 2 11 (0) (12) := ⟨⟨rfl, rfl⟩, by decide +kernel⟩
theorem r_RcM_2_12 : T_cM.1 2 12 = some (0, 23986) := by decide +kernel
theorem oi_RcM_2_13 : okI T_cM 2 13 (0) (65535) := ⟨⟨rfl, rfl⟩, by decide +kernel⟩
theorem oi_RcM_2_14 : okI T_cM 2 14 (0) (32767) := ⟨⟨rfl, rfl⟩, by decide +kernel⟩
theorem oi_RcM_2_15 : okI T_cM 2 15 (0) (500) := ⟨⟨rfl, rfl⟩, by decide +kernel⟩
theorem r_RcM_4_7 : T_cM.1 4 7 = some (0, 12000) := by decide +kernel
theorem oi_RcP_69_13 : okI T_cP 69 13 (0) (20000) := ⟨⟨rfl, rfl⟩, by decide +kernel⟩
theorem oi_RcP_69_14 : okI T_cP 69 14 (0) (15) := ⟨⟨rfl, rfl⟩, by decide +kernel⟩
theorem oi_RcP_69_15 : okI T_cP 69 15 (-30001) (41999) := ⟨⟨rfl, rfl⟩, by decide +kernel⟩
theorem r_RcR_69_5 : T_cR.1 69 5 = some (0, 256) := by decide +kernel
theorem oi_RcR_69_5 : okI T_cR 69 5 (0) (256) := ⟨⟨rfl, rfl⟩, by decide +kernel⟩
theorem oi_RcR_69_14 : okI T_cR 69 14 (0) (15) := ⟨⟨rfl, rfl⟩, by decide +kernel⟩
theorem r_RcR_6_5 : T_cR.1 6 5 = some (0, 256) := by decide +kernel
theorem ona_RcR_92 : ∀ k, okN T_cR 92 k := fun k => ⟨⟨rfl, rfl⟩, rfl⟩
theorem r_RcR_69_16 : T_cR.1 69 16 = some (0, 256) := by decide +kernel
theorem oi_RcR_69_16 : okI T_cR 69 16 (0) (256) := ⟨⟨rfl, rfl⟩, by decide +kernel⟩
theorem oia_RcR_72 : ∀ k, okI T_cR 72 k (0) (1) := fun k => ⟨⟨rfl, rfl⟩, rfl⟩
theorem oi_RcR_70_8 : okI T_cR 70 8 (0) (65535) := ⟨⟨rfl, rfl⟩, by decide +kernel⟩
theorem os_RcR_4458_6 : ([44, 58] : List Nat).all (fun a => !(T_cR.2.1 a 6) && !(T_cR.2.2.2 a 6) && (T_cR.1 a 6).isNone) = true := by decide +kernel
theorem r_RcR_69_9 : T_cR.1 69 9 = some (0, 30000) := by decide +kernel
theorem r_RcR_69_15 : T_cR.1 69 15 = some (-30001, 41999) := by decide +kernel
theorem r_RcR_69_10 : T_cR.1 69 10 = some (0, 42000) := by decide +kernel
theorem oi_RcR_69_11 : okI T_cR 69 11 (-1) (43000) := ⟨⟨rfl, rfl⟩, by decide +kernel⟩
theorem r_RcR_69_11 : T_cR.1 69 11 = some (-1, 43000) := by decide +kernel
theorem oia_RcR_74 : ∀ k, okI T_cR 74 k (0) (30000) := fun k => ⟨⟨rfl, rfl⟩, rfl⟩
theorem oia_RcR_75 : ∀ k, okI T_cR 75 k (0) (42000) := fun k => ⟨⟨rfl, rfl⟩, rfl⟩
theorem oia_RcR_76 : ∀ k, okI T_cR 76 k (-1) (43000) := fun k => ⟨⟨rfl, rfl⟩, rfl⟩
theorem r_RcR_73_9 : T_cR.1 73 9 = some (0, 32) := by decide +kernel
theorem oia_RcR_77 : ∀ k, okI T_cR 77 k (0) (319) := fun k => ⟨⟨rfl, rfl⟩, rfl⟩
theorem ona_RcR_78 : ∀ k, okN T_cR 78 k := fun k => ⟨⟨rfl, rfl⟩, rfl⟩
theorem oia_RcR_79 : ∀ k, okI T_cR 79 k (0) (30000) := fun k => ⟨⟨rfl, rfl⟩, rfl⟩
theorem oia_RcR_80 : ∀ k, okI T_cR 80 k (0) (42000) := fun k => ⟨⟨rfl, rfl⟩, rfl⟩
theorem oia_RcR_81 : ∀ k, okI T_cR 81 k (-1) (43000) := fun k => ⟨⟨rfl, rfl⟩, rfl⟩
theorem oi_RcR_73_9 : okI T_cR 73 9 (0) (32) := ⟨⟨rfl, rfl⟩, by decide +kernel⟩
theorem ra_RcR_74 : ∀ k, T_cR.1 74 k = some (0, 30000) := fun k => rfl
theorem oi_RcR_69_9 : okI T_cR 69 9 (0) (30000) := ⟨⟨rfl, rfl⟩, by decide +kernel⟩
theorem ra_RcR_75 : ∀ k, T_cR.1 75 k = some (0, 42000) := fun k => rfl
theorem oi_RcR_69_10 : okI T_cR 69 10 (0) (42000) := ⟨⟨rfl, rfl⟩, by decide +kernel⟩
theorem ra_RcR_76 : ∀ k, T_cR.1 76 k = some (-1, 43000) := fun k => rfl
theorem ra_RcR_79 : ∀ k, T_cR.1 79 k = some (0, 30000) := fun k => rfl
theorem ra_RcR_80 : ∀ k, T_cR.1 80 k = some (0, 42000) := fun k => rfl
theorem ra_RcR_81 : ∀ k, T_cR.1 81 k = some (-1, 43000) := fun k => rfl
theorem ra_RcR_77 : ∀ k, T_cR.1 77 k = some (0, 319) := fun k => rfl
theorem ota_RcR_91102112122132142_0_1 : ∀ k, ([91, 102, 112, 122, 132, 142] : List Nat).all (fun a => !(T_cR.2.1 a k) && !(T_cR.2.2.2 a k) && outR (T_cR.1 a k) (0) (1)) = true := fun k => rfl
theorem rs_RcR_8293103113123133_9_0_100 : ([82, 93, 103, 113, 123, 133] : List Nat).all (fun a => inR (T_cR.1 a 9) (0) (100)) = true := by decide +kernel
theorem ck_RcR : capok T_cR := by unfold capok; decide +kernel
theorem rt_RcR_90101111121131141_0_3 : ∀ k, ([90, 101, 111, 121, 131, 141] : List Nat).all (fun a => inR (T_cR.1 a k) (0) (3)) = true := fun k => rfl
theorem r_RcR_70_8 : T_cR.1 70 8 = some (0, 65535) := by decide +kernel
theorem r_RcR_72_0 : T_cR.1 72 0 = some (0, 1) := by decide +kernel
theorem rt_RcR_102112122132142_0_1 : ∀ k, ([102, 112, 122, 132, 142] : List Nat).all (fun a => inR (T_cR.1 a k) (0) (1)) = true := fun k => rfl
theorem ota_RcR_102112122132142_0_1 : ∀ k, ([102, 112, 122, 132, 142] : List Nat).all (fun a => !(T_cR.2.1 a k) && !(T_cR.2.2.2 a k) && outR (T_cR.1 a k) (0) (1)) = true := fun k => rfl
theorem on_RcR_71_1 : okN T_cR 71 1 := ⟨⟨rfl, rfl⟩, by decide +kernel⟩
theorem on_RcR_71_2 : okN T_cR 71 2 := ⟨⟨rfl, rfl⟩, by decide +kernel⟩
theorem on_RcR_71_0 : okN T_cR 71 0 := ⟨⟨rfl, rfl⟩, by decide +kernel⟩
theorem oi_RcA_30_7 : okI T_cA 30 7 (0) (48) := ⟨⟨rfl, rfl⟩, by decide +kernel⟩
theorem oi_RcA_30_8 : okI T_cA 30 8 (0) (1) := ⟨⟨rfl, rfl⟩, by decide +kernel⟩
theorem oi_RcA_69_16 : okI T_cA 69 16 (0) (256) := ⟨⟨rfl, rfl⟩, by decide +kernel⟩
theorem r_RcP_30_7 : T_cP.1 30 7 = some (0, 48) := by decide +kernel
theorem r_RcU_30_7 : T_cU.1 30 7 = some (0, 48) := by decide +kernel
theorem r_RcP_93_10 : T_cP.1 93 10 = some (0, 20) := by decide +kernel
theorem ra_RcP_94 : ∀ k, T_cP.1 94 k = some (0, 99) := fun k => rfl
theorem r_RcU_93_10 : T_cU.1 93 10 = some (0, 20) := by decide +kernel
theorem ra_RcU_94 : ∀ k, T_cU.1 94 k = some (0, 99) := fun k => rfl
theorem r_RcP_34_9 : T_cP.1 34 9 = some (0, 64) := by decide +kernel
theorem oi_RcP_48_9 : okI T_cP 48 9 (0) (64) := ⟨⟨rfl, rfl⟩, by decide +kernel⟩
theorem r_RcP_48_9 : T_cP.1 48 9 = some (0, 64) := by decide +kernel
theorem oc_RcP_38_52 : okC T_cP 38 52 := fun i j => ⟨⟨rfl, rfl⟩, fun l h e => by cases (show none = some (l, h) from e)⟩
theorem oc_RcP_39_53 : okC T_cP 39 53 := fun i j => ⟨⟨rfl, rfl⟩, fun l h e => by cases (show none = some (l, h) from e)⟩
theorem oc_RcP_40_54 : okC T_cP 40 54 := fun i j => ⟨⟨rfl, rfl⟩, fun l h e => by cases (show none = some (l, h) from e)⟩
theorem oc_RcP_41_55 : okC T_cP 41 55 := fun i j => ⟨⟨rfl, rfl⟩, fun l h e => by cases (show none = some (l, h) from e)⟩
theorem oc_RcP_42_56 : okC T_cP 42 56 := fun i j => ⟨⟨rfl, rfl⟩, fun l h e => ⟨_, _, rfl, by cases (show some _ = some (l, h) from e); decide, by cases (show some _ = some (l, h) from e); decide⟩⟩
theorem rs_RcP_93103113123133_11_2_2 : ([93, 103, 113, 123, 133] : List Nat).all (fun a => inR (T_cP.1 a 11) (2) (2)) = true := by decide +kernel
theorem rs_RcP_93103113123133_9_0_100 : ([93, 103, 113, 123, 133] : List Nat).all (fun a => inR (T_cP.1 a 9) (0) (100)) = true := by decide +kernel
theorem osa_RcP_95105115125135 : ∀ k, ([95, 105, 115, 125, 135] : List Nat).all (fun a => !(T_cP.2.1 a k) && !(T_cP.2.2.2 a k) && (T_cP.1 a k).isNone) = true := fun k => rfl
theorem osa_RcP_96106116126136 : ∀ k, ([96, 106, 116, 126, 136] : List Nat).all (fun a => !(T_cP.2.1 a k) && !(T_cP.2.2.2 a k) && (T_cP.1 a k).isNone) = true := fun k => rfl
theorem rs_RcP_93103113123_9_0_100 : ([93, 103, 113, 123] : List Nat).all (fun a => inR (T_cP.1 a 9) (0) (100)) = true := by decide +kernel
theorem osa_RcP_97107117127 : ∀ k, ([97, 107, 117, 127] : List Nat).all (fun a => !(T_cP.2.1 a k) && !(T_cP.2.2.2 a k) && (T_cP.1 a k).isNone) = true := fun k => rfl
theorem osa_RcP_98108118128 : ∀ k, ([98, 108, 118, 128] : List Nat).all (fun a => !(T_cP.2.1 a k) && !(T_cP.2.2.2 a k) && (T_cP.1 a k).isNone) = true := fun k => rfl
theorem r_RcR_70_12 : T_cR.1 70 12 = some (-16384, 16384) := by decide +kernel
theorem oi_RcR_70_2 : okI T_cR 70 2 (-16384) (16384) := ⟨⟨rfl, rfl⟩, by decide +kernel⟩
theorem r_RcR_70_13 : T_cR.1 70 13 = some (-16384, 16384) := by decide +kernel
theorem oi_RcR_70_3 : okI T_cR 70 3 (-16384) (16384) := ⟨⟨rfl, rfl⟩, by decide +kernel⟩
theorem oi_RcR_70_4 : okI T_cR 70 4 (-16384) (16384) := ⟨⟨rfl, rfl⟩, by decide +kernel⟩
theorem oi_RcR_70_5 : okI T_cR 70 5 (-16384) (16384) := ⟨⟨rfl, rfl⟩, by decide +kernel⟩
theorem oi_RcR_70_0 : okI T_cR 70 0 (-16384) (16384) := ⟨⟨rfl, rfl⟩, by decide +kernel⟩
theorem oi_RcR_70_1 : okI T_cR 70 1 (-16384) (16384) := ⟨⟨rfl, rfl⟩, by decide +kernel⟩
theorem oi_RcR_70_12 : okI T_cR 70 12 (-16384) (16384) := ⟨⟨rfl, rfl⟩, by decide +kernel⟩
theorem oi_RcR_70_13 : okI T_cR 70 13 (-16384) (16384) := ⟨⟨rfl, rfl⟩, by decide +kernel⟩
theorem oi_RcR_70_10 : okI T_cR 70 10 (0) (96) := ⟨⟨rfl, rfl⟩, by decide +kernel⟩
theorem oi_RcR_70_11 : okI T_cR 70 11 (-1408) (1408) := ⟨⟨rfl, rfl⟩, by decide +kernel⟩
theorem oi_RcR_70_9 : okI T_cR 70 9 (0) (128) := ⟨⟨rfl, rfl⟩, by decide +kernel⟩
theorem r_RcR_70_9 : T_cR.1 70 9 = some (0, 128) := by decide +kernel
theorem r_RcP_60_7 : T_cP.1 60 7 = some (0, 100) := by decide +kernel
theorem ona_RcP_61 : ∀ k, okN T_cP 61 k := fun k => ⟨⟨rfl, rfl⟩, rfl⟩
theorem ona_RcP_62 : ∀ k, okN T_cP 62 k := fun k => ⟨⟨rfl, rfl⟩, rfl⟩
theorem ona_RcP_63 : ∀ k, okN T_cP 63 k := fun k => ⟨⟨rfl, rfl⟩, rfl⟩
theorem ona_RcP_64 : ∀ k, okN T_cP 64 k := fun k => ⟨⟨rfl, rfl⟩, rfl⟩
theorem ona_RcP_65 : ∀ k, okN T_cP 65 k := fun k => ⟨⟨rfl, rfl⟩, rfl⟩
theorem ona_RcP_66 : ∀ k, okN T_cP 66 k := fun k => ⟨⟨rfl, rfl⟩, rfl⟩
theorem oia_RcP_67 : ∀ k, okI T_cP 67 k (0) (1) := fun k => ⟨⟨rfl, rfl⟩, rfl⟩
theorem oi_RcP_60_7 : okI T_cP 60 7 (0) (100) := ⟨⟨rfl, rfl⟩, by decide +kernel⟩
theorem ra_RcP_102 : ∀ k, T_cP.1 102 k = some (0, 1) := fun k => rfl
theorem r_RcP_60_11 : T_cP.1 60 11 = some (-2147483648, 8193) := by decide +kernel
theorem r_RcP_60_12 : T_cP.1 60 12 = some (-8193, 2147483647) := by decide +kernel
theorem r_RcP_60_9 : T_cP.1 60 9 = some (0, 100) := by decide +kernel
theorem r_RcU_60_9 : T_cU.1 60 9 = some (0, 100) := by decide +kernel
theorem r_RcP_2_6 : T_cP.1 2 6 = some (0, 65535) := by decide +kernel
theorem r_RcP_2_7 : T_cP.1 2 7 = some (1, 200) := by decide +kernel
theorem r_RcP_2_5 : T_cP.1 2 5 = some (0, 16) := by decide +kernel
theorem r_RcP_2_11 : T_cP.1 2 11 = some (0, 12) := by decide +kernel
theorem r_RcP_5_8 : T_cP.1 5 8 = some (0, 512) := by decide +kernel
theorem r_RcU_2_2 : T_cU.1 2 2 = some (0, 0) := by decide +kernel
theorem r_RcP_93_9 : T_cP.1 93 9 = some (0, 100) := by decide +kernel
theorem r_RcU_93_9 : T_cU.1 93 9 = some (0, 100) := by decide +kernel
theorem ra_RcU_102 : ∀ k, T_cU.1 102 k = some (0, 1) := fun k => rfl
theorem r_RcP_69_13 : T_cP.1 69 13 = some (0, 20000) := by decide +kernel
theorem r_RcP_69_14 : T_cP.1 69 14 = some (0, 15) := by decide +kernel
theorem r_RcP_69_15 : T_cP.1 69 15 = some (-30001, 41999) := by decide +kernel
theorem r_RcP_69_16 : T_cP.1 69 16 = some (0, 256) := by decide +kernel
theorem r_RcU_69_13 : T_cU.1 69 13 = some (0, 20000) := by decide +kernel
theorem r_RcU_69_14 : T_cU.1 69 14 = some (0, 15) := by decide +kernel
theorem r_RcU_69_15 : T_cU.1 69 15 = some (-30001, 41999) := by decide +kernel
theorem r_RcU_69_16 : T_cU.1 69 16 = some (0, 256) := by decide +kernel
theorem r_RcP_31_1 : T_cP.1 31 1 = some (0, 256) := by decide +kernel
theorem r_RcP_31_3 : T_cP.1 31 3 = some (0, 64) := by decide +kernel
theorem r_RcU_31_1 : T_cU.1 31 1 = some (0, 256) := by decide +kernel
theorem r_RcU_31_3 : T_cU.1 31 3 = some (0, 64) := by decide +kernel
theorem r_RcU_34_9 : T_cU.1 34 9 = some (0, 64) := by decide +kernel
theorem r_RcP_143_1 : T_cP.1 143 1 = some (0, 128) := by decide +kernel
theorem r_RcP_143_2 : T_cP.1 143 2 = some (0, 128) := by decide +kernel
theorem ra_RcP_144 : ∀ k, T_cP.1 144 k = some (-128, 127) := fun k => rfl
theorem r_RcU_143_1 : T_cU.1 143 1 = some (0, 128) := by decide +kernel
theorem r_RcU_143_2 : T_cU.1 143 2 = some (0, 128) := by decide +kernel
theorem ra_RcU_144 : ∀ k, T_cU.1 144 k = some (-128, 127) := fun k => rfl
theorem r_RcP_0_7 : T_cP.1 0 7 = some (0, 100) := by decide +kernel
theorem oia_RcP_145 : ∀ k, okI T_cP 145 k (0) (1114111) := fun k => ⟨⟨rfl, rfl⟩, rfl⟩
theorem oi_RcP_0_7 : okI T_cP 0 7 (0) (100) := ⟨⟨rfl, rfl⟩, by decide +kernel⟩
theorem r_RcU_0_7 : T_cU.1 0 7 = some (0, 100) := by decide +kernel
theorem oia_RcU_145 : ∀ k, okI T_cU 145 k (0) (1114111) := fun k => ⟨⟨rfl, rfl⟩, rfl⟩
theorem oi_RcU_0_7 : okI T_cU 0 7 (0) (100) := ⟨⟨rfl, rfl⟩, by decide +kernel⟩
theorem oia_RcP_76 : ∀ k, okI T_cP 76 k (-1) (43000) := fun k => ⟨⟨rfl, rfl⟩, rfl⟩
theorem oi_RcP_73_3 : okI T_cP 73 3 (0) (16) := ⟨⟨rfl, rfl⟩, by decide +kernel⟩
theorem oi_RcP_73_9 : okI T_cP 73 9 (0) (32) := ⟨⟨rfl, rfl⟩, by decide +kernel⟩
theorem oi_RcP_143_1 : okI T_cP 143 1 (0) (128) := ⟨⟨rfl, rfl⟩, by decide +kernel⟩
theorem oi_RcP_143_2 : okI T_cP 143 2 (0) (128) := ⟨⟨rfl, rfl⟩, by decide +kernel⟩
theorem oia_RcP_144 : ∀ k, okI T_cP 144 k (-128) (127) := fun k => ⟨⟨rfl, rfl⟩, rfl⟩
theorem oi_RcU_143_1 : okI T_cU 143 1 (0) (128) := ⟨⟨rfl, rfl⟩, by decide +kernel⟩
theorem oi_RcU_143_2 : okI T_cU 143 2 (0) (128) := ⟨⟨rfl, rfl⟩, by decide +kernel⟩
theorem oia_RcU_144 : ∀ k, okI T_cU 144 k (-128) (127) := fun k => ⟨⟨rfl, rfl⟩, rfl⟩
theorem r_RcM_17_9 : T_cM.1 17 9 = some (0, 100) := by decide +kernel
theorem oia_RcM_26 : ∀ k, okI T_cM 26 k (0) (1) := fun k => ⟨⟨rfl, rfl⟩, rfl⟩
theorem ota_RcP_102112122132142_0_1 : ∀ k, ([102, 112, 122, 132, 142] : List Nat).all (fun a => !(T_cP.2.1 a k) && !(T_cP.2.2.2 a k) && outR (T_cP.1 a k) (0) (1)) = true := fun k => rfl
theorem oi_RcM_17_10 : okI T_cM 17 10 (0) (20) := ⟨⟨rfl, rfl⟩, by decide +kernel⟩
theorem oi_RcM_17_9 : okI T_cM 17 9 (0) (100) := ⟨⟨rfl, rfl⟩, by decide +kernel⟩
theorem oia_RcM_18 : ∀ k, okI T_cM 18 k (0) (99) := fun k => ⟨⟨rfl, rfl⟩, rfl⟩
theorem rs_RcP_93103113123133_10_0_20 : ([93, 103, 113, 123, 133] : List Nat).all (fun a => inR (T_cP.1 a 10) (0) (20)) = true := by decide +kernel
theorem ra_RcM_8 : ∀ k, T_cM.1 8 k = some (0, 24000) := fun k => rfl
theorem ra_RcM_9 : ∀ k, T_cM.1 9 k = some (-12000, 12000) := fun k => rfl
theorem oi_RcM_16_5 : okI T_cM 16 5 (-12000) (36000) := ⟨⟨rfl, rfl⟩, by decide +kernel⟩
theorem ra_RcP_8 : ∀ k, T_cP.1 8 k = some (0, 24000) := fun k => rfl
theorem ra_RcP_9 : ∀ k, T_cP.1 9 k = some (-12000, 12000) := fun k => rfl
theorem oi_RcP_16_5 : okI T_cP 16 5 (-12000) (36000) := ⟨⟨rfl, rfl⟩, by decide +kernel⟩
theorem r_RcM_16_8 : T_cM.1 16 8 = some (0, 65535) := by decide +kernel
theorem oia_RcM_13 : ∀ k, okI T_cM 13 k (0) (8) := fun k => ⟨⟨rfl, rfl⟩, rfl⟩
theorem ra_RcM_13 : ∀ k, T_cM.1 13 k = some (0, 8) := fun k => rfl
theorem oi_RcP_69_12 : okI T_cP 69 12 (0) (48) := ⟨⟨rfl, rfl⟩, by decide +kernel⟩
theorem r_RcR_69_12 : T_cR.1 69 12 = some (0, 48) := by decide +kernel
theorem r_RcR_70_2 : T_cR.1 70 2 = some (-16384, 16384) := by decide +kernel
theorem r_RcR_70_3 : T_cR.1 70 3 = some (-16384, 16384) := by decide +kernel
theorem osa_RcR_38528697107117127137 : ∀ k, ([38, 52, 86, 97, 107, 117, 127, 137] : List Nat).all (fun a => !(T_cR.2.1 a k) && !(T_cR.2.2.2 a k) && (T_cR.1 a k).isNone) = true := fun k => rfl
theorem osa_RcR_39538798108118128138 : ∀ k, ([39, 53, 87, 98, 108, 118, 128, 138] : List Nat).all (fun a => !(T_cR.2.1 a k) && !(T_cR.2.2.2 a k) && (T_cR.1 a k).isNone) = true := fun k => rfl
theorem rt_RcR_425690101111121131141_0_3 : ∀ k, ([42, 56, 90, 101, 111, 121, 131, 141] : List Nat).all (fun a => inR (T_cR.1 a k) (0) (3)) = true := fun k => rfl
theorem ota_RcR_425690101111121131141_0_3 : ∀ k, ([42, 56, 90, 101, 111, 121, 131, 141] : List Nat).all (fun a => !(T_cR.2.1 a k) && !(T_cR.2.2.2 a k) && outR (T_cR.1 a k) (0) (3)) = true := fun k => rfl
theorem ona_RcR_71 : ∀ k, okN T_cR 71 k := fun k => ⟨⟨rfl, rfl⟩, rfl⟩
theorem os_RcR_4458_3 : ([44, 58] : List Nat).all (fun a => !(T_cR.2.1 a 3) && !(T_cR.2.2.2 a 3) && (T_cR.1 a 3).isNone) = true := by decide +kernel
theorem os_RcR_4458_0 : ([44, 58] : List Nat).all (fun a => !(T_cR.2.1 a 0) && !(T_cR.2.2.2 a 0) && (T_cR.1 a 0).isNone) = true := by decide +kernel
theorem os_RcR_4458_2 : ([44, 58] : List Nat).all (fun a => !(T_cR.2.1 a 2) && !(T_cR.2.2.2 a 2) && (T_cR.1 a 2).isNone) = true := by decide +kernel
theorem os_RcR_4458_1 : ([44, 58] : List Nat).all (fun a => !(T_cR.2.1 a 1) && !(T_cR.2.2.2 a 1) && (T_cR.1 a 1).isNone) = true := by decide +kernel
theorem os_RcR_4458_4 : ([44, 58] : List Nat).all (fun a => !(T_cR.2.1 a 4) && !(T_cR.2.2.2 a 4) && (T_cR.1 a 4).isNone) = true := by decide +kernel
theorem os_RcR_4458_5 : ([44, 58] : List Nat).all (fun a => !(T_cR.2.1 a 5) && !(T_cR.2.2.2 a 5) && (T_cR.1 a 5).isNone) = true := by decide +kernel
theorem os_RcR_4458_7 : ([44, 58] : List Nat).all (fun a => !(T_cR.2.1 a 7) && !(T_cR.2.2.2 a 7) && (T_cR.1 a 7).isNone) = true := by decide +kernel
theorem os_RcR_4458_8 : ([44, 58] : List Nat).all (fun a => !(T_cR.2.1 a 8) && !(T_cR.2.2.2 a 8) && (T_cR.1 a 8).isNone) = true := by decide +kernel
theorem ra_RcR_1006 : ∀ k, T_cR.1 1006 k = some (-3, 3) := fun k => rfl
theorem r_RcR_6_3 : T_cR.1 6 3 = some (0, 64) := by decide +kernel
theorem r_RcR_73_3 : T_cR.1 73 3 = some (0, 16) := by decide +kernel
theorem r_RcR_6_4 : T_cR.1 6 4 = some (0, 16) := by decide +kernel
theorem oi_RcR_73_3 : okI T_cR 73 3 (0) (16) := ⟨⟨rfl, rfl⟩, by decide +kernel⟩
theorem rs_RcR_3145_3_0_64 : ([31, 45] : List Nat).all (fun a => inR (T_cR.1 a 3) (0) (64)) = true := by decide +kernel
theorem rs_RcR_3145_1_0_256 : ([31, 45] : List Nat).all (fun a => inR (T_cR.1 a 1) (0) (256)) = true := by decide +kernel
theorem osa_RcR_3347 : ∀ k, ([33, 47] : List Nat).all (fun a => !(T_cR.2.1 a k) && !(T_cR.2.2.2 a k) && (T_cR.1 a k).isNone) = true := fun k => rfl
theorem osa_RcR_3246 : ∀ k, ([32, 46] : List Nat).all (fun a => !(T_cR.2.1 a k) && !(T_cR.2.2.2 a k) && (T_cR.1 a k).isNone) = true := fun k => rfl
theorem rs_RcR_3448_9_0_64 : ([34, 48] : List Nat).all (fun a => inR (T_cR.1 a 9) (0) (64)) = true := by decide +kernel
theorem rs_RcR_3448_11_0_0 : ([34, 48] : List Nat).all (fun a => inR (T_cR.1 a 11) (0) (0)) = true := by decide +kernel
theorem rt_RcR_4256_0_3 : ∀ k, ([42, 56] : List Nat).all (fun a => inR (T_cR.1 a k) (0) (3)) = true := fun k => rfl
theorem ota_RcR_4256_0_3 : ∀ k, ([42, 56] : List Nat).all (fun a => !(T_cR.2.1 a k) && !(T_cR.2.2.2 a k) && outR (T_cR.1 a k) (0) (3)) = true := fun k => rfl
theorem rs_RcR_8293103113123133_11_0_2 : ([82, 93, 103, 113, 123, 133] : List Nat).all (fun a => inR (T_cR.1 a 11) (0) (2)) = true := by decide +kernel
theorem ota_RcR_90101111121131141_0_3 : ∀ k, ([90, 101, 111, 121, 131, 141] : List Nat).all (fun a => !(T_cR.2.1 a k) && !(T_cR.2.2.2 a k) && outR (T_cR.1 a k) (0) (3)) = true := fun k => rfl
theorem r_RcR_72_1 : T_cR.1 72 1 = some (0, 1) := by decide +kernel
theorem r_RcR_72_2 : T_cR.1 72 2 = some (0, 1) := by decide +kernel
theorem osa_RcR_4054 : ∀ k, ([40, 54] : List Nat).all (fun a => !(T_cR.2.1 a k) && !(T_cR.2.2.2 a k) && (T_cR.1 a k).isNone) = true := fun k => rfl
theorem osa_RcR_4155 : ∀ k, ([41, 55] : List Nat).all (fun a => !(T_cR.2.1 a k) && !(T_cR.2.2.2 a k) && (T_cR.1 a k).isNone) = true := fun k => rfl
theorem osa_n306 : ∀ k, ([86, 87, 97, 98, 107, 108, 117, 118, 127, 128, 137, 138] : List Nat).all (fun a => !(T_cR.2.1 a k) && !(T_cR.2.2.2 a k) && (T_cR.1 a k).isNone) = true := fun k => rfl
theorem rt_RcR_8394104114124134_0_99 : ∀ k, ([83, 94, 104, 114, 124, 134] : List Nat).all (fun a => inR (T_cR.1 a k) (0) (99)) = true := fun k => rfl
theorem rs_RcR_34488293103113123133_9_0_100 : ([34, 48, 82, 93, 103, 113, 123, 133] : List Nat).all (fun a => inR (T_cR.1 a 9) (0) (100)) = true := by decide +kernel
theorem rs_RcR_34488293103113123133_11_0_2 : ([34, 48, 82, 93, 103, 113, 123, 133] : List Nat).all (fun a => inR (T_cR.1 a 11) (0) (2)) = true := by decide +kernel
theorem rs_RcR_8293103113123133_10_0_20 : ([82, 93, 103, 113, 123, 133] : List Nat).all (fun a => inR (T_cR.1 a 10) (0) (20)) = true := by decide +kernel
theorem rt_RcR_94104114124134_0_99 : ∀ k, ([94, 104, 114, 124, 134] : List Nat).all (fun a => inR (T_cR.1 a k) (0) (99)) = true := fun k => rfl
theorem rt_RcR_4256101111121131141_0_3 : ∀ k, ([42, 56, 101, 111, 121, 131, 141] : List Nat).all (fun a => inR (T_cR.1 a k) (0) (3)) = true := fun k => rfl
theorem ota_RcR_4256101111121131141_0_3 : ∀ k, ([42, 56, 101, 111, 121, 131, 141] : List Nat).all (fun a => !(T_cR.2.1 a k) && !(T_cR.2.2.2 a k) && outR (T_cR.1 a k) (0) (3)) = true := fun k => rfl
theorem osa_RcR_3852 : ∀ k, ([38, 52] : List Nat).all (fun a => !(T_cR.2.1 a k) && !(T_cR.2.2.2 a k) && (T_cR.1 a k).isNone) = true := fun k => rfl
theorem osa_RcR_3953 : ∀ k, ([39, 53] : List Nat).all (fun a => !(T_cR.2.1 a k) && !(T_cR.2.2.2 a k) && (T_cR.1 a k).isNone) = true := fun k => rfl
theorem os_RcP_95105115125135_0 : ([95, 105, 115, 125, 135] : List Nat).all (fun a => !(T_cP.2.1 a 0) && !(T_cP.2.2.2 a 0) && (T_cP.1 a 0).isNone) = true := by decide +kernel
theorem os_RcP_95105115125135_1 : ([95, 105, 115, 125, 135] : List Nat).all (fun a => !(T_cP.2.1 a 1) && !(T_cP.2.2.2 a 1) && (T_cP.1 a 1).isNone) = true := by decide +kernel
theorem os_RcP_96106116126136_0 : ([96, 106, 116, 126, 136] : List Nat).all (fun a => !(T_cP.2.1 a 0) && !(T_cP.2.2.2 a 0) && (T_cP.1 a 0).isNone) = true := by decide +kernel
theorem os_RcP_96106116126136_1 : ([96, 106, 116, 126, 136] : List Nat).all (fun a => !(T_cP.2.1 a 1) && !(T_cP.2.2.2 a 1) && (T_cP.1 a 1).isNone) = true := by decide +kernel
theorem osa_RcP_97107117127137 : ∀ k, ([97, 107, 117, 127, 137] : List Nat).all (fun a => !(T_cP.2.1 a k) && !(T_cP.2.2.2 a k) && (T_cP.1 a k).isNone) = true := fun k => rfl
theorem osa_RcP_98108118128138 : ∀ k, ([98, 108, 118, 128, 138] : List Nat).all (fun a => !(T_cP.2.1 a k) && !(T_cP.2.2.2 a k) && (T_cP.1 a k).isNone) = true := fun k => rfl
theorem rs_RcP_103113123133_9_0_100 : ([103, 113, 123, 133] : List Nat).all (fun a => inR (T_cP.1 a 9) (0) (100)) = true := by decide +kernel
theorem rs_RcP_93103113123_10_0_20 : ([93, 103, 113, 123] : List Nat).all (fun a => inR (T_cP.1 a 10) (0) (20)) = true := by decide +kernel
theorem rs_RcP_103113123133_10_0_20 : ([103, 113, 123, 133] : List Nat).all (fun a => inR (T_cP.1 a 10) (0) (20)) = true := by decide +kernel
theorem rt_RcP_112122132142_0_1 : ∀ k, ([112, 122, 132, 142] : List Nat).all (fun a => inR (T_cP.1 a k) (0) (1)) = true := fun k => rfl
theorem ota_RcP_102112122132_0_1 : ∀ k, ([102, 112, 122, 132] : List Nat).all (fun a => !(T_cP.2.1 a k) && !(T_cP.2.2.2 a k) && outR (T_cP.1 a k) (0) (1)) = true := fun k => rfl
theorem oi_RcP_45_1 : okI T_cP 45 1 (0) (256) := ⟨⟨rfl, rfl⟩, by decide +kernel⟩
theorem oi_RcP_45_3 : okI T_cP 45 3 (0) (64) := ⟨⟨rfl, rfl⟩, by decide +kernel⟩
theorem r_RcP_45_1 : T_cP.1 45 1 = some (0, 256) := by decide +kernel
theorem oc_RcP_32_46 : okC T_cP 32 46 := fun i j => ⟨⟨rfl, rfl⟩, fun l h e => by cases (show none = some (l, h) from e)⟩
theorem r_RcP_45_3 : T_cP.1 45 3 = some (0, 64) := by decide +kernel
theorem oc_RcP_33_47 : okC T_cP 33 47 := fun i j => ⟨⟨rfl, rfl⟩, fun l h e => by cases (show none = some (l, h) from e)⟩
theorem oc_RcP_44_58 : okC T_cP 44 58 := fun i j => ⟨⟨rfl, rfl⟩, fun l h e => by cases (show none = some (l, h) from e)⟩
theorem oi_RcP_34_9 : okI T_cP 34 9 (0) (64) := ⟨⟨rfl, rfl⟩, by decide +kernel⟩
theorem oi_RcP_34_10 : okI T_cP 34 10 (0) (20) := ⟨⟨rfl, rfl⟩, by decide +kernel⟩
theorem oia_RcP_38 : ∀ k, okI T_cP 38 k (-2147483648) (2147483647) := fun k => ⟨⟨rfl, rfl⟩, rfl⟩
theorem oia_RcP_39 : ∀ k, okI T_cP 39 k (-2147483648) (2147483647) := fun k => ⟨⟨rfl, rfl⟩, rfl⟩
theorem oia_RcP_40 : ∀ k, okI T_cP 40 k (-2147483648) (2147483647) := fun k => ⟨⟨rfl, rfl⟩, rfl⟩
theorem oia_RcP_41 : ∀ k, okI T_cP 41 k (-2147483648) (2147483647) := fun k => ⟨⟨rfl, rfl⟩, rfl⟩
theorem oia_RcP_42 : ∀ k, okI T_cP 42 k (0) (3) := fun k => ⟨⟨rfl, rfl⟩, rfl⟩
theorem r_RcR_70_10 : T_cR.1 70 10 = some (0, 96) := by decide +kernel
theorem oia_RcP_68 : ∀ k, okI T_cP 68 k (0) (99) := fun k => ⟨⟨rfl, rfl⟩, rfl⟩
theorem oi_RcP_60_9 : okI T_cP 60 9 (0) (100) := ⟨⟨rfl, rfl⟩, by decide +kernel⟩
theorem r_RcU_60_7 : T_cU.1 60 7 = some (0, 100) := by decide +kernel
theorem oia_RcU_68 : ∀ k, okI T_cU 68 k (0) (99) := fun k => ⟨⟨rfl, rfl⟩, rfl⟩
theorem oi_RcU_60_9 : okI T_cU 60 9 (0) (100) := ⟨⟨rfl, rfl⟩, by decide +kernel⟩
theorem on_RcP_60_10 : okN T_cP 60 10 := ⟨⟨rfl, rfl⟩, by decide +kernel⟩
theorem on_RcU_60_10 : okN T_cU 60 10 := ⟨⟨rfl, rfl⟩, by decide +kernel⟩
theorem ra_RcP_12 : ∀ k, T_cP.1 12 k = some (0, 100) := fun k => rfl
theorem ra_RcP_13 : ∀ k, T_cP.1 13 k = some (0, 8) := fun k => rfl
theorem ra_RcP_15 : ∀ k, T_cP.1 15 k = some (0, 400) := fun k => rfl
theorem ona_RcM_10 : ∀ k, okN T_cM 10 k := fun k => ⟨⟨rfl, rfl⟩, rfl⟩
theorem ona_RcM_11 : ∀ k, okN T_cM 11 k := fun k => ⟨⟨rfl, rfl⟩, rfl⟩
theorem oia_RcM_12 : ∀ k, okI T_cM 12 k (0) (100) := fun k => ⟨⟨rfl, rfl⟩, rfl⟩
theorem ota_RcM_101112131415_0_8 : ∀ k, ([10, 11, 12, 13, 14, 15] : List Nat).all (fun a => !(T_cM.2.1 a k) && !(T_cM.2.2.2 a k) && outR (T_cM.1 a k) (0) (8)) = true := fun k => rfl
theorem ona_RcM_28 : ∀ k, okN T_cM 28 k := fun k => ⟨⟨rfl, rfl⟩, rfl⟩
theorem r_RcM_6_6 : T_cM.1 6 6 = some (0, 4) := by decide +kernel
theorem oia_RcM_28 : ∀ k, okI T_cM 28 k (-2147483648) (2147483647) := fun k => ⟨⟨rfl, rfl⟩, rfl⟩
theorem r_RcP_6_2 : T_cP.1 6 2 = some (0, 64) := by decide +kernel
theorem oi_RcP_31_3 : okI T_cP 31 3 (0) (64) := ⟨⟨rfl, rfl⟩, by decide +kernel⟩
theorem oia_RcP_33 : ∀ k, okI T_cP 33 k (-2147483648) (2147483647) := fun k => ⟨⟨rfl, rfl⟩, rfl⟩
theorem r_RcP_6_1 : T_cP.1 6 1 = some (0, 64) := by decide +kernel
theorem oc_RcP_1003_44 : okC T_cP 1003 44 := fun i j => ⟨⟨rfl, rfl⟩, fun l h e => by cases (show none = some (l, h) from e)⟩
theorem r_RcP_4_8 : T_cP.1 4 8 = some (0, 12000) := by decide +kernel
theorem ona_RcP_32 : ∀ k, okN T_cP 32 k := fun k => ⟨⟨rfl, rfl⟩, rfl⟩
theorem oi_RcP_31_1 : okI T_cP 31 1 (0) (256) := ⟨⟨rfl, rfl⟩, by decide +kernel⟩
theorem osa_RcP_99109119129139 : ∀ k, ([99, 109, 119, 129, 139] : List Nat).all (fun a => !(T_cP.2.1 a k) && !(T_cP.2.2.2 a k) && (T_cP.1 a k).isNone) = true := fun k => rfl
theorem osa_RcP_100110120130140 : ∀ k, ([100, 110, 120, 130, 140] : List Nat).all (fun a => !(T_cP.2.1 a k) && !(T_cP.2.2.2 a k) && (T_cP.1 a k).isNone) = true := fun k => rfl
theorem ota_RcP_101111121131141_0_3 : ∀ k, ([101, 111, 121, 131, 141] : List Nat).all (fun a => !(T_cP.2.1 a k) && !(T_cP.2.2.2 a k) && outR (T_cP.1 a k) (0) (3)) = true := fun k => rfl
theorem oia_RcR_71 : ∀ k, okI T_cR 71 k (-2147483648) (2147483647) := fun k => ⟨⟨rfl, rfl⟩, rfl⟩
theorem oi_RcP_60_11 : okI T_cP 60 11 (-2147483648) (8193) := ⟨⟨rfl, rfl⟩, by decide +kernel⟩
theorem oi_RcP_60_12 : okI T_cP 60 12 (-8193) (2147483647) := ⟨⟨rfl, rfl⟩, by decide +kernel⟩
theorem ra_RcP_68 : ∀ k, T_cP.1 68 k = some (0, 99) := fun k => rfl
theorem ra_RcU_68 : ∀ k, T_cU.1 68 k = some (0, 99) := fun k => rfl
theorem osa_RcP_95105115125 : ∀ k, ([95, 105, 115, 125] : List Nat).all (fun a => !(T_cP.2.1 a k) && !(T_cP.2.2.2 a k) && (T_cP.1 a k).isNone) = true := fun k => rfl
theorem osa_RcP_96106116126 : ∀ k, ([96, 106, 116, 126] : List Nat).all (fun a => !(T_cP.2.1 a k) && !(T_cP.2.2.2 a k) && (T_cP.1 a k).isNone) = true := fun k => rfl
theorem oi_RcR_69_15 : okI T_cR 69 15 (-30001) (41999) := ⟨⟨rfl, rfl⟩, by decide +kernel⟩
theorem r_RcR_69_13 : T_cR.1 69 13 = some (0, 20000) := by decide +kernel
theorem oi_RcR_69_13 : okI T_cR 69 13 (0) (20000) := ⟨⟨rfl, rfl⟩, by decide +kernel⟩
theorem ra_RcR_1007 : ∀ k, T_cR.1 1007 k = some (0, 12) := fun k => rfl
theorem oi_RcP_69_8 : okI T_cP 69 8 (0) (1) := ⟨⟨rfl, rfl⟩, by decide +kernel⟩
theorem on_RcP_30_12 : okN T_cP 30 12 := ⟨⟨rfl, rfl⟩, by decide +kernel⟩
theorem r_RcP_16_8 : T_cP.1 16 8 = some (0, 65535) := by decide +kernel
theorem oi_RcP_30_7 : okI T_cP 30 7 (0) (48) := ⟨⟨rfl, rfl⟩, by decide +kernel⟩
theorem on_RcP_30_11 : okN T_cP 30 11 := ⟨⟨rfl, rfl⟩, by decide +kernel⟩
theorem oi_RcP_30_8 : okI T_cP 30 8 (0) (1) := ⟨⟨rfl, rfl⟩, by decide +kernel⟩
theorem r_RcP_4_9 : T_cP.1 4 9 = some (0, 12000) := by decide +kernel
theorem r_RcP_5_9 : T_cP.1 5 9 = some (0, 12000) := by decide +kernel
theorem r_RcP_4_10 : T_cP.1 4 10 = some (0, 12000) := by decide +kernel
theorem r_RcP_5_10 : T_cP.1 5 10 = some (0, 12000) := by decide +kernel
theorem ra_RcP_14 : ∀ k, T_cP.1 14 k = some (0, 30000) := fun k => rfl
theorem oi_RcP_30_9 : okI T_cP 30 9 (0) (1) := ⟨⟨rfl, rfl⟩, by decide +kernel⟩
theorem on_RcP_30_10 : okN T_cP 30 10 := ⟨⟨rfl, rfl⟩, by decide +kernel⟩
theorem ra_RcP_145 : ∀ k, T_cP.1 145 k = some (0, 1114111) := fun k => rfl
