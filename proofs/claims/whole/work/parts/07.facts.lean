/-! WHAT THE TABLES OF LINKS SAY, by their places in lw_tbl -/
def aAt (p : Nat) (w : Cond) : Bool := decide (lw_tbl[p]? = some w)
theorem aAt_mem {p : Nat} {w : Cond} (h : aAt p w = true) : w ∈ lw_tbl := List.mem_of_getElem? (of_decide_eq_true h)
def aOw (o : Nat) : String := aOwn.getD o ""
def aFlB (q : Nat × Nat × Nat × Nat × Nat × String × Bool) : Bool := match q with
  | (o, i, c, k, p, ref, nest) => match aCl[c]? with
    | none => false
    | some (C, T, N) => decide (k < N ∧ 0 < c ∧ c < 99) && (decide (ref = (T k).1) || decide (Cond.sameField ref (T k).1 (T k).2.1 (T k).2.2.1 ∈ lw_tbl)) && (if nest = true then aAt p (.fieldLinkNest (aOw o) i ref (T k).2.1 (T k).2.2.1 "CensusOffice") && decide ((T k).2.2.2 = false ∨ (T k).1 ≠ aOw o) else aAt p (.fieldLink (aOw o) i ref (T k).2.1 (T k).2.2.1))
set_option maxRecDepth 100000 in
theorem aFl_all : aFl.all aFlB = true := by decide +kernel
def aFlP (o i c k : Nat) : Prop := ∃ (C : String) (T : u_T) (N : Nat) (ref : String), aCl[c]? = some (C, T, N) ∧ k < N ∧ 0 < c ∧ c < 99 ∧ (ref = (T k).1 ∨ Cond.sameField ref (T k).1 (T k).2.1 (T k).2.2.1 ∈ lw_tbl) ∧
  (Cond.fieldLink (aOw o) i ref (T k).2.1 (T k).2.2.1 ∈ lw_tbl ∨ Cond.fieldLinkNest (aOw o) i ref (T k).2.1 (T k).2.2.1 "CensusOffice" ∈ lw_tbl)
theorem aFl_ok {o i c k : Nat} {r : Nat × String × Bool} (h : aFind aFl o i = some (c, k, r)) : aFlP o i c k := by
  have h1 := List.all_eq_true.mp aFl_all _ (aFind_mem h)
  obtain ⟨p, ref, nest⟩ := r
  simp only [aFlB] at h1
  split at h1
  · cases h1
  · rename_i C T N hc
    simp only [Bool.and_eq_true, Bool.or_eq_true, decide_eq_true_eq] at h1
    obtain ⟨⟨⟨h2, h3, h4⟩, h5⟩, h6⟩ := h1
    refine ⟨C, T, N, ref, hc, h2, h3, h4, h5, ?_⟩
    split at h6
    · simp only [Bool.and_eq_true] at h6
      exact Or.inr (aAt_mem h6.1)
    · exact Or.inl (aAt_mem h6)
/-- a class of objects: where its words stand: the fields', instantiable, initialized, castable to Object -/
def aLp : List (List Nat × Nat × Nat × Nat) := [([], 0, 0, 0), ([383, 385, 387, 389, 391, 393, 395, 397, 399, 401, 403, 405, 407], 143, 112, 2380), ([335, 337, 339], 325, 119, 2386), ([280, 282, 284, 286, 288, 290, 292, 294, 296, 298, 300, 302, 304], 243, 118, 2385), ([313, 315, 317, 319, 321], 237, 117, 2384), ([1106, 1108, 1110, 1112, 1114], 1088, 138, 2389), ([189, 191, 193, 195, 197, 199], 151, 113, 2381), ([1658, 1660, 1662, 1664, 1666], 1646, 141, 2392), ([169, 171, 173, 175], 157, 114, 2382), ([1312, 1314, 1316], 1303, 139, 2390), ([946, 948, 950, 952, 954, 956, 958, 960, 962, 964, 966, 968, 970], 913, 136, 2388), ([1448, 1450, 1452, 1454, 1456, 1458, 1460, 1462, 1464, 1466, 1468, 1470, 1472, 1474, 1476, 1478], 1412, 140, 2391), ([220, 222, 224, 226, 228, 230, 232], 203, 116, 2383), ([361, 363, 365], 343, 122, 0), ([1800, 1802, 1804, 1806, 1808, 1810, 1812, 1814, 1816, 1818, 1820, 1822, 1824, 1826, 1828, 1830, 1832, 1834, 1836, 1838, 1840, 1842, 1844, 1846, 1848, 1850, 1852, 1854, 1856, 1858, 1860, 1862, 1864, 1866, 1868, 1870, 1872, 1874, 1876, 1878, 1880, 1882, 1884, 1886, 1888, 1890, 1892, 1894, 1896, 1898, 1900, 1902, 1904, 1906, 1908, 1910, 1912, 1914, 1916, 1918, 1920, 1922, 1924, 1926, 1928, 1930, 1932, 1934, 1936, 1938, 1940, 1942, 1944, 1946, 1948, 1950, 1952, 1954, 1956, 1958, 1960, 1962, 1964, 1966, 1968, 1970, 1972, 1974, 1976, 1978, 1980], 1704, 123, 2387)]
def aAts (ps : List Nat) (ws : List Cond) : Bool := match ps, ws with
  | [], [] => true
  | p :: ps, w :: ws => aAt p w && aAts ps ws
  | _, _ => false
theorem aAts_mem : ∀ (ps : List Nat) (ws : List Cond), aAts ps ws = true → ∀ w ∈ ws, w ∈ lw_tbl := by
  intro ps
  induction ps with
  | nil =>
    intro ws h w hw
    cases ws with
    | nil => cases hw
    | cons a l => simp [aAts] at h
  | cons p ps ih =>
    intro ws h w hw
    cases ws with
    | nil => cases hw
    | cons a l =>
      simp only [aAts, Bool.and_eq_true] at h
      rcases List.mem_cons.mp hw with rfl | hw
      · exact aAt_mem h.1
      · exact ih l h.2 w hw
def aClB (c : Nat) : Bool := match aCl[c]?, aLp[c]? with
  | some (C, T, N), some (ps, p1, p2, p3) => aAts ps (u_ws C T N) && aAt p1 (.instantiable C N) && aAt p2 (.initialized C) && (decide (c = 13) || aAt p3 (.castable C "java/lang/Object")) &&
    (List.range N).all (fun k => decide (parseFieldDescriptor (T k).2.2.1 = some (aFt c k))) && decide ((aFts.getD c []).length = N) && (List.range N).all (fun i => (List.range i).all (fun j => decide ((T i).2.1 ≠ (T j).2.1)))
  | _, _ => false
set_option maxRecDepth 100000 in
theorem aCl_1 : aClB 1 = true := by decide +kernel
set_option maxRecDepth 100000 in
theorem aCl_2 : aClB 2 = true := by decide +kernel
set_option maxRecDepth 100000 in
theorem aCl_3 : aClB 3 = true := by decide +kernel
set_option maxRecDepth 100000 in
theorem aCl_4 : aClB 4 = true := by decide +kernel
set_option maxRecDepth 100000 in
theorem aCl_5 : aClB 5 = true := by decide +kernel
set_option maxRecDepth 100000 in
theorem aCl_6 : aClB 6 = true := by decide +kernel
set_option maxRecDepth 100000 in
theorem aCl_7 : aClB 7 = true := by decide +kernel
set_option maxRecDepth 100000 in
theorem aCl_8 : aClB 8 = true := by decide +kernel
set_option maxRecDepth 100000 in
theorem aCl_9 : aClB 9 = true := by decide +kernel
set_option maxRecDepth 100000 in
theorem aCl_10 : aClB 10 = true := by decide +kernel
set_option maxRecDepth 100000 in
theorem aCl_11 : aClB 11 = true := by decide +kernel
set_option maxRecDepth 100000 in
theorem aCl_12 : aClB 12 = true := by decide +kernel
set_option maxRecDepth 100000 in
theorem aCl_13 : aClB 13 = true := by decide +kernel
set_option maxRecDepth 100000 in
theorem aCl_14 : aClB 14 = true := by decide +kernel
theorem aCl_len : aCl.length = 15 := rfl
theorem aCl_all {c : Nat} (h0 : 0 < c) (hl : c < 15) : aClB c = true := by
  match c, h0, hl with
  | 1, _, _ => exact aCl_1
  | 2, _, _ => exact aCl_2
  | 3, _, _ => exact aCl_3
  | 4, _, _ => exact aCl_4
  | 5, _, _ => exact aCl_5
  | 6, _, _ => exact aCl_6
  | 7, _, _ => exact aCl_7
  | 8, _, _ => exact aCl_8
  | 9, _, _ => exact aCl_9
  | 10, _, _ => exact aCl_10
  | 11, _, _ => exact aCl_11
  | 12, _, _ => exact aCl_12
  | 13, _, _ => exact aCl_13
  | 14, _, _ => exact aCl_14
theorem aCl_ok {c : Nat} {C : String} {T : u_T} {N : Nat} (h0 : 0 < c) (h : aCl[c]? = some (C, T, N)) : (∀ w ∈ u_ws C T N, w ∈ lw_tbl) ∧ Cond.instantiable C N ∈ lw_tbl ∧ Cond.initialized C ∈ lw_tbl ∧ (c ≠ 13 → Cond.castable C "java/lang/Object" ∈ lw_tbl) ∧
    (∀ k, k < N → parseFieldDescriptor (T k).2.2.1 = some (aFt c k)) ∧ (aFts.getD c []).length = N ∧ ∀ a, a < N → ∀ b, b < N → a ≠ b → (T a).2.1 ≠ (T b).2.1 := by
  have hl : c < 15 := by rw [← aCl_len]; exact (List.getElem?_eq_some_iff.mp h).1
  have h1 := aCl_all h0 hl
  simp only [aClB, h] at h1
  split at h1
  · rename_i q1 q2 q3 q4 q5 ps p1 p2 p3 e1 e2
    cases e1
    simp only [Bool.and_eq_true, Bool.or_eq_true, List.all_eq_true, decide_eq_true_eq, List.mem_range] at h1
    obtain ⟨⟨⟨⟨⟨⟨h2, h3⟩, h4⟩, h5⟩, h6⟩, h7⟩, h8⟩ := h1
    refine ⟨aAts_mem _ _ h2, aAt_mem h3, aAt_mem h4, fun hn => aAt_mem (h5.resolve_left hn), h6, h7, fun a ha b hb hne => ?_⟩
    rcases Nat.lt_or_gt_of_ne hne with hlt | hgt
    · exact fun e => h8 b hb a hlt e.symm
    · exact h8 a ha b hgt
  · cases h1
def aCnB (q : Nat × Nat × aV × Nat) : Bool := match q with
  | (o, i, .inl v, p) => aAt p (.constant (aOw o) i v)
  | (o, i, .inr (.inl v), p) => aAt p (.constantLong (aOw o) i v)
  | _ => false
set_option maxRecDepth 100000 in
theorem aCn_all : aCn.all aCnB = true := by decide +kernel
theorem aCn_i {o i : Nat} {v : Int32} {p : Nat} (h : aFind aCn o i = some (vI v, p)) : Cond.constant (aOw o) i v ∈ lw_tbl := by
  have h1 := List.all_eq_true.mp aCn_all _ (aFind_mem h)
  exact aAt_mem h1
theorem aCn_l {o i : Nat} {v : Int64} {p : Nat} (h : aFind aCn o i = some (vL v, p)) : Cond.constantLong (aOw o) i v ∈ lw_tbl := by
  have h1 := List.all_eq_true.mp aCn_all _ (aFind_mem h)
  exact aAt_mem h1
def aExc (k : Nat) : String := match k with
  | 1 => "java/lang/IllegalArgumentException"
  | 2 => "java/lang/IllegalStateException"
  | 3 => "java/lang/IndexOutOfBoundsException"
  | _ => "java/lang/UnsupportedOperationException"
def aKn (c : Nat) : String := if c = 100 then "[I" else if c = 104 then "[Ljava/lang/Object;" else if c = 99 then "java/lang/Object" else if 200 < c ∧ c < 205 then aExc (c - 200) else (aCl.getD c ("", kT0, 0)).1
def aKlB (q : Nat × Nat × Nat × String × Nat) : Bool := match q with
  | (o, i, c, n, p) => aAt p (.classLink (aOw o) i n) && decide (n = aKn c)
set_option maxRecDepth 100000 in
theorem aKl_all : aKl.all aKlB = true := by decide +kernel
theorem aKl_ok {o i c : Nat} {r : String × Nat} (h : aFind aKl o i = some (c, r)) : Cond.classLink (aOw o) i (aKn c) ∈ lw_tbl := by
  have h1 := List.all_eq_true.mp aKl_all _ (aFind_mem h)
  obtain ⟨n, p⟩ := r
  simp only [aKlB, Bool.and_eq_true, decide_eq_true_eq] at h1
  rw [← h1.2]
  exact aAt_mem h1.1
theorem aKn_cl {c : Nat} {C : String} {T : u_T} {N : Nat} (h0 : c < 99) (h : aCl[c]? = some (C, T, N)) : aKn c = C := by
  unfold aKn
  rw [if_neg (by omega), if_neg (by omega), if_neg (by omega), if_neg (by omega), List.getD_eq_getElem?_getD, h]
  rfl
def aNlB (q : Nat × Nat × Nat × Nat) : Bool := match q with
  | (o, i, k, p) => aAt p (.methodLink (aOw o) i (if k = 0 then objectInit else if k = 1 then ⟨"[I", "clone", "()Ljava/lang/Object;"⟩ else if k = 2 then arraycopyName else ⟨"java/lang/Object", "getClass", "()Ljava/lang/Class;"⟩))
set_option maxRecDepth 100000 in
theorem aNl_all : aNl.all aNlB = true := by decide +kernel
theorem aNl_ok {o i k p : Nat} (h : aFind aNl o i = some (k, p)) : Cond.methodLink (aOw o) i (if k = 0 then objectInit else if k = 1 then ⟨"[I", "clone", "()Ljava/lang/Object;"⟩ else if k = 2 then arraycopyName else ⟨"java/lang/Object", "getClass", "()Ljava/lang/Class;"⟩) ∈ lw_tbl := aAt_mem (List.all_eq_true.mp aNl_all _ (aFind_mem h))
def aSrB (q : Nat × Nat × String × Nat) : Bool := match q with
  | (o, i, t, p) => aAt p (.stringRef (aOw o) i t)
set_option maxRecDepth 100000 in
theorem aSr_all : aSr.all aSrB = true := by decide +kernel
theorem aSr_ok {o i p : Nat} {t : String} (h : aFind aSr o i = some (t, p)) : Cond.stringRef (aOw o) i t ∈ lw_tbl := aAt_mem (List.all_eq_true.mp aSr_all _ (aFind_mem h))
/-- a throw's words -/
def aXn : List String := ["java/lang/RuntimeException", "java/lang/Exception"]
def aXtB (q : Nat × Nat × Nat) : Bool := match q with
  | (o, i, k) => (vx_atS (aOw o) i (aExc k) aXn).all (fun w => decide (w ∈ lw_tbl) && vx_ot w) && decide (Cond.initialized (aExc k) ∈ lw_tbl) && decide (0 < k ∧ k < 5)
set_option maxRecDepth 100000 in
theorem aXt_all : aXt.all aXtB = true := by decide +kernel
theorem aXt_ok {o i k : Nat} (h : aFind aXt o i = some k) : (∀ w ∈ vx_atS (aOw o) i (aExc k) aXn, w ∈ lw_tbl ∧ vx_ot w = true) ∧ Cond.initialized (aExc k) ∈ lw_tbl ∧ 0 < k ∧ k < 5 := by
  have h1 := List.all_eq_true.mp aXt_all _ (aFind_mem h)
  simp only [aXtB, Bool.and_eq_true, List.all_eq_true, decide_eq_true_eq] at h1
  exact ⟨h1.1.1, h1.1.2, h1.2.1, h1.2.2⟩
