/-! ===== where each thing lies behind the constructors; printed by wip/whole/first.py ===== -/
theorem bn_L_8 : bNw RL 8 11 19 bD11 := ⟨_, _, _, cl_11, ⟨lw_in1 _ (List.mem_of_getElem? (i := 27) (by decide +kernel)), lw_in1 _ (List.mem_of_getElem? (i := 28) (by decide +kernel)), lw_in1 _ (List.mem_of_getElem? (i := 1) (by decide +kernel))⟩, by decide +kernel⟩
theorem bn_L_112 : bNw RL 112 12 82 bD12 := ⟨_, _, _, cl_12, ⟨lw_in7 _ (List.mem_of_getElem? (i := 35) (by decide +kernel)), lw_in7 _ (List.mem_of_getElem? (i := 36) (by decide +kernel)), lw_in1 _ (List.mem_of_getElem? (i := 13) (by decide +kernel))⟩, by decide +kernel⟩
theorem bs_L_111 : bSi (Cond.methodLink RL 111 yX11_init) yX11_init cX11_init := ⟨lw_in1 _ (List.mem_of_getElem? (i := 29) (by decide +kernel)), lw_in1 _ (List.mem_of_getElem? (i := 1) (by decide +kernel)), lw_in1 _ (List.mem_of_getElem? (i := 31) (by decide +kernel)), by decide +kernel, rfl, lw_in1 _ (List.mem_of_getElem? (i := 30) (by decide +kernel))⟩
theorem bs_L_114 : bSi (Cond.methodLink RL 114 yX12_init) yX12_init cX12_init := ⟨lw_in7 _ (List.mem_of_getElem? (i := 37) (by decide +kernel)), lw_in1 _ (List.mem_of_getElem? (i := 13) (by decide +kernel)), lw_in7 _ (List.mem_of_getElem? (i := 39) (by decide +kernel)), by decide +kernel, rfl, lw_in7 _ (List.mem_of_getElem? (i := 38) (by decide +kernel))⟩
def bAdL : List (List Nat) := [[23, 56, 70, 92], [3, 36], [115], [84, 105], [14, 47], [27, 60, 74, 96], [108], [32], [18, 51, 65, 87], [33], [80, 101], [0], [118], [34], [165], [], [], [], [], [], [24, 57, 71, 93], [25, 58, 72, 94], [26, 59, 73, 95], [4, 37], [5, 38], [6, 39], [7, 40], [8, 41], [9, 42], [10, 43], [11, 44], [12, 45], [13, 46], [116], [117], [85, 106], [86, 107], [15, 48], [16, 49], [17, 50], [28, 61, 75, 97], [29, 62, 76, 98], [30, 63, 77, 99], [31, 64, 78, 100], [109], [110], [111], [112], [113], [114], [35], [19, 52, 66, 88], [20, 53, 67, 89], [21, 54, 68, 90], [22, 55, 69, 91], [81, 102], [82, 103], [83, 104], [1], [2], [79], [119], [120], [121], [122], [123], [124], [125], [126], [127], [128], [129], [130], [131], [132], [133], [134], [135], [136], [137], [138], [139], [140], [141], [142], [143], [144], [145], [146], [147], [148], [149], [150], [151], [152], [153], [154], [155], [156], [157], [158], [159], [160], [161], [162], [163], [164]]
def bAd (r i : Nat) : Nat := (bAdL.getD r []).getD i 0
def bInv : List (Nat × Nat) := [(11, 0), (58, 0), (59, 0), (1, 0), (23, 0), (24, 0), (25, 0), (26, 0), (27, 0), (28, 0), (29, 0), (30, 0), (31, 0), (32, 0), (4, 0), (37, 0), (38, 0), (39, 0), (8, 0), (51, 0), (52, 0), (53, 0), (54, 0), (0, 0), (20, 0), (21, 0), (22, 0), (5, 0), (40, 0), (41, 0), (42, 0), (43, 0), (7, 0), (9, 0), (13, 0), (50, 0), (1, 1), (23, 1), (24, 1), (25, 1), (26, 1), (27, 1), (28, 1), (29, 1), (30, 1), (31, 1), (32, 1), (4, 1), (37, 1), (38, 1), (39, 1), (8, 1), (51, 1), (52, 1), (53, 1), (54, 1), (0, 1), (20, 1), (21, 1), (22, 1), (5, 1), (40, 1), (41, 1), (42, 1), (43, 1), (8, 2), (51, 2), (52, 2), (53, 2), (54, 2), (0, 2), (20, 2), (21, 2), (22, 2), (5, 2), (40, 2), (41, 2), (42, 2), (43, 2), (60, 0), (10, 0), (55, 0), (56, 0), (57, 0), (3, 0), (35, 0), (36, 0), (8, 3), (51, 3), (52, 3), (53, 3), (54, 3), (0, 3), (20, 3), (21, 3), (22, 3), (5, 3), (40, 3), (41, 3), (42, 3), (43, 3), (10, 1), (55, 1), (56, 1), (57, 1), (3, 1), (35, 1), (36, 1), (6, 0), (44, 0), (45, 0), (46, 0), (47, 0), (48, 0), (49, 0), (2, 0), (33, 0), (34, 0), (12, 0), (61, 0), (62, 0), (63, 0), (64, 0), (65, 0), (66, 0), (67, 0), (68, 0), (69, 0), (70, 0), (71, 0), (72, 0), (73, 0), (74, 0), (75, 0), (76, 0), (77, 0), (78, 0), (79, 0), (80, 0), (81, 0), (82, 0), (83, 0), (84, 0), (85, 0), (86, 0), (87, 0), (88, 0), (89, 0), (90, 0), (91, 0), (92, 0), (93, 0), (94, 0), (95, 0), (96, 0), (97, 0), (98, 0), (99, 0), (100, 0), (101, 0), (102, 0), (103, 0), (104, 0), (105, 0), (106, 0), (14, 0)]
def bE4n : List bE := [.inl (11, [vR 1, vI (0), vI (-1), vR 2, vR 3, vR 18, vR 32, vR 65, vI (0), vR 79, vR 80, vR 84, vI (0), vR 87, vR 101, vR 105, vR 108, vR 115, vI (0)]),
  .inr (0, 700, []),
  .inr (0, 3, []),
  .inl (1, [vI (8), vI (8), vI (0), vI (0), vI (0), vI (0), vR 4, vR 5, vR 6, vR 7, vR 8, vR 9, vR 10, vR 11, vR 12, vR 13, vR 14]),
  .inr (1, 144, []),
  .inr (0, 12, []),
  .inr (0, 12, []),
  .inr (0, 5, []),
  .inr (0, 5, []),
  .inr (0, 5, []),
  .inr (0, 60, []),
  .inr (0, 5, []),
  .inr (0, 5, []),
  .inr (0, 8, []),
  .inl (4, [vR 15, vR 16, vR 17, vI (0), vI (0)]),
  .inr (0, 700, []),
  .inr (0, 3, []),
  .inr (0, 40, []),
  .inl (8, [vR 19, vR 20, vR 21, vR 22, vR 23, vR 27, vI (-1)]),
  .inr (0, 5, []),
  .inr (0, 5, []),
  .inr (0, 8, []),
  .inr (0, 8, []),
  .inl (0, [vR 24, vR 25, vR 26, vI (0)]),
  .inr (0, 40, []),
  .inr (0, 40, []),
  .inr (0, 40, []),
  .inl (5, [vR 28, vR 29, vR 30, vR 31, vI (0)]),
  .inr (0, 8, []),
  .inr (0, 8, []),
  .inr (0, 8, []),
  .inr (0, 8, []),
  .inl (7, [vR 33, vR 35, vR 36, vR 51, vI (0), vI (0), vI (-1)]),
  .inl (9, [vR 34, vI (0), vI (0), vI (0), vI (0), vI (0)]),
  .inr (0, 0, []),
  .inr (0, 144, []),
  .inl (1, [vI (8), vI (8), vI (0), vI (0), vI (0), vI (0), vR 37, vR 38, vR 39, vR 40, vR 41, vR 42, vR 43, vR 44, vR 45, vR 46, vR 47]),
  .inr (1, 144, []),
  .inr (0, 12, []),
  .inr (0, 12, []),
  .inr (0, 5, []),
  .inr (0, 5, []),
  .inr (0, 5, []),
  .inr (0, 60, []),
  .inr (0, 5, []),
  .inr (0, 5, []),
  .inr (0, 8, []),
  .inl (4, [vR 48, vR 49, vR 50, vI (0), vI (0)]),
  .inr (0, 700, []),
  .inr (0, 3, []),
  .inr (0, 40, []),
  .inl (8, [vR 52, vR 53, vR 54, vR 55, vR 56, vR 60, vI (-1)]),
  .inr (0, 5, []),
  .inr (0, 5, []),
  .inr (0, 8, []),
  .inr (0, 8, []),
  .inl (0, [vR 57, vR 58, vR 59, vI (0)]),
  .inr (0, 40, []),
  .inr (0, 40, []),
  .inr (0, 40, []),
  .inl (5, [vR 61, vR 62, vR 63, vR 64, vI (0)]),
  .inr (0, 8, []),
  .inr (0, 8, []),
  .inr (0, 8, []),
  .inr (0, 8, []),
  .inl (8, [vR 66, vR 67, vR 68, vR 69, vR 70, vR 74, vI (-1)]),
  .inr (0, 5, []),
  .inr (0, 5, []),
  .inr (0, 8, []),
  .inr (0, 8, []),
  .inl (0, [vR 71, vR 72, vR 73, vI (0)]),
  .inr (0, 40, []),
  .inr (0, 40, []),
  .inr (0, 40, []),
  .inl (5, [vR 75, vR 76, vR 77, vR 78, vI (0)]),
  .inr (0, 8, []),
  .inr (0, 8, []),
  .inr (0, 8, []),
  .inr (0, 8, []),
  .inr (0, 1152, []),
  .inl (10, [vR 81, vR 82, vR 83]),
  .inr (0, 1200, []),
  .inr (0, 1200, []),
  .inr (0, 6, []),
  .inl (3, [vR 85, vR 86, vI (0)]),
  .inr (0, 1200, []),
  .inr (0, 1920, []),
  .inl (8, [vR 88, vR 89, vR 90, vR 91, vR 92, vR 96, vI (-1)]),
  .inr (0, 5, []),
  .inr (0, 5, []),
  .inr (0, 8, []),
  .inr (0, 8, []),
  .inl (0, [vR 93, vR 94, vR 95, vI (0)]),
  .inr (0, 40, []),
  .inr (0, 40, []),
  .inr (0, 40, []),
  .inl (5, [vR 97, vR 98, vR 99, vR 100, vI (0)]),
  .inr (0, 8, []),
  .inr (0, 8, []),
  .inr (0, 8, []),
  .inr (0, 8, []),
  .inl (10, [vR 102, vR 103, vR 104]),
  .inr (0, 1200, []),
  .inr (0, 1200, []),
  .inr (0, 6, []),
  .inl (3, [vR 106, vR 107, vI (0)]),
  .inr (0, 1200, []),
  .inr (0, 1920, []),
  .inl (6, [vR 109, vR 110, vR 111, vR 112, vR 113, vR 114, vI (0), vI (0)]),
  .inr (0, 40, []),
  .inr (0, 40, []),
  .inr (0, 40, []),
  .inr (0, 5, []),
  .inr (0, 8, []),
  .inr (0, 5, []),
  .inl (2, [vR 116, vR 117]),
  .inr (0, 5, []),
  .inr (0, 32, []),
  .inl (12, [vI (0), vI (8), vI (8), vI (0), vI (0), vI (0), vI (0), vI (0), vR 119, vR 120, vR 121, vR 122, vR 123, vR 124, vR 125, vR 126, vR 127, vR 128, vR 129, vR 130, vI (0), vI (0), vI (-1), vR 131, vI (0), vI (0), vI (0), vI (0), vI (0), vI (0), vI (0), vJ (0), vI (0), vI (0), vI (0), vI (0), vI (0), vI (0), vI (0), vI (0), vI (0), vI (0), vR 132, vR 133, vR 134, vR 135, vR 136, vR 137, vR 138, vR 139, vR 140, vR 141, vR 142, vR 143, vR 144, vR 145, vR 146, vR 147, vI (0), vR 148, vR 149, vR 150, vR 151, vR 152, vR 153, vI (0), vR 154, vR 155, vR 156, vR 157, vR 158, vR 159, vI (0), vR 160, vI (0), vR 161, vI (0), vI (0), vI (0), vR 162, vR 163, vR 164]),
  .inr (0, 12, []),
  .inr (0, 5, []),
  .inr (0, 5, []),
  .inr (0, 5, []),
  .inr (0, 60, []),
  .inr (0, 5, []),
  .inr (0, 30, []),
  .inr (0, 8, []),
  .inr (0, 3, []),
  .inr (0, 2100, []),
  .inr (1, 144, []),
  .inr (0, 700, []),
  .inr (0, 3, []),
  .inr (0, 144, []),
  .inr (0, 12, []),
  .inr (0, 5, []),
  .inr (0, 5, []),
  .inr (0, 5, []),
  .inr (0, 60, []),
  .inr (0, 5, []),
  .inr (0, 30, []),
  .inr (0, 8, []),
  .inr (0, 3, []),
  .inr (0, 27, []),
  .inr (0, 2100, []),
  .inr (0, 950, []),
  .inr (1, 9, []),
  .inr (0, 27, [(18, -1)]),
  .inr (0, 80, []),
  .inr (0, 6, []),
  .inr (0, 950, []),
  .inr (0, 1200, []),
  .inr (0, 1200, []),
  .inr (0, 5, []),
  .inr (0, 5, []),
  .inr (0, 5, []),
  .inr (0, 5, []),
  .inr (0, 40, []),
  .inr (0, 5, []),
  .inr (0, 8, []),
  .inr (0, 5, []),
  .inr (0, 32, []),
  .inr (0, 5, []),
  .inr (0, 27, []),
  .inr (0, 80, []),
  .inr (0, 32, []),
  .inr (2, 1, [])]
def bPs : List Nat := [39, 73, 86, 93, 101, 110, 119, 125, 133, 140, 150, 157, 165, 172, 180, 189, 196, 203, 209, 225, 242, 258, 274, 291, 307, 333, 361, 376, 392]
def bSt (i : Nat) : String × Nat × String × Nat := slStrL.getD i ("", 0, "", 0)
theorem bm_st : ∀ i, i < 29 → Cond.stringRef (bSt i).1 (bSt i).2.1 (bSt i).2.2.1 ∈ lw_tbl ∧ (bSt i).2.2.2 = 107 + i
  | 0, _ => ⟨lw_in4 _ (List.mem_of_getElem? (i := 1) (by decide +kernel)), rfl⟩
  | 1, _ => ⟨lw_in4 _ (List.mem_of_getElem? (i := 57) (by decide +kernel)), rfl⟩
  | 2, _ => ⟨lw_in4 _ (List.mem_of_getElem? (i := 140) (by decide +kernel)), rfl⟩
  | 3, _ => ⟨lw_in4 _ (List.mem_of_getElem? (i := 191) (by decide +kernel)), rfl⟩
  | 4, _ => ⟨lw_in4 _ (List.mem_of_getElem? (i := 202) (by decide +kernel)), rfl⟩
  | 5, _ => ⟨lw_in4 _ (List.mem_of_getElem? (i := 211) (by decide +kernel)), rfl⟩
  | 6, _ => ⟨lw_in4 _ (List.mem_of_getElem? (i := 229) (by decide +kernel)), rfl⟩
  | 7, _ => ⟨lw_in4 _ (List.mem_of_getElem? (i := 230) (by decide +kernel)), rfl⟩
  | 8, _ => ⟨lw_in4 _ (List.mem_of_getElem? (i := 235) (by decide +kernel)), rfl⟩
  | 9, _ => ⟨lw_in5 _ (List.mem_of_getElem? (i := 0) (by decide +kernel)), rfl⟩
  | 10, _ => ⟨lw_in5 _ (List.mem_of_getElem? (i := 21) (by decide +kernel)), rfl⟩
  | 11, _ => ⟨lw_in5 _ (List.mem_of_getElem? (i := 46) (by decide +kernel)), rfl⟩
  | 12, _ => ⟨lw_in5 _ (List.mem_of_getElem? (i := 47) (by decide +kernel)), rfl⟩
  | 13, _ => ⟨lw_in5 _ (List.mem_of_getElem? (i := 48) (by decide +kernel)), rfl⟩
  | 14, _ => ⟨lw_in5 _ (List.mem_of_getElem? (i := 49) (by decide +kernel)), rfl⟩
  | 15, _ => ⟨lw_in5 _ (List.mem_of_getElem? (i := 50) (by decide +kernel)), rfl⟩
  | 16, _ => ⟨lw_in5 _ (List.mem_of_getElem? (i := 55) (by decide +kernel)), rfl⟩
  | 17, _ => ⟨lw_in5 _ (List.mem_of_getElem? (i := 56) (by decide +kernel)), rfl⟩
  | 18, _ => ⟨lw_in5 _ (List.mem_of_getElem? (i := 82) (by decide +kernel)), rfl⟩
  | 19, _ => ⟨lw_in5 _ (List.mem_of_getElem? (i := 100) (by decide +kernel)), rfl⟩
  | 20, _ => ⟨lw_in5 _ (List.mem_of_getElem? (i := 112) (by decide +kernel)), rfl⟩
  | 21, _ => ⟨lw_in5 _ (List.mem_of_getElem? (i := 139) (by decide +kernel)), rfl⟩
  | 22, _ => ⟨lw_in5 _ (List.mem_of_getElem? (i := 170) (by decide +kernel)), rfl⟩
  | 23, _ => ⟨lw_in5 _ (List.mem_of_getElem? (i := 193) (by decide +kernel)), rfl⟩
  | 24, _ => ⟨lw_in6 _ (List.mem_of_getElem? (i := 44) (by decide +kernel)), rfl⟩
  | 25, _ => ⟨lw_in6 _ (List.mem_of_getElem? (i := 45) (by decide +kernel)), rfl⟩
  | 26, _ => ⟨lw_in6 _ (List.mem_of_getElem? (i := 133) (by decide +kernel)), rfl⟩
  | 27, _ => ⟨lw_in6 _ (List.mem_of_getElem? (i := 180) (by decide +kernel)), rfl⟩
  | 28, _ => ⟨lw_in6 _ (List.mem_of_getElem? (i := 204) (by decide +kernel)), rfl⟩
  | n + 29, h => absurd h (by omega)
def bE1 : List bE := ([.inl (11, bD11)] : List bE).set 0 (.inl (11, bF11 ([.inl (11, bD11)] : List bE).length)) ++ bN11 ([.inl (11, bD11)] : List bE).length
def bE2 : List bE := bE1 ++ [.inl (12, bD12)]
def bE3 : List bE := bE2.set 118 (.inl (12, bF12 bE2.length)) ++ bN12 bE2.length
def bE4 : List bE := bE3 ++ [.inr (2, 1, [])]
theorem bE1_len : bE1.length = 118 := by decide +kernel
theorem bE2_at : bE2[118]? = some (.inl (12, bD12)) := gL bE1_len
theorem bE3_len : bE3.length = 165 := by decide +kernel
/-- cells compared -/
def bQe : bE → bE → Bool
  | .inl a, .inl b => decide (a = b)
  | .inr a, .inr b => decide (a = b)
  | _, _ => false
theorem bQe_eq {a b : bE} (h : bQe a b = true) : a = b := by
  cases a <;> cases b <;> simp_all [bQe]
def bQl : List bE → List bE → Bool
  | [], [] => true
  | a :: s, b :: t => bQe a b && bQl s t
  | _, _ => false
theorem bQl_eq : ∀ {a b : List bE}, bQl a b = true → a = b
  | [], [], _ => rfl
  | a :: s, b :: t, h => by
    simp only [bQl, Bool.and_eq_true] at h
    rw [bQe_eq h.1, bQl_eq h.2]
  | [], b :: t, h => nomatch h
  | a :: s, [], h => nomatch h
theorem bE4_eq : bE4 = bE4n := bQl_eq (by decide +kernel)
def bHs (j : Nat) (e : bE) : Bool := match bE4n[j]? with
  | some x => bQe x e
  | none => false
theorem bHs_at {j : Nat} {e : bE} (h : bHs j e = true) : bE4[j]? = some e := by
  rw [bE4_eq]
  unfold bHs at h
  cases hx : bE4n[j]? with
  | none => rw [hx] at h; cases h
  | some x => rw [hx] at h; rw [bQe_eq h]
/-- the first memory -/
def bS0 (r _i k : Nat) : Int := if r = 88 then (if k = 18 then -1 else 0) else if 13 ≤ r then 0 else if r = 1 then (if k ≤ 1 then 8 else 0) else if r = 7 then (if k = 2 then 1 else if k = 3 then 1 else if k = 6 then -1 else 0) else if r = 8 then (if k = 6 then -1 else 0) else if r = 9 then (if k = 0 then 13 else 0) else if r = 11 then (if k = 2 then -1 else 0) else if r = 12 then (if k = 1 then 8 else if k = 2 then 8 else if k = 22 then -1 else 0) else 0
def bEx (r i k : Nat) : bV := match slGet bS0 r i k with
  | .inl x => vI x
  | .inr (.inl x) => vJ x
  | .inr (.inr q) => vR (bAd q.1 q.2)
def bVl : slV → Bool
  | .inr (.inr q) => decide (q.2 < (slR q.1).2.2) && decide (q.1 < 107) && decide (q.1 ≠ 15)
  | _ => true
def bChk (r i : Nat) : Prop := match (slR r).1 with
  | 0 => bE4[bAd r i]? = some (.inl (r, (List.range (slR r).2.1).map (bEx r i))) ∧ ∀ k, k < (slR r).2.1 → bVl (slGet bS0 r i k) = true
  | 1 => bE4[bAd r i]? = some (.inr (0, (slR r).2.1, if r = 88 then [(18, -1)] else [])) ∧ 13 ≤ r
  | 2 => bE4[bAd r i]? = some (.inr (1, (slR r).2.1, if r = 88 then [(18, -1)] else [])) ∧ 13 ≤ r
  | 3 => bE4[bAd r i]? = some (.inr (2, (slR r).2.1, if r = 88 then [(18, -1)] else [])) ∧ 13 ≤ r
  | _ => True
def bChkB (r i : Nat) : Bool := match (slR r).1 with
  | 0 => bHs (bAd r i) (.inl (r, (List.range (slR r).2.1).map (bEx r i))) && decide (∀ k, k < (slR r).2.1 → bVl (slGet bS0 r i k) = true)
  | 1 => bHs (bAd r i) (.inr (0, (slR r).2.1, if r = 88 then [(18, -1)] else [])) && decide (13 ≤ r)
  | 2 => bHs (bAd r i) (.inr (1, (slR r).2.1, if r = 88 then [(18, -1)] else [])) && decide (13 ≤ r)
  | 3 => bHs (bAd r i) (.inr (2, (slR r).2.1, if r = 88 then [(18, -1)] else [])) && decide (13 ≤ r)
  | _ => true
theorem bChk_of {r i : Nat} (h : bChkB r i = true) : bChk r i := by
  unfold bChkB at h
  unfold bChk
  split at h
  · simp only [Bool.and_eq_true, decide_eq_true_eq] at h
    exact ⟨bHs_at h.1, h.2⟩
  · simp only [Bool.and_eq_true, decide_eq_true_eq] at h
    exact ⟨bHs_at h.1, h.2⟩
  · simp only [Bool.and_eq_true, decide_eq_true_eq] at h
    exact ⟨bHs_at h.1, h.2⟩
  · simp only [Bool.and_eq_true, decide_eq_true_eq] at h
    exact ⟨bHs_at h.1, h.2⟩
  · trivial
theorem bChk_all : ∀ r, r < 107 → ∀ i, i < (slR r).2.2 → bChkB r i = true := by decide +kernel
theorem bInv_all : ∀ r, r < 107 → ∀ i, i < (slR r).2.2 → (slR r).1 < 4 → bInv[bAd r i]? = some (r, i) := by decide +kernel
theorem slR_len : slRL.length = 165 := by decide +kernel
theorem slR_lo : ∀ r, r < 165 → (slR r).1 < 4 → r < 107 ∧ r ≠ 15 := by decide +kernel
theorem slR_lt {r : Nat} (h : (slR r).1 < 4) : r < 107 ∧ r ≠ 15 := by
  by_cases h1 : r < 165
  · exact slR_lo r h1 h
  · have h2 : slRL[r]? = none := List.getElem?_eq_none (by rw [slR_len]; omega)
    rw [slR, List.getD_eq_getElem?_getD, h2] at h
    exact absurd h (by decide)
theorem bS0_arr {r i j : Nat} (h : 13 ≤ r) : bLk (if r = 88 then [(18, -1)] else []) j = bS0 r i j := by
  unfold bS0
  by_cases h88 : r = 88
  · rw [if_pos h88, if_pos h88]
    rfl
  · rw [if_neg h88, if_neg h88, if_pos h]
    rfl
theorem bVl_val {v : slV} (h : bVl v = true) : slVal v := by
  rcases v with x | x | q
  · trivial
  · trivial
  · simp only [bVl, Bool.and_eq_true, decide_eq_true_eq] at h
    exact h.1.1
theorem b_rep {G : slG} (hA : ∀ r i, r < 107 → r ≠ 15 → slAd G r i = slBase G + bAd r i) {H : Heap} (h : bAt G bE4 H) : slRep G bS0 H := by
  intro r i hri
  by_cases h4 : (slR r).1 < 4
  · obtain ⟨hr, h15⟩ := slR_lt h4
    have hc := bChk_of (bChk_all r hr i hri)
    unfold bChk at hc
    by_cases h0 : (slR r).1 = 0
    · rw [slAt_obj h0, hA r i hr h15]
      simp only [h0] at hc
      have hcell : t_OB (slBase G + bAd r i) ((slDm G).1 r) (slR r).2.1 ((slDm G).2 r) H (fun k => bI G (((List.range (slR r).2.1).map (bEx r i)).getD k vN)) := h.2 _ _ hc.1
      refine ⟨hcell.to fun k hk => ?_, fun k hk => bVl_val (hc.2 k hk)⟩
      have e : ((List.range (slR r).2.1).map (bEx r i)).getD k vN = bEx r i k := by
        rw [List.getD_eq_getElem?_getD, List.getElem?_map, List.getElem?_range hk]
        rfl
      show bI G (((List.range (slR r).2.1).map (bEx r i)).getD k vN) = slD G (slGet bS0 r i k)
      rw [e]
      have hv := hc.2 k hk
      unfold bEx
      revert hv
      generalize slGet bS0 r i k = w
      intro hv
      rcases w with x | x | q
      · rfl
      · rfl
      · simp only [bVl, Bool.and_eq_true, decide_eq_true_eq] at hv
        show Value.ref (slBase G + bAd q.1 q.2) = Value.ref (slAd G q.1 q.2)
        rw [hA q.1 q.2 hv.1.2 hv.2]
    · by_cases h1 : (slR r).1 = 1
      · rw [slAt_int h1, hA r i hr h15]
        simp only [h1] at hc
        have hcell : H[slBase G + bAd r i]? = some (arrV (slCA G 0) (slR r).2.1 (fun j => .int (Int32.ofInt (bLk (if r = 88 then [(18, -1)] else []) j)))) := h.2 _ _ hc.1
        rw [hcell]
        simp only [bS0_arr (i := i) hc.2]
      · by_cases h2 : (slR r).1 = 2
        · rw [slAt_bool h2, hA r i hr h15]
          simp only [h2] at hc
          have hcell : H[slBase G + bAd r i]? = some (arrV (slCA G 1) (slR r).2.1 (fun j => .int (Int32.ofInt (bLk (if r = 88 then [(18, -1)] else []) j)))) := h.2 _ _ hc.1
          rw [hcell]
          simp only [bS0_arr (i := i) hc.2]
        · have h3 : (slR r).1 = 3 := by omega
          rw [slAt_long h3, hA r i hr h15]
          simp only [h3] at hc
          have hcell : H[slBase G + bAd r i]? = some (arrV (slCA G 2) (slR r).2.1 (fun j => .long (Int64.ofInt (bLk (if r = 88 then [(18, -1)] else []) j)))) := h.2 _ _ hc.1
          rw [hcell]
          simp only [bS0_arr (i := i) hc.2]
  · unfold slAt
    split <;> first | trivial | omega
theorem b_lwI : lwI 0 bS0 := by
  refine lw_start rfl rfl rfl rfl ⟨rfl, rfl, rfl, rfl, rfl, rfl⟩ rfl (fun k _ => rfl) rfl rfl rfl rfl rfl (fun i _ k => rfl) rfl rfl (fun k _ => rfl) ⟨rfl, rfl, rfl, rfl, rfl, rfl, rfl⟩ (fun k _ => rfl) rfl rfl rfl rfl rfl rfl (fun k _ => rfl)
/-! ===== the world of a start ===== -/
def gMk (l : Launch) (s : State) (b : Nat) (D : va_G) (cA : Nat → ClassId) (sA : Nat → Nat) : slG := (l, s, b, fun r i => if r = 15 then b else if r < 107 then s.heap.size + bAd r i else sA r, D, cA)
theorem gMk_ad {l : Launch} {s : State} {b : Nat} {D : va_G} {cA : Nat → ClassId} {sA : Nat → Nat} : ∀ r i, r < 107 → r ≠ 15 → slAd (gMk l s b D cA sA) r i = slBase (gMk l s b D cA sA) + bAd r i := by
  intro r i h1 h2
  show (if r = 15 then b else if r < 107 then s.heap.size + bAd r i else sA r) = s.heap.size + bAd r i
  rw [if_neg h2, if_pos h1]
theorem gMk_hi {l : Launch} {s : State} {b : Nat} {D : va_G} {cA : Nat → ClassId} {sA : Nat → Nat} {r i : Nat} (h : 107 ≤ r) : slAd (gMk l s b D cA sA) r i = sA r := by
  show (if r = 15 then b else if r < 107 then s.heap.size + bAd r i else sA r) = sA r
  rw [if_neg (by omega), if_neg (by omega)]
theorem bKn {b : Nat} {s : State} (hts : ∀ w ∈ lw_tbl, w.before #[Value.ref b] s = true) {own : String} {idx r N : Nat} {fs : List bV} (h : bNw own idx r N fs) : ∃ q : ClassId × (Nat → Nat), ∀ x, vwCl[r]? = some x → u_Kn s x.1 x.2.1 x.2.2 q.1 q.2 := by
  obtain ⟨C, T, ty, ⟨c1, c2, c3, c4, c5, c6⟩, ⟨w1, w2, w3⟩, -⟩ := h
  obtain ⟨cC, iS, hk⟩ := u_known hts (fun w hw => (c4 w hw).1) (hts _ w2)
  refine ⟨(cC, iS), fun x hx => ?_⟩
  rw [c1] at hx
  cases hx
  exact hk
theorem bKns {b : Nat} {s : State} (hts : ∀ w ∈ lw_tbl, w.before #[Value.ref b] s = true) : ∀ c : Nat, ∃ q : ClassId × (Nat → Nat), ∀ x, vwCl[c]? = some x → u_Kn s x.1 x.2.1 x.2.2 q.1 q.2
  | 0 => bKn hts bn_X8_24
  | 1 => bKn hts bn_X11_23
  | 2 => bKn hts bn_X11_87
  | 3 => bKn hts bn_X11_61
  | 4 => bKn hts bn_X1_62
  | 5 => bKn hts bn_X8_31
  | 6 => bKn hts bn_X11_80
  | 7 => bKn hts bn_X11_37
  | 8 => bKn hts bn_X11_30
  | 9 => bKn hts bn_X7_9
  | 10 => bKn hts bn_X11_54
  | 11 => bKn hts bn_L_8
  | 12 => bKn hts bn_L_112
  | n + 13 => ⟨(0, fun _ => 0), fun x hx => by
    rw [List.getElem?_eq_none (show vwCl.length ≤ n + 13 from Nat.le_add_left 13 n)] at hx
    cases hx⟩
theorem bArr {b : Nat} {s : State} (hts : ∀ w ∈ lw_tbl, w.before #[Value.ref b] s = true) {ty : FieldType} (h : Cond.arrayClass ty ∈ lw_tbl) : ∃ cA : ClassId, ArrOfT s cA ty ∧ s.vm.findClass ("[" ++ ty.toString) = some cA := by
  obtain ⟨cA, kA, comp, h1, h2, h3⟩ := Cond.arrayClass_spec (hts _ h)
  exact ⟨cA, fun n z => ⟨fun k h => (by cases h), kA, h2, comp, h3⟩, h1⟩
abbrev bGv : List Cond := flatC (Jvm.Cond.and given_1 narrow_1)
def bTm (i : Nat) : Term := .string (bSt i).1 (bSt i).2.1
abbrev bTv (i : Nat) : Term := .field (bTm i) "java/lang/String" "value" "[B"
/-- what is given of the string i -/
def bCs (i : Nat) : List Cond := [Cond.exactly (bTm i) "java/lang/String", Cond.eq (.field (bTm i) "java/lang/String" "coder" "B") (.int 0), Cond.arrayOf (bTv i) .byte, Cond.eq (.length (bTv i)) (.int (Int32.ofNat (slTxt.getD i []).length))] ++ (List.range (slTxt.getD i []).length).map (fun j => Cond.eq (.elem (bTv i) (.int (Int32.ofNat j))) (.int (Int32.ofInt ((slTxt.getD i []).getD j 0))))
def bCk (i : Nat) : Prop := (bGv.drop (bPs.getD i 0)).take (bCs i).length = bCs i
set_option maxRecDepth 100000 in
theorem bck_0 : bCk 0 := by unfold bCk; decide +kernel
set_option maxRecDepth 100000 in
theorem bck_1 : bCk 1 := by unfold bCk; decide +kernel
set_option maxRecDepth 100000 in
theorem bck_2 : bCk 2 := by unfold bCk; decide +kernel
set_option maxRecDepth 100000 in
theorem bck_3 : bCk 3 := by unfold bCk; decide +kernel
set_option maxRecDepth 100000 in
theorem bck_4 : bCk 4 := by unfold bCk; decide +kernel
set_option maxRecDepth 100000 in
theorem bck_5 : bCk 5 := by unfold bCk; decide +kernel
set_option maxRecDepth 100000 in
theorem bck_6 : bCk 6 := by unfold bCk; decide +kernel
set_option maxRecDepth 100000 in
theorem bck_7 : bCk 7 := by unfold bCk; decide +kernel
set_option maxRecDepth 100000 in
theorem bck_8 : bCk 8 := by unfold bCk; decide +kernel
set_option maxRecDepth 100000 in
theorem bck_9 : bCk 9 := by unfold bCk; decide +kernel
set_option maxRecDepth 100000 in
theorem bck_10 : bCk 10 := by unfold bCk; decide +kernel
set_option maxRecDepth 100000 in
theorem bck_11 : bCk 11 := by unfold bCk; decide +kernel
set_option maxRecDepth 100000 in
theorem bck_12 : bCk 12 := by unfold bCk; decide +kernel
set_option maxRecDepth 100000 in
theorem bck_13 : bCk 13 := by unfold bCk; decide +kernel
set_option maxRecDepth 100000 in
theorem bck_14 : bCk 14 := by unfold bCk; decide +kernel
set_option maxRecDepth 100000 in
theorem bck_15 : bCk 15 := by unfold bCk; decide +kernel
set_option maxRecDepth 100000 in
theorem bck_16 : bCk 16 := by unfold bCk; decide +kernel
set_option maxRecDepth 100000 in
theorem bck_17 : bCk 17 := by unfold bCk; decide +kernel
set_option maxRecDepth 100000 in
theorem bck_18 : bCk 18 := by unfold bCk; decide +kernel
set_option maxRecDepth 100000 in
theorem bck_19 : bCk 19 := by unfold bCk; decide +kernel
set_option maxRecDepth 100000 in
theorem bck_20 : bCk 20 := by unfold bCk; decide +kernel
set_option maxRecDepth 100000 in
theorem bck_21 : bCk 21 := by unfold bCk; decide +kernel
set_option maxRecDepth 100000 in
theorem bck_22 : bCk 22 := by unfold bCk; decide +kernel
set_option maxRecDepth 100000 in
theorem bck_23 : bCk 23 := by unfold bCk; decide +kernel
set_option maxRecDepth 100000 in
theorem bck_24 : bCk 24 := by unfold bCk; decide +kernel
set_option maxRecDepth 100000 in
theorem bck_25 : bCk 25 := by unfold bCk; decide +kernel
set_option maxRecDepth 100000 in
theorem bck_26 : bCk 26 := by unfold bCk; decide +kernel
set_option maxRecDepth 100000 in
theorem bck_27 : bCk 27 := by unfold bCk; decide +kernel
set_option maxRecDepth 100000 in
theorem bck_28 : bCk 28 := by unfold bCk; decide +kernel
theorem bck : ∀ i, i < 29 → bCk i
  | 0, _ => bck_0
  | 1, _ => bck_1
  | 2, _ => bck_2
  | 3, _ => bck_3
  | 4, _ => bck_4
  | 5, _ => bck_5
  | 6, _ => bck_6
  | 7, _ => bck_7
  | 8, _ => bck_8
  | 9, _ => bck_9
  | 10, _ => bck_10
  | 11, _ => bck_11
  | 12, _ => bck_12
  | 13, _ => bck_13
  | 14, _ => bck_14
  | 15, _ => bck_15
  | 16, _ => bck_16
  | 17, _ => bck_17
  | 18, _ => bck_18
  | 19, _ => bck_19
  | 20, _ => bck_20
  | 21, _ => bck_21
  | 22, _ => bck_22
  | 23, _ => bck_23
  | 24, _ => bck_24
  | 25, _ => bck_25
  | 26, _ => bck_26
  | 27, _ => bck_27
  | 28, _ => bck_28
  | n + 29, h => absurd h (by omega)
theorem bIn {i : Nat} (h : i < 29) {w : Cond} (hw : w ∈ bCs i) : w ∈ bGv := by
  have h1 : (bGv.drop (bPs.getD i 0)).take (bCs i).length = bCs i := bck i h
  rw [← h1] at hw
  exact List.mem_of_mem_drop (List.mem_of_mem_take hw)
theorem bm_len : ∀ i, i < 29 → (slTxt.getD i []).length < 2 ^ 31 := by decide +kernel
theorem bm_ex : ∀ i, i < 29 → Cond.exactly (bTm i) "java/lang/String" ∈ bGv ∧ Cond.eq (.field (bTm i) "java/lang/String" "coder" "B") (.int 0) ∈ bGv ∧ Cond.arrayOf (bTv i) .byte ∈ bGv ∧ Cond.eq (.length (bTv i)) (.int (Int32.ofNat (slTxt.getD i []).length)) ∈ bGv ∧ (slTxt.getD i []).length < 2 ^ 31 := fun i hi =>
  ⟨bIn hi (List.mem_append_left _ (List.mem_of_getElem? (i := 0) rfl)), bIn hi (List.mem_append_left _ (List.mem_of_getElem? (i := 1) rfl)), bIn hi (List.mem_append_left _ (List.mem_of_getElem? (i := 2) rfl)), bIn hi (List.mem_append_left _ (List.mem_of_getElem? (i := 3) rfl)), bm_len i hi⟩
theorem bm_el : ∀ i, i < 29 → ∀ j, j < (slTxt.getD i []).length → Cond.eq (.elem (bTv i) (.int (Int32.ofNat j))) (.int (Int32.ofInt ((slTxt.getD i []).getD j 0))) ∈ bGv := fun i hi j hj =>
  bIn hi (List.mem_append_right _ (List.mem_map.mpr ⟨j, List.mem_range.mpr hj, rfl⟩))
set_option maxRecDepth 100000 in
theorem bm_un : Cond.isRef (.static "java/lang/Throwable" "UNASSIGNED_STACK" "[Ljava/lang/StackTraceElement;") ∈ bGv ∧ Cond.isRef (.static "java/lang/Throwable" "SUPPRESSED_SENTINEL" "Ljava/util/List;") ∈ bGv ∧ Cond.eq (.static "java/lang/String" "COMPACT_STRINGS" "Z") (.int 1) ∈ bGv ∧ Cond.isRef (.static "jdk/internal/util/Preconditions" "SIOOBE_FORMATTER" "Ljava/util/function/BiFunction;") ∈ bGv ∧ Cond.not (.castable "java/lang/IllegalArgumentException" "java/util/NoSuchElementException") ∈ bGv := by decide +kernel
theorem bStr {b : Nat} {s : State} {A : Nat → Prop} (hs : ∀ c ∈ bGv, c.before #[Value.ref b] s = true) (hA : ∀ a : Nat, a < s.heap.size → ¬ A a) (i : Nat) : ∃ q : Nat × Nat, i < 29 → (bTm i).eval #[Value.ref b] s none [] s = some (.ref q.1) ∧ va_O "java/lang/String" q.1 A s s.heap ∧ va_OF "java/lang/String" "coder" "B" (.int 0) q.1 A s s.heap ∧ va_OF "java/lang/String" "value" "[B" (.ref q.2) q.1 A s s.heap ∧
    va_T .byte q.2 (slTxt.getD i []).length (fun j => .int (Int32.ofInt ((slTxt.getD i []).getD j 0))) A s s.heap := by
  by_cases hi : i < 29
  · obtain ⟨m1, m2, m3, m4, m5⟩ := bm_ex i hi
    obtain ⟨a, c, cell, k, q1, q2, q3, q4, q5, q6, -⟩ := Cond.exactly_spec (args := #[Value.ref b]) (first := s) (o := none) (s := s) (idx := []) (t := bTm i) (cls := "java/lang/String") (hs _ m1)
    obtain ⟨t, ht, hT⟩ := va_Tof (f := fun j => .int (Int32.ofInt ((slTxt.getD i []).getD j 0))) (A := A) m5 (hs _ m3) (va_eqt (hs _ m4)) (fun j hj => va_eqt (hs _ (bm_el i hi j hj))) hA
    exact ⟨(a, t), fun _ => ⟨q1, ⟨cell, q3, q5, by rw [q6]; exact q2, hA a (Array.getElem?_eq_some_iff.mp q3).1⟩, vk_OFof q1 (va_eqt (hs _ m2)) hA, vk_OFof q1 ht hA, hT⟩⟩
  · exact ⟨(0, 0), fun h => absurd h hi⟩
theorem b_good {l : Launch} {s : State} {b : Nat} (hts : ∀ w ∈ lw_tbl, w.before #[Value.ref b] s = true) (hgv : (Jvm.Cond.and given_1 narrow_1).before #[Value.ref b] s = true) (htr : l.stackTraces = false) : ∃ (D : va_G) (cA : Nat → ClassId) (sA : Nat → Nat), slGood (gMk l s b D cA sA) := by
  have hs := flat_of_before _ hgv
  have hA : ∀ a : Nat, a < s.heap.size → ¬ s.heap.size ≤ a := fun a h1 h2 => Nat.not_lt.mpr h2 h1
  obtain ⟨D0, hD0⟩ := Classical.axiomOfChoice (bKns hts)
  obtain ⟨cI, hI1, hI2⟩ := bArr hts ba_I
  obtain ⟨cZ, hZ1, hZ2⟩ := bArr hts ba_Z
  obtain ⟨cJ, hJ1, hJ2⟩ := bArr hts ba_J
  obtain ⟨ad, had⟩ := Classical.axiomOfChoice (bStr (A := fun q => s.heap.size ≤ q) hs hA)
  have e1 : ∀ (D : va_G) (cA : Nat → ClassId) (k : Nat), k < 29 → slAd (gMk l s b D cA (fun r => if r < 136 then (ad (r - 107)).1 else (ad (r - 136)).2)) (107 + k) 0 = (ad k).1 := fun D cA k hk => by
    rw [gMk_hi (by omega)]
    show (if 107 + k < 136 then (ad (107 + k - 107)).1 else (ad (107 + k - 136)).2) = _
    rw [if_pos (by omega), Nat.add_sub_cancel_left]
  have e2 : ∀ (D : va_G) (cA : Nat → ClassId) (k : Nat), k < 29 → slAd (gMk l s b D cA (fun r => if r < 136 then (ad (r - 107)).1 else (ad (r - 136)).2)) (136 + k) 0 = (ad k).2 := fun D cA k hk => by
    rw [gMk_hi (by omega)]
    show (if 136 + k < 136 then (ad (136 + k - 107)).1 else (ad (136 + k - 136)).2) = _
    rw [if_neg (by omega), Nat.add_sub_cancel_left]
  obtain ⟨u1, u2, u3, u4, u5⟩ := bm_un
  refine ⟨(fun c => (D0 c).1, fun c => (D0 c).2), fun t => if t = 0 then cI else if t = 1 then cZ else cJ, fun r => if r < 136 then (ad (r - 107)).1 else (ad (r - 136)).2, hts, ⟨fun c x hx => hD0 c x hx, fun k q hk => ?_⟩, fun r i hi hk => ?_, fun r i r' i' hi hk hi' hk' e => ?_, htr, vx_Zqof (hts _ (lw_in3 _ (List.mem_of_getElem? (i := 228) (by decide +kernel)))) (hts _ (lw_in1 _ (List.mem_of_getElem? (i := 14) (by decide +kernel)))) (hs _ u1) hA, vx_Zqof (hts _ (lw_in3 _ (List.mem_of_getElem? (i := 230) (by decide +kernel)))) (hts _ (lw_in1 _ (List.mem_of_getElem? (i := 14) (by decide +kernel)))) (hs _ u2) hA, fun q hq => ?_, fun k hk => ?_, va_Zof (hts _ (lw_in4 _ (List.mem_of_getElem? (i := 71) (by decide +kernel)))) (hts _ (lw_in1 _ (List.mem_of_getElem? (i := 19) (by decide +kernel)))) (va_eqt (hs _ u3)) hA, vx_Zqof (hts _ (lw_in4 _ (List.mem_of_getElem? (i := 110) (by decide +kernel)))) (hts _ (lw_in1 _ (List.mem_of_getElem? (i := 22) (by decide +kernel)))) (hs _ u4) hA, va_Nc.of (hs _ u5)⟩
  · match k, hk with
    | 0, hk => cases hk; exact ⟨hI1, hI2⟩
    | 1, hk => cases hk; exact ⟨hZ1, hZ2⟩
    | 2, hk => cases hk; exact ⟨hJ1, hJ2⟩
    | n + 3, hk => exact nomatch hk
  · obtain ⟨h1, h2⟩ := slR_lt hk
    rw [gMk_ad r i h1 h2]
    exact Nat.le_add_right _ _
  · obtain ⟨h1, h2⟩ := slR_lt hk
    obtain ⟨h3, h4⟩ := slR_lt hk'
    rw [gMk_ad r i h1 h2, gMk_ad r' i' h3 h4] at e
    have e3 : bAd r i = bAd r' i' := Nat.add_left_cancel e
    have e4 := bInv_all r h1 i hi hk
    rw [e3, bInv_all r' h3 i' hi' hk'] at e4
    have e5 := Option.some.inj e4
    exact ⟨(congrArg Prod.fst e5).symm, (congrArg Prod.snd e5).symm⟩
  · obtain ⟨i, hi⟩ := List.getElem?_of_mem hq
    have hlt : i < 29 := by
      have h1 := (List.getElem?_eq_some_iff.mp hi).1
      have h2 : slStrL.length = 29 := by decide +kernel
      omega
    have hq2 : bSt i = q := by rw [bSt, List.getD_eq_getElem?_getD, hi]; rfl
    obtain ⟨w1, w2⟩ := bm_st i hlt
    subst hq2
    rw [w2, e1 _ _ i hlt]
    exact vk_R.of (hts _ w1) (had i hlt).1
  · rw [e1 _ _ k hk, e2 _ _ k hk]
    exact (had k hk).2
