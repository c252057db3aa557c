/-! ===== the constructors; printed by wip/whole/initgen.py ===== -/
theorem bo_i : Cond.instanceMethod Lib.objectInit ∈ lw_tbl := lw_in1 _ (List.mem_of_getElem? (i := 33) (by decide +kernel))
theorem bo_c : Cond.code Lib.objectInit ⟨#[0xb1]⟩ 1 none ∈ lw_tbl := lw_in1 _ (List.mem_of_getElem? (i := 34) (by decide +kernel))
theorem ba_I : Cond.arrayClass .int ∈ lw_tbl := lw_in1 _ (List.mem_of_getElem? (i := 65) (by decide +kernel))
theorem ba_Z : Cond.arrayClass .boolean ∈ lw_tbl := lw_in1 _ (List.mem_of_getElem? (i := 66) (by decide +kernel))
theorem ba_J : Cond.arrayClass .long ∈ lw_tbl := lw_in10 _ (List.mem_of_getElem? (i := 58) (by decide +kernel))
def bD0 : List bV := [vN, vN, vN, vI 0]
def bD1 : List bV := [vI 0, vI 0, vI 0, vI 0, vI 0, vI 0, vN, vN, vN, vN, vN, vN, vN, vN, vN, vN, vN]
def bD2 : List bV := [vN, vN]
def bD3 : List bV := [vN, vN, vI 0]
def bD4 : List bV := [vN, vN, vN, vI 0, vI 0]
def bD5 : List bV := [vN, vN, vN, vN, vI 0]
def bD6 : List bV := [vN, vN, vN, vN, vN, vN, vI 0, vI 0]
def bD7 : List bV := [vN, vN, vN, vN, vI 0, vI 0, vI 0]
def bD8 : List bV := [vN, vN, vN, vN, vN, vN, vI 0]
def bD9 : List bV := [vN, vI 0, vI 0, vI 0, vI 0, vI 0]
def bD10 : List bV := [vN, vN, vN]
def bD11 : List bV := [vN, vI 0, vI 0, vN, vN, vN, vN, vN, vI 0, vN, vN, vN, vI 0, vN, vN, vN, vN, vN, vI 0]
def bD12 : List bV := [vI 0, vI 0, vI 0, vI 0, vI 0, vI 0, vI 0, vI 0, vN, vN, vN, vN, vN, vN, vN, vN, vN, vN, vN, vN, vI 0, vI 0, vI 0, vN, vI 0, vI 0, vI 0, vI 0, vI 0, vI 0, vI 0, vJ 0, vI 0, vI 0, vI 0, vI 0, vI 0, vI 0, vI 0, vI 0, vI 0, vI 0, vN, vN, vN, vN, vN, vN, vN, vN, vN, vN, vN, vN, vN, vN, vN, vN, vI 0, vN, vN, vN, vN, vN, vN, vI 0, vN, vN, vN, vN, vN, vN, vI 0, vN, vI 0, vN, vI 0, vI 0, vI 0, vN, vN, vN]
theorem bo_X0 : Cond.methodLink RX0 3 Lib.objectInit ∈ lw_tbl := lw_in1 _ (List.mem_of_getElem? (i := 172) (by decide +kernel))
theorem bf_X0_9 : bFd RX0 9 0 0 (.array .int) := ⟨_, _, _, _, cl_0, by decide, lw_in1 _ (List.mem_of_getElem? (i := 173) (by decide +kernel)), rfl, rfl⟩
theorem bf_X0_15 : bFd RX0 15 0 1 (.array .int) := ⟨_, _, _, _, cl_0, by decide, lw_in1 _ (List.mem_of_getElem? (i := 175) (by decide +kernel)), rfl, rfl⟩
theorem bf_X0_18 : bFd RX0 18 0 2 (.array .int) := ⟨_, _, _, _, cl_0, by decide, lw_in1 _ (List.mem_of_getElem? (i := 177) (by decide +kernel)), rfl, rfl⟩
theorem bf_X0_21 : bFd RX0 21 0 3 .int := ⟨_, _, _, _, cl_0, by decide, lw_in1 _ (List.mem_of_getElem? (i := 179) (by decide +kernel)), rfl, rfl⟩
def bF0 (q : Nat) : List bV := ((((bD0.set 0 (vR (q + 0))).set 1 (vR (q + 1))).set 2 (vR (q + 2))).set 3 (vI (0)))
def bN0 (q : Nat) : List bE := (((([] : List bE) ++ [(.inr (0, 40, []) : bE)]) ++ [(.inr (0, 40, []) : bE)]) ++ [(.inr (0, 40, []) : bE)])
theorem bNl_0 (q : Nat) : (bN0 q).length = 3 := by
  unfold bN0
  exact (bLc (bLc (bLc bL0)))
set_option maxHeartbeats 4000000 in
set_option maxRecDepth 100000 in
theorem bi_0 {G : slG} (hG : slGood G) {E : List bE} {k : Nat} (he : E[k]? = some (.inl (0, bD0))) : bCall G yX0_init cX0_init 1 3 120 k E (E.set k (.inl (0, bF0 E.length)) ++ bN0 E.length) := by
  have hk : k < E.length := (List.getElem?_eq_some_iff.mp he).1
  refine bCall.of hG (own := RX0) (by decide +kernel) rfl rfl ?_
  rintro X hX rfl hB
  have hin := hB.1
  have hR := hB.2.2.2.2
  have hfr : (xR X).frames = 1 := by rw [hR]; rfl
  have hlo : (xR X).locals = 60 := by rw [hR]; rfl
  have hce : (xR X).cells = 3 := by rw [hR]; rfl
  have hsl : (xR X).slots = 120 := by rw [hR]; rfl
  have go : bOK X (bQ X (E.set k (.inl (0, bF0 E.length)) ++ bN0 E.length) 3 120) 0 0 0 [(0, bI (xG X) (vR k))] [] (E.set k (.inl (0, bD0)) ++ []) := by
    refine b_aload hX (a := k) 0 dX0_init_0 rfl ?_
    refine b_obj hX bo_X0 bo_i bo_c (bLe hfr rfl) (bLe hlo rfl) dX0_init_1 ?_
    refine b_aload hX (a := k) 0 dX0_init_4 rfl ?_
    refine b_bipush hX dX0_init_5 (by decide) ?_
    refine b_newI hX (N := 40) ba_I rfl (by decide) (bLe hce rfl) (bLe hsl rfl) dX0_init_7 (bLen (j := 0) bL0) (bAs ?_)
    refine b_put hX hin bf_X0_9 dX0_init_9 rfl rfl (bGet hk) (bLt rfl) (bSet hk) ?_
    refine b_aload hX (a := k) 0 dX0_init_12 rfl ?_
    refine b_bipush hX dX0_init_13 (by decide) ?_
    refine b_newI hX (N := 40) ba_I rfl (by decide) (bLe hce rfl) (bLe hsl rfl) dX0_init_15 (bLen (j := 1) (bLc bL0)) (bAs ?_)
    refine b_put hX hin bf_X0_15 dX0_init_17 rfl rfl (bGet hk) (bL1 (bLt rfl)) (bSet hk) ?_
    refine b_aload hX (a := k) 0 dX0_init_20 rfl ?_
    refine b_bipush hX dX0_init_21 (by decide) ?_
    refine b_newI hX (N := 40) ba_I rfl (by decide) (bLe hce rfl) (bLe hsl rfl) dX0_init_23 (bLen (j := 2) (bLc (bLc bL0))) (bAs ?_)
    refine b_put hX hin bf_X0_18 dX0_init_25 rfl rfl (bGet hk) (bL1 (bL1 (bLt rfl))) (bSet hk) ?_
    refine b_aload hX (a := k) 0 dX0_init_28 rfl ?_
    refine b_iconst hX dX0_init_29 ?_
    refine b_put hX hin bf_X0_21 dX0_init_30 rfl rfl (bGet hk) (bL1 (bL1 (bL1 (bLt rfl)))) (bSet hk) ?_
    exact b_vret hX hB dX0_init_33 (Nat.le_of_ble_eq_true rfl) (Nat.le_of_ble_eq_true rfl) (by unfold bF0 bN0; rfl)
  rw [← bSet0 he] at go
  exact go
theorem bo_X5 : Cond.methodLink RX5 3 Lib.objectInit ∈ lw_tbl := lw_in1 _ (List.mem_of_getElem? (i := 197) (by decide +kernel))
theorem bf_X5_9 : bFd RX5 9 5 0 (.array .int) := ⟨_, _, _, _, cl_5, by decide, lw_in1 _ (List.mem_of_getElem? (i := 198) (by decide +kernel)), rfl, rfl⟩
theorem bf_X5_15 : bFd RX5 15 5 1 (.array .int) := ⟨_, _, _, _, cl_5, by decide, lw_in1 _ (List.mem_of_getElem? (i := 199) (by decide +kernel)), rfl, rfl⟩
theorem bf_X5_18 : bFd RX5 18 5 2 (.array .int) := ⟨_, _, _, _, cl_5, by decide, lw_in1 _ (List.mem_of_getElem? (i := 200) (by decide +kernel)), rfl, rfl⟩
theorem bf_X5_21 : bFd RX5 21 5 3 (.array .int) := ⟨_, _, _, _, cl_5, by decide, lw_in1 _ (List.mem_of_getElem? (i := 201) (by decide +kernel)), rfl, rfl⟩
theorem bf_X5_24 : bFd RX5 24 5 4 .int := ⟨_, _, _, _, cl_5, by decide, lw_in1 _ (List.mem_of_getElem? (i := 202) (by decide +kernel)), rfl, rfl⟩
def bF5 (q : Nat) : List bV := (((((bD5.set 0 (vR (q + 0))).set 1 (vR (q + 1))).set 2 (vR (q + 2))).set 3 (vR (q + 3))).set 4 (vI (0)))
def bN5 (q : Nat) : List bE := ((((([] : List bE) ++ [(.inr (0, 8, []) : bE)]) ++ [(.inr (0, 8, []) : bE)]) ++ [(.inr (0, 8, []) : bE)]) ++ [(.inr (0, 8, []) : bE)])
theorem bNl_5 (q : Nat) : (bN5 q).length = 4 := by
  unfold bN5
  exact (bLc (bLc (bLc (bLc bL0))))
set_option maxHeartbeats 4000000 in
set_option maxRecDepth 100000 in
theorem bi_5 {G : slG} (hG : slGood G) {E : List bE} {k : Nat} (he : E[k]? = some (.inl (5, bD5))) : bCall G yX5_init cX5_init 1 4 32 k E (E.set k (.inl (5, bF5 E.length)) ++ bN5 E.length) := by
  have hk : k < E.length := (List.getElem?_eq_some_iff.mp he).1
  refine bCall.of hG (own := RX5) (by decide +kernel) rfl rfl ?_
  rintro X hX rfl hB
  have hin := hB.1
  have hR := hB.2.2.2.2
  have hfr : (xR X).frames = 1 := by rw [hR]; rfl
  have hlo : (xR X).locals = 60 := by rw [hR]; rfl
  have hce : (xR X).cells = 4 := by rw [hR]; rfl
  have hsl : (xR X).slots = 32 := by rw [hR]; rfl
  have go : bOK X (bQ X (E.set k (.inl (5, bF5 E.length)) ++ bN5 E.length) 4 32) 0 0 0 [(0, bI (xG X) (vR k))] [] (E.set k (.inl (5, bD5)) ++ []) := by
    refine b_aload hX (a := k) 0 dX5_init_0 rfl ?_
    refine b_obj hX bo_X5 bo_i bo_c (bLe hfr rfl) (bLe hlo rfl) dX5_init_1 ?_
    refine b_aload hX (a := k) 0 dX5_init_4 rfl ?_
    refine b_bipush hX dX5_init_5 (by decide) ?_
    refine b_newI hX (N := 8) ba_I rfl (by decide) (bLe hce rfl) (bLe hsl rfl) dX5_init_7 (bLen (j := 0) bL0) (bAs ?_)
    refine b_put hX hin bf_X5_9 dX5_init_9 rfl rfl (bGet hk) (bLt rfl) (bSet hk) ?_
    refine b_aload hX (a := k) 0 dX5_init_12 rfl ?_
    refine b_bipush hX dX5_init_13 (by decide) ?_
    refine b_newI hX (N := 8) ba_I rfl (by decide) (bLe hce rfl) (bLe hsl rfl) dX5_init_15 (bLen (j := 1) (bLc bL0)) (bAs ?_)
    refine b_put hX hin bf_X5_15 dX5_init_17 rfl rfl (bGet hk) (bL1 (bLt rfl)) (bSet hk) ?_
    refine b_aload hX (a := k) 0 dX5_init_20 rfl ?_
    refine b_bipush hX dX5_init_21 (by decide) ?_
    refine b_newI hX (N := 8) ba_I rfl (by decide) (bLe hce rfl) (bLe hsl rfl) dX5_init_23 (bLen (j := 2) (bLc (bLc bL0))) (bAs ?_)
    refine b_put hX hin bf_X5_18 dX5_init_25 rfl rfl (bGet hk) (bL1 (bL1 (bLt rfl))) (bSet hk) ?_
    refine b_aload hX (a := k) 0 dX5_init_28 rfl ?_
    refine b_bipush hX dX5_init_29 (by decide) ?_
    refine b_newI hX (N := 8) ba_I rfl (by decide) (bLe hce rfl) (bLe hsl rfl) dX5_init_31 (bLen (j := 3) (bLc (bLc (bLc bL0)))) (bAs ?_)
    refine b_put hX hin bf_X5_21 dX5_init_33 rfl rfl (bGet hk) (bL1 (bL1 (bL1 (bLt rfl)))) (bSet hk) ?_
    refine b_aload hX (a := k) 0 dX5_init_36 rfl ?_
    refine b_iconst hX dX5_init_37 ?_
    refine b_put hX hin bf_X5_24 dX5_init_38 rfl rfl (bGet hk) (bL1 (bL1 (bL1 (bL1 (bLt rfl))))) (bSet hk) ?_
    exact b_vret hX hB dX5_init_41 (Nat.le_of_ble_eq_true rfl) (Nat.le_of_ble_eq_true rfl) (by unfold bF5 bN5; rfl)
  rw [← bSet0 he] at go
  exact go
theorem bo_X4 : Cond.methodLink RX4 3 Lib.objectInit ∈ lw_tbl := lw_in1 _ (List.mem_of_getElem? (i := 46) (by decide +kernel))
theorem bf_X4_9 : bFd RX4 9 4 0 (.array .int) := ⟨_, _, _, _, cl_4, by decide, lw_in1 _ (List.mem_of_getElem? (i := 47) (by decide +kernel)), rfl, rfl⟩
theorem bf_X4_15 : bFd RX4 15 4 1 (.array .int) := ⟨_, _, _, _, cl_4, by decide, lw_in1 _ (List.mem_of_getElem? (i := 48) (by decide +kernel)), rfl, rfl⟩
theorem bf_X4_18 : bFd RX4 18 4 2 (.array .int) := ⟨_, _, _, _, cl_4, by decide, lw_in1 _ (List.mem_of_getElem? (i := 49) (by decide +kernel)), rfl, rfl⟩
theorem bf_X4_21 : bFd RX4 21 4 3 .int := ⟨_, _, _, _, cl_4, by decide, lw_in1 _ (List.mem_of_getElem? (i := 50) (by decide +kernel)), rfl, rfl⟩
theorem bf_X4_25 : bFd RX4 25 4 4 .int := ⟨_, _, _, _, cl_4, by decide, lw_in1 _ (List.mem_of_getElem? (i := 51) (by decide +kernel)), rfl, rfl⟩
def bF4 (q : Nat) : List bV := (((((bD4.set 0 (vR (q + 0))).set 1 (vR (q + 1))).set 2 (vR (q + 2))).set 3 (vI (0))).set 4 (vI (0)))
def bN4 (q : Nat) : List bE := (((([] : List bE) ++ [(.inr (0, 700, []) : bE)]) ++ [(.inr (0, 3, []) : bE)]) ++ [(.inr (0, 40, []) : bE)])
theorem bNl_4 (q : Nat) : (bN4 q).length = 3 := by
  unfold bN4
  exact (bLc (bLc (bLc bL0)))
set_option maxHeartbeats 4000000 in
set_option maxRecDepth 100000 in
theorem bi_4 {G : slG} (hG : slGood G) {E : List bE} {k : Nat} (he : E[k]? = some (.inl (4, bD4))) : bCall G yX4_init cX4_init 1 3 743 k E (E.set k (.inl (4, bF4 E.length)) ++ bN4 E.length) := by
  have hk : k < E.length := (List.getElem?_eq_some_iff.mp he).1
  refine bCall.of hG (own := RX4) (by decide +kernel) rfl rfl ?_
  rintro X hX rfl hB
  have hin := hB.1
  have hR := hB.2.2.2.2
  have hfr : (xR X).frames = 1 := by rw [hR]; rfl
  have hlo : (xR X).locals = 60 := by rw [hR]; rfl
  have hce : (xR X).cells = 3 := by rw [hR]; rfl
  have hsl : (xR X).slots = 743 := by rw [hR]; rfl
  have go : bOK X (bQ X (E.set k (.inl (4, bF4 E.length)) ++ bN4 E.length) 3 743) 0 0 0 [(0, bI (xG X) (vR k))] [] (E.set k (.inl (4, bD4)) ++ []) := by
    refine b_aload hX (a := k) 0 dX4_init_0 rfl ?_
    refine b_obj hX bo_X4 bo_i bo_c (bLe hfr rfl) (bLe hlo rfl) dX4_init_1 ?_
    refine b_aload hX (a := k) 0 dX4_init_4 rfl ?_
    refine b_sipush hX dX4_init_5 (by decide) ?_
    refine b_newI hX (N := 700) ba_I rfl (by decide) (bLe hce rfl) (bLe hsl rfl) dX4_init_8 (bLen (j := 0) bL0) (bAs ?_)
    refine b_put hX hin bf_X4_9 dX4_init_10 rfl rfl (bGet hk) (bLt rfl) (bSet hk) ?_
    refine b_aload hX (a := k) 0 dX4_init_13 rfl ?_
    refine b_iconst hX dX4_init_14 ?_
    refine b_newI hX (N := 3) ba_I rfl (by decide) (bLe hce rfl) (bLe hsl rfl) dX4_init_15 (bLen (j := 1) (bLc bL0)) (bAs ?_)
    refine b_put hX hin bf_X4_15 dX4_init_17 rfl rfl (bGet hk) (bL1 (bLt rfl)) (bSet hk) ?_
    refine b_aload hX (a := k) 0 dX4_init_20 rfl ?_
    refine b_bipush hX dX4_init_21 (by decide) ?_
    refine b_newI hX (N := 40) ba_I rfl (by decide) (bLe hce rfl) (bLe hsl rfl) dX4_init_23 (bLen (j := 2) (bLc (bLc bL0))) (bAs ?_)
    refine b_put hX hin bf_X4_18 dX4_init_25 rfl rfl (bGet hk) (bL1 (bL1 (bLt rfl))) (bSet hk) ?_
    refine b_aload hX (a := k) 0 dX4_init_28 rfl ?_
    refine b_iconst hX dX4_init_29 ?_
    refine b_put hX hin bf_X4_21 dX4_init_30 rfl rfl (bGet hk) (bL1 (bL1 (bL1 (bLt rfl)))) (bSet hk) ?_
    refine b_aload hX (a := k) 0 dX4_init_33 rfl ?_
    refine b_iconst hX dX4_init_34 ?_
    refine b_put hX hin bf_X4_25 dX4_init_35 rfl rfl (bGet hk) (bL1 (bL1 (bL1 (bL1 (bLt rfl))))) (bSet hk) ?_
    exact b_vret hX hB dX4_init_38 (Nat.le_of_ble_eq_true rfl) (Nat.le_of_ble_eq_true rfl) (by unfold bF4 bN4; rfl)
  rw [← bSet0 he] at go
  exact go
theorem bo_X9 : Cond.methodLink RX9 1 Lib.objectInit ∈ lw_tbl := lw_in2 _ (List.mem_of_getElem? (i := 28) (by decide +kernel))
theorem bf_X9_7 : bFd RX9 7 9 0 (.array .int) := ⟨_, _, _, _, cl_9, by decide, lw_in2 _ (List.mem_of_getElem? (i := 29) (by decide +kernel)), rfl, rfl⟩
theorem bf_X9_13 : bFd RX9 13 9 1 .int := ⟨_, _, _, _, cl_9, by decide, lw_in2 _ (List.mem_of_getElem? (i := 30) (by decide +kernel)), rfl, rfl⟩
theorem bf_X9_17 : bFd RX9 17 9 2 .int := ⟨_, _, _, _, cl_9, by decide, lw_in2 _ (List.mem_of_getElem? (i := 31) (by decide +kernel)), rfl, rfl⟩
theorem bf_X9_20 : bFd RX9 20 9 3 .int := ⟨_, _, _, _, cl_9, by decide, lw_in2 _ (List.mem_of_getElem? (i := 33) (by decide +kernel)), rfl, rfl⟩
theorem bf_X9_23 : bFd RX9 23 9 4 .int := ⟨_, _, _, _, cl_9, by decide, lw_in2 _ (List.mem_of_getElem? (i := 34) (by decide +kernel)), rfl, rfl⟩
theorem bf_X9_26 : bFd RX9 26 9 5 .int := ⟨_, _, _, _, cl_9, by decide, lw_in2 _ (List.mem_of_getElem? (i := 36) (by decide +kernel)), rfl, rfl⟩
def bF9 (q : Nat) : List bV := ((((((bD9.set 0 (vR (q + 0))).set 1 (vI (0))).set 2 (vI (0))).set 3 (vI (0))).set 4 (vI (0))).set 5 (vI (0)))
def bN9 (q : Nat) : List bE := (([] : List bE) ++ [(.inr (0, 0, []) : bE)])
theorem bNl_9 (q : Nat) : (bN9 q).length = 1 := by
  unfold bN9
  exact (bLc bL0)
set_option maxHeartbeats 4000000 in
set_option maxRecDepth 100000 in
theorem bi_9 {G : slG} (hG : slGood G) {E : List bE} {k : Nat} (he : E[k]? = some (.inl (9, bD9))) : bCall G yX9_init cX9_init 1 1 0 k E (E.set k (.inl (9, bF9 E.length)) ++ bN9 E.length) := by
  have hk : k < E.length := (List.getElem?_eq_some_iff.mp he).1
  refine bCall.of hG (own := RX9) (by decide +kernel) rfl rfl ?_
  rintro X hX rfl hB
  have hin := hB.1
  have hR := hB.2.2.2.2
  have hfr : (xR X).frames = 1 := by rw [hR]; rfl
  have hlo : (xR X).locals = 60 := by rw [hR]; rfl
  have hce : (xR X).cells = 1 := by rw [hR]; rfl
  have hsl : (xR X).slots = 0 := by rw [hR]; rfl
  have go : bOK X (bQ X (E.set k (.inl (9, bF9 E.length)) ++ bN9 E.length) 1 0) 0 0 0 [(0, bI (xG X) (vR k))] [] (E.set k (.inl (9, bD9)) ++ []) := by
    refine b_aload hX (a := k) 0 dX9_init_0 rfl ?_
    refine b_obj hX bo_X9 bo_i bo_c (bLe hfr rfl) (bLe hlo rfl) dX9_init_1 ?_
    refine b_aload hX (a := k) 0 dX9_init_4 rfl ?_
    refine b_iconst hX dX9_init_5 ?_
    refine b_newI hX (N := 0) ba_I rfl (by decide) (bLe hce rfl) (bLe hsl rfl) dX9_init_6 (bLen (j := 0) bL0) (bAs ?_)
    refine b_put hX hin bf_X9_7 dX9_init_8 rfl rfl (bGet hk) (bLt rfl) (bSet hk) ?_
    refine b_aload hX (a := k) 0 dX9_init_11 rfl ?_
    refine b_iconst hX dX9_init_12 ?_
    refine b_put hX hin bf_X9_13 dX9_init_13 rfl rfl (bGet hk) (bL1 (bLt rfl)) (bSet hk) ?_
    refine b_aload hX (a := k) 0 dX9_init_16 rfl ?_
    refine b_iconst hX dX9_init_17 ?_
    refine b_put hX hin bf_X9_17 dX9_init_18 rfl rfl (bGet hk) (bL1 (bL1 (bLt rfl))) (bSet hk) ?_
    refine b_aload hX (a := k) 0 dX9_init_21 rfl ?_
    refine b_iconst hX dX9_init_22 ?_
    refine b_put hX hin bf_X9_20 dX9_init_23 rfl rfl (bGet hk) (bL1 (bL1 (bL1 (bLt rfl)))) (bSet hk) ?_
    refine b_aload hX (a := k) 0 dX9_init_26 rfl ?_
    refine b_iconst hX dX9_init_27 ?_
    refine b_put hX hin bf_X9_23 dX9_init_28 rfl rfl (bGet hk) (bL1 (bL1 (bL1 (bL1 (bLt rfl))))) (bSet hk) ?_
    refine b_aload hX (a := k) 0 dX9_init_31 rfl ?_
    refine b_iconst hX dX9_init_32 ?_
    refine b_put hX hin bf_X9_26 dX9_init_33 rfl rfl (bGet hk) (bL1 (bL1 (bL1 (bL1 (bL1 (bLt rfl)))))) (bSet hk) ?_
    exact b_vret hX hB dX9_init_36 (Nat.le_of_ble_eq_true rfl) (Nat.le_of_ble_eq_true rfl) (by unfold bF9 bN9; rfl)
  rw [← bSet0 he] at go
  exact go
theorem bo_X2 : Cond.methodLink RX2 3 Lib.objectInit ∈ lw_tbl := lw_in2 _ (List.mem_of_getElem? (i := 150) (by decide +kernel))
theorem bf_X2_9 : bFd RX2 9 2 0 (.array .int) := ⟨_, _, _, _, cl_2, by decide, lw_in2 _ (List.mem_of_getElem? (i := 151) (by decide +kernel)), rfl, rfl⟩
theorem bf_X2_15 : bFd RX2 15 2 1 (.array .int) := ⟨_, _, _, _, cl_2, by decide, lw_in2 _ (List.mem_of_getElem? (i := 152) (by decide +kernel)), rfl, rfl⟩
def bF2 (q : Nat) : List bV := ((bD2.set 0 (vR (q + 0))).set 1 (vR (q + 1)))
def bN2 (q : Nat) : List bE := ((([] : List bE) ++ [(.inr (0, 5, []) : bE)]) ++ [(.inr (0, 32, []) : bE)])
theorem bNl_2 (q : Nat) : (bN2 q).length = 2 := by
  unfold bN2
  exact (bLc (bLc bL0))
set_option maxHeartbeats 4000000 in
set_option maxRecDepth 100000 in
theorem bi_2 {G : slG} (hG : slGood G) {E : List bE} {k : Nat} (he : E[k]? = some (.inl (2, bD2))) : bCall G yX2_init cX2_init 1 2 37 k E (E.set k (.inl (2, bF2 E.length)) ++ bN2 E.length) := by
  have hk : k < E.length := (List.getElem?_eq_some_iff.mp he).1
  refine bCall.of hG (own := RX2) (by decide +kernel) rfl rfl ?_
  rintro X hX rfl hB
  have hin := hB.1
  have hR := hB.2.2.2.2
  have hfr : (xR X).frames = 1 := by rw [hR]; rfl
  have hlo : (xR X).locals = 60 := by rw [hR]; rfl
  have hce : (xR X).cells = 2 := by rw [hR]; rfl
  have hsl : (xR X).slots = 37 := by rw [hR]; rfl
  have go : bOK X (bQ X (E.set k (.inl (2, bF2 E.length)) ++ bN2 E.length) 2 37) 0 0 0 [(0, bI (xG X) (vR k))] [] (E.set k (.inl (2, bD2)) ++ []) := by
    refine b_aload hX (a := k) 0 dX2_init_0 rfl ?_
    refine b_obj hX bo_X2 bo_i bo_c (bLe hfr rfl) (bLe hlo rfl) dX2_init_1 ?_
    refine b_aload hX (a := k) 0 dX2_init_4 rfl ?_
    refine b_iconst hX dX2_init_5 ?_
    refine b_newI hX (N := 5) ba_I rfl (by decide) (bLe hce rfl) (bLe hsl rfl) dX2_init_6 (bLen (j := 0) bL0) (bAs ?_)
    refine b_put hX hin bf_X2_9 dX2_init_8 rfl rfl (bGet hk) (bLt rfl) (bSet hk) ?_
    refine b_aload hX (a := k) 0 dX2_init_11 rfl ?_
    refine b_bipush hX dX2_init_12 (by decide) ?_
    refine b_newI hX (N := 32) ba_I rfl (by decide) (bLe hce rfl) (bLe hsl rfl) dX2_init_14 (bLen (j := 1) (bLc bL0)) (bAs ?_)
    refine b_put hX hin bf_X2_15 dX2_init_16 rfl rfl (bGet hk) (bL1 (bLt rfl)) (bSet hk) ?_
    exact b_vret hX hB dX2_init_19 (Nat.le_of_ble_eq_true rfl) (Nat.le_of_ble_eq_true rfl) (by unfold bF2 bN2; rfl)
  rw [← bSet0 he] at go
  exact go
theorem bo_X3 : Cond.methodLink RX3 3 Lib.objectInit ∈ lw_tbl := lw_in2 _ (List.mem_of_getElem? (i := 102) (by decide +kernel))
theorem bf_X3_9 : bFd RX3 9 3 0 (.array .int) := ⟨_, _, _, _, cl_3, by decide, lw_in2 _ (List.mem_of_getElem? (i := 103) (by decide +kernel)), rfl, rfl⟩
theorem bf_X3_15 : bFd RX3 15 3 1 (.array .int) := ⟨_, _, _, _, cl_3, by decide, lw_in2 _ (List.mem_of_getElem? (i := 104) (by decide +kernel)), rfl, rfl⟩
theorem bf_X3_18 : bFd RX3 18 3 2 .int := ⟨_, _, _, _, cl_3, by decide, lw_in2 _ (List.mem_of_getElem? (i := 105) (by decide +kernel)), rfl, rfl⟩
def bF3 (q : Nat) : List bV := (((bD3.set 0 (vR (q + 0))).set 1 (vR (q + 1))).set 2 (vI (0)))
def bN3 (q : Nat) : List bE := ((([] : List bE) ++ [(.inr (0, 1200, []) : bE)]) ++ [(.inr (0, 1920, []) : bE)])
theorem bNl_3 (q : Nat) : (bN3 q).length = 2 := by
  unfold bN3
  exact (bLc (bLc bL0))
set_option maxHeartbeats 4000000 in
set_option maxRecDepth 100000 in
theorem bi_3 {G : slG} (hG : slGood G) {E : List bE} {k : Nat} (he : E[k]? = some (.inl (3, bD3))) : bCall G yX3_init cX3_init 1 2 3120 k E (E.set k (.inl (3, bF3 E.length)) ++ bN3 E.length) := by
  have hk : k < E.length := (List.getElem?_eq_some_iff.mp he).1
  refine bCall.of hG (own := RX3) (by decide +kernel) rfl rfl ?_
  rintro X hX rfl hB
  have hin := hB.1
  have hR := hB.2.2.2.2
  have hfr : (xR X).frames = 1 := by rw [hR]; rfl
  have hlo : (xR X).locals = 60 := by rw [hR]; rfl
  have hce : (xR X).cells = 2 := by rw [hR]; rfl
  have hsl : (xR X).slots = 3120 := by rw [hR]; rfl
  have go : bOK X (bQ X (E.set k (.inl (3, bF3 E.length)) ++ bN3 E.length) 2 3120) 0 0 0 [(0, bI (xG X) (vR k))] [] (E.set k (.inl (3, bD3)) ++ []) := by
    refine b_aload hX (a := k) 0 dX3_init_0 rfl ?_
    refine b_obj hX bo_X3 bo_i bo_c (bLe hfr rfl) (bLe hlo rfl) dX3_init_1 ?_
    refine b_aload hX (a := k) 0 dX3_init_4 rfl ?_
    refine b_sipush hX dX3_init_5 (by decide) ?_
    refine b_newI hX (N := 1200) ba_I rfl (by decide) (bLe hce rfl) (bLe hsl rfl) dX3_init_8 (bLen (j := 0) bL0) (bAs ?_)
    refine b_put hX hin bf_X3_9 dX3_init_10 rfl rfl (bGet hk) (bLt rfl) (bSet hk) ?_
    refine b_aload hX (a := k) 0 dX3_init_13 rfl ?_
    refine b_sipush hX dX3_init_14 (by decide) ?_
    refine b_newI hX (N := 1920) ba_I rfl (by decide) (bLe hce rfl) (bLe hsl rfl) dX3_init_17 (bLen (j := 1) (bLc bL0)) (bAs ?_)
    refine b_put hX hin bf_X3_15 dX3_init_19 rfl rfl (bGet hk) (bL1 (bLt rfl)) (bSet hk) ?_
    refine b_aload hX (a := k) 0 dX3_init_22 rfl ?_
    refine b_iconst hX dX3_init_23 ?_
    refine b_put hX hin bf_X3_18 dX3_init_24 rfl rfl (bGet hk) (bL1 (bL1 (bLt rfl))) (bSet hk) ?_
    exact b_vret hX hB dX3_init_27 (Nat.le_of_ble_eq_true rfl) (Nat.le_of_ble_eq_true rfl) (by unfold bF3 bN3; rfl)
  rw [← bSet0 he] at go
  exact go
theorem bo_X6 : Cond.methodLink RX6 3 Lib.objectInit ∈ lw_tbl := lw_in2 _ (List.mem_of_getElem? (i := 119) (by decide +kernel))
theorem bf_X6_9 : bFd RX6 9 6 0 (.array .int) := ⟨_, _, _, _, cl_6, by decide, lw_in2 _ (List.mem_of_getElem? (i := 120) (by decide +kernel)), rfl, rfl⟩
theorem bf_X6_15 : bFd RX6 15 6 1 (.array .int) := ⟨_, _, _, _, cl_6, by decide, lw_in2 _ (List.mem_of_getElem? (i := 121) (by decide +kernel)), rfl, rfl⟩
theorem bf_X6_18 : bFd RX6 18 6 2 (.array .int) := ⟨_, _, _, _, cl_6, by decide, lw_in2 _ (List.mem_of_getElem? (i := 122) (by decide +kernel)), rfl, rfl⟩
theorem bf_X6_21 : bFd RX6 21 6 3 (.array .int) := ⟨_, _, _, _, cl_6, by decide, lw_in2 _ (List.mem_of_getElem? (i := 123) (by decide +kernel)), rfl, rfl⟩
theorem bf_X6_24 : bFd RX6 24 6 4 (.array .int) := ⟨_, _, _, _, cl_6, by decide, lw_in2 _ (List.mem_of_getElem? (i := 124) (by decide +kernel)), rfl, rfl⟩
theorem bf_X6_27 : bFd RX6 27 6 5 (.array .int) := ⟨_, _, _, _, cl_6, by decide, lw_in2 _ (List.mem_of_getElem? (i := 125) (by decide +kernel)), rfl, rfl⟩
theorem bf_X6_30 : bFd RX6 30 6 6 .int := ⟨_, _, _, _, cl_6, by decide, lw_in2 _ (List.mem_of_getElem? (i := 126) (by decide +kernel)), rfl, rfl⟩
theorem bf_X6_34 : bFd RX6 34 6 7 .int := ⟨_, _, _, _, cl_6, by decide, lw_in2 _ (List.mem_of_getElem? (i := 127) (by decide +kernel)), rfl, rfl⟩
def bF6 (q : Nat) : List bV := ((((((((bD6.set 0 (vR (q + 0))).set 1 (vR (q + 1))).set 2 (vR (q + 2))).set 3 (vR (q + 3))).set 4 (vR (q + 4))).set 5 (vR (q + 5))).set 6 (vI (0))).set 7 (vI (0)))
def bN6 (q : Nat) : List bE := ((((((([] : List bE) ++ [(.inr (0, 40, []) : bE)]) ++ [(.inr (0, 40, []) : bE)]) ++ [(.inr (0, 40, []) : bE)]) ++ [(.inr (0, 5, []) : bE)]) ++ [(.inr (0, 8, []) : bE)]) ++ [(.inr (0, 5, []) : bE)])
theorem bNl_6 (q : Nat) : (bN6 q).length = 6 := by
  unfold bN6
  exact (bLc (bLc (bLc (bLc (bLc (bLc bL0))))))
set_option maxHeartbeats 4000000 in
set_option maxRecDepth 100000 in
theorem bi_6 {G : slG} (hG : slGood G) {E : List bE} {k : Nat} (he : E[k]? = some (.inl (6, bD6))) : bCall G yX6_init cX6_init 1 6 138 k E (E.set k (.inl (6, bF6 E.length)) ++ bN6 E.length) := by
  have hk : k < E.length := (List.getElem?_eq_some_iff.mp he).1
  refine bCall.of hG (own := RX6) (by decide +kernel) rfl rfl ?_
  rintro X hX rfl hB
  have hin := hB.1
  have hR := hB.2.2.2.2
  have hfr : (xR X).frames = 1 := by rw [hR]; rfl
  have hlo : (xR X).locals = 60 := by rw [hR]; rfl
  have hce : (xR X).cells = 6 := by rw [hR]; rfl
  have hsl : (xR X).slots = 138 := by rw [hR]; rfl
  have go : bOK X (bQ X (E.set k (.inl (6, bF6 E.length)) ++ bN6 E.length) 6 138) 0 0 0 [(0, bI (xG X) (vR k))] [] (E.set k (.inl (6, bD6)) ++ []) := by
    refine b_aload hX (a := k) 0 dX6_init_0 rfl ?_
    refine b_obj hX bo_X6 bo_i bo_c (bLe hfr rfl) (bLe hlo rfl) dX6_init_1 ?_
    refine b_aload hX (a := k) 0 dX6_init_4 rfl ?_
    refine b_bipush hX dX6_init_5 (by decide) ?_
    refine b_newI hX (N := 40) ba_I rfl (by decide) (bLe hce rfl) (bLe hsl rfl) dX6_init_7 (bLen (j := 0) bL0) (bAs ?_)
    refine b_put hX hin bf_X6_9 dX6_init_9 rfl rfl (bGet hk) (bLt rfl) (bSet hk) ?_
    refine b_aload hX (a := k) 0 dX6_init_12 rfl ?_
    refine b_bipush hX dX6_init_13 (by decide) ?_
    refine b_newI hX (N := 40) ba_I rfl (by decide) (bLe hce rfl) (bLe hsl rfl) dX6_init_15 (bLen (j := 1) (bLc bL0)) (bAs ?_)
    refine b_put hX hin bf_X6_15 dX6_init_17 rfl rfl (bGet hk) (bL1 (bLt rfl)) (bSet hk) ?_
    refine b_aload hX (a := k) 0 dX6_init_20 rfl ?_
    refine b_bipush hX dX6_init_21 (by decide) ?_
    refine b_newI hX (N := 40) ba_I rfl (by decide) (bLe hce rfl) (bLe hsl rfl) dX6_init_23 (bLen (j := 2) (bLc (bLc bL0))) (bAs ?_)
    refine b_put hX hin bf_X6_18 dX6_init_25 rfl rfl (bGet hk) (bL1 (bL1 (bLt rfl))) (bSet hk) ?_
    refine b_aload hX (a := k) 0 dX6_init_28 rfl ?_
    refine b_iconst hX dX6_init_29 ?_
    refine b_newI hX (N := 5) ba_I rfl (by decide) (bLe hce rfl) (bLe hsl rfl) dX6_init_30 (bLen (j := 3) (bLc (bLc (bLc bL0)))) (bAs ?_)
    refine b_put hX hin bf_X6_21 dX6_init_32 rfl rfl (bGet hk) (bL1 (bL1 (bL1 (bLt rfl)))) (bSet hk) ?_
    refine b_aload hX (a := k) 0 dX6_init_35 rfl ?_
    refine b_bipush hX dX6_init_36 (by decide) ?_
    refine b_newI hX (N := 8) ba_I rfl (by decide) (bLe hce rfl) (bLe hsl rfl) dX6_init_38 (bLen (j := 4) (bLc (bLc (bLc (bLc bL0))))) (bAs ?_)
    refine b_put hX hin bf_X6_24 dX6_init_40 rfl rfl (bGet hk) (bL1 (bL1 (bL1 (bL1 (bLt rfl))))) (bSet hk) ?_
    refine b_aload hX (a := k) 0 dX6_init_43 rfl ?_
    refine b_iconst hX dX6_init_44 ?_
    refine b_newI hX (N := 5) ba_I rfl (by decide) (bLe hce rfl) (bLe hsl rfl) dX6_init_45 (bLen (j := 5) (bLc (bLc (bLc (bLc (bLc bL0)))))) (bAs ?_)
    refine b_put hX hin bf_X6_27 dX6_init_47 rfl rfl (bGet hk) (bL1 (bL1 (bL1 (bL1 (bL1 (bLt rfl)))))) (bSet hk) ?_
    refine b_aload hX (a := k) 0 dX6_init_50 rfl ?_
    refine b_iconst hX dX6_init_51 ?_
    refine b_put hX hin bf_X6_30 dX6_init_52 rfl rfl (bGet hk) (bL1 (bL1 (bL1 (bL1 (bL1 (bL1 (bLt rfl))))))) (bSet hk) ?_
    refine b_aload hX (a := k) 0 dX6_init_55 rfl ?_
    refine b_iconst hX dX6_init_56 ?_
    refine b_put hX hin bf_X6_34 dX6_init_57 rfl rfl (bGet hk) (bL1 (bL1 (bL1 (bL1 (bL1 (bL1 (bL1 (bLt rfl)))))))) (bSet hk) ?_
    exact b_vret hX hB dX6_init_60 (Nat.le_of_ble_eq_true rfl) (Nat.le_of_ble_eq_true rfl) (by unfold bF6 bN6; rfl)
  rw [← bSet0 he] at go
  exact go
theorem bo_X10 : Cond.methodLink RX10 3 Lib.objectInit ∈ lw_tbl := lw_in2 _ (List.mem_of_getElem? (i := 85) (by decide +kernel))
theorem bf_X10_9 : bFd RX10 9 10 0 (.array .int) := ⟨_, _, _, _, cl_10, by decide, lw_in2 _ (List.mem_of_getElem? (i := 86) (by decide +kernel)), rfl, rfl⟩
theorem bf_X10_15 : bFd RX10 15 10 1 (.array .int) := ⟨_, _, _, _, cl_10, by decide, lw_in2 _ (List.mem_of_getElem? (i := 87) (by decide +kernel)), rfl, rfl⟩
theorem bf_X10_20 : bFd RX10 20 10 2 (.array .int) := ⟨_, _, _, _, cl_10, by decide, lw_in2 _ (List.mem_of_getElem? (i := 89) (by decide +kernel)), rfl, rfl⟩
def bF10 (q : Nat) : List bV := (((bD10.set 0 (vR (q + 0))).set 1 (vR (q + 1))).set 2 (vR (q + 2)))
def bN10 (q : Nat) : List bE := (((([] : List bE) ++ [(.inr (0, 1200, []) : bE)]) ++ [(.inr (0, 1200, []) : bE)]) ++ [(.inr (0, 6, []) : bE)])
theorem bNl_10 (q : Nat) : (bN10 q).length = 3 := by
  unfold bN10
  exact (bLc (bLc (bLc bL0)))
set_option maxHeartbeats 4000000 in
set_option maxRecDepth 100000 in
theorem bi_10 {G : slG} (hG : slGood G) {E : List bE} {k : Nat} (he : E[k]? = some (.inl (10, bD10))) : bCall G yX10_init cX10_init 1 3 2406 k E (E.set k (.inl (10, bF10 E.length)) ++ bN10 E.length) := by
  have hk : k < E.length := (List.getElem?_eq_some_iff.mp he).1
  refine bCall.of hG (own := RX10) (by decide +kernel) rfl rfl ?_
  rintro X hX rfl hB
  have hin := hB.1
  have hR := hB.2.2.2.2
  have hfr : (xR X).frames = 1 := by rw [hR]; rfl
  have hlo : (xR X).locals = 60 := by rw [hR]; rfl
  have hce : (xR X).cells = 3 := by rw [hR]; rfl
  have hsl : (xR X).slots = 2406 := by rw [hR]; rfl
  have go : bOK X (bQ X (E.set k (.inl (10, bF10 E.length)) ++ bN10 E.length) 3 2406) 0 0 0 [(0, bI (xG X) (vR k))] [] (E.set k (.inl (10, bD10)) ++ []) := by
    refine b_aload hX (a := k) 0 dX10_init_0 rfl ?_
    refine b_obj hX bo_X10 bo_i bo_c (bLe hfr rfl) (bLe hlo rfl) dX10_init_1 ?_
    refine b_aload hX (a := k) 0 dX10_init_4 rfl ?_
    refine b_sipush hX dX10_init_5 (by decide) ?_
    refine b_newI hX (N := 1200) ba_I rfl (by decide) (bLe hce rfl) (bLe hsl rfl) dX10_init_8 (bLen (j := 0) bL0) (bAs ?_)
    refine b_put hX hin bf_X10_9 dX10_init_10 rfl rfl (bGet hk) (bLt rfl) (bSet hk) ?_
    refine b_aload hX (a := k) 0 dX10_init_13 rfl ?_
    refine b_sipush hX dX10_init_14 (by decide) ?_
    refine b_newI hX (N := 1200) ba_I rfl (by decide) (bLe hce rfl) (bLe hsl rfl) dX10_init_17 (bLen (j := 1) (bLc bL0)) (bAs ?_)
    refine b_put hX hin bf_X10_15 dX10_init_19 rfl rfl (bGet hk) (bL1 (bLt rfl)) (bSet hk) ?_
    refine b_aload hX (a := k) 0 dX10_init_22 rfl ?_
    refine b_bipush hX dX10_init_23 (by decide) ?_
    refine b_newI hX (N := 6) ba_I rfl (by decide) (bLe hce rfl) (bLe hsl rfl) dX10_init_25 (bLen (j := 2) (bLc (bLc bL0))) (bAs ?_)
    refine b_put hX hin bf_X10_20 dX10_init_27 rfl rfl (bGet hk) (bL1 (bL1 (bLt rfl))) (bSet hk) ?_
    exact b_vret hX hB dX10_init_30 (Nat.le_of_ble_eq_true rfl) (Nat.le_of_ble_eq_true rfl) (by unfold bF10 bN10; rfl)
  rw [← bSet0 he] at go
  exact go
theorem bo_X1 : Cond.methodLink RX1 3 Lib.objectInit ∈ lw_tbl := lw_in1 _ (List.mem_of_getElem? (i := 40) (by decide +kernel))
theorem bf_X1_9 : bFd RX1 9 1 0 .int := ⟨_, _, _, _, cl_1, by decide, lw_in1 _ (List.mem_of_getElem? (i := 67) (by decide +kernel)), rfl, rfl⟩
theorem bf_X1_15 : bFd RX1 15 1 1 .int := ⟨_, _, _, _, cl_1, by decide, lw_in1 _ (List.mem_of_getElem? (i := 70) (by decide +kernel)), rfl, rfl⟩
theorem bf_X1_18 : bFd RX1 18 1 2 .int := ⟨_, _, _, _, cl_1, by decide, lw_in1 _ (List.mem_of_getElem? (i := 73) (by decide +kernel)), rfl, rfl⟩
theorem bf_X1_21 : bFd RX1 21 1 3 .int := ⟨_, _, _, _, cl_1, by decide, lw_in1 _ (List.mem_of_getElem? (i := 76) (by decide +kernel)), rfl, rfl⟩
theorem bf_X1_24 : bFd RX1 24 1 4 .int := ⟨_, _, _, _, cl_1, by decide, lw_in1 _ (List.mem_of_getElem? (i := 83) (by decide +kernel)), rfl, rfl⟩
theorem bf_X1_27 : bFd RX1 27 1 5 .int := ⟨_, _, _, _, cl_1, by decide, lw_in1 _ (List.mem_of_getElem? (i := 89) (by decide +kernel)), rfl, rfl⟩
theorem bf_X1_30 : bFd RX1 30 1 6 (.array .boolean) := ⟨_, _, _, _, cl_1, by decide, lw_in1 _ (List.mem_of_getElem? (i := 91) (by decide +kernel)), rfl, rfl⟩
theorem bf_X1_34 : bFd RX1 34 1 7 (.array .int) := ⟨_, _, _, _, cl_1, by decide, lw_in1 _ (List.mem_of_getElem? (i := 93) (by decide +kernel)), rfl, rfl⟩
theorem bf_X1_38 : bFd RX1 38 1 8 (.array .int) := ⟨_, _, _, _, cl_1, by decide, lw_in1 _ (List.mem_of_getElem? (i := 95) (by decide +kernel)), rfl, rfl⟩
theorem bf_X1_41 : bFd RX1 41 1 9 (.array .int) := ⟨_, _, _, _, cl_1, by decide, lw_in1 _ (List.mem_of_getElem? (i := 97) (by decide +kernel)), rfl, rfl⟩
theorem bf_X1_44 : bFd RX1 44 1 10 (.array .int) := ⟨_, _, _, _, cl_1, by decide, lw_in1 _ (List.mem_of_getElem? (i := 103) (by decide +kernel)), rfl, rfl⟩
theorem bf_X1_47 : bFd RX1 47 1 11 (.array .int) := ⟨_, _, _, _, cl_1, by decide, lw_in1 _ (List.mem_of_getElem? (i := 107) (by decide +kernel)), rfl, rfl⟩
theorem bf_X1_50 : bFd RX1 50 1 12 (.array .int) := ⟨_, _, _, _, cl_1, by decide, lw_in1 _ (List.mem_of_getElem? (i := 110) (by decide +kernel)), rfl, rfl⟩
theorem bf_X1_53 : bFd RX1 53 1 13 (.array .int) := ⟨_, _, _, _, cl_1, by decide, lw_in1 _ (List.mem_of_getElem? (i := 112) (by decide +kernel)), rfl, rfl⟩
theorem bf_X1_56 : bFd RX1 56 1 14 (.array .int) := ⟨_, _, _, _, cl_1, by decide, lw_in1 _ (List.mem_of_getElem? (i := 116) (by decide +kernel)), rfl, rfl⟩
theorem bf_X1_59 : bFd RX1 59 1 15 (.array .int) := ⟨_, _, _, _, cl_1, by decide, lw_in1 _ (List.mem_of_getElem? (i := 120) (by decide +kernel)), rfl, rfl⟩
theorem bn_X1_62 : bNw RX1 62 4 5 bD4 := ⟨_, _, _, cl_4, ⟨lw_in1 _ (List.mem_of_getElem? (i := 41) (by decide +kernel)), lw_in1 _ (List.mem_of_getElem? (i := 42) (by decide +kernel)), lw_in1 _ (List.mem_of_getElem? (i := 3) (by decide +kernel))⟩, by decide +kernel⟩
theorem bs_X1_64 : bSi (Cond.methodLinkNest RX1 64 yX4_init "SailingLights") yX4_init cX4_init := ⟨lw_in1 _ (List.mem_of_getElem? (i := 43) (by decide +kernel)), lw_in1 _ (List.mem_of_getElem? (i := 3) (by decide +kernel)), lw_in1 _ (List.mem_of_getElem? (i := 45) (by decide +kernel)), by decide +kernel, rfl, lw_in1 _ (List.mem_of_getElem? (i := 44) (by decide +kernel))⟩
theorem bf_X1_65 : bFd RX1 65 1 16 (.object "SailingLights$LawBook") := ⟨_, _, _, _, cl_1, by decide, lw_in1 _ (List.mem_of_getElem? (i := 122) (by decide +kernel)), rfl, rfl⟩
def bF1 (q : Nat) : List bV := (((((((((((((((((bD1.set 0 (vI (8))).set 1 (vI (8))).set 2 (vI (0))).set 3 (vI (0))).set 4 (vI (0))).set 5 (vI (0))).set 6 (vR (q + 0))).set 7 (vR (q + 1))).set 8 (vR (q + 2))).set 9 (vR (q + 3))).set 10 (vR (q + 4))).set 11 (vR (q + 5))).set 12 (vR (q + 6))).set 13 (vR (q + 7))).set 14 (vR (q + 8))).set 15 (vR (q + 9))).set 16 (vR (q + 10)))
def bN1 (q : Nat) : List bE := (((((((((((((([] : List bE) ++ [(.inr (1, 144, []) : bE)]) ++ [(.inr (0, 12, []) : bE)]) ++ [(.inr (0, 12, []) : bE)]) ++ [(.inr (0, 5, []) : bE)]) ++ [(.inr (0, 5, []) : bE)]) ++ [(.inr (0, 5, []) : bE)]) ++ [(.inr (0, 60, []) : bE)]) ++ [(.inr (0, 5, []) : bE)]) ++ [(.inr (0, 5, []) : bE)]) ++ [(.inr (0, 8, []) : bE)]) ++ [(.inl (4, bD4) : bE)])).set 10 (.inl (4, bF4 (q + 11)) : bE) ++ bN4 (q + 11))
theorem bNl_1 (q : Nat) : (bN1 q).length = 14 := by
  unfold bN1
  exact (bLs (L := 11) (m := 3) (bLc (bLc (bLc (bLc (bLc (bLc (bLc (bLc (bLc (bLc (bLc bL0))))))))))) (bNl_4 _))
set_option maxHeartbeats 4000000 in
set_option maxRecDepth 100000 in
theorem bi_1 {G : slG} (hG : slGood G) {E : List bE} {k : Nat} (he : E[k]? = some (.inl (1, bD1))) : bCall G yX1_init cX1_init 2 14 1009 k E (E.set k (.inl (1, bF1 E.length)) ++ bN1 E.length) := by
  have hk : k < E.length := (List.getElem?_eq_some_iff.mp he).1
  refine bCall.of hG (own := RX1) (by decide +kernel) rfl rfl ?_
  rintro X hX rfl hB
  have hin := hB.1
  have hR := hB.2.2.2.2
  have hfr : (xR X).frames = 2 := by rw [hR]; rfl
  have hlo : (xR X).locals = 120 := by rw [hR]; rfl
  have hce : (xR X).cells = 14 := by rw [hR]; rfl
  have hsl : (xR X).slots = 1009 := by rw [hR]; rfl
  have go : bOK X (bQ X (E.set k (.inl (1, bF1 E.length)) ++ bN1 E.length) 14 1009) 0 0 0 [(0, bI (xG X) (vR k))] [] (E.set k (.inl (1, bD1)) ++ []) := by
    refine b_aload hX (a := k) 0 dX1_init_0 rfl ?_
    refine b_obj hX bo_X1 bo_i bo_c (bLe hfr rfl) (bLe hlo rfl) dX1_init_1 ?_
    refine b_aload hX (a := k) 0 dX1_init_4 rfl ?_
    refine b_bipush hX dX1_init_5 (by decide) ?_
    refine b_put hX hin bf_X1_9 dX1_init_7 rfl rfl (bGet hk) (bLt rfl) (bSet hk) ?_
    refine b_aload hX (a := k) 0 dX1_init_10 rfl ?_
    refine b_bipush hX dX1_init_11 (by decide) ?_
    refine b_put hX hin bf_X1_15 dX1_init_13 rfl rfl (bGet hk) (bL1 (bLt rfl)) (bSet hk) ?_
    refine b_aload hX (a := k) 0 dX1_init_16 rfl ?_
    refine b_iconst hX dX1_init_17 ?_
    refine b_put hX hin bf_X1_18 dX1_init_18 rfl rfl (bGet hk) (bL1 (bL1 (bLt rfl))) (bSet hk) ?_
    refine b_aload hX (a := k) 0 dX1_init_21 rfl ?_
    refine b_iconst hX dX1_init_22 ?_
    refine b_put hX hin bf_X1_21 dX1_init_23 rfl rfl (bGet hk) (bL1 (bL1 (bL1 (bLt rfl)))) (bSet hk) ?_
    refine b_aload hX (a := k) 0 dX1_init_26 rfl ?_
    refine b_iconst hX dX1_init_27 ?_
    refine b_put hX hin bf_X1_24 dX1_init_28 rfl rfl (bGet hk) (bL1 (bL1 (bL1 (bL1 (bLt rfl))))) (bSet hk) ?_
    refine b_aload hX (a := k) 0 dX1_init_31 rfl ?_
    refine b_iconst hX dX1_init_32 ?_
    refine b_put hX hin bf_X1_27 dX1_init_33 rfl rfl (bGet hk) (bL1 (bL1 (bL1 (bL1 (bL1 (bLt rfl)))))) (bSet hk) ?_
    refine b_aload hX (a := k) 0 dX1_init_36 rfl ?_
    refine b_sipush hX dX1_init_37 (by decide) ?_
    refine b_newZ hX (N := 144) ba_Z rfl (by decide) (bLe hce rfl) (bLe hsl rfl) dX1_init_40 (bLen (j := 0) bL0) (bAs ?_)
    refine b_put hX hin bf_X1_30 dX1_init_42 rfl rfl (bGet hk) (bL1 (bL1 (bL1 (bL1 (bL1 (bL1 (bLt rfl))))))) (bSet hk) ?_
    refine b_aload hX (a := k) 0 dX1_init_45 rfl ?_
    refine b_bipush hX dX1_init_46 (by decide) ?_
    refine b_newI hX (N := 12) ba_I rfl (by decide) (bLe hce rfl) (bLe hsl rfl) dX1_init_48 (bLen (j := 1) (bLc bL0)) (bAs ?_)
    refine b_put hX hin bf_X1_34 dX1_init_50 rfl rfl (bGet hk) (bL1 (bL1 (bL1 (bL1 (bL1 (bL1 (bL1 (bLt rfl)))))))) (bSet hk) ?_
    refine b_aload hX (a := k) 0 dX1_init_53 rfl ?_
    refine b_bipush hX dX1_init_54 (by decide) ?_
    refine b_newI hX (N := 12) ba_I rfl (by decide) (bLe hce rfl) (bLe hsl rfl) dX1_init_56 (bLen (j := 2) (bLc (bLc bL0))) (bAs ?_)
    refine b_put hX hin bf_X1_38 dX1_init_58 rfl rfl (bGet hk) (bL1 (bL1 (bL1 (bL1 (bL1 (bL1 (bL1 (bL1 (bLt rfl))))))))) (bSet hk) ?_
    refine b_aload hX (a := k) 0 dX1_init_61 rfl ?_
    refine b_iconst hX dX1_init_62 ?_
    refine b_newI hX (N := 5) ba_I rfl (by decide) (bLe hce rfl) (bLe hsl rfl) dX1_init_63 (bLen (j := 3) (bLc (bLc (bLc bL0)))) (bAs ?_)
    refine b_put hX hin bf_X1_41 dX1_init_65 rfl rfl (bGet hk) (bL1 (bL1 (bL1 (bL1 (bL1 (bL1 (bL1 (bL1 (bL1 (bLt rfl)))))))))) (bSet hk) ?_
    refine b_aload hX (a := k) 0 dX1_init_68 rfl ?_
    refine b_iconst hX dX1_init_69 ?_
    refine b_newI hX (N := 5) ba_I rfl (by decide) (bLe hce rfl) (bLe hsl rfl) dX1_init_70 (bLen (j := 4) (bLc (bLc (bLc (bLc bL0))))) (bAs ?_)
    refine b_put hX hin bf_X1_44 dX1_init_72 rfl rfl (bGet hk) (bL1 (bL1 (bL1 (bL1 (bL1 (bL1 (bL1 (bL1 (bL1 (bL1 (bLt rfl))))))))))) (bSet hk) ?_
    refine b_aload hX (a := k) 0 dX1_init_75 rfl ?_
    refine b_iconst hX dX1_init_76 ?_
    refine b_newI hX (N := 5) ba_I rfl (by decide) (bLe hce rfl) (bLe hsl rfl) dX1_init_77 (bLen (j := 5) (bLc (bLc (bLc (bLc (bLc bL0)))))) (bAs ?_)
    refine b_put hX hin bf_X1_47 dX1_init_79 rfl rfl (bGet hk) (bL1 (bL1 (bL1 (bL1 (bL1 (bL1 (bL1 (bL1 (bL1 (bL1 (bL1 (bLt rfl)))))))))))) (bSet hk) ?_
    refine b_aload hX (a := k) 0 dX1_init_82 rfl ?_
    refine b_bipush hX dX1_init_83 (by decide) ?_
    refine b_newI hX (N := 60) ba_I rfl (by decide) (bLe hce rfl) (bLe hsl rfl) dX1_init_85 (bLen (j := 6) (bLc (bLc (bLc (bLc (bLc (bLc bL0))))))) (bAs ?_)
    refine b_put hX hin bf_X1_50 dX1_init_87 rfl rfl (bGet hk) (bL1 (bL1 (bL1 (bL1 (bL1 (bL1 (bL1 (bL1 (bL1 (bL1 (bL1 (bL1 (bLt rfl))))))))))))) (bSet hk) ?_
    refine b_aload hX (a := k) 0 dX1_init_90 rfl ?_
    refine b_iconst hX dX1_init_91 ?_
    refine b_newI hX (N := 5) ba_I rfl (by decide) (bLe hce rfl) (bLe hsl rfl) dX1_init_92 (bLen (j := 7) (bLc (bLc (bLc (bLc (bLc (bLc (bLc bL0)))))))) (bAs ?_)
    refine b_put hX hin bf_X1_53 dX1_init_94 rfl rfl (bGet hk) (bL1 (bL1 (bL1 (bL1 (bL1 (bL1 (bL1 (bL1 (bL1 (bL1 (bL1 (bL1 (bL1 (bLt rfl)))))))))))))) (bSet hk) ?_
    refine b_aload hX (a := k) 0 dX1_init_97 rfl ?_
    refine b_iconst hX dX1_init_98 ?_
    refine b_newI hX (N := 5) ba_I rfl (by decide) (bLe hce rfl) (bLe hsl rfl) dX1_init_99 (bLen (j := 8) (bLc (bLc (bLc (bLc (bLc (bLc (bLc (bLc bL0))))))))) (bAs ?_)
    refine b_put hX hin bf_X1_56 dX1_init_101 rfl rfl (bGet hk) (bL1 (bL1 (bL1 (bL1 (bL1 (bL1 (bL1 (bL1 (bL1 (bL1 (bL1 (bL1 (bL1 (bL1 (bLt rfl))))))))))))))) (bSet hk) ?_
    refine b_aload hX (a := k) 0 dX1_init_104 rfl ?_
    refine b_bipush hX dX1_init_105 (by decide) ?_
    refine b_newI hX (N := 8) ba_I rfl (by decide) (bLe hce rfl) (bLe hsl rfl) dX1_init_107 (bLen (j := 9) (bLc (bLc (bLc (bLc (bLc (bLc (bLc (bLc (bLc bL0)))))))))) (bAs ?_)
    refine b_put hX hin bf_X1_59 dX1_init_109 rfl rfl (bGet hk) (bL1 (bL1 (bL1 (bL1 (bL1 (bL1 (bL1 (bL1 (bL1 (bL1 (bL1 (bL1 (bL1 (bL1 (bL1 (bLt rfl)))))))))))))))) (bSet hk) ?_
    refine b_aload hX (a := k) 0 dX1_init_112 rfl ?_
    refine b_new hX bn_X1_62 (bLe hce rfl) (bLe hsl rfl) dX1_init_113 (bLen (j := 10) (bLc (bLc (bLc (bLc (bLc (bLc (bLc (bLc (bLc (bLc bL0))))))))))) (bAs ?_)
    refine b_dup hX dX1_init_116 ?_
    refine b_callN hX bs_X1_64 (a := E.length + 10) (d2 := 1) (m2 := 3) (s2 := 743) (bLe hfr rfl) (bLe hlo rfl) (bLe hce rfl) (bLe hsl rfl) (Nat.le_of_ble_eq_true rfl) dX1_init_117 (bSub (F := bF4) (Nn := bN4) (j := 10) (L := 11) (fun E' k' h => bi_4 hG h) (gL (bLc (bLc (bLc (bLc (bLc (bLc (bLc (bLc (bLc (bLc bL0))))))))))) (bLc (bLc (bLc (bLc (bLc (bLc (bLc (bLc (bLc (bLc (bLc bL0)))))))))))) ?_
    refine b_put hX hin bf_X1_65 dX1_init_120 rfl rfl (bGet hk) (bL1 (bL1 (bL1 (bL1 (bL1 (bL1 (bL1 (bL1 (bL1 (bL1 (bL1 (bL1 (bL1 (bL1 (bL1 (bL1 (bLt rfl))))))))))))))))) (bSet hk) ?_
    exact b_vret hX hB dX1_init_123 (Nat.le_of_ble_eq_true rfl) (Nat.le_of_ble_eq_true rfl) (by unfold bF1 bN1; rfl)
  rw [← bSet0 he] at go
  exact go
theorem bo_X8 : Cond.methodLink RX8 3 Lib.objectInit ∈ lw_tbl := lw_in1 _ (List.mem_of_getElem? (i := 166) (by decide +kernel))
theorem bf_X8_9 : bFd RX8 9 8 0 (.array .int) := ⟨_, _, _, _, cl_8, by decide, lw_in1 _ (List.mem_of_getElem? (i := 216) (by decide +kernel)), rfl, rfl⟩
theorem bf_X8_15 : bFd RX8 15 8 1 (.array .int) := ⟨_, _, _, _, cl_8, by decide, lw_in1 _ (List.mem_of_getElem? (i := 220) (by decide +kernel)), rfl, rfl⟩
theorem bf_X8_18 : bFd RX8 18 8 2 (.array .int) := ⟨_, _, _, _, cl_8, by decide, lw_in1 _ (List.mem_of_getElem? (i := 225) (by decide +kernel)), rfl, rfl⟩
theorem bf_X8_21 : bFd RX8 21 8 3 (.array .int) := ⟨_, _, _, _, cl_8, by decide, lw_in1 _ (List.mem_of_getElem? (i := 229) (by decide +kernel)), rfl, rfl⟩
theorem bn_X8_24 : bNw RX8 24 0 4 bD0 := ⟨_, _, _, cl_0, ⟨lw_in1 _ (List.mem_of_getElem? (i := 167) (by decide +kernel)), lw_in1 _ (List.mem_of_getElem? (i := 168) (by decide +kernel)), lw_in1 _ (List.mem_of_getElem? (i := 5) (by decide +kernel))⟩, by decide +kernel⟩
theorem bs_X8_26 : bSi (Cond.methodLinkNest RX8 26 yX0_init "SailingLights") yX0_init cX0_init := ⟨lw_in1 _ (List.mem_of_getElem? (i := 169) (by decide +kernel)), lw_in1 _ (List.mem_of_getElem? (i := 5) (by decide +kernel)), lw_in1 _ (List.mem_of_getElem? (i := 171) (by decide +kernel)), by decide +kernel, rfl, lw_in1 _ (List.mem_of_getElem? (i := 170) (by decide +kernel))⟩
theorem bf_X8_27 : bFd RX8 27 8 4 (.object "SailingLights$Acts") := ⟨_, _, _, _, cl_8, by decide, lw_in1 _ (List.mem_of_getElem? (i := 233) (by decide +kernel)), rfl, rfl⟩
theorem bn_X8_31 : bNw RX8 31 5 5 bD5 := ⟨_, _, _, cl_5, ⟨lw_in1 _ (List.mem_of_getElem? (i := 192) (by decide +kernel)), lw_in1 _ (List.mem_of_getElem? (i := 193) (by decide +kernel)), lw_in1 _ (List.mem_of_getElem? (i := 6) (by decide +kernel))⟩, by decide +kernel⟩
theorem bs_X8_33 : bSi (Cond.methodLinkNest RX8 33 yX5_init "SailingLights") yX5_init cX5_init := ⟨lw_in1 _ (List.mem_of_getElem? (i := 194) (by decide +kernel)), lw_in1 _ (List.mem_of_getElem? (i := 6) (by decide +kernel)), lw_in1 _ (List.mem_of_getElem? (i := 196) (by decide +kernel)), by decide +kernel, rfl, lw_in1 _ (List.mem_of_getElem? (i := 195) (by decide +kernel))⟩
theorem bf_X8_34 : bFd RX8 34 8 5 (.object "SailingLights$Logbook") := ⟨_, _, _, _, cl_8, by decide, lw_in1 _ (List.mem_of_getElem? (i := 236) (by decide +kernel)), rfl, rfl⟩
theorem bf_X8_38 : bFd RX8 38 8 6 .int := ⟨_, _, _, _, cl_8, by decide, lw_in1 _ (List.mem_of_getElem? (i := 239) (by decide +kernel)), rfl, rfl⟩
def bF8 (q : Nat) : List bV := (((((((bD8.set 0 (vR (q + 0))).set 1 (vR (q + 1))).set 2 (vR (q + 2))).set 3 (vR (q + 3))).set 4 (vR (q + 4))).set 5 (vR (q + 8))).set 6 (vI (-1)))
def bN8 (q : Nat) : List bE := ((((((((((([] : List bE) ++ [(.inr (0, 5, []) : bE)]) ++ [(.inr (0, 5, []) : bE)]) ++ [(.inr (0, 8, []) : bE)]) ++ [(.inr (0, 8, []) : bE)]) ++ [(.inl (0, bD0) : bE)])).set 4 (.inl (0, bF0 (q + 5)) : bE) ++ bN0 (q + 5)) ++ [(.inl (5, bD5) : bE)])).set 8 (.inl (5, bF5 (q + 9)) : bE) ++ bN5 (q + 9))
theorem bNl_8 (q : Nat) : (bN8 q).length = 13 := by
  unfold bN8
  exact (bLs (L := 9) (m := 4) (bLc (bLs (L := 5) (m := 3) (bLc (bLc (bLc (bLc (bLc bL0))))) (bNl_0 _))) (bNl_5 _))
set_option maxHeartbeats 4000000 in
set_option maxRecDepth 100000 in
theorem bi_8 {G : slG} (hG : slGood G) {E : List bE} {k : Nat} (he : E[k]? = some (.inl (8, bD8))) : bCall G yX8_init cX8_init 2 13 187 k E (E.set k (.inl (8, bF8 E.length)) ++ bN8 E.length) := by
  have hk : k < E.length := (List.getElem?_eq_some_iff.mp he).1
  refine bCall.of hG (own := RX8) (by decide +kernel) rfl rfl ?_
  rintro X hX rfl hB
  have hin := hB.1
  have hR := hB.2.2.2.2
  have hfr : (xR X).frames = 2 := by rw [hR]; rfl
  have hlo : (xR X).locals = 120 := by rw [hR]; rfl
  have hce : (xR X).cells = 13 := by rw [hR]; rfl
  have hsl : (xR X).slots = 187 := by rw [hR]; rfl
  have go : bOK X (bQ X (E.set k (.inl (8, bF8 E.length)) ++ bN8 E.length) 13 187) 0 0 0 [(0, bI (xG X) (vR k))] [] (E.set k (.inl (8, bD8)) ++ []) := by
    refine b_aload hX (a := k) 0 dX8_init_0 rfl ?_
    refine b_obj hX bo_X8 bo_i bo_c (bLe hfr rfl) (bLe hlo rfl) dX8_init_1 ?_
    refine b_aload hX (a := k) 0 dX8_init_4 rfl ?_
    refine b_iconst hX dX8_init_5 ?_
    refine b_newI hX (N := 5) ba_I rfl (by decide) (bLe hce rfl) (bLe hsl rfl) dX8_init_6 (bLen (j := 0) bL0) (bAs ?_)
    refine b_put hX hin bf_X8_9 dX8_init_8 rfl rfl (bGet hk) (bLt rfl) (bSet hk) ?_
    refine b_aload hX (a := k) 0 dX8_init_11 rfl ?_
    refine b_iconst hX dX8_init_12 ?_
    refine b_newI hX (N := 5) ba_I rfl (by decide) (bLe hce rfl) (bLe hsl rfl) dX8_init_13 (bLen (j := 1) (bLc bL0)) (bAs ?_)
    refine b_put hX hin bf_X8_15 dX8_init_15 rfl rfl (bGet hk) (bL1 (bLt rfl)) (bSet hk) ?_
    refine b_aload hX (a := k) 0 dX8_init_18 rfl ?_
    refine b_bipush hX dX8_init_19 (by decide) ?_
    refine b_newI hX (N := 8) ba_I rfl (by decide) (bLe hce rfl) (bLe hsl rfl) dX8_init_21 (bLen (j := 2) (bLc (bLc bL0))) (bAs ?_)
    refine b_put hX hin bf_X8_18 dX8_init_23 rfl rfl (bGet hk) (bL1 (bL1 (bLt rfl))) (bSet hk) ?_
    refine b_aload hX (a := k) 0 dX8_init_26 rfl ?_
    refine b_bipush hX dX8_init_27 (by decide) ?_
    refine b_newI hX (N := 8) ba_I rfl (by decide) (bLe hce rfl) (bLe hsl rfl) dX8_init_29 (bLen (j := 3) (bLc (bLc (bLc bL0)))) (bAs ?_)
    refine b_put hX hin bf_X8_21 dX8_init_31 rfl rfl (bGet hk) (bL1 (bL1 (bL1 (bLt rfl)))) (bSet hk) ?_
    refine b_aload hX (a := k) 0 dX8_init_34 rfl ?_
    refine b_new hX bn_X8_24 (bLe hce rfl) (bLe hsl rfl) dX8_init_35 (bLen (j := 4) (bLc (bLc (bLc (bLc bL0))))) (bAs ?_)
    refine b_dup hX dX8_init_38 ?_
    refine b_callN hX bs_X8_26 (a := E.length + 4) (d2 := 1) (m2 := 3) (s2 := 120) (bLe hfr rfl) (bLe hlo rfl) (bLe hce rfl) (bLe hsl rfl) (Nat.le_of_ble_eq_true rfl) dX8_init_39 (bSub (F := bF0) (Nn := bN0) (j := 4) (L := 5) (fun E' k' h => bi_0 hG h) (gL (bLc (bLc (bLc (bLc bL0))))) (bLc (bLc (bLc (bLc (bLc bL0)))))) ?_
    refine b_put hX hin bf_X8_27 dX8_init_42 rfl rfl (bGet hk) (bL1 (bL1 (bL1 (bL1 (bLt rfl))))) (bSet hk) ?_
    refine b_aload hX (a := k) 0 dX8_init_45 rfl ?_
    refine b_new hX bn_X8_31 (bLe hce rfl) (bLe hsl rfl) dX8_init_46 (bLen (j := 8) (bLs (L := 5) (m := 3) (bLc (bLc (bLc (bLc (bLc bL0))))) (bNl_0 _))) (bAs ?_)
    refine b_dup hX dX8_init_49 ?_
    refine b_callN hX bs_X8_33 (a := E.length + 8) (d2 := 1) (m2 := 4) (s2 := 32) (bLe hfr rfl) (bLe hlo rfl) (bLe hce rfl) (bLe hsl rfl) (Nat.le_of_ble_eq_true rfl) dX8_init_50 (bSub (F := bF5) (Nn := bN5) (j := 8) (L := 9) (fun E' k' h => bi_5 hG h) (gL (bLs (L := 5) (m := 3) (bLc (bLc (bLc (bLc (bLc bL0))))) (bNl_0 _))) (bLc (bLs (L := 5) (m := 3) (bLc (bLc (bLc (bLc (bLc bL0))))) (bNl_0 _)))) ?_
    refine b_put hX hin bf_X8_34 dX8_init_53 rfl rfl (bGet hk) (bL1 (bL1 (bL1 (bL1 (bL1 (bLt rfl)))))) (bSet hk) ?_
    refine b_aload hX (a := k) 0 dX8_init_56 rfl ?_
    refine b_iconst hX dX8_init_57 ?_
    refine b_put hX hin bf_X8_38 dX8_init_58 rfl rfl (bGet hk) (bL1 (bL1 (bL1 (bL1 (bL1 (bL1 (bLt rfl))))))) (bSet hk) ?_
    exact b_vret hX hB dX8_init_61 (Nat.le_of_ble_eq_true rfl) (Nat.le_of_ble_eq_true rfl) (by unfold bF8 bN8; rfl)
  rw [← bSet0 he] at go
  exact go
theorem bo_X7 : Cond.methodLink RX7 3 Lib.objectInit ∈ lw_tbl := lw_in2 _ (List.mem_of_getElem? (i := 22) (by decide +kernel))
theorem bn_X7_9 : bNw RX7 9 9 6 bD9 := ⟨_, _, _, cl_9, ⟨lw_in2 _ (List.mem_of_getElem? (i := 23) (by decide +kernel)), lw_in2 _ (List.mem_of_getElem? (i := 24) (by decide +kernel)), lw_in1 _ (List.mem_of_getElem? (i := 8) (by decide +kernel))⟩, by decide +kernel⟩
theorem bs_X7_11 : bSi (Cond.methodLinkNest RX7 11 yX9_init "SailingLights") yX9_init cX9_init := ⟨lw_in2 _ (List.mem_of_getElem? (i := 25) (by decide +kernel)), lw_in1 _ (List.mem_of_getElem? (i := 8) (by decide +kernel)), lw_in2 _ (List.mem_of_getElem? (i := 27) (by decide +kernel)), by decide +kernel, rfl, lw_in2 _ (List.mem_of_getElem? (i := 26) (by decide +kernel))⟩
theorem bf_X7_12 : bFd RX7 12 7 0 (.object "SailingLights$Tokens") := ⟨_, _, _, _, cl_7, by decide, lw_in2 _ (List.mem_of_getElem? (i := 55) (by decide +kernel)), rfl, rfl⟩
theorem bf_X7_18 : bFd RX7 18 7 1 (.array .int) := ⟨_, _, _, _, cl_7, by decide, lw_in2 _ (List.mem_of_getElem? (i := 56) (by decide +kernel)), rfl, rfl⟩
theorem bn_X7_22 : bNw RX7 22 1 17 bD1 := ⟨_, _, _, cl_1, ⟨lw_in2 _ (List.mem_of_getElem? (i := 51) (by decide +kernel)), lw_in1 _ (List.mem_of_getElem? (i := 36) (by decide +kernel)), lw_in1 _ (List.mem_of_getElem? (i := 2) (by decide +kernel))⟩, by decide +kernel⟩
theorem bs_X7_24 : bSi (Cond.methodLinkNest RX7 24 yX1_init "SailingLights") yX1_init cX1_init := ⟨lw_in2 _ (List.mem_of_getElem? (i := 52) (by decide +kernel)), lw_in1 _ (List.mem_of_getElem? (i := 2) (by decide +kernel)), lw_in1 _ (List.mem_of_getElem? (i := 39) (by decide +kernel)), by decide +kernel, rfl, lw_in1 _ (List.mem_of_getElem? (i := 38) (by decide +kernel))⟩
theorem bf_X7_25 : bFd RX7 25 7 2 (.object "SailingLights$Chart") := ⟨_, _, _, _, cl_7, by decide, lw_in2 _ (List.mem_of_getElem? (i := 57) (by decide +kernel)), rfl, rfl⟩
theorem bn_X7_29 : bNw RX7 29 8 7 bD8 := ⟨_, _, _, cl_8, ⟨lw_in2 _ (List.mem_of_getElem? (i := 53) (by decide +kernel)), lw_in1 _ (List.mem_of_getElem? (i := 162) (by decide +kernel)), lw_in1 _ (List.mem_of_getElem? (i := 4) (by decide +kernel))⟩, by decide +kernel⟩
theorem bs_X7_31 : bSi (Cond.methodLinkNest RX7 31 yX8_init "SailingLights") yX8_init cX8_init := ⟨lw_in2 _ (List.mem_of_getElem? (i := 54) (by decide +kernel)), lw_in1 _ (List.mem_of_getElem? (i := 4) (by decide +kernel)), lw_in1 _ (List.mem_of_getElem? (i := 165) (by decide +kernel)), by decide +kernel, rfl, lw_in1 _ (List.mem_of_getElem? (i := 164) (by decide +kernel))⟩
theorem bf_X7_32 : bFd RX7 32 7 3 (.object "SailingLights$Stand") := ⟨_, _, _, _, cl_7, by decide, lw_in2 _ (List.mem_of_getElem? (i := 59) (by decide +kernel)), rfl, rfl⟩
theorem bf_X7_36 : bFd RX7 36 7 4 .boolean := ⟨_, _, _, _, cl_7, by decide, lw_in2 _ (List.mem_of_getElem? (i := 61) (by decide +kernel)), rfl, rfl⟩
theorem bf_X7_40 : bFd RX7 40 7 5 .int := ⟨_, _, _, _, cl_7, by decide, lw_in2 _ (List.mem_of_getElem? (i := 62) (by decide +kernel)), rfl, rfl⟩
theorem bf_X7_44 : bFd RX7 44 7 6 .int := ⟨_, _, _, _, cl_7, by decide, lw_in2 _ (List.mem_of_getElem? (i := 63) (by decide +kernel)), rfl, rfl⟩
def bF7 (q : Nat) : List bV := (((((((bD7.set 0 (vR (q + 0))).set 1 (vR (q + 2))).set 2 (vR (q + 3))).set 3 (vR (q + 18))).set 4 (vI (0))).set 5 (vI (0))).set 6 (vI (-1)))
def bN7 (q : Nat) : List bE := ((((((((((([] : List bE) ++ [(.inl (9, bD9) : bE)])).set 0 (.inl (9, bF9 (q + 1)) : bE) ++ bN9 (q + 1)) ++ [(.inr (0, 144, []) : bE)]) ++ [(.inl (1, bD1) : bE)])).set 3 (.inl (1, bF1 (q + 4)) : bE) ++ bN1 (q + 4)) ++ [(.inl (8, bD8) : bE)])).set 18 (.inl (8, bF8 (q + 19)) : bE) ++ bN8 (q + 19))
theorem bNl_7 (q : Nat) : (bN7 q).length = 32 := by
  unfold bN7
  exact (bLs (L := 19) (m := 13) (bLc (bLs (L := 4) (m := 14) (bLc (bLc (bLs (L := 1) (m := 1) (bLc bL0) (bNl_9 _)))) (bNl_1 _))) (bNl_8 _))
set_option maxHeartbeats 4000000 in
set_option maxRecDepth 100000 in
theorem bi_7 {G : slG} (hG : slGood G) {E : List bE} {k : Nat} (he : E[k]? = some (.inl (7, bD7))) : bCall G yX7_init cX7_init 3 32 1370 k E (E.set k (.inl (7, bF7 E.length)) ++ bN7 E.length) := by
  have hk : k < E.length := (List.getElem?_eq_some_iff.mp he).1
  refine bCall.of hG (own := RX7) (by decide +kernel) rfl rfl ?_
  rintro X hX rfl hB
  have hin := hB.1
  have hR := hB.2.2.2.2
  have hfr : (xR X).frames = 3 := by rw [hR]; rfl
  have hlo : (xR X).locals = 180 := by rw [hR]; rfl
  have hce : (xR X).cells = 32 := by rw [hR]; rfl
  have hsl : (xR X).slots = 1370 := by rw [hR]; rfl
  have go : bOK X (bQ X (E.set k (.inl (7, bF7 E.length)) ++ bN7 E.length) 32 1370) 0 0 0 [(0, bI (xG X) (vR k))] [] (E.set k (.inl (7, bD7)) ++ []) := by
    refine b_aload hX (a := k) 0 dX7_init_0 rfl ?_
    refine b_obj hX bo_X7 bo_i bo_c (bLe hfr rfl) (bLe hlo rfl) dX7_init_1 ?_
    refine b_aload hX (a := k) 0 dX7_init_4 rfl ?_
    refine b_new hX bn_X7_9 (bLe hce rfl) (bLe hsl rfl) dX7_init_5 (bLen (j := 0) bL0) (bAs ?_)
    refine b_dup hX dX7_init_8 ?_
    refine b_callN hX bs_X7_11 (a := E.length + 0) (d2 := 1) (m2 := 1) (s2 := 0) (bLe hfr rfl) (bLe hlo rfl) (bLe hce rfl) (bLe hsl rfl) (Nat.le_of_ble_eq_true rfl) dX7_init_9 (bSub (F := bF9) (Nn := bN9) (j := 0) (L := 1) (fun E' k' h => bi_9 hG h) (gL bL0) (bLc bL0)) ?_
    refine b_put hX hin bf_X7_12 dX7_init_12 rfl rfl (bGet hk) (bLt rfl) (bSet hk) ?_
    refine b_aload hX (a := k) 0 dX7_init_15 rfl ?_
    refine b_sipush hX dX7_init_16 (by decide) ?_
    refine b_newI hX (N := 144) ba_I rfl (by decide) (bLe hce rfl) (bLe hsl rfl) dX7_init_19 (bLen (j := 2) (bLs (L := 1) (m := 1) (bLc bL0) (bNl_9 _))) (bAs ?_)
    refine b_put hX hin bf_X7_18 dX7_init_21 rfl rfl (bGet hk) (bL1 (bLt rfl)) (bSet hk) ?_
    refine b_aload hX (a := k) 0 dX7_init_24 rfl ?_
    refine b_new hX bn_X7_22 (bLe hce rfl) (bLe hsl rfl) dX7_init_25 (bLen (j := 3) (bLc (bLs (L := 1) (m := 1) (bLc bL0) (bNl_9 _)))) (bAs ?_)
    refine b_dup hX dX7_init_28 ?_
    refine b_callN hX bs_X7_24 (a := E.length + 3) (d2 := 2) (m2 := 14) (s2 := 1009) (bLe hfr rfl) (bLe hlo rfl) (bLe hce rfl) (bLe hsl rfl) (Nat.le_of_ble_eq_true rfl) dX7_init_29 (bSub (F := bF1) (Nn := bN1) (j := 3) (L := 4) (fun E' k' h => bi_1 hG h) (gL (bLc (bLs (L := 1) (m := 1) (bLc bL0) (bNl_9 _)))) (bLc (bLc (bLs (L := 1) (m := 1) (bLc bL0) (bNl_9 _))))) ?_
    refine b_put hX hin bf_X7_25 dX7_init_32 rfl rfl (bGet hk) (bL1 (bL1 (bLt rfl))) (bSet hk) ?_
    refine b_aload hX (a := k) 0 dX7_init_35 rfl ?_
    refine b_new hX bn_X7_29 (bLe hce rfl) (bLe hsl rfl) dX7_init_36 (bLen (j := 18) (bLs (L := 4) (m := 14) (bLc (bLc (bLs (L := 1) (m := 1) (bLc bL0) (bNl_9 _)))) (bNl_1 _))) (bAs ?_)
    refine b_dup hX dX7_init_39 ?_
    refine b_callN hX bs_X7_31 (a := E.length + 18) (d2 := 2) (m2 := 13) (s2 := 187) (bLe hfr rfl) (bLe hlo rfl) (bLe hce rfl) (bLe hsl rfl) (Nat.le_of_ble_eq_true rfl) dX7_init_40 (bSub (F := bF8) (Nn := bN8) (j := 18) (L := 19) (fun E' k' h => bi_8 hG h) (gL (bLs (L := 4) (m := 14) (bLc (bLc (bLs (L := 1) (m := 1) (bLc bL0) (bNl_9 _)))) (bNl_1 _))) (bLc (bLs (L := 4) (m := 14) (bLc (bLc (bLs (L := 1) (m := 1) (bLc bL0) (bNl_9 _)))) (bNl_1 _)))) ?_
    refine b_put hX hin bf_X7_32 dX7_init_43 rfl rfl (bGet hk) (bL1 (bL1 (bL1 (bLt rfl)))) (bSet hk) ?_
    refine b_aload hX (a := k) 0 dX7_init_46 rfl ?_
    refine b_iconst hX dX7_init_47 ?_
    refine b_put hX hin bf_X7_36 dX7_init_48 rfl rfl (bGet hk) (bL1 (bL1 (bL1 (bL1 (bLt rfl))))) (bSet hk) ?_
    refine b_aload hX (a := k) 0 dX7_init_51 rfl ?_
    refine b_iconst hX dX7_init_52 ?_
    refine b_put hX hin bf_X7_40 dX7_init_53 rfl rfl (bGet hk) (bL1 (bL1 (bL1 (bL1 (bL1 (bLt rfl)))))) (bSet hk) ?_
    refine b_aload hX (a := k) 0 dX7_init_56 rfl ?_
    refine b_iconst hX dX7_init_57 ?_
    refine b_put hX hin bf_X7_44 dX7_init_58 rfl rfl (bGet hk) (bL1 (bL1 (bL1 (bL1 (bL1 (bL1 (bLt rfl))))))) (bSet hk) ?_
    exact b_vret hX hB dX7_init_61 (Nat.le_of_ble_eq_true rfl) (Nat.le_of_ble_eq_true rfl) (by unfold bF7 bN7; rfl)
  rw [← bSet0 he] at go
  exact go
theorem bo_X11 : Cond.methodLink RX11 1 Lib.objectInit ∈ lw_tbl := lw_in1 _ (List.mem_of_getElem? (i := 32) (by decide +kernel))
theorem bf_X11_9 : bFd RX11 9 11 0 (.array .int) := ⟨_, _, _, _, cl_11, by decide, lw_in2 _ (List.mem_of_getElem? (i := 158) (by decide +kernel)), rfl, rfl⟩
theorem bf_X11_13 : bFd RX11 13 11 1 .int := ⟨_, _, _, _, cl_11, by decide, lw_in2 _ (List.mem_of_getElem? (i := 159) (by decide +kernel)), rfl, rfl⟩
theorem bf_X11_17 : bFd RX11 17 11 2 .int := ⟨_, _, _, _, cl_11, by decide, lw_in2 _ (List.mem_of_getElem? (i := 160) (by decide +kernel)), rfl, rfl⟩
theorem bf_X11_20 : bFd RX11 20 11 3 (.array .int) := ⟨_, _, _, _, cl_11, by decide, lw_in2 _ (List.mem_of_getElem? (i := 161) (by decide +kernel)), rfl, rfl⟩
theorem bn_X11_23 : bNw RX11 23 1 17 bD1 := ⟨_, _, _, cl_1, ⟨lw_in1 _ (List.mem_of_getElem? (i := 35) (by decide +kernel)), lw_in1 _ (List.mem_of_getElem? (i := 36) (by decide +kernel)), lw_in1 _ (List.mem_of_getElem? (i := 2) (by decide +kernel))⟩, by decide +kernel⟩
theorem bs_X11_25 : bSi (Cond.methodLinkNest RX11 25 yX1_init "SailingLights") yX1_init cX1_init := ⟨lw_in1 _ (List.mem_of_getElem? (i := 37) (by decide +kernel)), lw_in1 _ (List.mem_of_getElem? (i := 2) (by decide +kernel)), lw_in1 _ (List.mem_of_getElem? (i := 39) (by decide +kernel)), by decide +kernel, rfl, lw_in1 _ (List.mem_of_getElem? (i := 38) (by decide +kernel))⟩
theorem bf_X11_26 : bFd RX11 26 11 4 (.object "SailingLights$Chart") := ⟨_, _, _, _, cl_11, by decide, lw_in2 _ (List.mem_of_getElem? (i := 162) (by decide +kernel)), rfl, rfl⟩
theorem bn_X11_30 : bNw RX11 30 8 7 bD8 := ⟨_, _, _, cl_8, ⟨lw_in1 _ (List.mem_of_getElem? (i := 161) (by decide +kernel)), lw_in1 _ (List.mem_of_getElem? (i := 162) (by decide +kernel)), lw_in1 _ (List.mem_of_getElem? (i := 4) (by decide +kernel))⟩, by decide +kernel⟩
theorem bs_X11_32 : bSi (Cond.methodLinkNest RX11 32 yX8_init "SailingLights") yX8_init cX8_init := ⟨lw_in1 _ (List.mem_of_getElem? (i := 163) (by decide +kernel)), lw_in1 _ (List.mem_of_getElem? (i := 4) (by decide +kernel)), lw_in1 _ (List.mem_of_getElem? (i := 165) (by decide +kernel)), by decide +kernel, rfl, lw_in1 _ (List.mem_of_getElem? (i := 164) (by decide +kernel))⟩
theorem bf_X11_33 : bFd RX11 33 11 5 (.object "SailingLights$Stand") := ⟨_, _, _, _, cl_11, by decide, lw_in2 _ (List.mem_of_getElem? (i := 163) (by decide +kernel)), rfl, rfl⟩
theorem bn_X11_37 : bNw RX11 37 7 7 bD7 := ⟨_, _, _, cl_7, ⟨lw_in2 _ (List.mem_of_getElem? (i := 17) (by decide +kernel)), lw_in2 _ (List.mem_of_getElem? (i := 18) (by decide +kernel)), lw_in1 _ (List.mem_of_getElem? (i := 7) (by decide +kernel))⟩, by decide +kernel⟩
theorem bs_X11_39 : bSi (Cond.methodLinkNest RX11 39 yX7_init "SailingLights") yX7_init cX7_init := ⟨lw_in2 _ (List.mem_of_getElem? (i := 19) (by decide +kernel)), lw_in1 _ (List.mem_of_getElem? (i := 7) (by decide +kernel)), lw_in2 _ (List.mem_of_getElem? (i := 21) (by decide +kernel)), by decide +kernel, rfl, lw_in2 _ (List.mem_of_getElem? (i := 20) (by decide +kernel))⟩
theorem bf_X11_40 : bFd RX11 40 11 6 (.object "SailingLights$Reader") := ⟨_, _, _, _, cl_11, by decide, lw_in2 _ (List.mem_of_getElem? (i := 164) (by decide +kernel)), rfl, rfl⟩
theorem bf_X11_44 : bFd RX11 44 11 7 (.object "SailingLights$Stand") := ⟨_, _, _, _, cl_11, by decide, lw_in2 _ (List.mem_of_getElem? (i := 165) (by decide +kernel)), rfl, rfl⟩
theorem bf_X11_47 : bFd RX11 47 11 8 .boolean := ⟨_, _, _, _, cl_11, by decide, lw_in2 _ (List.mem_of_getElem? (i := 166) (by decide +kernel)), rfl, rfl⟩
theorem bf_X11_51 : bFd RX11 51 11 9 (.array .int) := ⟨_, _, _, _, cl_11, by decide, lw_in2 _ (List.mem_of_getElem? (i := 167) (by decide +kernel)), rfl, rfl⟩
theorem bn_X11_54 : bNw RX11 54 10 3 bD10 := ⟨_, _, _, cl_10, ⟨lw_in2 _ (List.mem_of_getElem? (i := 80) (by decide +kernel)), lw_in2 _ (List.mem_of_getElem? (i := 81) (by decide +kernel)), lw_in1 _ (List.mem_of_getElem? (i := 9) (by decide +kernel))⟩, by decide +kernel⟩
theorem bs_X11_56 : bSi (Cond.methodLinkNest RX11 56 yX10_init "SailingLights") yX10_init cX10_init := ⟨lw_in2 _ (List.mem_of_getElem? (i := 82) (by decide +kernel)), lw_in1 _ (List.mem_of_getElem? (i := 9) (by decide +kernel)), lw_in2 _ (List.mem_of_getElem? (i := 84) (by decide +kernel)), by decide +kernel, rfl, lw_in2 _ (List.mem_of_getElem? (i := 83) (by decide +kernel))⟩
theorem bf_X11_57 : bFd RX11 57 11 10 (.object "SailingLights$Turns") := ⟨_, _, _, _, cl_11, by decide, lw_in2 _ (List.mem_of_getElem? (i := 168) (by decide +kernel)), rfl, rfl⟩
theorem bn_X11_61 : bNw RX11 61 3 3 bD3 := ⟨_, _, _, cl_3, ⟨lw_in2 _ (List.mem_of_getElem? (i := 97) (by decide +kernel)), lw_in2 _ (List.mem_of_getElem? (i := 98) (by decide +kernel)), lw_in1 _ (List.mem_of_getElem? (i := 10) (by decide +kernel))⟩, by decide +kernel⟩
theorem bs_X11_63 : bSi (Cond.methodLinkNest RX11 63 yX3_init "SailingLights") yX3_init cX3_init := ⟨lw_in2 _ (List.mem_of_getElem? (i := 99) (by decide +kernel)), lw_in1 _ (List.mem_of_getElem? (i := 10) (by decide +kernel)), lw_in2 _ (List.mem_of_getElem? (i := 101) (by decide +kernel)), by decide +kernel, rfl, lw_in2 _ (List.mem_of_getElem? (i := 100) (by decide +kernel))⟩
theorem bf_X11_64 : bFd RX11 64 11 11 (.object "SailingLights$Course") := ⟨_, _, _, _, cl_11, by decide, lw_in2 _ (List.mem_of_getElem? (i := 169) (by decide +kernel)), rfl, rfl⟩
theorem bf_X11_68 : bFd RX11 68 11 12 .boolean := ⟨_, _, _, _, cl_11, by decide, lw_in2 _ (List.mem_of_getElem? (i := 170) (by decide +kernel)), rfl, rfl⟩
theorem bf_X11_71 : bFd RX11 71 11 13 (.object "SailingLights$Stand") := ⟨_, _, _, _, cl_11, by decide, lw_in2 _ (List.mem_of_getElem? (i := 171) (by decide +kernel)), rfl, rfl⟩
theorem bf_X11_74 : bFd RX11 74 11 14 (.object "SailingLights$Turns") := ⟨_, _, _, _, cl_11, by decide, lw_in2 _ (List.mem_of_getElem? (i := 172) (by decide +kernel)), rfl, rfl⟩
theorem bf_X11_77 : bFd RX11 77 11 15 (.object "SailingLights$Course") := ⟨_, _, _, _, cl_11, by decide, lw_in2 _ (List.mem_of_getElem? (i := 173) (by decide +kernel)), rfl, rfl⟩
theorem bn_X11_80 : bNw RX11 80 6 8 bD6 := ⟨_, _, _, cl_6, ⟨lw_in2 _ (List.mem_of_getElem? (i := 114) (by decide +kernel)), lw_in2 _ (List.mem_of_getElem? (i := 115) (by decide +kernel)), lw_in1 _ (List.mem_of_getElem? (i := 11) (by decide +kernel))⟩, by decide +kernel⟩
theorem bs_X11_82 : bSi (Cond.methodLinkNest RX11 82 yX6_init "SailingLights") yX6_init cX6_init := ⟨lw_in2 _ (List.mem_of_getElem? (i := 116) (by decide +kernel)), lw_in1 _ (List.mem_of_getElem? (i := 11) (by decide +kernel)), lw_in2 _ (List.mem_of_getElem? (i := 118) (by decide +kernel)), by decide +kernel, rfl, lw_in2 _ (List.mem_of_getElem? (i := 117) (by decide +kernel))⟩
theorem bf_X11_83 : bFd RX11 83 11 16 (.object "SailingLights$Matching") := ⟨_, _, _, _, cl_11, by decide, lw_in2 _ (List.mem_of_getElem? (i := 174) (by decide +kernel)), rfl, rfl⟩
theorem bn_X11_87 : bNw RX11 87 2 2 bD2 := ⟨_, _, _, cl_2, ⟨lw_in2 _ (List.mem_of_getElem? (i := 145) (by decide +kernel)), lw_in2 _ (List.mem_of_getElem? (i := 146) (by decide +kernel)), lw_in1 _ (List.mem_of_getElem? (i := 12) (by decide +kernel))⟩, by decide +kernel⟩
theorem bs_X11_89 : bSi (Cond.methodLinkNest RX11 89 yX2_init "SailingLights") yX2_init cX2_init := ⟨lw_in2 _ (List.mem_of_getElem? (i := 147) (by decide +kernel)), lw_in1 _ (List.mem_of_getElem? (i := 12) (by decide +kernel)), lw_in2 _ (List.mem_of_getElem? (i := 149) (by decide +kernel)), by decide +kernel, rfl, lw_in2 _ (List.mem_of_getElem? (i := 148) (by decide +kernel))⟩
theorem bf_X11_90 : bFd RX11 90 11 17 (.object "SailingLights$Conflicts") := ⟨_, _, _, _, cl_11, by decide, lw_in2 _ (List.mem_of_getElem? (i := 175) (by decide +kernel)), rfl, rfl⟩
theorem bf_X11_94 : bFd RX11 94 11 18 .int := ⟨_, _, _, _, cl_11, by decide, lw_in2 _ (List.mem_of_getElem? (i := 176) (by decide +kernel)), rfl, rfl⟩
def bF11 (q : Nat) : List bV := (((((((((((((((((((bD11.set 0 (vR (q + 0))).set 1 (vI (0))).set 2 (vI (-1))).set 3 (vR (q + 1))).set 4 (vR (q + 2))).set 5 (vR (q + 17))).set 6 (vR (q + 31))).set 7 (vR (q + 64))).set 8 (vI (0))).set 9 (vR (q + 78))).set 10 (vR (q + 79))).set 11 (vR (q + 83))).set 12 (vI (0))).set 13 (vR (q + 86))).set 14 (vR (q + 100))).set 15 (vR (q + 104))).set 16 (vR (q + 107))).set 17 (vR (q + 114))).set 18 (vI (0)))
def bN11 (q : Nat) : List bE := ((((((((((((((((((((((((((((((((((((([] : List bE) ++ [(.inr (0, 700, []) : bE)]) ++ [(.inr (0, 3, []) : bE)]) ++ [(.inl (1, bD1) : bE)])).set 2 (.inl (1, bF1 (q + 3)) : bE) ++ bN1 (q + 3)) ++ [(.inl (8, bD8) : bE)])).set 17 (.inl (8, bF8 (q + 18)) : bE) ++ bN8 (q + 18)) ++ [(.inl (7, bD7) : bE)])).set 31 (.inl (7, bF7 (q + 32)) : bE) ++ bN7 (q + 32)) ++ [(.inl (8, bD8) : bE)])).set 64 (.inl (8, bF8 (q + 65)) : bE) ++ bN8 (q + 65)) ++ [(.inr (0, 1152, []) : bE)]) ++ [(.inl (10, bD10) : bE)])).set 79 (.inl (10, bF10 (q + 80)) : bE) ++ bN10 (q + 80)) ++ [(.inl (3, bD3) : bE)])).set 83 (.inl (3, bF3 (q + 84)) : bE) ++ bN3 (q + 84)) ++ [(.inl (8, bD8) : bE)])).set 86 (.inl (8, bF8 (q + 87)) : bE) ++ bN8 (q + 87)) ++ [(.inl (10, bD10) : bE)])).set 100 (.inl (10, bF10 (q + 101)) : bE) ++ bN10 (q + 101)) ++ [(.inl (3, bD3) : bE)])).set 104 (.inl (3, bF3 (q + 105)) : bE) ++ bN3 (q + 105)) ++ [(.inl (6, bD6) : bE)])).set 107 (.inl (6, bF6 (q + 108)) : bE) ++ bN6 (q + 108)) ++ [(.inl (2, bD2) : bE)])).set 114 (.inl (2, bF2 (q + 115)) : bE) ++ bN2 (q + 115))
theorem bNl_11 (q : Nat) : (bN11 q).length = 117 := by
  unfold bN11
  exact (bLs (L := 115) (m := 2) (bLc (bLs (L := 108) (m := 6) (bLc (bLs (L := 105) (m := 2) (bLc (bLs (L := 101) (m := 3) (bLc (bLs (L := 87) (m := 13) (bLc (bLs (L := 84) (m := 2) (bLc (bLs (L := 80) (m := 3) (bLc (bLc (bLs (L := 65) (m := 13) (bLc (bLs (L := 32) (m := 32) (bLc (bLs (L := 18) (m := 13) (bLc (bLs (L := 3) (m := 14) (bLc (bLc (bLc bL0))) (bNl_1 _))) (bNl_8 _))) (bNl_7 _))) (bNl_8 _)))) (bNl_10 _))) (bNl_3 _))) (bNl_8 _))) (bNl_10 _))) (bNl_3 _))) (bNl_6 _))) (bNl_2 _))
set_option maxHeartbeats 4000000 in
set_option maxRecDepth 100000 in
theorem bi_11 {G : slG} (hG : slGood G) {E : List bE} {k : Nat} (he : E[k]? = some (.inl (11, bD11))) : bCall G yX11_init cX11_init 4 117 16089 k E (E.set k (.inl (11, bF11 E.length)) ++ bN11 E.length) := by
  have hk : k < E.length := (List.getElem?_eq_some_iff.mp he).1
  refine bCall.of hG (own := RX11) (by decide +kernel) rfl rfl ?_
  rintro X hX rfl hB
  have hin := hB.1
  have hR := hB.2.2.2.2
  have hfr : (xR X).frames = 4 := by rw [hR]; rfl
  have hlo : (xR X).locals = 240 := by rw [hR]; rfl
  have hce : (xR X).cells = 117 := by rw [hR]; rfl
  have hsl : (xR X).slots = 16089 := by rw [hR]; rfl
  have go : bOK X (bQ X (E.set k (.inl (11, bF11 E.length)) ++ bN11 E.length) 117 16089) 0 0 0 [(0, bI (xG X) (vR k))] [] (E.set k (.inl (11, bD11)) ++ []) := by
    refine b_aload hX (a := k) 0 dX11_init_0 rfl ?_
    refine b_obj hX bo_X11 bo_i bo_c (bLe hfr rfl) (bLe hlo rfl) dX11_init_1 ?_
    refine b_aload hX (a := k) 0 dX11_init_4 rfl ?_
    refine b_sipush hX dX11_init_5 (by decide) ?_
    refine b_newI hX (N := 700) ba_I rfl (by decide) (bLe hce rfl) (bLe hsl rfl) dX11_init_8 (bLen (j := 0) bL0) (bAs ?_)
    refine b_put hX hin bf_X11_9 dX11_init_10 rfl rfl (bGet hk) (bLt rfl) (bSet hk) ?_
    refine b_aload hX (a := k) 0 dX11_init_13 rfl ?_
    refine b_iconst hX dX11_init_14 ?_
    refine b_put hX hin bf_X11_13 dX11_init_15 rfl rfl (bGet hk) (bL1 (bLt rfl)) (bSet hk) ?_
    refine b_aload hX (a := k) 0 dX11_init_18 rfl ?_
    refine b_iconst hX dX11_init_19 ?_
    refine b_put hX hin bf_X11_17 dX11_init_20 rfl rfl (bGet hk) (bL1 (bL1 (bLt rfl))) (bSet hk) ?_
    refine b_aload hX (a := k) 0 dX11_init_23 rfl ?_
    refine b_iconst hX dX11_init_24 ?_
    refine b_newI hX (N := 3) ba_I rfl (by decide) (bLe hce rfl) (bLe hsl rfl) dX11_init_25 (bLen (j := 1) (bLc bL0)) (bAs ?_)
    refine b_put hX hin bf_X11_20 dX11_init_27 rfl rfl (bGet hk) (bL1 (bL1 (bL1 (bLt rfl)))) (bSet hk) ?_
    refine b_aload hX (a := k) 0 dX11_init_30 rfl ?_
    refine b_new hX bn_X11_23 (bLe hce rfl) (bLe hsl rfl) dX11_init_31 (bLen (j := 2) (bLc (bLc bL0))) (bAs ?_)
    refine b_dup hX dX11_init_34 ?_
    refine b_callN hX bs_X11_25 (a := E.length + 2) (d2 := 2) (m2 := 14) (s2 := 1009) (bLe hfr rfl) (bLe hlo rfl) (bLe hce rfl) (bLe hsl rfl) (Nat.le_of_ble_eq_true rfl) dX11_init_35 (bSub (F := bF1) (Nn := bN1) (j := 2) (L := 3) (fun E' k' h => bi_1 hG h) (gL (bLc (bLc bL0))) (bLc (bLc (bLc bL0)))) ?_
    refine b_put hX hin bf_X11_26 dX11_init_38 rfl rfl (bGet hk) (bL1 (bL1 (bL1 (bL1 (bLt rfl))))) (bSet hk) ?_
    refine b_aload hX (a := k) 0 dX11_init_41 rfl ?_
    refine b_new hX bn_X11_30 (bLe hce rfl) (bLe hsl rfl) dX11_init_42 (bLen (j := 17) (bLs (L := 3) (m := 14) (bLc (bLc (bLc bL0))) (bNl_1 _))) (bAs ?_)
    refine b_dup hX dX11_init_45 ?_
    refine b_callN hX bs_X11_32 (a := E.length + 17) (d2 := 2) (m2 := 13) (s2 := 187) (bLe hfr rfl) (bLe hlo rfl) (bLe hce rfl) (bLe hsl rfl) (Nat.le_of_ble_eq_true rfl) dX11_init_46 (bSub (F := bF8) (Nn := bN8) (j := 17) (L := 18) (fun E' k' h => bi_8 hG h) (gL (bLs (L := 3) (m := 14) (bLc (bLc (bLc bL0))) (bNl_1 _))) (bLc (bLs (L := 3) (m := 14) (bLc (bLc (bLc bL0))) (bNl_1 _)))) ?_
    refine b_put hX hin bf_X11_33 dX11_init_49 rfl rfl (bGet hk) (bL1 (bL1 (bL1 (bL1 (bL1 (bLt rfl)))))) (bSet hk) ?_
    refine b_aload hX (a := k) 0 dX11_init_52 rfl ?_
    refine b_new hX bn_X11_37 (bLe hce rfl) (bLe hsl rfl) dX11_init_53 (bLen (j := 31) (bLs (L := 18) (m := 13) (bLc (bLs (L := 3) (m := 14) (bLc (bLc (bLc bL0))) (bNl_1 _))) (bNl_8 _))) (bAs ?_)
    refine b_dup hX dX11_init_56 ?_
    refine b_callN hX bs_X11_39 (a := E.length + 31) (d2 := 3) (m2 := 32) (s2 := 1370) (bLe hfr rfl) (bLe hlo rfl) (bLe hce rfl) (bLe hsl rfl) (Nat.le_of_ble_eq_true rfl) dX11_init_57 (bSub (F := bF7) (Nn := bN7) (j := 31) (L := 32) (fun E' k' h => bi_7 hG h) (gL (bLs (L := 18) (m := 13) (bLc (bLs (L := 3) (m := 14) (bLc (bLc (bLc bL0))) (bNl_1 _))) (bNl_8 _))) (bLc (bLs (L := 18) (m := 13) (bLc (bLs (L := 3) (m := 14) (bLc (bLc (bLc bL0))) (bNl_1 _))) (bNl_8 _)))) ?_
    refine b_put hX hin bf_X11_40 dX11_init_60 rfl rfl (bGet hk) (bL1 (bL1 (bL1 (bL1 (bL1 (bL1 (bLt rfl))))))) (bSet hk) ?_
    refine b_aload hX (a := k) 0 dX11_init_63 rfl ?_
    refine b_new hX bn_X11_30 (bLe hce rfl) (bLe hsl rfl) dX11_init_64 (bLen (j := 64) (bLs (L := 32) (m := 32) (bLc (bLs (L := 18) (m := 13) (bLc (bLs (L := 3) (m := 14) (bLc (bLc (bLc bL0))) (bNl_1 _))) (bNl_8 _))) (bNl_7 _))) (bAs ?_)
    refine b_dup hX dX11_init_67 ?_
    refine b_callN hX bs_X11_32 (a := E.length + 64) (d2 := 2) (m2 := 13) (s2 := 187) (bLe hfr rfl) (bLe hlo rfl) (bLe hce rfl) (bLe hsl rfl) (Nat.le_of_ble_eq_true rfl) dX11_init_68 (bSub (F := bF8) (Nn := bN8) (j := 64) (L := 65) (fun E' k' h => bi_8 hG h) (gL (bLs (L := 32) (m := 32) (bLc (bLs (L := 18) (m := 13) (bLc (bLs (L := 3) (m := 14) (bLc (bLc (bLc bL0))) (bNl_1 _))) (bNl_8 _))) (bNl_7 _))) (bLc (bLs (L := 32) (m := 32) (bLc (bLs (L := 18) (m := 13) (bLc (bLs (L := 3) (m := 14) (bLc (bLc (bLc bL0))) (bNl_1 _))) (bNl_8 _))) (bNl_7 _)))) ?_
    refine b_put hX hin bf_X11_44 dX11_init_71 rfl rfl (bGet hk) (bL1 (bL1 (bL1 (bL1 (bL1 (bL1 (bL1 (bLt rfl)))))))) (bSet hk) ?_
    refine b_aload hX (a := k) 0 dX11_init_74 rfl ?_
    refine b_iconst hX dX11_init_75 ?_
    refine b_put hX hin bf_X11_47 dX11_init_76 rfl rfl (bGet hk) (bL1 (bL1 (bL1 (bL1 (bL1 (bL1 (bL1 (bL1 (bLt rfl))))))))) (bSet hk) ?_
    refine b_aload hX (a := k) 0 dX11_init_79 rfl ?_
    refine b_sipush hX dX11_init_80 (by decide) ?_
    refine b_newI hX (N := 1152) ba_I rfl (by decide) (bLe hce rfl) (bLe hsl rfl) dX11_init_83 (bLen (j := 78) (bLs (L := 65) (m := 13) (bLc (bLs (L := 32) (m := 32) (bLc (bLs (L := 18) (m := 13) (bLc (bLs (L := 3) (m := 14) (bLc (bLc (bLc bL0))) (bNl_1 _))) (bNl_8 _))) (bNl_7 _))) (bNl_8 _))) (bAs ?_)
    refine b_put hX hin bf_X11_51 dX11_init_85 rfl rfl (bGet hk) (bL1 (bL1 (bL1 (bL1 (bL1 (bL1 (bL1 (bL1 (bL1 (bLt rfl)))))))))) (bSet hk) ?_
    refine b_aload hX (a := k) 0 dX11_init_88 rfl ?_
    refine b_new hX bn_X11_54 (bLe hce rfl) (bLe hsl rfl) dX11_init_89 (bLen (j := 79) (bLc (bLs (L := 65) (m := 13) (bLc (bLs (L := 32) (m := 32) (bLc (bLs (L := 18) (m := 13) (bLc (bLs (L := 3) (m := 14) (bLc (bLc (bLc bL0))) (bNl_1 _))) (bNl_8 _))) (bNl_7 _))) (bNl_8 _)))) (bAs ?_)
    refine b_dup hX dX11_init_92 ?_
    refine b_callN hX bs_X11_56 (a := E.length + 79) (d2 := 1) (m2 := 3) (s2 := 2406) (bLe hfr rfl) (bLe hlo rfl) (bLe hce rfl) (bLe hsl rfl) (Nat.le_of_ble_eq_true rfl) dX11_init_93 (bSub (F := bF10) (Nn := bN10) (j := 79) (L := 80) (fun E' k' h => bi_10 hG h) (gL (bLc (bLs (L := 65) (m := 13) (bLc (bLs (L := 32) (m := 32) (bLc (bLs (L := 18) (m := 13) (bLc (bLs (L := 3) (m := 14) (bLc (bLc (bLc bL0))) (bNl_1 _))) (bNl_8 _))) (bNl_7 _))) (bNl_8 _)))) (bLc (bLc (bLs (L := 65) (m := 13) (bLc (bLs (L := 32) (m := 32) (bLc (bLs (L := 18) (m := 13) (bLc (bLs (L := 3) (m := 14) (bLc (bLc (bLc bL0))) (bNl_1 _))) (bNl_8 _))) (bNl_7 _))) (bNl_8 _))))) ?_
    refine b_put hX hin bf_X11_57 dX11_init_96 rfl rfl (bGet hk) (bL1 (bL1 (bL1 (bL1 (bL1 (bL1 (bL1 (bL1 (bL1 (bL1 (bLt rfl))))))))))) (bSet hk) ?_
    refine b_aload hX (a := k) 0 dX11_init_99 rfl ?_
    refine b_new hX bn_X11_61 (bLe hce rfl) (bLe hsl rfl) dX11_init_100 (bLen (j := 83) (bLs (L := 80) (m := 3) (bLc (bLc (bLs (L := 65) (m := 13) (bLc (bLs (L := 32) (m := 32) (bLc (bLs (L := 18) (m := 13) (bLc (bLs (L := 3) (m := 14) (bLc (bLc (bLc bL0))) (bNl_1 _))) (bNl_8 _))) (bNl_7 _))) (bNl_8 _)))) (bNl_10 _))) (bAs ?_)
    refine b_dup hX dX11_init_103 ?_
    refine b_callN hX bs_X11_63 (a := E.length + 83) (d2 := 1) (m2 := 2) (s2 := 3120) (bLe hfr rfl) (bLe hlo rfl) (bLe hce rfl) (bLe hsl rfl) (Nat.le_of_ble_eq_true rfl) dX11_init_104 (bSub (F := bF3) (Nn := bN3) (j := 83) (L := 84) (fun E' k' h => bi_3 hG h) (gL (bLs (L := 80) (m := 3) (bLc (bLc (bLs (L := 65) (m := 13) (bLc (bLs (L := 32) (m := 32) (bLc (bLs (L := 18) (m := 13) (bLc (bLs (L := 3) (m := 14) (bLc (bLc (bLc bL0))) (bNl_1 _))) (bNl_8 _))) (bNl_7 _))) (bNl_8 _)))) (bNl_10 _))) (bLc (bLs (L := 80) (m := 3) (bLc (bLc (bLs (L := 65) (m := 13) (bLc (bLs (L := 32) (m := 32) (bLc (bLs (L := 18) (m := 13) (bLc (bLs (L := 3) (m := 14) (bLc (bLc (bLc bL0))) (bNl_1 _))) (bNl_8 _))) (bNl_7 _))) (bNl_8 _)))) (bNl_10 _)))) ?_
    refine b_put hX hin bf_X11_64 dX11_init_107 rfl rfl (bGet hk) (bL1 (bL1 (bL1 (bL1 (bL1 (bL1 (bL1 (bL1 (bL1 (bL1 (bL1 (bLt rfl)))))))))))) (bSet hk) ?_
    refine b_aload hX (a := k) 0 dX11_init_110 rfl ?_
    refine b_iconst hX dX11_init_111 ?_
    refine b_put hX hin bf_X11_68 dX11_init_112 rfl rfl (bGet hk) (bL1 (bL1 (bL1 (bL1 (bL1 (bL1 (bL1 (bL1 (bL1 (bL1 (bL1 (bL1 (bLt rfl))))))))))))) (bSet hk) ?_
    refine b_aload hX (a := k) 0 dX11_init_115 rfl ?_
    refine b_new hX bn_X11_30 (bLe hce rfl) (bLe hsl rfl) dX11_init_116 (bLen (j := 86) (bLs (L := 84) (m := 2) (bLc (bLs (L := 80) (m := 3) (bLc (bLc (bLs (L := 65) (m := 13) (bLc (bLs (L := 32) (m := 32) (bLc (bLs (L := 18) (m := 13) (bLc (bLs (L := 3) (m := 14) (bLc (bLc (bLc bL0))) (bNl_1 _))) (bNl_8 _))) (bNl_7 _))) (bNl_8 _)))) (bNl_10 _))) (bNl_3 _))) (bAs ?_)
    refine b_dup hX dX11_init_119 ?_
    refine b_callN hX bs_X11_32 (a := E.length + 86) (d2 := 2) (m2 := 13) (s2 := 187) (bLe hfr rfl) (bLe hlo rfl) (bLe hce rfl) (bLe hsl rfl) (Nat.le_of_ble_eq_true rfl) dX11_init_120 (bSub (F := bF8) (Nn := bN8) (j := 86) (L := 87) (fun E' k' h => bi_8 hG h) (gL (bLs (L := 84) (m := 2) (bLc (bLs (L := 80) (m := 3) (bLc (bLc (bLs (L := 65) (m := 13) (bLc (bLs (L := 32) (m := 32) (bLc (bLs (L := 18) (m := 13) (bLc (bLs (L := 3) (m := 14) (bLc (bLc (bLc bL0))) (bNl_1 _))) (bNl_8 _))) (bNl_7 _))) (bNl_8 _)))) (bNl_10 _))) (bNl_3 _))) (bLc (bLs (L := 84) (m := 2) (bLc (bLs (L := 80) (m := 3) (bLc (bLc (bLs (L := 65) (m := 13) (bLc (bLs (L := 32) (m := 32) (bLc (bLs (L := 18) (m := 13) (bLc (bLs (L := 3) (m := 14) (bLc (bLc (bLc bL0))) (bNl_1 _))) (bNl_8 _))) (bNl_7 _))) (bNl_8 _)))) (bNl_10 _))) (bNl_3 _)))) ?_
    refine b_put hX hin bf_X11_71 dX11_init_123 rfl rfl (bGet hk) (bL1 (bL1 (bL1 (bL1 (bL1 (bL1 (bL1 (bL1 (bL1 (bL1 (bL1 (bL1 (bL1 (bLt rfl)))))))))))))) (bSet hk) ?_
    refine b_aload hX (a := k) 0 dX11_init_126 rfl ?_
    refine b_new hX bn_X11_54 (bLe hce rfl) (bLe hsl rfl) dX11_init_127 (bLen (j := 100) (bLs (L := 87) (m := 13) (bLc (bLs (L := 84) (m := 2) (bLc (bLs (L := 80) (m := 3) (bLc (bLc (bLs (L := 65) (m := 13) (bLc (bLs (L := 32) (m := 32) (bLc (bLs (L := 18) (m := 13) (bLc (bLs (L := 3) (m := 14) (bLc (bLc (bLc bL0))) (bNl_1 _))) (bNl_8 _))) (bNl_7 _))) (bNl_8 _)))) (bNl_10 _))) (bNl_3 _))) (bNl_8 _))) (bAs ?_)
    refine b_dup hX dX11_init_130 ?_
    refine b_callN hX bs_X11_56 (a := E.length + 100) (d2 := 1) (m2 := 3) (s2 := 2406) (bLe hfr rfl) (bLe hlo rfl) (bLe hce rfl) (bLe hsl rfl) (Nat.le_of_ble_eq_true rfl) dX11_init_131 (bSub (F := bF10) (Nn := bN10) (j := 100) (L := 101) (fun E' k' h => bi_10 hG h) (gL (bLs (L := 87) (m := 13) (bLc (bLs (L := 84) (m := 2) (bLc (bLs (L := 80) (m := 3) (bLc (bLc (bLs (L := 65) (m := 13) (bLc (bLs (L := 32) (m := 32) (bLc (bLs (L := 18) (m := 13) (bLc (bLs (L := 3) (m := 14) (bLc (bLc (bLc bL0))) (bNl_1 _))) (bNl_8 _))) (bNl_7 _))) (bNl_8 _)))) (bNl_10 _))) (bNl_3 _))) (bNl_8 _))) (bLc (bLs (L := 87) (m := 13) (bLc (bLs (L := 84) (m := 2) (bLc (bLs (L := 80) (m := 3) (bLc (bLc (bLs (L := 65) (m := 13) (bLc (bLs (L := 32) (m := 32) (bLc (bLs (L := 18) (m := 13) (bLc (bLs (L := 3) (m := 14) (bLc (bLc (bLc bL0))) (bNl_1 _))) (bNl_8 _))) (bNl_7 _))) (bNl_8 _)))) (bNl_10 _))) (bNl_3 _))) (bNl_8 _)))) ?_
    refine b_put hX hin bf_X11_74 dX11_init_134 rfl rfl (bGet hk) (bL1 (bL1 (bL1 (bL1 (bL1 (bL1 (bL1 (bL1 (bL1 (bL1 (bL1 (bL1 (bL1 (bL1 (bLt rfl))))))))))))))) (bSet hk) ?_
    refine b_aload hX (a := k) 0 dX11_init_137 rfl ?_
    refine b_new hX bn_X11_61 (bLe hce rfl) (bLe hsl rfl) dX11_init_138 (bLen (j := 104) (bLs (L := 101) (m := 3) (bLc (bLs (L := 87) (m := 13) (bLc (bLs (L := 84) (m := 2) (bLc (bLs (L := 80) (m := 3) (bLc (bLc (bLs (L := 65) (m := 13) (bLc (bLs (L := 32) (m := 32) (bLc (bLs (L := 18) (m := 13) (bLc (bLs (L := 3) (m := 14) (bLc (bLc (bLc bL0))) (bNl_1 _))) (bNl_8 _))) (bNl_7 _))) (bNl_8 _)))) (bNl_10 _))) (bNl_3 _))) (bNl_8 _))) (bNl_10 _))) (bAs ?_)
    refine b_dup hX dX11_init_141 ?_
    refine b_callN hX bs_X11_63 (a := E.length + 104) (d2 := 1) (m2 := 2) (s2 := 3120) (bLe hfr rfl) (bLe hlo rfl) (bLe hce rfl) (bLe hsl rfl) (Nat.le_of_ble_eq_true rfl) dX11_init_142 (bSub (F := bF3) (Nn := bN3) (j := 104) (L := 105) (fun E' k' h => bi_3 hG h) (gL (bLs (L := 101) (m := 3) (bLc (bLs (L := 87) (m := 13) (bLc (bLs (L := 84) (m := 2) (bLc (bLs (L := 80) (m := 3) (bLc (bLc (bLs (L := 65) (m := 13) (bLc (bLs (L := 32) (m := 32) (bLc (bLs (L := 18) (m := 13) (bLc (bLs (L := 3) (m := 14) (bLc (bLc (bLc bL0))) (bNl_1 _))) (bNl_8 _))) (bNl_7 _))) (bNl_8 _)))) (bNl_10 _))) (bNl_3 _))) (bNl_8 _))) (bNl_10 _))) (bLc (bLs (L := 101) (m := 3) (bLc (bLs (L := 87) (m := 13) (bLc (bLs (L := 84) (m := 2) (bLc (bLs (L := 80) (m := 3) (bLc (bLc (bLs (L := 65) (m := 13) (bLc (bLs (L := 32) (m := 32) (bLc (bLs (L := 18) (m := 13) (bLc (bLs (L := 3) (m := 14) (bLc (bLc (bLc bL0))) (bNl_1 _))) (bNl_8 _))) (bNl_7 _))) (bNl_8 _)))) (bNl_10 _))) (bNl_3 _))) (bNl_8 _))) (bNl_10 _)))) ?_
    refine b_put hX hin bf_X11_77 dX11_init_145 rfl rfl (bGet hk) (bL1 (bL1 (bL1 (bL1 (bL1 (bL1 (bL1 (bL1 (bL1 (bL1 (bL1 (bL1 (bL1 (bL1 (bL1 (bLt rfl)))))))))))))))) (bSet hk) ?_
    refine b_aload hX (a := k) 0 dX11_init_148 rfl ?_
    refine b_new hX bn_X11_80 (bLe hce rfl) (bLe hsl rfl) dX11_init_149 (bLen (j := 107) (bLs (L := 105) (m := 2) (bLc (bLs (L := 101) (m := 3) (bLc (bLs (L := 87) (m := 13) (bLc (bLs (L := 84) (m := 2) (bLc (bLs (L := 80) (m := 3) (bLc (bLc (bLs (L := 65) (m := 13) (bLc (bLs (L := 32) (m := 32) (bLc (bLs (L := 18) (m := 13) (bLc (bLs (L := 3) (m := 14) (bLc (bLc (bLc bL0))) (bNl_1 _))) (bNl_8 _))) (bNl_7 _))) (bNl_8 _)))) (bNl_10 _))) (bNl_3 _))) (bNl_8 _))) (bNl_10 _))) (bNl_3 _))) (bAs ?_)
    refine b_dup hX dX11_init_152 ?_
    refine b_callN hX bs_X11_82 (a := E.length + 107) (d2 := 1) (m2 := 6) (s2 := 138) (bLe hfr rfl) (bLe hlo rfl) (bLe hce rfl) (bLe hsl rfl) (Nat.le_of_ble_eq_true rfl) dX11_init_153 (bSub (F := bF6) (Nn := bN6) (j := 107) (L := 108) (fun E' k' h => bi_6 hG h) (gL (bLs (L := 105) (m := 2) (bLc (bLs (L := 101) (m := 3) (bLc (bLs (L := 87) (m := 13) (bLc (bLs (L := 84) (m := 2) (bLc (bLs (L := 80) (m := 3) (bLc (bLc (bLs (L := 65) (m := 13) (bLc (bLs (L := 32) (m := 32) (bLc (bLs (L := 18) (m := 13) (bLc (bLs (L := 3) (m := 14) (bLc (bLc (bLc bL0))) (bNl_1 _))) (bNl_8 _))) (bNl_7 _))) (bNl_8 _)))) (bNl_10 _))) (bNl_3 _))) (bNl_8 _))) (bNl_10 _))) (bNl_3 _))) (bLc (bLs (L := 105) (m := 2) (bLc (bLs (L := 101) (m := 3) (bLc (bLs (L := 87) (m := 13) (bLc (bLs (L := 84) (m := 2) (bLc (bLs (L := 80) (m := 3) (bLc (bLc (bLs (L := 65) (m := 13) (bLc (bLs (L := 32) (m := 32) (bLc (bLs (L := 18) (m := 13) (bLc (bLs (L := 3) (m := 14) (bLc (bLc (bLc bL0))) (bNl_1 _))) (bNl_8 _))) (bNl_7 _))) (bNl_8 _)))) (bNl_10 _))) (bNl_3 _))) (bNl_8 _))) (bNl_10 _))) (bNl_3 _)))) ?_
    refine b_put hX hin bf_X11_83 dX11_init_156 rfl rfl (bGet hk) (bL1 (bL1 (bL1 (bL1 (bL1 (bL1 (bL1 (bL1 (bL1 (bL1 (bL1 (bL1 (bL1 (bL1 (bL1 (bL1 (bLt rfl))))))))))))))))) (bSet hk) ?_
    refine b_aload hX (a := k) 0 dX11_init_159 rfl ?_
    refine b_new hX bn_X11_87 (bLe hce rfl) (bLe hsl rfl) dX11_init_160 (bLen (j := 114) (bLs (L := 108) (m := 6) (bLc (bLs (L := 105) (m := 2) (bLc (bLs (L := 101) (m := 3) (bLc (bLs (L := 87) (m := 13) (bLc (bLs (L := 84) (m := 2) (bLc (bLs (L := 80) (m := 3) (bLc (bLc (bLs (L := 65) (m := 13) (bLc (bLs (L := 32) (m := 32) (bLc (bLs (L := 18) (m := 13) (bLc (bLs (L := 3) (m := 14) (bLc (bLc (bLc bL0))) (bNl_1 _))) (bNl_8 _))) (bNl_7 _))) (bNl_8 _)))) (bNl_10 _))) (bNl_3 _))) (bNl_8 _))) (bNl_10 _))) (bNl_3 _))) (bNl_6 _))) (bAs ?_)
    refine b_dup hX dX11_init_163 ?_
    refine b_callN hX bs_X11_89 (a := E.length + 114) (d2 := 1) (m2 := 2) (s2 := 37) (bLe hfr rfl) (bLe hlo rfl) (bLe hce rfl) (bLe hsl rfl) (Nat.le_of_ble_eq_true rfl) dX11_init_164 (bSub (F := bF2) (Nn := bN2) (j := 114) (L := 115) (fun E' k' h => bi_2 hG h) (gL (bLs (L := 108) (m := 6) (bLc (bLs (L := 105) (m := 2) (bLc (bLs (L := 101) (m := 3) (bLc (bLs (L := 87) (m := 13) (bLc (bLs (L := 84) (m := 2) (bLc (bLs (L := 80) (m := 3) (bLc (bLc (bLs (L := 65) (m := 13) (bLc (bLs (L := 32) (m := 32) (bLc (bLs (L := 18) (m := 13) (bLc (bLs (L := 3) (m := 14) (bLc (bLc (bLc bL0))) (bNl_1 _))) (bNl_8 _))) (bNl_7 _))) (bNl_8 _)))) (bNl_10 _))) (bNl_3 _))) (bNl_8 _))) (bNl_10 _))) (bNl_3 _))) (bNl_6 _))) (bLc (bLs (L := 108) (m := 6) (bLc (bLs (L := 105) (m := 2) (bLc (bLs (L := 101) (m := 3) (bLc (bLs (L := 87) (m := 13) (bLc (bLs (L := 84) (m := 2) (bLc (bLs (L := 80) (m := 3) (bLc (bLc (bLs (L := 65) (m := 13) (bLc (bLs (L := 32) (m := 32) (bLc (bLs (L := 18) (m := 13) (bLc (bLs (L := 3) (m := 14) (bLc (bLc (bLc bL0))) (bNl_1 _))) (bNl_8 _))) (bNl_7 _))) (bNl_8 _)))) (bNl_10 _))) (bNl_3 _))) (bNl_8 _))) (bNl_10 _))) (bNl_3 _))) (bNl_6 _)))) ?_
    refine b_put hX hin bf_X11_90 dX11_init_167 rfl rfl (bGet hk) (bL1 (bL1 (bL1 (bL1 (bL1 (bL1 (bL1 (bL1 (bL1 (bL1 (bL1 (bL1 (bL1 (bL1 (bL1 (bL1 (bL1 (bLt rfl)))))))))))))))))) (bSet hk) ?_
    refine b_aload hX (a := k) 0 dX11_init_170 rfl ?_
    refine b_iconst hX dX11_init_171 ?_
    refine b_put hX hin bf_X11_94 dX11_init_172 rfl rfl (bGet hk) (bL1 (bL1 (bL1 (bL1 (bL1 (bL1 (bL1 (bL1 (bL1 (bL1 (bL1 (bL1 (bL1 (bL1 (bL1 (bL1 (bL1 (bL1 (bLt rfl))))))))))))))))))) (bSet hk) ?_
    exact b_vret hX hB dX11_init_175 (Nat.le_of_ble_eq_true rfl) (Nat.le_of_ble_eq_true rfl) (by unfold bF11 bN11; rfl)
  rw [← bSet0 he] at go
  exact go
theorem bo_X12 : Cond.methodLink RX12 1 Lib.objectInit ∈ lw_tbl := lw_in7 _ (List.mem_of_getElem? (i := 40) (by decide +kernel))
theorem bf_X12_7 : bFd RX12 7 12 1 .int := ⟨_, _, _, _, cl_12, by decide, lw_in7 _ (List.mem_of_getElem? (i := 42) (by decide +kernel)), rfl, rfl⟩
theorem bf_X12_13 : bFd RX12 13 12 2 .int := ⟨_, _, _, _, cl_12, by decide, lw_in7 _ (List.mem_of_getElem? (i := 43) (by decide +kernel)), rfl, rfl⟩
theorem bf_X12_16 : bFd RX12 16 12 8 (.array .int) := ⟨_, _, _, _, cl_12, by decide, lw_in7 _ (List.mem_of_getElem? (i := 49) (by decide +kernel)), rfl, rfl⟩
theorem bf_X12_20 : bFd RX12 20 12 9 (.array .int) := ⟨_, _, _, _, cl_12, by decide, lw_in7 _ (List.mem_of_getElem? (i := 50) (by decide +kernel)), rfl, rfl⟩
theorem bf_X12_23 : bFd RX12 23 12 10 (.array .int) := ⟨_, _, _, _, cl_12, by decide, lw_in7 _ (List.mem_of_getElem? (i := 51) (by decide +kernel)), rfl, rfl⟩
theorem bf_X12_26 : bFd RX12 26 12 11 (.array .int) := ⟨_, _, _, _, cl_12, by decide, lw_in7 _ (List.mem_of_getElem? (i := 52) (by decide +kernel)), rfl, rfl⟩
theorem bf_X12_29 : bFd RX12 29 12 12 (.array .int) := ⟨_, _, _, _, cl_12, by decide, lw_in7 _ (List.mem_of_getElem? (i := 53) (by decide +kernel)), rfl, rfl⟩
theorem bf_X12_32 : bFd RX12 32 12 13 (.array .int) := ⟨_, _, _, _, cl_12, by decide, lw_in7 _ (List.mem_of_getElem? (i := 54) (by decide +kernel)), rfl, rfl⟩
theorem bf_X12_35 : bFd RX12 35 12 14 (.array .int) := ⟨_, _, _, _, cl_12, by decide, lw_in7 _ (List.mem_of_getElem? (i := 55) (by decide +kernel)), rfl, rfl⟩
theorem bf_X12_38 : bFd RX12 38 12 15 (.array .int) := ⟨_, _, _, _, cl_12, by decide, lw_in7 _ (List.mem_of_getElem? (i := 56) (by decide +kernel)), rfl, rfl⟩
theorem bf_X12_41 : bFd RX12 41 12 16 (.array .int) := ⟨_, _, _, _, cl_12, by decide, lw_in7 _ (List.mem_of_getElem? (i := 57) (by decide +kernel)), rfl, rfl⟩
theorem bf_X12_44 : bFd RX12 44 12 17 (.array .int) := ⟨_, _, _, _, cl_12, by decide, lw_in7 _ (List.mem_of_getElem? (i := 58) (by decide +kernel)), rfl, rfl⟩
theorem bf_X12_47 : bFd RX12 47 12 18 (.array .boolean) := ⟨_, _, _, _, cl_12, by decide, lw_in7 _ (List.mem_of_getElem? (i := 59) (by decide +kernel)), rfl, rfl⟩
theorem bf_X12_51 : bFd RX12 51 12 19 (.array .int) := ⟨_, _, _, _, cl_12, by decide, lw_in7 _ (List.mem_of_getElem? (i := 60) (by decide +kernel)), rfl, rfl⟩
theorem bf_X12_54 : bFd RX12 54 12 22 .int := ⟨_, _, _, _, cl_12, by decide, lw_in7 _ (List.mem_of_getElem? (i := 63) (by decide +kernel)), rfl, rfl⟩
theorem bf_X12_57 : bFd RX12 57 12 23 (.array .int) := ⟨_, _, _, _, cl_12, by decide, lw_in7 _ (List.mem_of_getElem? (i := 64) (by decide +kernel)), rfl, rfl⟩
theorem bf_X12_60 : bFd RX12 60 12 42 (.array .int) := ⟨_, _, _, _, cl_12, by decide, lw_in7 _ (List.mem_of_getElem? (i := 83) (by decide +kernel)), rfl, rfl⟩
theorem bf_X12_63 : bFd RX12 63 12 43 (.array .int) := ⟨_, _, _, _, cl_12, by decide, lw_in7 _ (List.mem_of_getElem? (i := 84) (by decide +kernel)), rfl, rfl⟩
theorem bf_X12_66 : bFd RX12 66 12 44 (.array .int) := ⟨_, _, _, _, cl_12, by decide, lw_in7 _ (List.mem_of_getElem? (i := 85) (by decide +kernel)), rfl, rfl⟩
theorem bf_X12_69 : bFd RX12 69 12 45 (.array .int) := ⟨_, _, _, _, cl_12, by decide, lw_in7 _ (List.mem_of_getElem? (i := 86) (by decide +kernel)), rfl, rfl⟩
theorem bf_X12_72 : bFd RX12 72 12 46 (.array .int) := ⟨_, _, _, _, cl_12, by decide, lw_in7 _ (List.mem_of_getElem? (i := 87) (by decide +kernel)), rfl, rfl⟩
theorem bf_X12_75 : bFd RX12 75 12 47 (.array .int) := ⟨_, _, _, _, cl_12, by decide, lw_in7 _ (List.mem_of_getElem? (i := 88) (by decide +kernel)), rfl, rfl⟩
theorem bf_X12_78 : bFd RX12 78 12 48 (.array .int) := ⟨_, _, _, _, cl_12, by decide, lw_in7 _ (List.mem_of_getElem? (i := 89) (by decide +kernel)), rfl, rfl⟩
theorem bf_X12_81 : bFd RX12 81 12 49 (.array .int) := ⟨_, _, _, _, cl_12, by decide, lw_in7 _ (List.mem_of_getElem? (i := 90) (by decide +kernel)), rfl, rfl⟩
theorem bf_X12_84 : bFd RX12 84 12 50 (.array .int) := ⟨_, _, _, _, cl_12, by decide, lw_in7 _ (List.mem_of_getElem? (i := 91) (by decide +kernel)), rfl, rfl⟩
theorem bf_X12_87 : bFd RX12 87 12 51 (.array .int) := ⟨_, _, _, _, cl_12, by decide, lw_in7 _ (List.mem_of_getElem? (i := 92) (by decide +kernel)), rfl, rfl⟩
theorem bf_X12_90 : bFd RX12 90 12 52 (.array .int) := ⟨_, _, _, _, cl_12, by decide, lw_in7 _ (List.mem_of_getElem? (i := 93) (by decide +kernel)), rfl, rfl⟩
theorem bf_X12_93 : bFd RX12 93 12 53 (.array .int) := ⟨_, _, _, _, cl_12, by decide, lw_in7 _ (List.mem_of_getElem? (i := 94) (by decide +kernel)), rfl, rfl⟩
theorem bf_X12_96 : bFd RX12 96 12 54 (.array .int) := ⟨_, _, _, _, cl_12, by decide, lw_in7 _ (List.mem_of_getElem? (i := 95) (by decide +kernel)), rfl, rfl⟩
theorem bf_X12_99 : bFd RX12 99 12 55 (.array .boolean) := ⟨_, _, _, _, cl_12, by decide, lw_in7 _ (List.mem_of_getElem? (i := 96) (by decide +kernel)), rfl, rfl⟩
theorem bf_X12_102 : bFd RX12 102 12 56 (.array .int) := ⟨_, _, _, _, cl_12, by decide, lw_in7 _ (List.mem_of_getElem? (i := 97) (by decide +kernel)), rfl, rfl⟩
theorem bf_X12_105 : bFd RX12 105 12 57 (.array .int) := ⟨_, _, _, _, cl_12, by decide, lw_in7 _ (List.mem_of_getElem? (i := 98) (by decide +kernel)), rfl, rfl⟩
theorem bf_X12_108 : bFd RX12 108 12 59 (.array .int) := ⟨_, _, _, _, cl_12, by decide, lw_in7 _ (List.mem_of_getElem? (i := 100) (by decide +kernel)), rfl, rfl⟩
theorem bf_X12_111 : bFd RX12 111 12 60 (.array .int) := ⟨_, _, _, _, cl_12, by decide, lw_in7 _ (List.mem_of_getElem? (i := 101) (by decide +kernel)), rfl, rfl⟩
theorem bf_X12_114 : bFd RX12 114 12 61 (.array .int) := ⟨_, _, _, _, cl_12, by decide, lw_in7 _ (List.mem_of_getElem? (i := 102) (by decide +kernel)), rfl, rfl⟩
theorem bf_X12_117 : bFd RX12 117 12 62 (.array .int) := ⟨_, _, _, _, cl_12, by decide, lw_in7 _ (List.mem_of_getElem? (i := 103) (by decide +kernel)), rfl, rfl⟩
theorem bf_X12_120 : bFd RX12 120 12 63 (.array .int) := ⟨_, _, _, _, cl_12, by decide, lw_in7 _ (List.mem_of_getElem? (i := 104) (by decide +kernel)), rfl, rfl⟩
theorem bf_X12_123 : bFd RX12 123 12 64 (.array .int) := ⟨_, _, _, _, cl_12, by decide, lw_in7 _ (List.mem_of_getElem? (i := 105) (by decide +kernel)), rfl, rfl⟩
theorem bf_X12_126 : bFd RX12 126 12 66 (.array .int) := ⟨_, _, _, _, cl_12, by decide, lw_in7 _ (List.mem_of_getElem? (i := 107) (by decide +kernel)), rfl, rfl⟩
theorem bf_X12_129 : bFd RX12 129 12 67 (.array .int) := ⟨_, _, _, _, cl_12, by decide, lw_in7 _ (List.mem_of_getElem? (i := 108) (by decide +kernel)), rfl, rfl⟩
theorem bf_X12_132 : bFd RX12 132 12 68 (.array .int) := ⟨_, _, _, _, cl_12, by decide, lw_in7 _ (List.mem_of_getElem? (i := 109) (by decide +kernel)), rfl, rfl⟩
theorem bf_X12_135 : bFd RX12 135 12 69 (.array .int) := ⟨_, _, _, _, cl_12, by decide, lw_in7 _ (List.mem_of_getElem? (i := 110) (by decide +kernel)), rfl, rfl⟩
theorem bf_X12_138 : bFd RX12 138 12 70 (.array .int) := ⟨_, _, _, _, cl_12, by decide, lw_in7 _ (List.mem_of_getElem? (i := 111) (by decide +kernel)), rfl, rfl⟩
theorem bf_X12_141 : bFd RX12 141 12 71 (.array .int) := ⟨_, _, _, _, cl_12, by decide, lw_in7 _ (List.mem_of_getElem? (i := 112) (by decide +kernel)), rfl, rfl⟩
theorem bf_X12_144 : bFd RX12 144 12 73 (.array .int) := ⟨_, _, _, _, cl_12, by decide, lw_in7 _ (List.mem_of_getElem? (i := 114) (by decide +kernel)), rfl, rfl⟩
theorem bf_X12_147 : bFd RX12 147 12 75 (.array .int) := ⟨_, _, _, _, cl_12, by decide, lw_in7 _ (List.mem_of_getElem? (i := 116) (by decide +kernel)), rfl, rfl⟩
theorem bf_X12_150 : bFd RX12 150 12 79 (.array .int) := ⟨_, _, _, _, cl_12, by decide, lw_in7 _ (List.mem_of_getElem? (i := 120) (by decide +kernel)), rfl, rfl⟩
theorem bf_X12_153 : bFd RX12 153 12 80 (.array .int) := ⟨_, _, _, _, cl_12, by decide, lw_in7 _ (List.mem_of_getElem? (i := 121) (by decide +kernel)), rfl, rfl⟩
theorem bf_X12_156 : bFd RX12 156 12 81 (.array .int) := ⟨_, _, _, _, cl_12, by decide, lw_in7 _ (List.mem_of_getElem? (i := 122) (by decide +kernel)), rfl, rfl⟩
def bF12 (q : Nat) : List bV := (((((((((((((((((((((((((((((((((((((((((((((((((bD12.set 1 (vI (8))).set 2 (vI (8))).set 8 (vR (q + 0))).set 9 (vR (q + 1))).set 10 (vR (q + 2))).set 11 (vR (q + 3))).set 12 (vR (q + 4))).set 13 (vR (q + 5))).set 14 (vR (q + 6))).set 15 (vR (q + 7))).set 16 (vR (q + 8))).set 17 (vR (q + 9))).set 18 (vR (q + 10))).set 19 (vR (q + 11))).set 22 (vI (-1))).set 23 (vR (q + 12))).set 42 (vR (q + 13))).set 43 (vR (q + 14))).set 44 (vR (q + 15))).set 45 (vR (q + 16))).set 46 (vR (q + 17))).set 47 (vR (q + 18))).set 48 (vR (q + 19))).set 49 (vR (q + 20))).set 50 (vR (q + 21))).set 51 (vR (q + 22))).set 52 (vR (q + 23))).set 53 (vR (q + 24))).set 54 (vR (q + 25))).set 55 (vR (q + 26))).set 56 (vR (q + 27))).set 57 (vR (q + 28))).set 59 (vR (q + 29))).set 60 (vR (q + 30))).set 61 (vR (q + 31))).set 62 (vR (q + 32))).set 63 (vR (q + 33))).set 64 (vR (q + 34))).set 66 (vR (q + 35))).set 67 (vR (q + 36))).set 68 (vR (q + 37))).set 69 (vR (q + 38))).set 70 (vR (q + 39))).set 71 (vR (q + 40))).set 73 (vR (q + 41))).set 75 (vR (q + 42))).set 79 (vR (q + 43))).set 80 (vR (q + 44))).set 81 (vR (q + 45)))
def bN12 (q : Nat) : List bE := (((((((((((((((((((((((((((((((((((((((((((((((([] : List bE) ++ [(.inr (0, 12, []) : bE)]) ++ [(.inr (0, 5, []) : bE)]) ++ [(.inr (0, 5, []) : bE)]) ++ [(.inr (0, 5, []) : bE)]) ++ [(.inr (0, 60, []) : bE)]) ++ [(.inr (0, 5, []) : bE)]) ++ [(.inr (0, 30, []) : bE)]) ++ [(.inr (0, 8, []) : bE)]) ++ [(.inr (0, 3, []) : bE)]) ++ [(.inr (0, 2100, []) : bE)]) ++ [(.inr (1, 144, []) : bE)]) ++ [(.inr (0, 700, []) : bE)]) ++ [(.inr (0, 3, []) : bE)]) ++ [(.inr (0, 144, []) : bE)]) ++ [(.inr (0, 12, []) : bE)]) ++ [(.inr (0, 5, []) : bE)]) ++ [(.inr (0, 5, []) : bE)]) ++ [(.inr (0, 5, []) : bE)]) ++ [(.inr (0, 60, []) : bE)]) ++ [(.inr (0, 5, []) : bE)]) ++ [(.inr (0, 30, []) : bE)]) ++ [(.inr (0, 8, []) : bE)]) ++ [(.inr (0, 3, []) : bE)]) ++ [(.inr (0, 27, []) : bE)]) ++ [(.inr (0, 2100, []) : bE)]) ++ [(.inr (0, 950, []) : bE)]) ++ [(.inr (1, 9, []) : bE)]) ++ [(.inr (0, 27, []) : bE)]) ++ [(.inr (0, 80, []) : bE)]) ++ [(.inr (0, 6, []) : bE)]) ++ [(.inr (0, 950, []) : bE)]) ++ [(.inr (0, 1200, []) : bE)]) ++ [(.inr (0, 1200, []) : bE)]) ++ [(.inr (0, 5, []) : bE)]) ++ [(.inr (0, 5, []) : bE)]) ++ [(.inr (0, 5, []) : bE)]) ++ [(.inr (0, 5, []) : bE)]) ++ [(.inr (0, 40, []) : bE)]) ++ [(.inr (0, 5, []) : bE)]) ++ [(.inr (0, 8, []) : bE)]) ++ [(.inr (0, 5, []) : bE)]) ++ [(.inr (0, 32, []) : bE)]) ++ [(.inr (0, 5, []) : bE)]) ++ [(.inr (0, 27, []) : bE)]) ++ [(.inr (0, 80, []) : bE)]) ++ [(.inr (0, 32, []) : bE)]).set 27 (.inr (0, 27, [(18, -1)]) : bE))
theorem bNl_12 (q : Nat) : (bN12 q).length = 46 := by
  unfold bN12
  exact (bLx (bLc (bLc (bLc (bLc (bLc (bLc (bLc (bLc (bLc (bLc (bLc (bLc (bLc (bLc (bLc (bLc (bLc (bLc (bLc (bLc (bLc (bLc (bLc (bLc (bLc (bLc (bLc (bLc (bLc (bLc (bLc (bLc (bLc (bLc (bLc (bLc (bLc (bLc (bLc (bLc (bLc (bLc (bLc (bLc (bLc (bLc bL0)))))))))))))))))))))))))))))))))))))))))))))))
set_option maxHeartbeats 4000000 in
set_option maxRecDepth 100000 in
theorem bi_12 {G : slG} (hG : slGood G) {E : List bE} {k : Nat} (he : E[k]? = some (.inl (12, bD12))) : bCall G yX12_init cX12_init 1 46 10160 k E (E.set k (.inl (12, bF12 E.length)) ++ bN12 E.length) := by
  have hk : k < E.length := (List.getElem?_eq_some_iff.mp he).1
  refine bCall.of hG (own := RX12) (by decide +kernel) rfl rfl ?_
  rintro X hX rfl hB
  have hin := hB.1
  have hR := hB.2.2.2.2
  have hfr : (xR X).frames = 1 := by rw [hR]; rfl
  have hlo : (xR X).locals = 60 := by rw [hR]; rfl
  have hce : (xR X).cells = 46 := by rw [hR]; rfl
  have hsl : (xR X).slots = 10160 := by rw [hR]; rfl
  have go : bOK X (bQ X (E.set k (.inl (12, bF12 E.length)) ++ bN12 E.length) 46 10160) 0 0 0 [(0, bI (xG X) (vR k))] [] (E.set k (.inl (12, bD12)) ++ []) := by
    refine b_aload hX (a := k) 0 dX12_init_0 rfl ?_
    refine b_obj hX bo_X12 bo_i bo_c (bLe hfr rfl) (bLe hlo rfl) dX12_init_1 ?_
    refine b_aload hX (a := k) 0 dX12_init_4 rfl ?_
    refine b_bipush hX dX12_init_5 (by decide) ?_
    refine b_put hX hin bf_X12_7 dX12_init_7 rfl rfl (bGet hk) (bLt rfl) (bSet hk) ?_
    refine b_aload hX (a := k) 0 dX12_init_10 rfl ?_
    refine b_bipush hX dX12_init_11 (by decide) ?_
    refine b_put hX hin bf_X12_13 dX12_init_13 rfl rfl (bGet hk) (bL1 (bLt rfl)) (bSet hk) ?_
    refine b_aload hX (a := k) 0 dX12_init_16 rfl ?_
    refine b_bipush hX dX12_init_17 (by decide) ?_
    refine b_newI hX (N := 12) ba_I rfl (by decide) (bLe hce rfl) (bLe hsl rfl) dX12_init_19 (bLen (j := 0) bL0) (bAs ?_)
    refine b_put hX hin bf_X12_16 dX12_init_21 rfl rfl (bGet hk) (bL1 (bL1 (bLt rfl))) (bSet hk) ?_
    refine b_aload hX (a := k) 0 dX12_init_24 rfl ?_
    refine b_iconst hX dX12_init_25 ?_
    refine b_newI hX (N := 5) ba_I rfl (by decide) (bLe hce rfl) (bLe hsl rfl) dX12_init_26 (bLen (j := 1) (bLc bL0)) (bAs ?_)
    refine b_put hX hin bf_X12_20 dX12_init_28 rfl rfl (bGet hk) (bL1 (bL1 (bL1 (bLt rfl)))) (bSet hk) ?_
    refine b_aload hX (a := k) 0 dX12_init_31 rfl ?_
    refine b_iconst hX dX12_init_32 ?_
    refine b_newI hX (N := 5) ba_I rfl (by decide) (bLe hce rfl) (bLe hsl rfl) dX12_init_33 (bLen (j := 2) (bLc (bLc bL0))) (bAs ?_)
    refine b_put hX hin bf_X12_23 dX12_init_35 rfl rfl (bGet hk) (bL1 (bL1 (bL1 (bL1 (bLt rfl))))) (bSet hk) ?_
    refine b_aload hX (a := k) 0 dX12_init_38 rfl ?_
    refine b_iconst hX dX12_init_39 ?_
    refine b_newI hX (N := 5) ba_I rfl (by decide) (bLe hce rfl) (bLe hsl rfl) dX12_init_40 (bLen (j := 3) (bLc (bLc (bLc bL0)))) (bAs ?_)
    refine b_put hX hin bf_X12_26 dX12_init_42 rfl rfl (bGet hk) (bL1 (bL1 (bL1 (bL1 (bL1 (bLt rfl)))))) (bSet hk) ?_
    refine b_aload hX (a := k) 0 dX12_init_45 rfl ?_
    refine b_bipush hX dX12_init_46 (by decide) ?_
    refine b_newI hX (N := 60) ba_I rfl (by decide) (bLe hce rfl) (bLe hsl rfl) dX12_init_48 (bLen (j := 4) (bLc (bLc (bLc (bLc bL0))))) (bAs ?_)
    refine b_put hX hin bf_X12_29 dX12_init_50 rfl rfl (bGet hk) (bL1 (bL1 (bL1 (bL1 (bL1 (bL1 (bLt rfl))))))) (bSet hk) ?_
    refine b_aload hX (a := k) 0 dX12_init_53 rfl ?_
    refine b_iconst hX dX12_init_54 ?_
    refine b_newI hX (N := 5) ba_I rfl (by decide) (bLe hce rfl) (bLe hsl rfl) dX12_init_55 (bLen (j := 5) (bLc (bLc (bLc (bLc (bLc bL0)))))) (bAs ?_)
    refine b_put hX hin bf_X12_32 dX12_init_57 rfl rfl (bGet hk) (bL1 (bL1 (bL1 (bL1 (bL1 (bL1 (bL1 (bLt rfl)))))))) (bSet hk) ?_
    refine b_aload hX (a := k) 0 dX12_init_60 rfl ?_
    refine b_bipush hX dX12_init_61 (by decide) ?_
    refine b_newI hX (N := 30) ba_I rfl (by decide) (bLe hce rfl) (bLe hsl rfl) dX12_init_63 (bLen (j := 6) (bLc (bLc (bLc (bLc (bLc (bLc bL0))))))) (bAs ?_)
    refine b_put hX hin bf_X12_35 dX12_init_65 rfl rfl (bGet hk) (bL1 (bL1 (bL1 (bL1 (bL1 (bL1 (bL1 (bL1 (bLt rfl))))))))) (bSet hk) ?_
    refine b_aload hX (a := k) 0 dX12_init_68 rfl ?_
    refine b_bipush hX dX12_init_69 (by decide) ?_
    refine b_newI hX (N := 8) ba_I rfl (by decide) (bLe hce rfl) (bLe hsl rfl) dX12_init_71 (bLen (j := 7) (bLc (bLc (bLc (bLc (bLc (bLc (bLc bL0)))))))) (bAs ?_)
    refine b_put hX hin bf_X12_38 dX12_init_73 rfl rfl (bGet hk) (bL1 (bL1 (bL1 (bL1 (bL1 (bL1 (bL1 (bL1 (bL1 (bLt rfl)))))))))) (bSet hk) ?_
    refine b_aload hX (a := k) 0 dX12_init_76 rfl ?_
    refine b_iconst hX dX12_init_77 ?_
    refine b_newI hX (N := 3) ba_I rfl (by decide) (bLe hce rfl) (bLe hsl rfl) dX12_init_78 (bLen (j := 8) (bLc (bLc (bLc (bLc (bLc (bLc (bLc (bLc bL0))))))))) (bAs ?_)
    refine b_put hX hin bf_X12_41 dX12_init_80 rfl rfl (bGet hk) (bL1 (bL1 (bL1 (bL1 (bL1 (bL1 (bL1 (bL1 (bL1 (bL1 (bLt rfl))))))))))) (bSet hk) ?_
    refine b_aload hX (a := k) 0 dX12_init_83 rfl ?_
    refine b_sipush hX dX12_init_84 (by decide) ?_
    refine b_newI hX (N := 2100) ba_I rfl (by decide) (bLe hce rfl) (bLe hsl rfl) dX12_init_87 (bLen (j := 9) (bLc (bLc (bLc (bLc (bLc (bLc (bLc (bLc (bLc bL0)))))))))) (bAs ?_)
    refine b_put hX hin bf_X12_44 dX12_init_89 rfl rfl (bGet hk) (bL1 (bL1 (bL1 (bL1 (bL1 (bL1 (bL1 (bL1 (bL1 (bL1 (bL1 (bLt rfl)))))))))))) (bSet hk) ?_
    refine b_aload hX (a := k) 0 dX12_init_92 rfl ?_
    refine b_sipush hX dX12_init_93 (by decide) ?_
    refine b_newZ hX (N := 144) ba_Z rfl (by decide) (bLe hce rfl) (bLe hsl rfl) dX12_init_96 (bLen (j := 10) (bLc (bLc (bLc (bLc (bLc (bLc (bLc (bLc (bLc (bLc bL0))))))))))) (bAs ?_)
    refine b_put hX hin bf_X12_47 dX12_init_98 rfl rfl (bGet hk) (bL1 (bL1 (bL1 (bL1 (bL1 (bL1 (bL1 (bL1 (bL1 (bL1 (bL1 (bL1 (bLt rfl))))))))))))) (bSet hk) ?_
    refine b_aload hX (a := k) 0 dX12_init_101 rfl ?_
    refine b_sipush hX dX12_init_102 (by decide) ?_
    refine b_newI hX (N := 700) ba_I rfl (by decide) (bLe hce rfl) (bLe hsl rfl) dX12_init_105 (bLen (j := 11) (bLc (bLc (bLc (bLc (bLc (bLc (bLc (bLc (bLc (bLc (bLc bL0)))))))))))) (bAs ?_)
    refine b_put hX hin bf_X12_51 dX12_init_107 rfl rfl (bGet hk) (bL1 (bL1 (bL1 (bL1 (bL1 (bL1 (bL1 (bL1 (bL1 (bL1 (bL1 (bL1 (bL1 (bLt rfl)))))))))))))) (bSet hk) ?_
    refine b_aload hX (a := k) 0 dX12_init_110 rfl ?_
    refine b_iconst hX dX12_init_111 ?_
    refine b_put hX hin bf_X12_54 dX12_init_112 rfl rfl (bGet hk) (bL1 (bL1 (bL1 (bL1 (bL1 (bL1 (bL1 (bL1 (bL1 (bL1 (bL1 (bL1 (bL1 (bL1 (bLt rfl))))))))))))))) (bSet hk) ?_
    refine b_aload hX (a := k) 0 dX12_init_115 rfl ?_
    refine b_iconst hX dX12_init_116 ?_
    refine b_newI hX (N := 3) ba_I rfl (by decide) (bLe hce rfl) (bLe hsl rfl) dX12_init_117 (bLen (j := 12) (bLc (bLc (bLc (bLc (bLc (bLc (bLc (bLc (bLc (bLc (bLc (bLc bL0))))))))))))) (bAs ?_)
    refine b_put hX hin bf_X12_57 dX12_init_119 rfl rfl (bGet hk) (bL1 (bL1 (bL1 (bL1 (bL1 (bL1 (bL1 (bL1 (bL1 (bL1 (bL1 (bL1 (bL1 (bL1 (bL1 (bLt rfl)))))))))))))))) (bSet hk) ?_
    refine b_aload hX (a := k) 0 dX12_init_122 rfl ?_
    refine b_sipush hX dX12_init_123 (by decide) ?_
    refine b_newI hX (N := 144) ba_I rfl (by decide) (bLe hce rfl) (bLe hsl rfl) dX12_init_126 (bLen (j := 13) (bLc (bLc (bLc (bLc (bLc (bLc (bLc (bLc (bLc (bLc (bLc (bLc (bLc bL0)))))))))))))) (bAs ?_)
    refine b_put hX hin bf_X12_60 dX12_init_128 rfl rfl (bGet hk) (bL1 (bL1 (bL1 (bL1 (bL1 (bL1 (bL1 (bL1 (bL1 (bL1 (bL1 (bL1 (bL1 (bL1 (bL1 (bL1 (bLt rfl))))))))))))))))) (bSet hk) ?_
    refine b_aload hX (a := k) 0 dX12_init_131 rfl ?_
    refine b_bipush hX dX12_init_132 (by decide) ?_
    refine b_newI hX (N := 12) ba_I rfl (by decide) (bLe hce rfl) (bLe hsl rfl) dX12_init_134 (bLen (j := 14) (bLc (bLc (bLc (bLc (bLc (bLc (bLc (bLc (bLc (bLc (bLc (bLc (bLc (bLc bL0))))))))))))))) (bAs ?_)
    refine b_put hX hin bf_X12_63 dX12_init_136 rfl rfl (bGet hk) (bL1 (bL1 (bL1 (bL1 (bL1 (bL1 (bL1 (bL1 (bL1 (bL1 (bL1 (bL1 (bL1 (bL1 (bL1 (bL1 (bL1 (bLt rfl)))))))))))))))))) (bSet hk) ?_
    refine b_aload hX (a := k) 0 dX12_init_139 rfl ?_
    refine b_iconst hX dX12_init_140 ?_
    refine b_newI hX (N := 5) ba_I rfl (by decide) (bLe hce rfl) (bLe hsl rfl) dX12_init_141 (bLen (j := 15) (bLc (bLc (bLc (bLc (bLc (bLc (bLc (bLc (bLc (bLc (bLc (bLc (bLc (bLc (bLc bL0)))))))))))))))) (bAs ?_)
    refine b_put hX hin bf_X12_66 dX12_init_143 rfl rfl (bGet hk) (bL1 (bL1 (bL1 (bL1 (bL1 (bL1 (bL1 (bL1 (bL1 (bL1 (bL1 (bL1 (bL1 (bL1 (bL1 (bL1 (bL1 (bL1 (bLt rfl))))))))))))))))))) (bSet hk) ?_
    refine b_aload hX (a := k) 0 dX12_init_146 rfl ?_
    refine b_iconst hX dX12_init_147 ?_
    refine b_newI hX (N := 5) ba_I rfl (by decide) (bLe hce rfl) (bLe hsl rfl) dX12_init_148 (bLen (j := 16) (bLc (bLc (bLc (bLc (bLc (bLc (bLc (bLc (bLc (bLc (bLc (bLc (bLc (bLc (bLc (bLc bL0))))))))))))))))) (bAs ?_)
    refine b_put hX hin bf_X12_69 dX12_init_150 rfl rfl (bGet hk) (bL1 (bL1 (bL1 (bL1 (bL1 (bL1 (bL1 (bL1 (bL1 (bL1 (bL1 (bL1 (bL1 (bL1 (bL1 (bL1 (bL1 (bL1 (bL1 (bLt rfl)))))))))))))))))))) (bSet hk) ?_
    refine b_aload hX (a := k) 0 dX12_init_153 rfl ?_
    refine b_iconst hX dX12_init_154 ?_
    refine b_newI hX (N := 5) ba_I rfl (by decide) (bLe hce rfl) (bLe hsl rfl) dX12_init_155 (bLen (j := 17) (bLc (bLc (bLc (bLc (bLc (bLc (bLc (bLc (bLc (bLc (bLc (bLc (bLc (bLc (bLc (bLc (bLc bL0)))))))))))))))))) (bAs ?_)
    refine b_put hX hin bf_X12_72 dX12_init_157 rfl rfl (bGet hk) (bL1 (bL1 (bL1 (bL1 (bL1 (bL1 (bL1 (bL1 (bL1 (bL1 (bL1 (bL1 (bL1 (bL1 (bL1 (bL1 (bL1 (bL1 (bL1 (bL1 (bLt rfl))))))))))))))))))))) (bSet hk) ?_
    refine b_aload hX (a := k) 0 dX12_init_160 rfl ?_
    refine b_bipush hX dX12_init_161 (by decide) ?_
    refine b_newI hX (N := 60) ba_I rfl (by decide) (bLe hce rfl) (bLe hsl rfl) dX12_init_163 (bLen (j := 18) (bLc (bLc (bLc (bLc (bLc (bLc (bLc (bLc (bLc (bLc (bLc (bLc (bLc (bLc (bLc (bLc (bLc (bLc bL0))))))))))))))))))) (bAs ?_)
    refine b_put hX hin bf_X12_75 dX12_init_165 rfl rfl (bGet hk) (bL1 (bL1 (bL1 (bL1 (bL1 (bL1 (bL1 (bL1 (bL1 (bL1 (bL1 (bL1 (bL1 (bL1 (bL1 (bL1 (bL1 (bL1 (bL1 (bL1 (bL1 (bLt rfl)))))))))))))))))))))) (bSet hk) ?_
    refine b_aload hX (a := k) 0 dX12_init_168 rfl ?_
    refine b_iconst hX dX12_init_169 ?_
    refine b_newI hX (N := 5) ba_I rfl (by decide) (bLe hce rfl) (bLe hsl rfl) dX12_init_170 (bLen (j := 19) (bLc (bLc (bLc (bLc (bLc (bLc (bLc (bLc (bLc (bLc (bLc (bLc (bLc (bLc (bLc (bLc (bLc (bLc (bLc bL0)))))))))))))))))))) (bAs ?_)
    refine b_put hX hin bf_X12_78 dX12_init_172 rfl rfl (bGet hk) (bL1 (bL1 (bL1 (bL1 (bL1 (bL1 (bL1 (bL1 (bL1 (bL1 (bL1 (bL1 (bL1 (bL1 (bL1 (bL1 (bL1 (bL1 (bL1 (bL1 (bL1 (bL1 (bLt rfl))))))))))))))))))))))) (bSet hk) ?_
    refine b_aload hX (a := k) 0 dX12_init_175 rfl ?_
    refine b_bipush hX dX12_init_176 (by decide) ?_
    refine b_newI hX (N := 30) ba_I rfl (by decide) (bLe hce rfl) (bLe hsl rfl) dX12_init_178 (bLen (j := 20) (bLc (bLc (bLc (bLc (bLc (bLc (bLc (bLc (bLc (bLc (bLc (bLc (bLc (bLc (bLc (bLc (bLc (bLc (bLc (bLc bL0))))))))))))))))))))) (bAs ?_)
    refine b_put hX hin bf_X12_81 dX12_init_180 rfl rfl (bGet hk) (bL1 (bL1 (bL1 (bL1 (bL1 (bL1 (bL1 (bL1 (bL1 (bL1 (bL1 (bL1 (bL1 (bL1 (bL1 (bL1 (bL1 (bL1 (bL1 (bL1 (bL1 (bL1 (bL1 (bLt rfl)))))))))))))))))))))))) (bSet hk) ?_
    refine b_aload hX (a := k) 0 dX12_init_183 rfl ?_
    refine b_bipush hX dX12_init_184 (by decide) ?_
    refine b_newI hX (N := 8) ba_I rfl (by decide) (bLe hce rfl) (bLe hsl rfl) dX12_init_186 (bLen (j := 21) (bLc (bLc (bLc (bLc (bLc (bLc (bLc (bLc (bLc (bLc (bLc (bLc (bLc (bLc (bLc (bLc (bLc (bLc (bLc (bLc (bLc bL0)))))))))))))))))))))) (bAs ?_)
    refine b_put hX hin bf_X12_84 dX12_init_188 rfl rfl (bGet hk) (bL1 (bL1 (bL1 (bL1 (bL1 (bL1 (bL1 (bL1 (bL1 (bL1 (bL1 (bL1 (bL1 (bL1 (bL1 (bL1 (bL1 (bL1 (bL1 (bL1 (bL1 (bL1 (bL1 (bL1 (bLt rfl))))))))))))))))))))))))) (bSet hk) ?_
    refine b_aload hX (a := k) 0 dX12_init_191 rfl ?_
    refine b_iconst hX dX12_init_192 ?_
    refine b_newI hX (N := 3) ba_I rfl (by decide) (bLe hce rfl) (bLe hsl rfl) dX12_init_193 (bLen (j := 22) (bLc (bLc (bLc (bLc (bLc (bLc (bLc (bLc (bLc (bLc (bLc (bLc (bLc (bLc (bLc (bLc (bLc (bLc (bLc (bLc (bLc (bLc bL0))))))))))))))))))))))) (bAs ?_)
    refine b_put hX hin bf_X12_87 dX12_init_195 rfl rfl (bGet hk) (bL1 (bL1 (bL1 (bL1 (bL1 (bL1 (bL1 (bL1 (bL1 (bL1 (bL1 (bL1 (bL1 (bL1 (bL1 (bL1 (bL1 (bL1 (bL1 (bL1 (bL1 (bL1 (bL1 (bL1 (bL1 (bLt rfl)))))))))))))))))))))))))) (bSet hk) ?_
    refine b_aload hX (a := k) 0 dX12_init_198 rfl ?_
    refine b_bipush hX dX12_init_199 (by decide) ?_
    refine b_newI hX (N := 27) ba_I rfl (by decide) (bLe hce rfl) (bLe hsl rfl) dX12_init_201 (bLen (j := 23) (bLc (bLc (bLc (bLc (bLc (bLc (bLc (bLc (bLc (bLc (bLc (bLc (bLc (bLc (bLc (bLc (bLc (bLc (bLc (bLc (bLc (bLc (bLc bL0)))))))))))))))))))))))) (bAs ?_)
    refine b_put hX hin bf_X12_90 dX12_init_203 rfl rfl (bGet hk) (bL1 (bL1 (bL1 (bL1 (bL1 (bL1 (bL1 (bL1 (bL1 (bL1 (bL1 (bL1 (bL1 (bL1 (bL1 (bL1 (bL1 (bL1 (bL1 (bL1 (bL1 (bL1 (bL1 (bL1 (bL1 (bL1 (bLt rfl))))))))))))))))))))))))))) (bSet hk) ?_
    refine b_aload hX (a := k) 0 dX12_init_206 rfl ?_
    refine b_sipush hX dX12_init_207 (by decide) ?_
    refine b_newI hX (N := 2100) ba_I rfl (by decide) (bLe hce rfl) (bLe hsl rfl) dX12_init_210 (bLen (j := 24) (bLc (bLc (bLc (bLc (bLc (bLc (bLc (bLc (bLc (bLc (bLc (bLc (bLc (bLc (bLc (bLc (bLc (bLc (bLc (bLc (bLc (bLc (bLc (bLc bL0))))))))))))))))))))))))) (bAs ?_)
    refine b_put hX hin bf_X12_93 dX12_init_212 rfl rfl (bGet hk) (bL1 (bL1 (bL1 (bL1 (bL1 (bL1 (bL1 (bL1 (bL1 (bL1 (bL1 (bL1 (bL1 (bL1 (bL1 (bL1 (bL1 (bL1 (bL1 (bL1 (bL1 (bL1 (bL1 (bL1 (bL1 (bL1 (bL1 (bLt rfl)))))))))))))))))))))))))))) (bSet hk) ?_
    refine b_aload hX (a := k) 0 dX12_init_215 rfl ?_
    refine b_sipush hX dX12_init_216 (by decide) ?_
    refine b_newI hX (N := 950) ba_I rfl (by decide) (bLe hce rfl) (bLe hsl rfl) dX12_init_219 (bLen (j := 25) (bLc (bLc (bLc (bLc (bLc (bLc (bLc (bLc (bLc (bLc (bLc (bLc (bLc (bLc (bLc (bLc (bLc (bLc (bLc (bLc (bLc (bLc (bLc (bLc (bLc bL0)))))))))))))))))))))))))) (bAs ?_)
    refine b_put hX hin bf_X12_96 dX12_init_221 rfl rfl (bGet hk) (bL1 (bL1 (bL1 (bL1 (bL1 (bL1 (bL1 (bL1 (bL1 (bL1 (bL1 (bL1 (bL1 (bL1 (bL1 (bL1 (bL1 (bL1 (bL1 (bL1 (bL1 (bL1 (bL1 (bL1 (bL1 (bL1 (bL1 (bL1 (bLt rfl))))))))))))))))))))))))))))) (bSet hk) ?_
    refine b_aload hX (a := k) 0 dX12_init_224 rfl ?_
    refine b_bipush hX dX12_init_225 (by decide) ?_
    refine b_newZ hX (N := 9) ba_Z rfl (by decide) (bLe hce rfl) (bLe hsl rfl) dX12_init_227 (bLen (j := 26) (bLc (bLc (bLc (bLc (bLc (bLc (bLc (bLc (bLc (bLc (bLc (bLc (bLc (bLc (bLc (bLc (bLc (bLc (bLc (bLc (bLc (bLc (bLc (bLc (bLc (bLc bL0))))))))))))))))))))))))))) (bAs ?_)
    refine b_put hX hin bf_X12_99 dX12_init_229 rfl rfl (bGet hk) (bL1 (bL1 (bL1 (bL1 (bL1 (bL1 (bL1 (bL1 (bL1 (bL1 (bL1 (bL1 (bL1 (bL1 (bL1 (bL1 (bL1 (bL1 (bL1 (bL1 (bL1 (bL1 (bL1 (bL1 (bL1 (bL1 (bL1 (bL1 (bL1 (bLt rfl)))))))))))))))))))))))))))))) (bSet hk) ?_
    refine b_aload hX (a := k) 0 dX12_init_232 rfl ?_
    refine b_bipush hX dX12_init_233 (by decide) ?_
    refine b_newI hX (N := 27) ba_I rfl (by decide) (bLe hce rfl) (bLe hsl rfl) dX12_init_235 (bLen (j := 27) (bLc (bLc (bLc (bLc (bLc (bLc (bLc (bLc (bLc (bLc (bLc (bLc (bLc (bLc (bLc (bLc (bLc (bLc (bLc (bLc (bLc (bLc (bLc (bLc (bLc (bLc (bLc bL0)))))))))))))))))))))))))))) (bAs ?_)
    refine b_put hX hin bf_X12_102 dX12_init_237 rfl rfl (bGet hk) (bL1 (bL1 (bL1 (bL1 (bL1 (bL1 (bL1 (bL1 (bL1 (bL1 (bL1 (bL1 (bL1 (bL1 (bL1 (bL1 (bL1 (bL1 (bL1 (bL1 (bL1 (bL1 (bL1 (bL1 (bL1 (bL1 (bL1 (bL1 (bL1 (bL1 (bLt rfl))))))))))))))))))))))))))))))) (bSet hk) ?_
    refine b_aload hX (a := k) 0 dX12_init_240 rfl ?_
    refine b_bipush hX dX12_init_241 (by decide) ?_
    refine b_newI hX (N := 80) ba_I rfl (by decide) (bLe hce rfl) (bLe hsl rfl) dX12_init_243 (bLen (j := 28) (bLc (bLc (bLc (bLc (bLc (bLc (bLc (bLc (bLc (bLc (bLc (bLc (bLc (bLc (bLc (bLc (bLc (bLc (bLc (bLc (bLc (bLc (bLc (bLc (bLc (bLc (bLc (bLc bL0))))))))))))))))))))))))))))) (bAs ?_)
    refine b_put hX hin bf_X12_105 dX12_init_245 rfl rfl (bGet hk) (bL1 (bL1 (bL1 (bL1 (bL1 (bL1 (bL1 (bL1 (bL1 (bL1 (bL1 (bL1 (bL1 (bL1 (bL1 (bL1 (bL1 (bL1 (bL1 (bL1 (bL1 (bL1 (bL1 (bL1 (bL1 (bL1 (bL1 (bL1 (bL1 (bL1 (bL1 (bLt rfl)))))))))))))))))))))))))))))))) (bSet hk) ?_
    refine b_aload hX (a := k) 0 dX12_init_248 rfl ?_
    refine b_bipush hX dX12_init_249 (by decide) ?_
    refine b_newI hX (N := 6) ba_I rfl (by decide) (bLe hce rfl) (bLe hsl rfl) dX12_init_251 (bLen (j := 29) (bLc (bLc (bLc (bLc (bLc (bLc (bLc (bLc (bLc (bLc (bLc (bLc (bLc (bLc (bLc (bLc (bLc (bLc (bLc (bLc (bLc (bLc (bLc (bLc (bLc (bLc (bLc (bLc (bLc bL0)))))))))))))))))))))))))))))) (bAs ?_)
    refine b_put hX hin bf_X12_108 dX12_init_253 rfl rfl (bGet hk) (bL1 (bL1 (bL1 (bL1 (bL1 (bL1 (bL1 (bL1 (bL1 (bL1 (bL1 (bL1 (bL1 (bL1 (bL1 (bL1 (bL1 (bL1 (bL1 (bL1 (bL1 (bL1 (bL1 (bL1 (bL1 (bL1 (bL1 (bL1 (bL1 (bL1 (bL1 (bL1 (bLt rfl))))))))))))))))))))))))))))))))) (bSet hk) ?_
    refine b_aload hX (a := k) 0 dX12_init_256 rfl ?_
    refine b_sipush hX dX12_init_257 (by decide) ?_
    refine b_newI hX (N := 950) ba_I rfl (by decide) (bLe hce rfl) (bLe hsl rfl) dX12_init_260 (bLen (j := 30) (bLc (bLc (bLc (bLc (bLc (bLc (bLc (bLc (bLc (bLc (bLc (bLc (bLc (bLc (bLc (bLc (bLc (bLc (bLc (bLc (bLc (bLc (bLc (bLc (bLc (bLc (bLc (bLc (bLc (bLc bL0))))))))))))))))))))))))))))))) (bAs ?_)
    refine b_put hX hin bf_X12_111 dX12_init_262 rfl rfl (bGet hk) (bL1 (bL1 (bL1 (bL1 (bL1 (bL1 (bL1 (bL1 (bL1 (bL1 (bL1 (bL1 (bL1 (bL1 (bL1 (bL1 (bL1 (bL1 (bL1 (bL1 (bL1 (bL1 (bL1 (bL1 (bL1 (bL1 (bL1 (bL1 (bL1 (bL1 (bL1 (bL1 (bL1 (bLt rfl)))))))))))))))))))))))))))))))))) (bSet hk) ?_
    refine b_aload hX (a := k) 0 dX12_init_265 rfl ?_
    refine b_sipush hX dX12_init_266 (by decide) ?_
    refine b_newI hX (N := 1200) ba_I rfl (by decide) (bLe hce rfl) (bLe hsl rfl) dX12_init_269 (bLen (j := 31) (bLc (bLc (bLc (bLc (bLc (bLc (bLc (bLc (bLc (bLc (bLc (bLc (bLc (bLc (bLc (bLc (bLc (bLc (bLc (bLc (bLc (bLc (bLc (bLc (bLc (bLc (bLc (bLc (bLc (bLc (bLc bL0)))))))))))))))))))))))))))))))) (bAs ?_)
    refine b_put hX hin bf_X12_114 dX12_init_271 rfl rfl (bGet hk) (bL1 (bL1 (bL1 (bL1 (bL1 (bL1 (bL1 (bL1 (bL1 (bL1 (bL1 (bL1 (bL1 (bL1 (bL1 (bL1 (bL1 (bL1 (bL1 (bL1 (bL1 (bL1 (bL1 (bL1 (bL1 (bL1 (bL1 (bL1 (bL1 (bL1 (bL1 (bL1 (bL1 (bL1 (bLt rfl))))))))))))))))))))))))))))))))))) (bSet hk) ?_
    refine b_aload hX (a := k) 0 dX12_init_274 rfl ?_
    refine b_sipush hX dX12_init_275 (by decide) ?_
    refine b_newI hX (N := 1200) ba_I rfl (by decide) (bLe hce rfl) (bLe hsl rfl) dX12_init_278 (bLen (j := 32) (bLc (bLc (bLc (bLc (bLc (bLc (bLc (bLc (bLc (bLc (bLc (bLc (bLc (bLc (bLc (bLc (bLc (bLc (bLc (bLc (bLc (bLc (bLc (bLc (bLc (bLc (bLc (bLc (bLc (bLc (bLc (bLc bL0))))))))))))))))))))))))))))))))) (bAs ?_)
    refine b_put hX hin bf_X12_117 dX12_init_280 rfl rfl (bGet hk) (bL1 (bL1 (bL1 (bL1 (bL1 (bL1 (bL1 (bL1 (bL1 (bL1 (bL1 (bL1 (bL1 (bL1 (bL1 (bL1 (bL1 (bL1 (bL1 (bL1 (bL1 (bL1 (bL1 (bL1 (bL1 (bL1 (bL1 (bL1 (bL1 (bL1 (bL1 (bL1 (bL1 (bL1 (bL1 (bLt rfl)))))))))))))))))))))))))))))))))))) (bSet hk) ?_
    refine b_aload hX (a := k) 0 dX12_init_283 rfl ?_
    refine b_iconst hX dX12_init_284 ?_
    refine b_newI hX (N := 5) ba_I rfl (by decide) (bLe hce rfl) (bLe hsl rfl) dX12_init_285 (bLen (j := 33) (bLc (bLc (bLc (bLc (bLc (bLc (bLc (bLc (bLc (bLc (bLc (bLc (bLc (bLc (bLc (bLc (bLc (bLc (bLc (bLc (bLc (bLc (bLc (bLc (bLc (bLc (bLc (bLc (bLc (bLc (bLc (bLc (bLc bL0)))))))))))))))))))))))))))))))))) (bAs ?_)
    refine b_put hX hin bf_X12_120 dX12_init_287 rfl rfl (bGet hk) (bL1 (bL1 (bL1 (bL1 (bL1 (bL1 (bL1 (bL1 (bL1 (bL1 (bL1 (bL1 (bL1 (bL1 (bL1 (bL1 (bL1 (bL1 (bL1 (bL1 (bL1 (bL1 (bL1 (bL1 (bL1 (bL1 (bL1 (bL1 (bL1 (bL1 (bL1 (bL1 (bL1 (bL1 (bL1 (bL1 (bLt rfl))))))))))))))))))))))))))))))))))))) (bSet hk) ?_
    refine b_aload hX (a := k) 0 dX12_init_290 rfl ?_
    refine b_iconst hX dX12_init_291 ?_
    refine b_newI hX (N := 5) ba_I rfl (by decide) (bLe hce rfl) (bLe hsl rfl) dX12_init_292 (bLen (j := 34) (bLc (bLc (bLc (bLc (bLc (bLc (bLc (bLc (bLc (bLc (bLc (bLc (bLc (bLc (bLc (bLc (bLc (bLc (bLc (bLc (bLc (bLc (bLc (bLc (bLc (bLc (bLc (bLc (bLc (bLc (bLc (bLc (bLc (bLc bL0))))))))))))))))))))))))))))))))))) (bAs ?_)
    refine b_put hX hin bf_X12_123 dX12_init_294 rfl rfl (bGet hk) (bL1 (bL1 (bL1 (bL1 (bL1 (bL1 (bL1 (bL1 (bL1 (bL1 (bL1 (bL1 (bL1 (bL1 (bL1 (bL1 (bL1 (bL1 (bL1 (bL1 (bL1 (bL1 (bL1 (bL1 (bL1 (bL1 (bL1 (bL1 (bL1 (bL1 (bL1 (bL1 (bL1 (bL1 (bL1 (bL1 (bL1 (bLt rfl)))))))))))))))))))))))))))))))))))))) (bSet hk) ?_
    refine b_aload hX (a := k) 0 dX12_init_297 rfl ?_
    refine b_iconst hX dX12_init_298 ?_
    refine b_newI hX (N := 5) ba_I rfl (by decide) (bLe hce rfl) (bLe hsl rfl) dX12_init_299 (bLen (j := 35) (bLc (bLc (bLc (bLc (bLc (bLc (bLc (bLc (bLc (bLc (bLc (bLc (bLc (bLc (bLc (bLc (bLc (bLc (bLc (bLc (bLc (bLc (bLc (bLc (bLc (bLc (bLc (bLc (bLc (bLc (bLc (bLc (bLc (bLc (bLc bL0)))))))))))))))))))))))))))))))))))) (bAs ?_)
    refine b_put hX hin bf_X12_126 dX12_init_301 rfl rfl (bGet hk) (bL1 (bL1 (bL1 (bL1 (bL1 (bL1 (bL1 (bL1 (bL1 (bL1 (bL1 (bL1 (bL1 (bL1 (bL1 (bL1 (bL1 (bL1 (bL1 (bL1 (bL1 (bL1 (bL1 (bL1 (bL1 (bL1 (bL1 (bL1 (bL1 (bL1 (bL1 (bL1 (bL1 (bL1 (bL1 (bL1 (bL1 (bL1 (bLt rfl))))))))))))))))))))))))))))))))))))))) (bSet hk) ?_
    refine b_aload hX (a := k) 0 dX12_init_304 rfl ?_
    refine b_iconst hX dX12_init_305 ?_
    refine b_newI hX (N := 5) ba_I rfl (by decide) (bLe hce rfl) (bLe hsl rfl) dX12_init_306 (bLen (j := 36) (bLc (bLc (bLc (bLc (bLc (bLc (bLc (bLc (bLc (bLc (bLc (bLc (bLc (bLc (bLc (bLc (bLc (bLc (bLc (bLc (bLc (bLc (bLc (bLc (bLc (bLc (bLc (bLc (bLc (bLc (bLc (bLc (bLc (bLc (bLc (bLc bL0))))))))))))))))))))))))))))))))))))) (bAs ?_)
    refine b_put hX hin bf_X12_129 dX12_init_308 rfl rfl (bGet hk) (bL1 (bL1 (bL1 (bL1 (bL1 (bL1 (bL1 (bL1 (bL1 (bL1 (bL1 (bL1 (bL1 (bL1 (bL1 (bL1 (bL1 (bL1 (bL1 (bL1 (bL1 (bL1 (bL1 (bL1 (bL1 (bL1 (bL1 (bL1 (bL1 (bL1 (bL1 (bL1 (bL1 (bL1 (bL1 (bL1 (bL1 (bL1 (bL1 (bLt rfl)))))))))))))))))))))))))))))))))))))))) (bSet hk) ?_
    refine b_aload hX (a := k) 0 dX12_init_311 rfl ?_
    refine b_bipush hX dX12_init_312 (by decide) ?_
    refine b_newI hX (N := 40) ba_I rfl (by decide) (bLe hce rfl) (bLe hsl rfl) dX12_init_314 (bLen (j := 37) (bLc (bLc (bLc (bLc (bLc (bLc (bLc (bLc (bLc (bLc (bLc (bLc (bLc (bLc (bLc (bLc (bLc (bLc (bLc (bLc (bLc (bLc (bLc (bLc (bLc (bLc (bLc (bLc (bLc (bLc (bLc (bLc (bLc (bLc (bLc (bLc (bLc bL0)))))))))))))))))))))))))))))))))))))) (bAs ?_)
    refine b_put hX hin bf_X12_132 dX12_init_316 rfl rfl (bGet hk) (bL1 (bL1 (bL1 (bL1 (bL1 (bL1 (bL1 (bL1 (bL1 (bL1 (bL1 (bL1 (bL1 (bL1 (bL1 (bL1 (bL1 (bL1 (bL1 (bL1 (bL1 (bL1 (bL1 (bL1 (bL1 (bL1 (bL1 (bL1 (bL1 (bL1 (bL1 (bL1 (bL1 (bL1 (bL1 (bL1 (bL1 (bL1 (bL1 (bL1 (bLt rfl))))))))))))))))))))))))))))))))))))))))) (bSet hk) ?_
    refine b_aload hX (a := k) 0 dX12_init_319 rfl ?_
    refine b_iconst hX dX12_init_320 ?_
    refine b_newI hX (N := 5) ba_I rfl (by decide) (bLe hce rfl) (bLe hsl rfl) dX12_init_321 (bLen (j := 38) (bLc (bLc (bLc (bLc (bLc (bLc (bLc (bLc (bLc (bLc (bLc (bLc (bLc (bLc (bLc (bLc (bLc (bLc (bLc (bLc (bLc (bLc (bLc (bLc (bLc (bLc (bLc (bLc (bLc (bLc (bLc (bLc (bLc (bLc (bLc (bLc (bLc (bLc bL0))))))))))))))))))))))))))))))))))))))) (bAs ?_)
    refine b_put hX hin bf_X12_135 dX12_init_323 rfl rfl (bGet hk) (bL1 (bL1 (bL1 (bL1 (bL1 (bL1 (bL1 (bL1 (bL1 (bL1 (bL1 (bL1 (bL1 (bL1 (bL1 (bL1 (bL1 (bL1 (bL1 (bL1 (bL1 (bL1 (bL1 (bL1 (bL1 (bL1 (bL1 (bL1 (bL1 (bL1 (bL1 (bL1 (bL1 (bL1 (bL1 (bL1 (bL1 (bL1 (bL1 (bL1 (bL1 (bLt rfl)))))))))))))))))))))))))))))))))))))))))) (bSet hk) ?_
    refine b_aload hX (a := k) 0 dX12_init_326 rfl ?_
    refine b_bipush hX dX12_init_327 (by decide) ?_
    refine b_newI hX (N := 8) ba_I rfl (by decide) (bLe hce rfl) (bLe hsl rfl) dX12_init_329 (bLen (j := 39) (bLc (bLc (bLc (bLc (bLc (bLc (bLc (bLc (bLc (bLc (bLc (bLc (bLc (bLc (bLc (bLc (bLc (bLc (bLc (bLc (bLc (bLc (bLc (bLc (bLc (bLc (bLc (bLc (bLc (bLc (bLc (bLc (bLc (bLc (bLc (bLc (bLc (bLc (bLc bL0)))))))))))))))))))))))))))))))))))))))) (bAs ?_)
    refine b_put hX hin bf_X12_138 dX12_init_331 rfl rfl (bGet hk) (bL1 (bL1 (bL1 (bL1 (bL1 (bL1 (bL1 (bL1 (bL1 (bL1 (bL1 (bL1 (bL1 (bL1 (bL1 (bL1 (bL1 (bL1 (bL1 (bL1 (bL1 (bL1 (bL1 (bL1 (bL1 (bL1 (bL1 (bL1 (bL1 (bL1 (bL1 (bL1 (bL1 (bL1 (bL1 (bL1 (bL1 (bL1 (bL1 (bL1 (bL1 (bL1 (bLt rfl))))))))))))))))))))))))))))))))))))))))))) (bSet hk) ?_
    refine b_aload hX (a := k) 0 dX12_init_334 rfl ?_
    refine b_iconst hX dX12_init_335 ?_
    refine b_newI hX (N := 5) ba_I rfl (by decide) (bLe hce rfl) (bLe hsl rfl) dX12_init_336 (bLen (j := 40) (bLc (bLc (bLc (bLc (bLc (bLc (bLc (bLc (bLc (bLc (bLc (bLc (bLc (bLc (bLc (bLc (bLc (bLc (bLc (bLc (bLc (bLc (bLc (bLc (bLc (bLc (bLc (bLc (bLc (bLc (bLc (bLc (bLc (bLc (bLc (bLc (bLc (bLc (bLc (bLc bL0))))))))))))))))))))))))))))))))))))))))) (bAs ?_)
    refine b_put hX hin bf_X12_141 dX12_init_338 rfl rfl (bGet hk) (bL1 (bL1 (bL1 (bL1 (bL1 (bL1 (bL1 (bL1 (bL1 (bL1 (bL1 (bL1 (bL1 (bL1 (bL1 (bL1 (bL1 (bL1 (bL1 (bL1 (bL1 (bL1 (bL1 (bL1 (bL1 (bL1 (bL1 (bL1 (bL1 (bL1 (bL1 (bL1 (bL1 (bL1 (bL1 (bL1 (bL1 (bL1 (bL1 (bL1 (bL1 (bL1 (bL1 (bLt rfl)))))))))))))))))))))))))))))))))))))))))))) (bSet hk) ?_
    refine b_aload hX (a := k) 0 dX12_init_341 rfl ?_
    refine b_bipush hX dX12_init_342 (by decide) ?_
    refine b_newI hX (N := 32) ba_I rfl (by decide) (bLe hce rfl) (bLe hsl rfl) dX12_init_344 (bLen (j := 41) (bLc (bLc (bLc (bLc (bLc (bLc (bLc (bLc (bLc (bLc (bLc (bLc (bLc (bLc (bLc (bLc (bLc (bLc (bLc (bLc (bLc (bLc (bLc (bLc (bLc (bLc (bLc (bLc (bLc (bLc (bLc (bLc (bLc (bLc (bLc (bLc (bLc (bLc (bLc (bLc (bLc bL0)))))))))))))))))))))))))))))))))))))))))) (bAs ?_)
    refine b_put hX hin bf_X12_144 dX12_init_346 rfl rfl (bGet hk) (bL1 (bL1 (bL1 (bL1 (bL1 (bL1 (bL1 (bL1 (bL1 (bL1 (bL1 (bL1 (bL1 (bL1 (bL1 (bL1 (bL1 (bL1 (bL1 (bL1 (bL1 (bL1 (bL1 (bL1 (bL1 (bL1 (bL1 (bL1 (bL1 (bL1 (bL1 (bL1 (bL1 (bL1 (bL1 (bL1 (bL1 (bL1 (bL1 (bL1 (bL1 (bL1 (bL1 (bL1 (bLt rfl))))))))))))))))))))))))))))))))))))))))))))) (bSet hk) ?_
    refine b_aload hX (a := k) 0 dX12_init_349 rfl ?_
    refine b_iconst hX dX12_init_350 ?_
    refine b_newI hX (N := 5) ba_I rfl (by decide) (bLe hce rfl) (bLe hsl rfl) dX12_init_351 (bLen (j := 42) (bLc (bLc (bLc (bLc (bLc (bLc (bLc (bLc (bLc (bLc (bLc (bLc (bLc (bLc (bLc (bLc (bLc (bLc (bLc (bLc (bLc (bLc (bLc (bLc (bLc (bLc (bLc (bLc (bLc (bLc (bLc (bLc (bLc (bLc (bLc (bLc (bLc (bLc (bLc (bLc (bLc (bLc bL0))))))))))))))))))))))))))))))))))))))))))) (bAs ?_)
    refine b_put hX hin bf_X12_147 dX12_init_353 rfl rfl (bGet hk) (bL1 (bL1 (bL1 (bL1 (bL1 (bL1 (bL1 (bL1 (bL1 (bL1 (bL1 (bL1 (bL1 (bL1 (bL1 (bL1 (bL1 (bL1 (bL1 (bL1 (bL1 (bL1 (bL1 (bL1 (bL1 (bL1 (bL1 (bL1 (bL1 (bL1 (bL1 (bL1 (bL1 (bL1 (bL1 (bL1 (bL1 (bL1 (bL1 (bL1 (bL1 (bL1 (bL1 (bL1 (bL1 (bLt rfl)))))))))))))))))))))))))))))))))))))))))))))) (bSet hk) ?_
    refine b_aload hX (a := k) 0 dX12_init_356 rfl ?_
    refine b_bipush hX dX12_init_357 (by decide) ?_
    refine b_newI hX (N := 27) ba_I rfl (by decide) (bLe hce rfl) (bLe hsl rfl) dX12_init_359 (bLen (j := 43) (bLc (bLc (bLc (bLc (bLc (bLc (bLc (bLc (bLc (bLc (bLc (bLc (bLc (bLc (bLc (bLc (bLc (bLc (bLc (bLc (bLc (bLc (bLc (bLc (bLc (bLc (bLc (bLc (bLc (bLc (bLc (bLc (bLc (bLc (bLc (bLc (bLc (bLc (bLc (bLc (bLc (bLc (bLc bL0)))))))))))))))))))))))))))))))))))))))))))) (bAs ?_)
    refine b_put hX hin bf_X12_150 dX12_init_361 rfl rfl (bGet hk) (bL1 (bL1 (bL1 (bL1 (bL1 (bL1 (bL1 (bL1 (bL1 (bL1 (bL1 (bL1 (bL1 (bL1 (bL1 (bL1 (bL1 (bL1 (bL1 (bL1 (bL1 (bL1 (bL1 (bL1 (bL1 (bL1 (bL1 (bL1 (bL1 (bL1 (bL1 (bL1 (bL1 (bL1 (bL1 (bL1 (bL1 (bL1 (bL1 (bL1 (bL1 (bL1 (bL1 (bL1 (bL1 (bL1 (bLt rfl))))))))))))))))))))))))))))))))))))))))))))))) (bSet hk) ?_
    refine b_aload hX (a := k) 0 dX12_init_364 rfl ?_
    refine b_bipush hX dX12_init_365 (by decide) ?_
    refine b_newI hX (N := 80) ba_I rfl (by decide) (bLe hce rfl) (bLe hsl rfl) dX12_init_367 (bLen (j := 44) (bLc (bLc (bLc (bLc (bLc (bLc (bLc (bLc (bLc (bLc (bLc (bLc (bLc (bLc (bLc (bLc (bLc (bLc (bLc (bLc (bLc (bLc (bLc (bLc (bLc (bLc (bLc (bLc (bLc (bLc (bLc (bLc (bLc (bLc (bLc (bLc (bLc (bLc (bLc (bLc (bLc (bLc (bLc (bLc bL0))))))))))))))))))))))))))))))))))))))))))))) (bAs ?_)
    refine b_put hX hin bf_X12_153 dX12_init_369 rfl rfl (bGet hk) (bL1 (bL1 (bL1 (bL1 (bL1 (bL1 (bL1 (bL1 (bL1 (bL1 (bL1 (bL1 (bL1 (bL1 (bL1 (bL1 (bL1 (bL1 (bL1 (bL1 (bL1 (bL1 (bL1 (bL1 (bL1 (bL1 (bL1 (bL1 (bL1 (bL1 (bL1 (bL1 (bL1 (bL1 (bL1 (bL1 (bL1 (bL1 (bL1 (bL1 (bL1 (bL1 (bL1 (bL1 (bL1 (bL1 (bL1 (bLt rfl)))))))))))))))))))))))))))))))))))))))))))))))) (bSet hk) ?_
    refine b_aload hX (a := k) 0 dX12_init_372 rfl ?_
    refine b_bipush hX dX12_init_373 (by decide) ?_
    refine b_newI hX (N := 32) ba_I rfl (by decide) (bLe hce rfl) (bLe hsl rfl) dX12_init_375 (bLen (j := 45) (bLc (bLc (bLc (bLc (bLc (bLc (bLc (bLc (bLc (bLc (bLc (bLc (bLc (bLc (bLc (bLc (bLc (bLc (bLc (bLc (bLc (bLc (bLc (bLc (bLc (bLc (bLc (bLc (bLc (bLc (bLc (bLc (bLc (bLc (bLc (bLc (bLc (bLc (bLc (bLc (bLc (bLc (bLc (bLc (bLc bL0)))))))))))))))))))))))))))))))))))))))))))))) (bAs ?_)
    refine b_put hX hin bf_X12_156 dX12_init_377 rfl rfl (bGet hk) (bL1 (bL1 (bL1 (bL1 (bL1 (bL1 (bL1 (bL1 (bL1 (bL1 (bL1 (bL1 (bL1 (bL1 (bL1 (bL1 (bL1 (bL1 (bL1 (bL1 (bL1 (bL1 (bL1 (bL1 (bL1 (bL1 (bL1 (bL1 (bL1 (bL1 (bL1 (bL1 (bL1 (bL1 (bL1 (bL1 (bL1 (bL1 (bL1 (bL1 (bL1 (bL1 (bL1 (bL1 (bL1 (bL1 (bL1 (bL1 (bLt rfl))))))))))))))))))))))))))))))))))))))))))))))))) (bSet hk) ?_
    refine b_aload hX (a := k) 0 dX12_init_380 rfl ?_
    refine b_getf hX bf_X12_102 dX12_init_381 (bGet hk) (v := vR (E.length + 27)) (gdN (by decide) (gdN (by decide) (gdN (by decide) (gdN (by decide) (gdN (by decide) (gdN (by decide) (gdN (by decide) (gdN (by decide) (gdN (by decide) (gdN (by decide) (gdN (by decide) (gdN (by decide) (gdN (by decide) (gdN (by decide) (gdN (by decide) (gdN (by decide) (gdN (by decide) (gdN (by decide) (gdE (bL1 (bL1 (bL1 (bL1 (bL1 (bL1 (bL1 (bL1 (bL1 (bL1 (bL1 (bL1 (bL1 (bL1 (bL1 (bL1 (bL1 (bL1 (bL1 (bL1 (bL1 (bL1 (bL1 (bL1 (bL1 (bL1 (bL1 (bL1 (bL1 (bL1 (bLt rfl)))))))))))))))))))))))))))))))))))))))))))))))))) ?_
    refine b_bipush hX dX12_init_384 (by decide) ?_
    refine b_iconst hX dX12_init_386 ?_
    refine b_iast hX (k0 := E.length + 27) (N := 27) (j := 18) (us := []) (bGetR (gA (gA (gA (gA (gA (gA (gA (gA (gA (gA (gA (gA (gA (gA (gA (gA (gA (gA (gL (bLc (bLc (bLc (bLc (bLc (bLc (bLc (bLc (bLc (bLc (bLc (bLc (bLc (bLc (bLc (bLc (bLc (bLc (bLc (bLc (bLc (bLc (bLc (bLc (bLc (bLc (bLc bL0))))))))))))))))))))))))))))))))))))))))))))))) rfl (by decide) (by decide) dX12_init_387 bSetR ?_
    exact b_vret hX hB dX12_init_388 (Nat.le_of_ble_eq_true rfl) (Nat.le_of_ble_eq_true rfl) (by unfold bF12 bN12; rfl)
  rw [← bSet0 he] at go
  exact go
