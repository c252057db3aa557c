/-! the law's own methods -/
theorem lk_13 : Cond.classLink RL 13 (slEx 2) ∈ lw_tbl := lw_in3 _ (List.mem_of_getElem? (i := 196) (by decide +kernel))
theorem lk_18 : Cond.classLink RL 18 (slEx 1) ∈ lw_tbl := lw_in5 _ (List.mem_of_getElem? (i := 68) (by decide +kernel))
theorem ck_1 : Cond.castable (slEx 1) (slEx 1) ∈ lw_tbl := lw_in5 _ (List.mem_of_getElem? (i := 75) (by decide +kernel))
theorem ck_2 : Cond.castable (slEx 2) (slEx 2) ∈ lw_tbl := lw_in3 _ (List.mem_of_getElem? (i := 203) (by decide +kernel))
abbrev mL_coast : slMt := (yL_coast, cL_coast, 4, some .int)
abbrev hL_coast : List (Nat × Nat × Nat × Nat) := [(0, 9, 12, 13)]
theorem si_L_coast : slSiteH RL 119 mL_coast hL_coast 3 := ⟨lw_in3 _ (List.mem_of_getElem? (i := 193) (by decide +kernel)), lw_in1 _ (List.mem_of_getElem? (i := 0) (by decide +kernel)), lw_in3 _ (List.mem_of_getElem? (i := 195) (by decide +kernel)), by decide +kernel, by decide, lw_in3 _ (List.mem_of_getElem? (i := 194) (by decide +kernel))⟩
set_option maxHeartbeats 4000000 in
theorem vw_coast {G : slG} (hG : slGood G) {d K : Nat} (hd : 1 ≤ d) (hK : 1 ≤ K) {Φ : slPost} {σ : slM} {x1 : Int}
    (h : slCall G mX11_coast (d - 1) 1 (sR 11 0 :: [sI x1]) σ (fun r τ => (r.1 = 0 → InR r.2 ∧ Φ (0, 0) (slU τ 14 0 0 r.2)) ∧ (r.1 = 2 → Φ (0, 1) τ) ∧ r.1 ≠ 1)) :
    slCallH G mL_coast hL_coast d K [sR 11 0, sI x1, sR 14 0] σ Φ := by
  refine slCallH.of hG (by decide) rfl rfl (Nat.le_of_ble_eq_true rfl) (fun X hX hXG hB => ?_)
  subst hXG
  have hmL : (xc X).maxLocals = 4 := hB.2.2.2.1
  exact (show slOK X (slQ X (some .int) Φ K) 0 0 [some (sR 11 0), some (sI x1), some (sR 14 0), none] [] σ from
    st_aload_n hX dL_coast_0 rfl (st_iconst hX dL_coast_1 (st_aload_n hX dL_coast_2 rfl (st_iload_n hX dL_coast_3 rfl (st_callV hX (As := [sI x1]) (st := [sI 0, sR 14 0]) si_L_7 hB.room (by omega : d - 1 + 1 ≤ d) (by omega) rfl (Nat.le_of_ble_eq_true rfl) dL_coast_4 h (fun v τ hv => (hv.1 rfl).elim fun o1 h1 => st_i2l hX dL_coast_7 o1 (st_lastore hX rfl dL_coast_8 (by decide) (by decide) (st_goto hX dL_coast_9 (tgt := 15) (by decide) (st_iconst hX dL_coast_15 (st_iretH hX hB (by omega) dL_coast_16 h1))))) (fun k τ hk hv => by
      rcases hk with rfl | rfl
      · exact absurd rfl hv.2.2
      · exact st_catch1 hX hB (by omega) rfl (by decide) (by decide) lk_13 ck_2 (by rw [hmL]; decide : 3 < (xc X).maxLocals) (Or.inl ⟨3, rfl, dL_coast_12, rfl⟩) dL_coast_13 dL_coast_14 (hv.2.1 rfl)))))))
abbrev mL_count : slMt := (yL_count, cL_count, 4, some .int)
abbrev hL_count : List (Nat × Nat × Nat × Nat) := [(0, 9, 12, 18)]
theorem si_L_count : slSiteH RL 133 mL_count hL_count 3 := ⟨lw_in5 _ (List.mem_of_getElem? (i := 65) (by decide +kernel)), lw_in1 _ (List.mem_of_getElem? (i := 0) (by decide +kernel)), lw_in5 _ (List.mem_of_getElem? (i := 67) (by decide +kernel)), by decide +kernel, by decide, lw_in5 _ (List.mem_of_getElem? (i := 66) (by decide +kernel))⟩
set_option maxHeartbeats 4000000 in
theorem vw_count {G : slG} (hG : slGood G) {d K : Nat} (hd : 1 ≤ d) (hK : 1 ≤ K) {Φ : slPost} {σ : slM} {x1 : Int}
    (h : slCall G mX11_count (d - 1) 1 (sR 11 0 :: [sI x1]) σ (fun r τ => (r.1 = 0 → InR r.2 ∧ Φ (0, 0) (slU τ 14 0 0 r.2)) ∧ (r.1 = 1 → Φ (0, 1) τ) ∧ r.1 ≠ 2)) :
    slCallH G mL_count hL_count d K [sR 11 0, sI x1, sR 14 0] σ Φ := by
  refine slCallH.of hG (by decide) rfl rfl (Nat.le_of_ble_eq_true rfl) (fun X hX hXG hB => ?_)
  subst hXG
  have hmL : (xc X).maxLocals = 4 := hB.2.2.2.1
  exact (show slOK X (slQ X (some .int) Φ K) 0 0 [some (sR 11 0), some (sI x1), some (sR 14 0), none] [] σ from
    st_aload_n hX dL_count_0 rfl (st_iconst hX dL_count_1 (st_aload_n hX dL_count_2 rfl (st_iload_n hX dL_count_3 rfl (st_callV hX (As := [sI x1]) (st := [sI 0, sR 14 0]) si_L_15 hB.room (by omega : d - 1 + 1 ≤ d) (by omega) rfl (Nat.le_of_ble_eq_true rfl) dL_count_4 h (fun v τ hv => (hv.1 rfl).elim fun o1 h1 => st_i2l hX dL_count_7 o1 (st_lastore hX rfl dL_count_8 (by decide) (by decide) (st_goto hX dL_count_9 (tgt := 15) (by decide) (st_iconst hX dL_count_15 (st_iretH hX hB (by omega) dL_count_16 h1))))) (fun k τ hk hv => by
      rcases hk with rfl | rfl
      · exact st_catch1 hX hB (by omega) rfl (by decide) (by decide) lk_18 ck_1 (by rw [hmL]; decide : 3 < (xc X).maxLocals) (Or.inl ⟨3, rfl, dL_count_12, rfl⟩) dL_count_13 dL_count_14 (hv.2.1 rfl)
      · exact absurd rfl hv.2.2))))))
abbrev mL_light : slMt := (yL_light, cL_light, 5, some .int)
abbrev hL_light : List (Nat × Nat × Nat × Nat) := [(0, 10, 13, 18)]
theorem si_L_light : slSiteH RL 136 mL_light hL_light 4 := ⟨lw_in5 _ (List.mem_of_getElem? (i := 89) (by decide +kernel)), lw_in1 _ (List.mem_of_getElem? (i := 0) (by decide +kernel)), lw_in5 _ (List.mem_of_getElem? (i := 91) (by decide +kernel)), by decide +kernel, by decide, lw_in5 _ (List.mem_of_getElem? (i := 90) (by decide +kernel))⟩
set_option maxHeartbeats 4000000 in
theorem vw_light {G : slG} (hG : slGood G) {d K : Nat} (hd : 1 ≤ d) (hK : 2 ≤ K) {Φ : slPost} {σ : slM} {x1 : Int} {x2 : Int}
    (h : slCall G mX11_light (d - 1) 2 (sR 11 0 :: [sI x1, sI x2]) σ (fun r τ => (r.1 = 0 → InR r.2 ∧ Φ (0, 0) (slU τ 14 0 0 r.2)) ∧ (r.1 = 1 → Φ (0, 1) τ) ∧ r.1 ≠ 2)) :
    slCallH G mL_light hL_light d K [sR 11 0, sI x1, sI x2, sR 14 0] σ Φ := by
  refine slCallH.of hG (by decide) rfl rfl (Nat.le_of_ble_eq_true rfl) (fun X hX hXG hB => ?_)
  subst hXG
  have hmL : (xc X).maxLocals = 5 := hB.2.2.2.1
  exact (show slOK X (slQ X (some .int) Φ K) 0 0 [some (sR 11 0), some (sI x1), some (sI x2), some (sR 14 0), none] [] σ from
    st_aload_n hX dL_light_0 rfl (st_iconst hX dL_light_1 (st_aload_n hX dL_light_2 rfl (st_iload_n hX dL_light_3 rfl (st_iload_n hX dL_light_4 rfl (st_callV hX (As := [sI x1, sI x2]) (st := [sI 0, sR 14 0]) si_L_20 hB.room (by omega : d - 1 + 1 ≤ d) (by omega) rfl (Nat.le_of_ble_eq_true rfl) dL_light_5 h (fun v τ hv => (hv.1 rfl).elim fun o1 h1 => st_i2l hX dL_light_8 o1 (st_lastore hX rfl dL_light_9 (by decide) (by decide) (st_goto hX dL_light_10 (tgt := 17) (by decide) (st_iconst hX dL_light_17 (st_iretH hX hB (by omega) dL_light_18 h1))))) (fun k τ hk hv => by
      rcases hk with rfl | rfl
      · exact st_catch1 hX hB (by omega) rfl (by decide) (by decide) lk_18 ck_1 (by rw [hmL]; decide : 4 < (xc X).maxLocals) (Or.inr ⟨dL_light_13, rfl⟩) dL_light_15 dL_light_16 (hv.2.1 rfl)
      · exact absurd rfl hv.2.2)))))))
abbrev mL_ship : slMt := (yL_ship, cL_ship, 5, some .int)
abbrev hL_ship : List (Nat × Nat × Nat × Nat) := [(0, 10, 13, 18)]
theorem si_L_ship : slSiteH RL 140 mL_ship hL_ship 4 := ⟨lw_in5 _ (List.mem_of_getElem? (i := 101) (by decide +kernel)), lw_in1 _ (List.mem_of_getElem? (i := 0) (by decide +kernel)), lw_in5 _ (List.mem_of_getElem? (i := 103) (by decide +kernel)), by decide +kernel, by decide, lw_in5 _ (List.mem_of_getElem? (i := 102) (by decide +kernel))⟩
set_option maxHeartbeats 4000000 in
theorem vw_ship {G : slG} (hG : slGood G) {d K : Nat} (hd : 1 ≤ d) (hK : 2 ≤ K) {Φ : slPost} {σ : slM} {x1 : Int} {x2 : Int}
    (h : slCall G mX11_ship (d - 1) 2 (sR 11 0 :: [sI x1, sI x2]) σ (fun r τ => (r.1 = 0 → InR r.2 ∧ Φ (0, 0) (slU τ 14 0 0 r.2)) ∧ (r.1 = 1 → Φ (0, 1) τ) ∧ r.1 ≠ 2)) :
    slCallH G mL_ship hL_ship d K [sR 11 0, sI x1, sI x2, sR 14 0] σ Φ := by
  refine slCallH.of hG (by decide) rfl rfl (Nat.le_of_ble_eq_true rfl) (fun X hX hXG hB => ?_)
  subst hXG
  have hmL : (xc X).maxLocals = 5 := hB.2.2.2.1
  exact (show slOK X (slQ X (some .int) Φ K) 0 0 [some (sR 11 0), some (sI x1), some (sI x2), some (sR 14 0), none] [] σ from
    st_aload_n hX dL_ship_0 rfl (st_iconst hX dL_ship_1 (st_aload_n hX dL_ship_2 rfl (st_iload_n hX dL_ship_3 rfl (st_iload_n hX dL_ship_4 rfl (st_callV hX (As := [sI x1, sI x2]) (st := [sI 0, sR 14 0]) si_L_24 hB.room (by omega : d - 1 + 1 ≤ d) (by omega) rfl (Nat.le_of_ble_eq_true rfl) dL_ship_5 h (fun v τ hv => (hv.1 rfl).elim fun o1 h1 => st_i2l hX dL_ship_8 o1 (st_lastore hX rfl dL_ship_9 (by decide) (by decide) (st_goto hX dL_ship_10 (tgt := 17) (by decide) (st_iconst hX dL_ship_17 (st_iretH hX hB (by omega) dL_ship_18 h1))))) (fun k τ hk hv => by
      rcases hk with rfl | rfl
      · exact st_catch1 hX hB (by omega) rfl (by decide) (by decide) lk_18 ck_1 (by rw [hmL]; decide : 4 < (xc X).maxLocals) (Or.inr ⟨dL_ship_13, rfl⟩) dL_ship_15 dL_ship_16 (hv.2.1 rfl)
      · exact absurd rfl hv.2.2)))))))
abbrev mL_where : slMt := (yL_where, cL_where, 5, some .int)
abbrev hL_where : List (Nat × Nat × Nat × Nat) := [(0, 10, 13, 18)]
theorem si_L_where : slSiteH RL 143 mL_where hL_where 4 := ⟨lw_in5 _ (List.mem_of_getElem? (i := 129) (by decide +kernel)), lw_in1 _ (List.mem_of_getElem? (i := 0) (by decide +kernel)), lw_in5 _ (List.mem_of_getElem? (i := 131) (by decide +kernel)), by decide +kernel, by decide, lw_in5 _ (List.mem_of_getElem? (i := 130) (by decide +kernel))⟩
set_option maxHeartbeats 4000000 in
theorem vw_where {G : slG} (hG : slGood G) {d K : Nat} (hd : 1 ≤ d) (hK : 2 ≤ K) {Φ : slPost} {σ : slM} {x1 : Int} {x2 : Int}
    (h : slCall G mX11_where (d - 1) 2 (sR 11 0 :: [sI x1, sI x2]) σ (fun r τ => (r.1 = 0 → InR r.2 ∧ Φ (0, 0) (slU τ 14 0 0 r.2)) ∧ (r.1 = 1 → Φ (0, 1) τ) ∧ r.1 ≠ 2)) :
    slCallH G mL_where hL_where d K [sR 11 0, sI x1, sI x2, sR 14 0] σ Φ := by
  refine slCallH.of hG (by decide) rfl rfl (Nat.le_of_ble_eq_true rfl) (fun X hX hXG hB => ?_)
  subst hXG
  have hmL : (xc X).maxLocals = 5 := hB.2.2.2.1
  exact (show slOK X (slQ X (some .int) Φ K) 0 0 [some (sR 11 0), some (sI x1), some (sI x2), some (sR 14 0), none] [] σ from
    st_aload_n hX dL_where_0 rfl (st_iconst hX dL_where_1 (st_aload_n hX dL_where_2 rfl (st_iload_n hX dL_where_3 rfl (st_iload_n hX dL_where_4 rfl (st_callV hX (As := [sI x1, sI x2]) (st := [sI 0, sR 14 0]) si_L_27 hB.room (by omega : d - 1 + 1 ≤ d) (by omega) rfl (Nat.le_of_ble_eq_true rfl) dL_where_5 h (fun v τ hv => (hv.1 rfl).elim fun o1 h1 => st_i2l hX dL_where_8 o1 (st_lastore hX rfl dL_where_9 (by decide) (by decide) (st_goto hX dL_where_10 (tgt := 17) (by decide) (st_iconst hX dL_where_17 (st_iretH hX hB (by omega) dL_where_18 h1))))) (fun k τ hk hv => by
      rcases hk with rfl | rfl
      · exact st_catch1 hX hB (by omega) rfl (by decide) (by decide) lk_18 ck_1 (by rw [hmL]; decide : 4 < (xc X).maxLocals) (Or.inr ⟨dL_where_13, rfl⟩) dL_where_15 dL_where_16 (hv.2.1 rfl)
      · exact absurd rfl hv.2.2)))))))
abbrev mL_lamp : slMt := (yL_lamp, cL_lamp, 6, some .int)
abbrev hL_lamp : List (Nat × Nat × Nat × Nat) := [(0, 12, 15, 18)]
theorem si_L_lamp : slSiteH RL 146 mL_lamp hL_lamp 5 := ⟨lw_in5 _ (List.mem_of_getElem? (i := 144) (by decide +kernel)), lw_in1 _ (List.mem_of_getElem? (i := 0) (by decide +kernel)), lw_in5 _ (List.mem_of_getElem? (i := 146) (by decide +kernel)), by decide +kernel, by decide, lw_in5 _ (List.mem_of_getElem? (i := 145) (by decide +kernel))⟩
set_option maxHeartbeats 4000000 in
theorem vw_lamp {G : slG} (hG : slGood G) {d K : Nat} (hd : 1 ≤ d) (hK : 3 ≤ K) {Φ : slPost} {σ : slM} {x1 : Int} {x2 : Int} {x3 : Int}
    (h : slCall G mX11_lamp (d - 1) 3 (sR 11 0 :: [sI x1, sI x2, sI x3]) σ (fun r τ => (r.1 = 0 → InR r.2 ∧ Φ (0, 0) (slU τ 14 0 0 r.2)) ∧ (r.1 = 1 → Φ (0, 1) τ) ∧ r.1 ≠ 2)) :
    slCallH G mL_lamp hL_lamp d K [sR 11 0, sI x1, sI x2, sI x3, sR 14 0] σ Φ := by
  refine slCallH.of hG (by decide) rfl rfl (Nat.le_of_ble_eq_true rfl) (fun X hX hXG hB => ?_)
  subst hXG
  have hmL : (xc X).maxLocals = 6 := hB.2.2.2.1
  exact (show slOK X (slQ X (some .int) Φ K) 0 0 [some (sR 11 0), some (sI x1), some (sI x2), some (sI x3), some (sR 14 0), none] [] σ from
    st_aload hX dL_lamp_0 rfl (st_iconst hX dL_lamp_2 (st_aload_n hX dL_lamp_3 rfl (st_iload_n hX dL_lamp_4 rfl (st_iload_n hX dL_lamp_5 rfl (st_iload_n hX dL_lamp_6 rfl (st_callV hX (As := [sI x1, sI x2, sI x3]) (st := [sI 0, sR 14 0]) si_L_30 hB.room (by omega : d - 1 + 1 ≤ d) (by omega) rfl (Nat.le_of_ble_eq_true rfl) dL_lamp_7 h (fun v τ hv => (hv.1 rfl).elim fun o1 h1 => st_i2l hX dL_lamp_10 o1 (st_lastore hX rfl dL_lamp_11 (by decide) (by decide) (st_goto hX dL_lamp_12 (tgt := 19) (by decide) (st_iconst hX dL_lamp_19 (st_iretH hX hB (by omega) dL_lamp_20 h1))))) (fun k τ hk hv => by
      rcases hk with rfl | rfl
      · exact st_catch1 hX hB (by omega) rfl (by decide) (by decide) lk_18 ck_1 (by rw [hmL]; decide : 5 < (xc X).maxLocals) (Or.inr ⟨dL_lamp_15, rfl⟩) dL_lamp_17 dL_lamp_18 (hv.2.1 rfl)
      · exact absurd rfl hv.2.2))))))))
abbrev mL_seen : slMt := (yL_seen, cL_seen, 5, some .int)
abbrev hL_seen : List (Nat × Nat × Nat × Nat) := [(0, 10, 13, 18)]
theorem si_L_seen : slSiteH RL 150 mL_seen hL_seen 4 := ⟨lw_in5 _ (List.mem_of_getElem? (i := 152) (by decide +kernel)), lw_in1 _ (List.mem_of_getElem? (i := 0) (by decide +kernel)), lw_in5 _ (List.mem_of_getElem? (i := 154) (by decide +kernel)), by decide +kernel, by decide, lw_in5 _ (List.mem_of_getElem? (i := 153) (by decide +kernel))⟩
set_option maxHeartbeats 4000000 in
theorem vw_seen {G : slG} (hG : slGood G) {d K : Nat} (hd : 1 ≤ d) (hK : 2 ≤ K) {Φ : slPost} {σ : slM} {x1 : Int} {x2 : Int}
    (h : slCall G mX11_seen (d - 1) 2 (sR 11 0 :: [sI x1, sI x2]) σ (fun r τ => (r.1 = 0 → InR r.2 ∧ Φ (0, 0) (slU τ 14 0 0 r.2)) ∧ (r.1 = 1 → Φ (0, 1) τ) ∧ r.1 ≠ 2)) :
    slCallH G mL_seen hL_seen d K [sR 11 0, sI x1, sI x2, sR 14 0] σ Φ := by
  refine slCallH.of hG (by decide) rfl rfl (Nat.le_of_ble_eq_true rfl) (fun X hX hXG hB => ?_)
  subst hXG
  have hmL : (xc X).maxLocals = 5 := hB.2.2.2.1
  exact (show slOK X (slQ X (some .int) Φ K) 0 0 [some (sR 11 0), some (sI x1), some (sI x2), some (sR 14 0), none] [] σ from
    st_aload_n hX dL_seen_0 rfl (st_iconst hX dL_seen_1 (st_aload_n hX dL_seen_2 rfl (st_iload_n hX dL_seen_3 rfl (st_iload_n hX dL_seen_4 rfl (st_callV hX (As := [sI x1, sI x2]) (st := [sI 0, sR 14 0]) si_L_34 hB.room (by omega : d - 1 + 1 ≤ d) (by omega) rfl (Nat.le_of_ble_eq_true rfl) dL_seen_5 h (fun v τ hv => (hv.1 rfl).elim fun o1 h1 => st_i2l hX dL_seen_8 o1 (st_lastore hX rfl dL_seen_9 (by decide) (by decide) (st_goto hX dL_seen_10 (tgt := 17) (by decide) (st_iconst hX dL_seen_17 (st_iretH hX hB (by omega) dL_seen_18 h1))))) (fun k τ hk hv => by
      rcases hk with rfl | rfl
      · exact st_catch1 hX hB (by omega) rfl (by decide) (by decide) lk_18 ck_1 (by rw [hmL]; decide : 4 < (xc X).maxLocals) (Or.inr ⟨dL_seen_13, rfl⟩) dL_seen_15 dL_seen_16 (hv.2.1 rfl)
      · exact absurd rfl hv.2.2)))))))
abbrev mL_watch : slMt := (yL_watch, cL_watch, 5, some .int)
abbrev hL_watch : List (Nat × Nat × Nat × Nat) := [(0, 10, 13, 18)]
theorem si_L_watch : slSiteH RL 153 mL_watch hL_watch 4 := ⟨lw_in5 _ (List.mem_of_getElem? (i := 160) (by decide +kernel)), lw_in1 _ (List.mem_of_getElem? (i := 0) (by decide +kernel)), lw_in5 _ (List.mem_of_getElem? (i := 162) (by decide +kernel)), by decide +kernel, by decide, lw_in5 _ (List.mem_of_getElem? (i := 161) (by decide +kernel))⟩
set_option maxHeartbeats 4000000 in
theorem vw_watch {G : slG} (hG : slGood G) {d K : Nat} (hd : 1 ≤ d) (hK : 2 ≤ K) {Φ : slPost} {σ : slM} {x1 : Int} {x2 : Int}
    (h : slCall G mX11_watch (d - 1) 2 (sR 11 0 :: [sI x1, sI x2]) σ (fun r τ => (r.1 = 0 → InR r.2 ∧ Φ (0, 0) (slU τ 14 0 0 r.2)) ∧ (r.1 = 1 → Φ (0, 1) τ) ∧ r.1 ≠ 2)) :
    slCallH G mL_watch hL_watch d K [sR 11 0, sI x1, sI x2, sR 14 0] σ Φ := by
  refine slCallH.of hG (by decide) rfl rfl (Nat.le_of_ble_eq_true rfl) (fun X hX hXG hB => ?_)
  subst hXG
  have hmL : (xc X).maxLocals = 5 := hB.2.2.2.1
  exact (show slOK X (slQ X (some .int) Φ K) 0 0 [some (sR 11 0), some (sI x1), some (sI x2), some (sR 14 0), none] [] σ from
    st_aload_n hX dL_watch_0 rfl (st_iconst hX dL_watch_1 (st_aload_n hX dL_watch_2 rfl (st_iload_n hX dL_watch_3 rfl (st_iload_n hX dL_watch_4 rfl (st_callV hX (As := [sI x1, sI x2]) (st := [sI 0, sR 14 0]) si_L_37 hB.room (by omega : d - 1 + 1 ≤ d) (by omega) rfl (Nat.le_of_ble_eq_true rfl) dL_watch_5 h (fun v τ hv => (hv.1 rfl).elim fun o1 h1 => st_i2l hX dL_watch_8 o1 (st_lastore hX rfl dL_watch_9 (by decide) (by decide) (st_goto hX dL_watch_10 (tgt := 17) (by decide) (st_iconst hX dL_watch_17 (st_iretH hX hB (by omega) dL_watch_18 h1))))) (fun k τ hk hv => by
      rcases hk with rfl | rfl
      · exact st_catch1 hX hB (by omega) rfl (by decide) (by decide) lk_18 ck_1 (by rw [hmL]; decide : 4 < (xc X).maxLocals) (Or.inr ⟨dL_watch_13, rfl⟩) dL_watch_15 dL_watch_16 (hv.2.1 rfl)
      · exact absurd rfl hv.2.2)))))))
abbrev mL_content : slMt := (yL_content, cL_content, 4, some .int)
abbrev hL_content : List (Nat × Nat × Nat × Nat) := [(0, 9, 12, 18)]
theorem si_L_content : slSiteH RL 156 mL_content hL_content 3 := ⟨lw_in5 _ (List.mem_of_getElem? (i := 172) (by decide +kernel)), lw_in1 _ (List.mem_of_getElem? (i := 0) (by decide +kernel)), lw_in5 _ (List.mem_of_getElem? (i := 174) (by decide +kernel)), by decide +kernel, by decide, lw_in5 _ (List.mem_of_getElem? (i := 173) (by decide +kernel))⟩
set_option maxHeartbeats 4000000 in
theorem vw_content {G : slG} (hG : slGood G) {d K : Nat} (hd : 1 ≤ d) (hK : 1 ≤ K) {Φ : slPost} {σ : slM} {x1 : Int}
    (h : slCall G mX11_content (d - 1) 1 (sR 11 0 :: [sI x1]) σ (fun r τ => (r.1 = 0 → InR r.2 ∧ Φ (0, 0) (slU τ 14 0 0 r.2)) ∧ (r.1 = 1 → Φ (0, 1) τ) ∧ r.1 ≠ 2)) :
    slCallH G mL_content hL_content d K [sR 11 0, sI x1, sR 14 0] σ Φ := by
  refine slCallH.of hG (by decide) rfl rfl (Nat.le_of_ble_eq_true rfl) (fun X hX hXG hB => ?_)
  subst hXG
  have hmL : (xc X).maxLocals = 4 := hB.2.2.2.1
  exact (show slOK X (slQ X (some .int) Φ K) 0 0 [some (sR 11 0), some (sI x1), some (sR 14 0), none] [] σ from
    st_aload_n hX dL_content_0 rfl (st_iconst hX dL_content_1 (st_aload_n hX dL_content_2 rfl (st_iload_n hX dL_content_3 rfl (st_callV hX (As := [sI x1]) (st := [sI 0, sR 14 0]) si_L_40 hB.room (by omega : d - 1 + 1 ≤ d) (by omega) rfl (Nat.le_of_ble_eq_true rfl) dL_content_4 h (fun v τ hv => (hv.1 rfl).elim fun o1 h1 => st_i2l hX dL_content_7 o1 (st_lastore hX rfl dL_content_8 (by decide) (by decide) (st_goto hX dL_content_9 (tgt := 15) (by decide) (st_iconst hX dL_content_15 (st_iretH hX hB (by omega) dL_content_16 h1))))) (fun k τ hk hv => by
      rcases hk with rfl | rfl
      · exact st_catch1 hX hB (by omega) rfl (by decide) (by decide) lk_18 ck_1 (by rw [hmL]; decide : 3 < (xc X).maxLocals) (Or.inl ⟨3, rfl, dL_content_12, rfl⟩) dL_content_13 dL_content_14 (hv.2.1 rfl)
      · exact absurd rfl hv.2.2))))))
abbrev mL_met : slMt := (yL_met, cL_met, 5, some .int)
abbrev hL_met : List (Nat × Nat × Nat × Nat) := [(0, 10, 13, 18), (0, 10, 17, 13)]
theorem si_L_met : slSiteH RL 159 mL_met hL_met 4 := ⟨lw_in5 _ (List.mem_of_getElem? (i := 183) (by decide +kernel)), lw_in1 _ (List.mem_of_getElem? (i := 0) (by decide +kernel)), lw_in5 _ (List.mem_of_getElem? (i := 185) (by decide +kernel)), by decide +kernel, by decide, lw_in5 _ (List.mem_of_getElem? (i := 184) (by decide +kernel))⟩
set_option maxHeartbeats 4000000 in
theorem vw_met {G : slG} (hG : slGood G) {d K : Nat} (hd : 1 ≤ d) (hK : 3 ≤ K) {Φ : slPost} {σ : slM} {x1 : Int} {x2 : Int}
    (h : slCall G mX11_met (d - 1) 3 (sR 11 0 :: [sI x1, sI x2]) σ (fun r τ => (r.1 = 0 → InR r.2 ∧ Φ (0, 0) (slU τ 14 0 0 r.2)) ∧ (r.1 = 1 → Φ (0, 1) τ) ∧ (r.1 = 2 → Φ (0, 2) τ) ∧ True)) :
    slCallH G mL_met hL_met d K [sR 11 0, sI x1, sI x2, sR 14 0] σ Φ := by
  refine slCallH.of hG (by decide) rfl rfl (Nat.le_of_ble_eq_true rfl) (fun X hX hXG hB => ?_)
  subst hXG
  have hmL : (xc X).maxLocals = 5 := hB.2.2.2.1
  exact (show slOK X (slQ X (some .int) Φ K) 0 0 [some (sR 11 0), some (sI x1), some (sI x2), some (sR 14 0), none] [] σ from
    st_aload_n hX dL_met_0 rfl (st_iconst hX dL_met_1 (st_aload_n hX dL_met_2 rfl (st_iload_n hX dL_met_3 rfl (st_iload_n hX dL_met_4 rfl (st_callV hX (As := [sI x1, sI x2]) (st := [sI 0, sR 14 0]) si_L_43 hB.room (by omega : d - 1 + 1 ≤ d) (by omega) rfl (Nat.le_of_ble_eq_true rfl) dL_met_5 h (fun v τ hv => (hv.1 rfl).elim fun o1 h1 => st_i2l hX dL_met_8 o1 (st_lastore hX rfl dL_met_9 (by decide) (by decide) (st_goto hX dL_met_10 (tgt := 21) (by decide) (st_iconst hX dL_met_21 (st_iretH hX hB (by omega) dL_met_22 h1))))) (fun k τ hk hv => by
      rcases hk with rfl | rfl
      · exact st_catch1 hX hB (by omega) rfl (by decide) (by decide) lk_18 ck_1 (by rw [hmL]; decide : 4 < (xc X).maxLocals) (Or.inr ⟨dL_met_13, rfl⟩) dL_met_15 dL_met_16 (hv.2.1 rfl)
      · exact st_catch2 hX hB (by omega) rfl (by decide) lk_18 (by decide) (by decide) lk_13 ck_2 (by rw [hmL]; decide : 4 < (xc X).maxLocals) (Or.inr ⟨dL_met_17, rfl⟩) dL_met_19 dL_met_20 (hv.2.2.1 rfl))))))))
abbrev mL_fill : slMt := (yL_fill, cL_fill, 5, some .int)
abbrev hL_fill : List (Nat × Nat × Nat × Nat) := [(0, 10, 13, 18)]
theorem si_L_fill : slSiteH RL 162 mL_fill hL_fill 4 := ⟨lw_in5 _ (List.mem_of_getElem? (i := 198) (by decide +kernel)), lw_in1 _ (List.mem_of_getElem? (i := 0) (by decide +kernel)), lw_in5 _ (List.mem_of_getElem? (i := 200) (by decide +kernel)), by decide +kernel, by decide, lw_in5 _ (List.mem_of_getElem? (i := 199) (by decide +kernel))⟩
set_option maxHeartbeats 4000000 in
theorem vw_fill {G : slG} (hG : slGood G) {d K : Nat} (hd : 1 ≤ d) (hK : 1 ≤ K) {Φ : slPost} {σ : slM} {x1 : Int} {x2 : Int}
    (h : slCall G mX11_fill (d - 1) 1 (sR 11 0 :: [sI x1, sI x2]) σ (fun r τ => (r.1 = 0 → InR r.2 ∧ Φ (0, 0) (slU τ 14 0 0 r.2)) ∧ (r.1 = 1 → Φ (0, 1) τ) ∧ r.1 ≠ 2)) :
    slCallH G mL_fill hL_fill d K [sR 11 0, sI x1, sI x2, sR 14 0] σ Φ := by
  refine slCallH.of hG (by decide) rfl rfl (Nat.le_of_ble_eq_true rfl) (fun X hX hXG hB => ?_)
  subst hXG
  have hmL : (xc X).maxLocals = 5 := hB.2.2.2.1
  exact (show slOK X (slQ X (some .int) Φ K) 0 0 [some (sR 11 0), some (sI x1), some (sI x2), some (sR 14 0), none] [] σ from
    st_aload_n hX dL_fill_0 rfl (st_iconst hX dL_fill_1 (st_aload_n hX dL_fill_2 rfl (st_iload_n hX dL_fill_3 rfl (st_iload_n hX dL_fill_4 rfl (st_callV hX (As := [sI x1, sI x2]) (st := [sI 0, sR 14 0]) si_L_46 hB.room (by omega : d - 1 + 1 ≤ d) (by omega) rfl (Nat.le_of_ble_eq_true rfl) dL_fill_5 h (fun v τ hv => (hv.1 rfl).elim fun o1 h1 => st_i2l hX dL_fill_8 o1 (st_lastore hX rfl dL_fill_9 (by decide) (by decide) (st_goto hX dL_fill_10 (tgt := 17) (by decide) (st_iconst hX dL_fill_17 (st_iretH hX hB (by omega) dL_fill_18 h1))))) (fun k τ hk hv => by
      rcases hk with rfl | rfl
      · exact st_catch1 hX hB (by omega) rfl (by decide) (by decide) lk_18 ck_1 (by rw [hmL]; decide : 4 < (xc X).maxLocals) (Or.inr ⟨dL_fill_13, rfl⟩) dL_fill_15 dL_fill_16 (hv.2.1 rfl)
      · exact absurd rfl hv.2.2)))))))
abbrev mL_moor : slMt := (yL_moor, cL_moor, 5, some .int)
abbrev hL_moor : List (Nat × Nat × Nat × Nat) := [(0, 10, 13, 18)]
theorem si_L_moor : slSiteH RL 165 mL_moor hL_moor 4 := ⟨lw_in5 _ (List.mem_of_getElem? (i := 205) (by decide +kernel)), lw_in1 _ (List.mem_of_getElem? (i := 0) (by decide +kernel)), lw_in5 _ (List.mem_of_getElem? (i := 207) (by decide +kernel)), by decide +kernel, by decide, lw_in5 _ (List.mem_of_getElem? (i := 206) (by decide +kernel))⟩
set_option maxHeartbeats 4000000 in
theorem vw_moor {G : slG} (hG : slGood G) {d K : Nat} (hd : 1 ≤ d) (hK : 1 ≤ K) {Φ : slPost} {σ : slM} {x1 : Int} {x2 : Int}
    (h : slCall G mX11_moor (d - 1) 1 (sR 11 0 :: [sI x1, sI x2]) σ (fun r τ => (r.1 = 0 → InR r.2 ∧ Φ (0, 0) (slU τ 14 0 0 r.2)) ∧ (r.1 = 1 → Φ (0, 1) τ) ∧ r.1 ≠ 2)) :
    slCallH G mL_moor hL_moor d K [sR 11 0, sI x1, sI x2, sR 14 0] σ Φ := by
  refine slCallH.of hG (by decide) rfl rfl (Nat.le_of_ble_eq_true rfl) (fun X hX hXG hB => ?_)
  subst hXG
  have hmL : (xc X).maxLocals = 5 := hB.2.2.2.1
  exact (show slOK X (slQ X (some .int) Φ K) 0 0 [some (sR 11 0), some (sI x1), some (sI x2), some (sR 14 0), none] [] σ from
    st_aload_n hX dL_moor_0 rfl (st_iconst hX dL_moor_1 (st_aload_n hX dL_moor_2 rfl (st_iload_n hX dL_moor_3 rfl (st_iload_n hX dL_moor_4 rfl (st_callV hX (As := [sI x1, sI x2]) (st := [sI 0, sR 14 0]) si_L_49 hB.room (by omega : d - 1 + 1 ≤ d) (by omega) rfl (Nat.le_of_ble_eq_true rfl) dL_moor_5 h (fun v τ hv => (hv.1 rfl).elim fun o1 h1 => st_i2l hX dL_moor_8 o1 (st_lastore hX rfl dL_moor_9 (by decide) (by decide) (st_goto hX dL_moor_10 (tgt := 17) (by decide) (st_iconst hX dL_moor_17 (st_iretH hX hB (by omega) dL_moor_18 h1))))) (fun k τ hk hv => by
      rcases hk with rfl | rfl
      · exact st_catch1 hX hB (by omega) rfl (by decide) (by decide) lk_18 ck_1 (by rw [hmL]; decide : 4 < (xc X).maxLocals) (Or.inr ⟨dL_moor_13, rfl⟩) dL_moor_15 dL_moor_16 (hv.2.1 rfl)
      · exact absurd rfl hv.2.2)))))))
abbrev mL_push : slMt := (yL_push, cL_push, 5, some .int)
abbrev hL_push : List (Nat × Nat × Nat × Nat) := [(0, 10, 13, 18)]
theorem si_L_push : slSiteH RL 168 mL_push hL_push 4 := ⟨lw_in5 _ (List.mem_of_getElem? (i := 217) (by decide +kernel)), lw_in1 _ (List.mem_of_getElem? (i := 0) (by decide +kernel)), lw_in5 _ (List.mem_of_getElem? (i := 219) (by decide +kernel)), by decide +kernel, by decide, lw_in5 _ (List.mem_of_getElem? (i := 218) (by decide +kernel))⟩
set_option maxHeartbeats 4000000 in
theorem vw_push {G : slG} (hG : slGood G) {d K : Nat} (hd : 1 ≤ d) (hK : 1 ≤ K) {Φ : slPost} {σ : slM} {x1 : Int} {x2 : Int}
    (h : slCall G mX11_push (d - 1) 1 (sR 11 0 :: [sI x1, sI x2]) σ (fun r τ => (r.1 = 0 → InR r.2 ∧ Φ (0, 0) (slU τ 14 0 0 r.2)) ∧ (r.1 = 1 → Φ (0, 1) τ) ∧ r.1 ≠ 2)) :
    slCallH G mL_push hL_push d K [sR 11 0, sI x1, sI x2, sR 14 0] σ Φ := by
  refine slCallH.of hG (by decide) rfl rfl (Nat.le_of_ble_eq_true rfl) (fun X hX hXG hB => ?_)
  subst hXG
  have hmL : (xc X).maxLocals = 5 := hB.2.2.2.1
  exact (show slOK X (slQ X (some .int) Φ K) 0 0 [some (sR 11 0), some (sI x1), some (sI x2), some (sR 14 0), none] [] σ from
    st_aload_n hX dL_push_0 rfl (st_iconst hX dL_push_1 (st_aload_n hX dL_push_2 rfl (st_iload_n hX dL_push_3 rfl (st_iload_n hX dL_push_4 rfl (st_callV hX (As := [sI x1, sI x2]) (st := [sI 0, sR 14 0]) si_L_52 hB.room (by omega : d - 1 + 1 ≤ d) (by omega) rfl (Nat.le_of_ble_eq_true rfl) dL_push_5 h (fun v τ hv => (hv.1 rfl).elim fun o1 h1 => st_i2l hX dL_push_8 o1 (st_lastore hX rfl dL_push_9 (by decide) (by decide) (st_goto hX dL_push_10 (tgt := 17) (by decide) (st_iconst hX dL_push_17 (st_iretH hX hB (by omega) dL_push_18 h1))))) (fun k τ hk hv => by
      rcases hk with rfl | rfl
      · exact st_catch1 hX hB (by omega) rfl (by decide) (by decide) lk_18 ck_1 (by rw [hmL]; decide : 4 < (xc X).maxLocals) (Or.inr ⟨dL_push_13, rfl⟩) dL_push_15 dL_push_16 (hv.2.1 rfl)
      · exact absurd rfl hv.2.2)))))))
abbrev mL_want : slMt := (yL_want, cL_want, 5, some .int)
abbrev hL_want : List (Nat × Nat × Nat × Nat) := [(0, 10, 13, 18)]
theorem si_L_want : slSiteH RL 176 mL_want hL_want 4 := ⟨lw_in5 _ (List.mem_of_getElem? (i := 228) (by decide +kernel)), lw_in1 _ (List.mem_of_getElem? (i := 0) (by decide +kernel)), lw_in5 _ (List.mem_of_getElem? (i := 230) (by decide +kernel)), by decide +kernel, by decide, lw_in5 _ (List.mem_of_getElem? (i := 229) (by decide +kernel))⟩
set_option maxHeartbeats 4000000 in
theorem vw_want {G : slG} (hG : slGood G) {d K : Nat} (hd : 1 ≤ d) (hK : 1 ≤ K) {Φ : slPost} {σ : slM} {x1 : Int} {x2 : Int}
    (h : slCall G mX11_want (d - 1) 1 (sR 11 0 :: [sI x1, sI x2]) σ (fun r τ => (r.1 = 0 → InR r.2 ∧ Φ (0, 0) (slU τ 14 0 0 r.2)) ∧ (r.1 = 1 → Φ (0, 1) τ) ∧ r.1 ≠ 2)) :
    slCallH G mL_want hL_want d K [sR 11 0, sI x1, sI x2, sR 14 0] σ Φ := by
  refine slCallH.of hG (by decide) rfl rfl (Nat.le_of_ble_eq_true rfl) (fun X hX hXG hB => ?_)
  subst hXG
  have hmL : (xc X).maxLocals = 5 := hB.2.2.2.1
  exact (show slOK X (slQ X (some .int) Φ K) 0 0 [some (sR 11 0), some (sI x1), some (sI x2), some (sR 14 0), none] [] σ from
    st_aload_n hX dL_want_0 rfl (st_iconst hX dL_want_1 (st_aload_n hX dL_want_2 rfl (st_iload_n hX dL_want_3 rfl (st_iload_n hX dL_want_4 rfl (st_callV hX (As := [sI x1, sI x2]) (st := [sI 0, sR 14 0]) si_L_55 hB.room (by omega : d - 1 + 1 ≤ d) (by omega) rfl (Nat.le_of_ble_eq_true rfl) dL_want_5 h (fun v τ hv => (hv.1 rfl).elim fun o1 h1 => st_i2l hX dL_want_8 o1 (st_lastore hX rfl dL_want_9 (by decide) (by decide) (st_goto hX dL_want_10 (tgt := 17) (by decide) (st_iconst hX dL_want_17 (st_iretH hX hB (by omega) dL_want_18 h1))))) (fun k τ hk hv => by
      rcases hk with rfl | rfl
      · exact st_catch1 hX hB (by omega) rfl (by decide) (by decide) lk_18 ck_1 (by rw [hmL]; decide : 4 < (xc X).maxLocals) (Or.inr ⟨dL_want_13, rfl⟩) dL_want_15 dL_want_16 (hv.2.1 rfl)
      · exact absurd rfl hv.2.2)))))))
abbrev mL_lamps : slMt := (yL_lamps, cL_lamps, 4, some .int)
abbrev hL_lamps : List (Nat × Nat × Nat × Nat) := [(0, 9, 12, 18)]
theorem si_L_lamps : slSiteH RL 183 mL_lamps hL_lamps 3 := ⟨lw_in5 _ (List.mem_of_getElem? (i := 235) (by decide +kernel)), lw_in1 _ (List.mem_of_getElem? (i := 0) (by decide +kernel)), lw_in5 _ (List.mem_of_getElem? (i := 237) (by decide +kernel)), by decide +kernel, by decide, lw_in5 _ (List.mem_of_getElem? (i := 236) (by decide +kernel))⟩
set_option maxHeartbeats 4000000 in
theorem vw_lamps {G : slG} (hG : slGood G) {d K : Nat} (hd : 1 ≤ d) (hK : 1 ≤ K) {Φ : slPost} {σ : slM} {x1 : Int}
    (h : slCall G mX11_lamps (d - 1) 1 (sR 11 0 :: [sI x1]) σ (fun r τ => (r.1 = 0 → InR r.2 ∧ Φ (0, 0) (slU τ 14 0 0 r.2)) ∧ (r.1 = 1 → Φ (0, 1) τ) ∧ r.1 ≠ 2)) :
    slCallH G mL_lamps hL_lamps d K [sR 11 0, sI x1, sR 14 0] σ Φ := by
  refine slCallH.of hG (by decide) rfl rfl (Nat.le_of_ble_eq_true rfl) (fun X hX hXG hB => ?_)
  subst hXG
  have hmL : (xc X).maxLocals = 4 := hB.2.2.2.1
  exact (show slOK X (slQ X (some .int) Φ K) 0 0 [some (sR 11 0), some (sI x1), some (sR 14 0), none] [] σ from
    st_aload_n hX dL_lamps_0 rfl (st_iconst hX dL_lamps_1 (st_aload_n hX dL_lamps_2 rfl (st_iload_n hX dL_lamps_3 rfl (st_callV hX (As := [sI x1]) (st := [sI 0, sR 14 0]) si_L_58 hB.room (by omega : d - 1 + 1 ≤ d) (by omega) rfl (Nat.le_of_ble_eq_true rfl) dL_lamps_4 h (fun v τ hv => (hv.1 rfl).elim fun o1 h1 => st_i2l hX dL_lamps_7 o1 (st_lastore hX rfl dL_lamps_8 (by decide) (by decide) (st_goto hX dL_lamps_9 (tgt := 15) (by decide) (st_iconst hX dL_lamps_15 (st_iretH hX hB (by omega) dL_lamps_16 h1))))) (fun k τ hk hv => by
      rcases hk with rfl | rfl
      · exact st_catch1 hX hB (by omega) rfl (by decide) (by decide) lk_18 ck_1 (by rw [hmL]; decide : 3 < (xc X).maxLocals) (Or.inl ⟨3, rfl, dL_lamps_12, rfl⟩) dL_lamps_13 dL_lamps_14 (hv.2.1 rfl)
      · exact absurd rfl hv.2.2))))))
abbrev mL_signs : slMt := (yL_signs, cL_signs, 5, some .int)
abbrev hL_signs : List (Nat × Nat × Nat × Nat) := [(0, 10, 13, 18)]
theorem si_L_signs : slSiteH RL 186 mL_signs hL_signs 4 := ⟨lw_in6 _ (List.mem_of_getElem? (i := 8) (by decide +kernel)), lw_in1 _ (List.mem_of_getElem? (i := 0) (by decide +kernel)), lw_in6 _ (List.mem_of_getElem? (i := 10) (by decide +kernel)), by decide +kernel, by decide, lw_in6 _ (List.mem_of_getElem? (i := 9) (by decide +kernel))⟩
set_option maxHeartbeats 4000000 in
theorem vw_signs {G : slG} (hG : slGood G) {d K : Nat} (hd : 1 ≤ d) (hK : 2 ≤ K) {Φ : slPost} {σ : slM} {x1 : Int} {x2 : Int}
    (h : slCall G mX11_signs (d - 1) 2 (sR 11 0 :: [sI x1, sI x2]) σ (fun r τ => (r.1 = 0 → InR r.2 ∧ Φ (0, 0) (slU τ 14 0 0 r.2)) ∧ (r.1 = 1 → Φ (0, 1) τ) ∧ r.1 ≠ 2)) :
    slCallH G mL_signs hL_signs d K [sR 11 0, sI x1, sI x2, sR 14 0] σ Φ := by
  refine slCallH.of hG (by decide) rfl rfl (Nat.le_of_ble_eq_true rfl) (fun X hX hXG hB => ?_)
  subst hXG
  have hmL : (xc X).maxLocals = 5 := hB.2.2.2.1
  exact (show slOK X (slQ X (some .int) Φ K) 0 0 [some (sR 11 0), some (sI x1), some (sI x2), some (sR 14 0), none] [] σ from
    st_aload_n hX dL_signs_0 rfl (st_iconst hX dL_signs_1 (st_aload_n hX dL_signs_2 rfl (st_iload_n hX dL_signs_3 rfl (st_iload_n hX dL_signs_4 rfl (st_callV hX (As := [sI x1, sI x2]) (st := [sI 0, sR 14 0]) si_L_61 hB.room (by omega : d - 1 + 1 ≤ d) (by omega) rfl (Nat.le_of_ble_eq_true rfl) dL_signs_5 h (fun v τ hv => (hv.1 rfl).elim fun o1 h1 => st_i2l hX dL_signs_8 o1 (st_lastore hX rfl dL_signs_9 (by decide) (by decide) (st_goto hX dL_signs_10 (tgt := 17) (by decide) (st_iconst hX dL_signs_17 (st_iretH hX hB (by omega) dL_signs_18 h1))))) (fun k τ hk hv => by
      rcases hk with rfl | rfl
      · exact st_catch1 hX hB (by omega) rfl (by decide) (by decide) lk_18 ck_1 (by rw [hmL]; decide : 4 < (xc X).maxLocals) (Or.inr ⟨dL_signs_13, rfl⟩) dL_signs_15 dL_signs_16 (hv.2.1 rfl)
      · exact absurd rfl hv.2.2)))))))
abbrev mL_who : slMt := (yL_who, cL_who, 5, some .int)
abbrev hL_who : List (Nat × Nat × Nat × Nat) := [(0, 10, 13, 13)]
theorem si_L_who : slSiteH RL 189 mL_who hL_who 4 := ⟨lw_in6 _ (List.mem_of_getElem? (i := 37) (by decide +kernel)), lw_in1 _ (List.mem_of_getElem? (i := 0) (by decide +kernel)), lw_in6 _ (List.mem_of_getElem? (i := 39) (by decide +kernel)), by decide +kernel, by decide, lw_in6 _ (List.mem_of_getElem? (i := 38) (by decide +kernel))⟩
set_option maxHeartbeats 4000000 in
theorem vw_who {G : slG} (hG : slGood G) {d K : Nat} (hd : 1 ≤ d) (hK : 1 ≤ K) {Φ : slPost} {σ : slM} {x1 : Int} {x2 : Int}
    (h : slCall G mX11_who (d - 1) 1 (sR 11 0 :: [sI x1, sI x2]) σ (fun r τ => (r.1 = 0 → InR r.2 ∧ Φ (0, 0) (slU τ 14 0 0 r.2)) ∧ (r.1 = 2 → Φ (0, 1) τ) ∧ r.1 ≠ 1)) :
    slCallH G mL_who hL_who d K [sR 11 0, sI x1, sI x2, sR 14 0] σ Φ := by
  refine slCallH.of hG (by decide) rfl rfl (Nat.le_of_ble_eq_true rfl) (fun X hX hXG hB => ?_)
  subst hXG
  have hmL : (xc X).maxLocals = 5 := hB.2.2.2.1
  exact (show slOK X (slQ X (some .int) Φ K) 0 0 [some (sR 11 0), some (sI x1), some (sI x2), some (sR 14 0), none] [] σ from
    st_aload_n hX dL_who_0 rfl (st_iconst hX dL_who_1 (st_aload_n hX dL_who_2 rfl (st_iload_n hX dL_who_3 rfl (st_iload_n hX dL_who_4 rfl (st_callV hX (As := [sI x1, sI x2]) (st := [sI 0, sR 14 0]) si_L_64 hB.room (by omega : d - 1 + 1 ≤ d) (by omega) rfl (Nat.le_of_ble_eq_true rfl) dL_who_5 h (fun v τ hv => (hv.1 rfl).elim fun o1 h1 => st_i2l hX dL_who_8 o1 (st_lastore hX rfl dL_who_9 (by decide) (by decide) (st_goto hX dL_who_10 (tgt := 17) (by decide) (st_iconst hX dL_who_17 (st_iretH hX hB (by omega) dL_who_18 h1))))) (fun k τ hk hv => by
      rcases hk with rfl | rfl
      · exact absurd rfl hv.2.2
      · exact st_catch1 hX hB (by omega) rfl (by decide) (by decide) lk_13 ck_2 (by rw [hmL]; decide : 4 < (xc X).maxLocals) (Or.inr ⟨dL_who_13, rfl⟩) dL_who_15 dL_who_16 (hv.2.1 rfl))))))))
abbrev mL_visits : slMt := (yL_visits, cL_visits, 4, some .int)
abbrev hL_visits : List (Nat × Nat × Nat × Nat) := [(0, 9, 12, 18)]
theorem si_L_visits : slSiteH RL 192 mL_visits hL_visits 3 := ⟨lw_in6 _ (List.mem_of_getElem? (i := 54) (by decide +kernel)), lw_in1 _ (List.mem_of_getElem? (i := 0) (by decide +kernel)), lw_in6 _ (List.mem_of_getElem? (i := 56) (by decide +kernel)), by decide +kernel, by decide, lw_in6 _ (List.mem_of_getElem? (i := 55) (by decide +kernel))⟩
set_option maxHeartbeats 4000000 in
theorem vw_visits {G : slG} (hG : slGood G) {d K : Nat} (hd : 1 ≤ d) (hK : 1 ≤ K) {Φ : slPost} {σ : slM} {x1 : Int}
    (h : slCall G mX11_visits (d - 1) 1 (sR 11 0 :: [sI x1]) σ (fun r τ => (r.1 = 0 → InR r.2 ∧ Φ (0, 0) (slU τ 14 0 0 r.2)) ∧ (r.1 = 1 → Φ (0, 1) τ) ∧ r.1 ≠ 2)) :
    slCallH G mL_visits hL_visits d K [sR 11 0, sI x1, sR 14 0] σ Φ := by
  refine slCallH.of hG (by decide) rfl rfl (Nat.le_of_ble_eq_true rfl) (fun X hX hXG hB => ?_)
  subst hXG
  have hmL : (xc X).maxLocals = 4 := hB.2.2.2.1
  exact (show slOK X (slQ X (some .int) Φ K) 0 0 [some (sR 11 0), some (sI x1), some (sR 14 0), none] [] σ from
    st_aload_n hX dL_visits_0 rfl (st_iconst hX dL_visits_1 (st_aload_n hX dL_visits_2 rfl (st_iload_n hX dL_visits_3 rfl (st_callV hX (As := [sI x1]) (st := [sI 0, sR 14 0]) si_L_67 hB.room (by omega : d - 1 + 1 ≤ d) (by omega) rfl (Nat.le_of_ble_eq_true rfl) dL_visits_4 h (fun v τ hv => (hv.1 rfl).elim fun o1 h1 => st_i2l hX dL_visits_7 o1 (st_lastore hX rfl dL_visits_8 (by decide) (by decide) (st_goto hX dL_visits_9 (tgt := 15) (by decide) (st_iconst hX dL_visits_15 (st_iretH hX hB (by omega) dL_visits_16 h1))))) (fun k τ hk hv => by
      rcases hk with rfl | rfl
      · exact st_catch1 hX hB (by omega) rfl (by decide) (by decide) lk_18 ck_1 (by rw [hmL]; decide : 3 < (xc X).maxLocals) (Or.inl ⟨3, rfl, dL_visits_12, rfl⟩) dL_visits_13 dL_visits_14 (hv.2.1 rfl)
      · exact absurd rfl hv.2.2))))))
abbrev mL_visit : slMt := (yL_visit, cL_visit, 5, some .int)
abbrev hL_visit : List (Nat × Nat × Nat × Nat) := [(0, 10, 13, 18)]
theorem si_L_visit : slSiteH RL 195 mL_visit hL_visit 4 := ⟨lw_in6 _ (List.mem_of_getElem? (i := 107) (by decide +kernel)), lw_in1 _ (List.mem_of_getElem? (i := 0) (by decide +kernel)), lw_in6 _ (List.mem_of_getElem? (i := 109) (by decide +kernel)), by decide +kernel, by decide, lw_in6 _ (List.mem_of_getElem? (i := 108) (by decide +kernel))⟩
set_option maxHeartbeats 4000000 in
theorem vw_visit {G : slG} (hG : slGood G) {d K : Nat} (hd : 1 ≤ d) (hK : 2 ≤ K) {Φ : slPost} {σ : slM} {x1 : Int} {x2 : Int}
    (h : slCall G mX11_visit (d - 1) 2 (sR 11 0 :: [sI x1, sI x2]) σ (fun r τ => (r.1 = 0 → InR r.2 ∧ Φ (0, 0) (slU τ 14 0 0 r.2)) ∧ (r.1 = 1 → Φ (0, 1) τ) ∧ r.1 ≠ 2)) :
    slCallH G mL_visit hL_visit d K [sR 11 0, sI x1, sI x2, sR 14 0] σ Φ := by
  refine slCallH.of hG (by decide) rfl rfl (Nat.le_of_ble_eq_true rfl) (fun X hX hXG hB => ?_)
  subst hXG
  have hmL : (xc X).maxLocals = 5 := hB.2.2.2.1
  exact (show slOK X (slQ X (some .int) Φ K) 0 0 [some (sR 11 0), some (sI x1), some (sI x2), some (sR 14 0), none] [] σ from
    st_aload_n hX dL_visit_0 rfl (st_iconst hX dL_visit_1 (st_aload_n hX dL_visit_2 rfl (st_iload_n hX dL_visit_3 rfl (st_iload_n hX dL_visit_4 rfl (st_callV hX (As := [sI x1, sI x2]) (st := [sI 0, sR 14 0]) si_L_70 hB.room (by omega : d - 1 + 1 ≤ d) (by omega) rfl (Nat.le_of_ble_eq_true rfl) dL_visit_5 h (fun v τ hv => (hv.1 rfl).elim fun o1 h1 => st_i2l hX dL_visit_8 o1 (st_lastore hX rfl dL_visit_9 (by decide) (by decide) (st_goto hX dL_visit_10 (tgt := 17) (by decide) (st_iconst hX dL_visit_17 (st_iretH hX hB (by omega) dL_visit_18 h1))))) (fun k τ hk hv => by
      rcases hk with rfl | rfl
      · exact st_catch1 hX hB (by omega) rfl (by decide) (by decide) lk_18 ck_1 (by rw [hmL]; decide : 4 < (xc X).maxLocals) (Or.inr ⟨dL_visit_13, rfl⟩) dL_visit_15 dL_visit_16 (hv.2.1 rfl)
      · exact absurd rfl hv.2.2)))))))
abbrev mL_compared : slMt := (yL_compared, cL_compared, 4, some .int)
abbrev hL_compared : List (Nat × Nat × Nat × Nat) := [(0, 9, 12, 18)]
theorem si_L_compared : slSiteH RL 198 mL_compared hL_compared 3 := ⟨lw_in6 _ (List.mem_of_getElem? (i := 122) (by decide +kernel)), lw_in1 _ (List.mem_of_getElem? (i := 0) (by decide +kernel)), lw_in6 _ (List.mem_of_getElem? (i := 124) (by decide +kernel)), by decide +kernel, by decide, lw_in6 _ (List.mem_of_getElem? (i := 123) (by decide +kernel))⟩
set_option maxHeartbeats 4000000 in
theorem vw_compared {G : slG} (hG : slGood G) {d K : Nat} (hd : 1 ≤ d) (hK : 1 ≤ K) {Φ : slPost} {σ : slM} {x1 : Int}
    (h : slCall G mX11_compared (d - 1) 1 (sR 11 0 :: [sI x1]) σ (fun r τ => (r.1 = 0 → InR r.2 ∧ Φ (0, 0) (slU τ 14 0 0 r.2)) ∧ (r.1 = 1 → Φ (0, 1) τ) ∧ r.1 ≠ 2)) :
    slCallH G mL_compared hL_compared d K [sR 11 0, sI x1, sR 14 0] σ Φ := by
  refine slCallH.of hG (by decide) rfl rfl (Nat.le_of_ble_eq_true rfl) (fun X hX hXG hB => ?_)
  subst hXG
  have hmL : (xc X).maxLocals = 4 := hB.2.2.2.1
  exact (show slOK X (slQ X (some .int) Φ K) 0 0 [some (sR 11 0), some (sI x1), some (sR 14 0), none] [] σ from
    st_aload_n hX dL_compared_0 rfl (st_iconst hX dL_compared_1 (st_aload_n hX dL_compared_2 rfl (st_iload_n hX dL_compared_3 rfl (st_callV hX (As := [sI x1]) (st := [sI 0, sR 14 0]) si_L_73 hB.room (by omega : d - 1 + 1 ≤ d) (by omega) rfl (Nat.le_of_ble_eq_true rfl) dL_compared_4 h (fun v τ hv => (hv.1 rfl).elim fun o1 h1 => st_i2l hX dL_compared_7 o1 (st_lastore hX rfl dL_compared_8 (by decide) (by decide) (st_goto hX dL_compared_9 (tgt := 15) (by decide) (st_iconst hX dL_compared_15 (st_iretH hX hB (by omega) dL_compared_16 h1))))) (fun k τ hk hv => by
      rcases hk with rfl | rfl
      · exact st_catch1 hX hB (by omega) rfl (by decide) (by decide) lk_18 ck_1 (by rw [hmL]; decide : 3 < (xc X).maxLocals) (Or.inl ⟨3, rfl, dL_compared_12, rfl⟩) dL_compared_13 dL_compared_14 (hv.2.1 rfl)
      · exact absurd rfl hv.2.2))))))
abbrev mL_mooring : slMt := (yL_mooring, cL_mooring, 6, some .int)
abbrev hL_mooring : List (Nat × Nat × Nat × Nat) := [(0, 12, 15, 18)]
theorem si_L_mooring : slSiteH RL 205 mL_mooring hL_mooring 5 := ⟨lw_in6 _ (List.mem_of_getElem? (i := 134) (by decide +kernel)), lw_in1 _ (List.mem_of_getElem? (i := 0) (by decide +kernel)), lw_in6 _ (List.mem_of_getElem? (i := 136) (by decide +kernel)), by decide +kernel, by decide, lw_in6 _ (List.mem_of_getElem? (i := 135) (by decide +kernel))⟩
set_option maxHeartbeats 4000000 in
theorem vw_mooring {G : slG} (hG : slGood G) {d K : Nat} (hd : 1 ≤ d) (hK : 3 ≤ K) {Φ : slPost} {σ : slM} {x1 : Int} {x2 : Int} {x3 : Int}
    (h : slCall G mX11_mooring (d - 1) 3 (sR 11 0 :: [sI x1, sI x2, sI x3]) σ (fun r τ => (r.1 = 0 → InR r.2 ∧ Φ (0, 0) (slU τ 14 0 0 r.2)) ∧ (r.1 = 1 → Φ (0, 1) τ) ∧ r.1 ≠ 2)) :
    slCallH G mL_mooring hL_mooring d K [sR 11 0, sI x1, sI x2, sI x3, sR 14 0] σ Φ := by
  refine slCallH.of hG (by decide) rfl rfl (Nat.le_of_ble_eq_true rfl) (fun X hX hXG hB => ?_)
  subst hXG
  have hmL : (xc X).maxLocals = 6 := hB.2.2.2.1
  exact (show slOK X (slQ X (some .int) Φ K) 0 0 [some (sR 11 0), some (sI x1), some (sI x2), some (sI x3), some (sR 14 0), none] [] σ from
    st_aload hX dL_mooring_0 rfl (st_iconst hX dL_mooring_2 (st_aload_n hX dL_mooring_3 rfl (st_iload_n hX dL_mooring_4 rfl (st_iload_n hX dL_mooring_5 rfl (st_iload_n hX dL_mooring_6 rfl (st_callV hX (As := [sI x1, sI x2, sI x3]) (st := [sI 0, sR 14 0]) si_L_76 hB.room (by omega : d - 1 + 1 ≤ d) (by omega) rfl (Nat.le_of_ble_eq_true rfl) dL_mooring_7 h (fun v τ hv => (hv.1 rfl).elim fun o1 h1 => st_i2l hX dL_mooring_10 o1 (st_lastore hX rfl dL_mooring_11 (by decide) (by decide) (st_goto hX dL_mooring_12 (tgt := 19) (by decide) (st_iconst hX dL_mooring_19 (st_iretH hX hB (by omega) dL_mooring_20 h1))))) (fun k τ hk hv => by
      rcases hk with rfl | rfl
      · exact st_catch1 hX hB (by omega) rfl (by decide) (by decide) lk_18 ck_1 (by rw [hmL]; decide : 5 < (xc X).maxLocals) (Or.inr ⟨dL_mooring_15, rfl⟩) dL_mooring_17 dL_mooring_18 (hv.2.1 rfl)
      · exact absurd rfl hv.2.2))))))))
abbrev mL_log : slMt := (yL_log, cL_log, 7, some .int)
abbrev hL_log : List (Nat × Nat × Nat × Nat) := [(0, 14, 17, 18)]
theorem si_L_log : slSiteH RL 208 mL_log hL_log 6 := ⟨lw_in6 _ (List.mem_of_getElem? (i := 150) (by decide +kernel)), lw_in1 _ (List.mem_of_getElem? (i := 0) (by decide +kernel)), lw_in6 _ (List.mem_of_getElem? (i := 152) (by decide +kernel)), by decide +kernel, by decide, lw_in6 _ (List.mem_of_getElem? (i := 151) (by decide +kernel))⟩
set_option maxHeartbeats 4000000 in
theorem vw_log {G : slG} (hG : slGood G) {d K : Nat} (hd : 1 ≤ d) (hK : 3 ≤ K) {Φ : slPost} {σ : slM} {x1 : Int} {x2 : Int} {x3 : Int} {x4 : Int}
    (h : slCall G mX11_log (d - 1) 3 (sR 11 0 :: [sI x1, sI x2, sI x3, sI x4]) σ (fun r τ => (r.1 = 0 → InR r.2 ∧ Φ (0, 0) (slU τ 14 0 0 r.2)) ∧ (r.1 = 1 → Φ (0, 1) τ) ∧ r.1 ≠ 2)) :
    slCallH G mL_log hL_log d K [sR 11 0, sI x1, sI x2, sI x3, sI x4, sR 14 0] σ Φ := by
  refine slCallH.of hG (by decide) rfl rfl (Nat.le_of_ble_eq_true rfl) (fun X hX hXG hB => ?_)
  subst hXG
  have hmL : (xc X).maxLocals = 7 := hB.2.2.2.1
  exact (show slOK X (slQ X (some .int) Φ K) 0 0 [some (sR 11 0), some (sI x1), some (sI x2), some (sI x3), some (sI x4), some (sR 14 0), none] [] σ from
    st_aload hX dL_log_0 rfl (st_iconst hX dL_log_2 (st_aload_n hX dL_log_3 rfl (st_iload_n hX dL_log_4 rfl (st_iload_n hX dL_log_5 rfl (st_iload_n hX dL_log_6 rfl (st_iload hX dL_log_7 rfl (st_callV hX (As := [sI x1, sI x2, sI x3, sI x4]) (st := [sI 0, sR 14 0]) si_L_79 hB.room (by omega : d - 1 + 1 ≤ d) (by omega) rfl (Nat.le_of_ble_eq_true rfl) dL_log_9 h (fun v τ hv => (hv.1 rfl).elim fun o1 h1 => st_i2l hX dL_log_12 o1 (st_lastore hX rfl dL_log_13 (by decide) (by decide) (st_goto hX dL_log_14 (tgt := 21) (by decide) (st_iconst hX dL_log_21 (st_iretH hX hB (by omega) dL_log_22 h1))))) (fun k τ hk hv => by
      rcases hk with rfl | rfl
      · exact st_catch1 hX hB (by omega) rfl (by decide) (by decide) lk_18 ck_1 (by rw [hmL]; decide : 6 < (xc X).maxLocals) (Or.inr ⟨dL_log_17, rfl⟩) dL_log_19 dL_log_20 (hv.2.1 rfl)
      · exact absurd rfl hv.2.2)))))))))
abbrev mL_begun : slMt := (yL_begun, cL_begun, 5, some .int)
abbrev hL_begun : List (Nat × Nat × Nat × Nat) := [(0, 10, 13, 18)]
theorem si_L_begun : slSiteH RL 220 mL_begun hL_begun 4 := ⟨lw_in6 _ (List.mem_of_getElem? (i := 161) (by decide +kernel)), lw_in1 _ (List.mem_of_getElem? (i := 0) (by decide +kernel)), lw_in6 _ (List.mem_of_getElem? (i := 163) (by decide +kernel)), by decide +kernel, by decide, lw_in6 _ (List.mem_of_getElem? (i := 162) (by decide +kernel))⟩
set_option maxHeartbeats 4000000 in
theorem vw_begun {G : slG} (hG : slGood G) {d K : Nat} (hd : 1 ≤ d) (hK : 2 ≤ K) {Φ : slPost} {σ : slM} {x1 : Int} {x2 : Int}
    (h : slCall G mX11_begun (d - 1) 2 (sR 11 0 :: [sI x1, sI x2]) σ (fun r τ => (r.1 = 0 → InR r.2 ∧ Φ (0, 0) (slU τ 14 0 0 r.2)) ∧ (r.1 = 1 → Φ (0, 1) τ) ∧ r.1 ≠ 2)) :
    slCallH G mL_begun hL_begun d K [sR 11 0, sI x1, sI x2, sR 14 0] σ Φ := by
  refine slCallH.of hG (by decide) rfl rfl (Nat.le_of_ble_eq_true rfl) (fun X hX hXG hB => ?_)
  subst hXG
  have hmL : (xc X).maxLocals = 5 := hB.2.2.2.1
  exact (show slOK X (slQ X (some .int) Φ K) 0 0 [some (sR 11 0), some (sI x1), some (sI x2), some (sR 14 0), none] [] σ from
    st_aload_n hX dL_begun_0 rfl (st_iconst hX dL_begun_1 (st_aload_n hX dL_begun_2 rfl (st_iload_n hX dL_begun_3 rfl (st_iload_n hX dL_begun_4 rfl (st_callV hX (As := [sI x1, sI x2]) (st := [sI 0, sR 14 0]) si_L_83 hB.room (by omega : d - 1 + 1 ≤ d) (by omega) rfl (Nat.le_of_ble_eq_true rfl) dL_begun_5 h (fun v τ hv => (hv.1 rfl).elim fun o1 h1 => st_i2l hX dL_begun_8 o1 (st_lastore hX rfl dL_begun_9 (by decide) (by decide) (st_goto hX dL_begun_10 (tgt := 17) (by decide) (st_iconst hX dL_begun_17 (st_iretH hX hB (by omega) dL_begun_18 h1))))) (fun k τ hk hv => by
      rcases hk with rfl | rfl
      · exact st_catch1 hX hB (by omega) rfl (by decide) (by decide) lk_18 ck_1 (by rw [hmL]; decide : 4 < (xc X).maxLocals) (Or.inr ⟨dL_begun_13, rfl⟩) dL_begun_15 dL_begun_16 (hv.2.1 rfl)
      · exact absurd rfl hv.2.2)))))))
abbrev mL_game : slMt := (yL_game, cL_game, 8, some .int)
abbrev hL_game : List (Nat × Nat × Nat × Nat) := [(0, 16, 19, 18), (0, 16, 23, 13)]
theorem si_L_game : slSiteH RL 223 mL_game hL_game 7 := ⟨lw_in6 _ (List.mem_of_getElem? (i := 173) (by decide +kernel)), lw_in1 _ (List.mem_of_getElem? (i := 0) (by decide +kernel)), lw_in6 _ (List.mem_of_getElem? (i := 175) (by decide +kernel)), by decide +kernel, by decide, lw_in6 _ (List.mem_of_getElem? (i := 174) (by decide +kernel))⟩
set_option maxHeartbeats 4000000 in
theorem vw_game {G : slG} (hG : slGood G) {d K : Nat} (hd : 1 ≤ d) (hK : 6 ≤ K) {Φ : slPost} {σ : slM} {x1 : Int} {x2 : Int} {x3 : Int} {x4 : Int} {x5 : Int}
    (h : slCall G mX11_game (d - 1) 6 (sR 11 0 :: [sI x1, sI x2, sI x3, sI x4, sI x5]) σ (fun r τ => (r.1 = 0 → InR r.2 ∧ Φ (0, 0) (slU τ 14 0 0 r.2)) ∧ (r.1 = 1 → Φ (0, 1) τ) ∧ (r.1 = 2 → Φ (0, 2) τ) ∧ True)) :
    slCallH G mL_game hL_game d K [sR 11 0, sI x1, sI x2, sI x3, sI x4, sI x5, sR 14 0] σ Φ := by
  refine slCallH.of hG (by decide) rfl rfl (Nat.le_of_ble_eq_true rfl) (fun X hX hXG hB => ?_)
  subst hXG
  have hmL : (xc X).maxLocals = 8 := hB.2.2.2.1
  exact (show slOK X (slQ X (some .int) Φ K) 0 0 [some (sR 11 0), some (sI x1), some (sI x2), some (sI x3), some (sI x4), some (sI x5), some (sR 14 0), none] [] σ from
    st_aload hX dL_game_0 rfl (st_iconst hX dL_game_2 (st_aload_n hX dL_game_3 rfl (st_iload_n hX dL_game_4 rfl (st_iload_n hX dL_game_5 rfl (st_iload_n hX dL_game_6 rfl (st_iload hX dL_game_7 rfl (st_iload hX dL_game_9 rfl (st_callV hX (As := [sI x1, sI x2, sI x3, sI x4, sI x5]) (st := [sI 0, sR 14 0]) si_L_86 hB.room (by omega : d - 1 + 1 ≤ d) (by omega) rfl (Nat.le_of_ble_eq_true rfl) dL_game_11 h (fun v τ hv => (hv.1 rfl).elim fun o1 h1 => st_i2l hX dL_game_14 o1 (st_lastore hX rfl dL_game_15 (by decide) (by decide) (st_goto hX dL_game_16 (tgt := 27) (by decide) (st_iconst hX dL_game_27 (st_iretH hX hB (by omega) dL_game_28 h1))))) (fun k τ hk hv => by
      rcases hk with rfl | rfl
      · exact st_catch1 hX hB (by omega) rfl (by decide) (by decide) lk_18 ck_1 (by rw [hmL]; decide : 7 < (xc X).maxLocals) (Or.inr ⟨dL_game_19, rfl⟩) dL_game_21 dL_game_22 (hv.2.1 rfl)
      · exact st_catch2 hX hB (by omega) rfl (by decide) lk_18 (by decide) (by decide) lk_13 ck_2 (by rw [hmL]; decide : 7 < (xc X).maxLocals) (Or.inr ⟨dL_game_23, rfl⟩) dL_game_25 dL_game_26 (hv.2.2.1 rfl)))))))))))
abbrev mL_years : slMt := (yL_years, cL_years, 6, some .int)
abbrev hL_years : List (Nat × Nat × Nat × Nat) := [(0, 12, 15, 18), (0, 12, 19, 13)]
theorem si_L_years : slSiteH RL 227 mL_years hL_years 5 := ⟨lw_in6 _ (List.mem_of_getElem? (i := 197) (by decide +kernel)), lw_in1 _ (List.mem_of_getElem? (i := 0) (by decide +kernel)), lw_in6 _ (List.mem_of_getElem? (i := 199) (by decide +kernel)), by decide +kernel, by decide, lw_in6 _ (List.mem_of_getElem? (i := 198) (by decide +kernel))⟩
set_option maxHeartbeats 4000000 in
theorem vw_years {G : slG} (hG : slGood G) {d K : Nat} (hd : 1 ≤ d) (hK : 2 ≤ K) {Φ : slPost} {σ : slM} {x1 : Int} {x2 : Int} {x3 : Int}
    (h : slCall G mX11_years (d - 1) 2 (sR 11 0 :: [sI x1, sI x2, sI x3]) σ (fun r τ => (r.1 = 0 → InR r.2 ∧ Φ (0, 0) (slU τ 14 0 0 r.2)) ∧ (r.1 = 1 → Φ (0, 1) τ) ∧ (r.1 = 2 → Φ (0, 2) τ) ∧ True)) :
    slCallH G mL_years hL_years d K [sR 11 0, sI x1, sI x2, sI x3, sR 14 0] σ Φ := by
  refine slCallH.of hG (by decide) rfl rfl (Nat.le_of_ble_eq_true rfl) (fun X hX hXG hB => ?_)
  subst hXG
  have hmL : (xc X).maxLocals = 6 := hB.2.2.2.1
  exact (show slOK X (slQ X (some .int) Φ K) 0 0 [some (sR 11 0), some (sI x1), some (sI x2), some (sI x3), some (sR 14 0), none] [] σ from
    st_aload hX dL_years_0 rfl (st_iconst hX dL_years_2 (st_aload_n hX dL_years_3 rfl (st_iload_n hX dL_years_4 rfl (st_iload_n hX dL_years_5 rfl (st_iload_n hX dL_years_6 rfl (st_callV hX (As := [sI x1, sI x2, sI x3]) (st := [sI 0, sR 14 0]) si_L_90 hB.room (by omega : d - 1 + 1 ≤ d) (by omega) rfl (Nat.le_of_ble_eq_true rfl) dL_years_7 h (fun v τ hv => (hv.1 rfl).elim fun o1 h1 => st_i2l hX dL_years_10 o1 (st_lastore hX rfl dL_years_11 (by decide) (by decide) (st_goto hX dL_years_12 (tgt := 23) (by decide) (st_iconst hX dL_years_23 (st_iretH hX hB (by omega) dL_years_24 h1))))) (fun k τ hk hv => by
      rcases hk with rfl | rfl
      · exact st_catch1 hX hB (by omega) rfl (by decide) (by decide) lk_18 ck_1 (by rw [hmL]; decide : 5 < (xc X).maxLocals) (Or.inr ⟨dL_years_15, rfl⟩) dL_years_17 dL_years_18 (hv.2.1 rfl)
      · exact st_catch2 hX hB (by omega) rfl (by decide) lk_18 (by decide) (by decide) lk_13 ck_2 (by rw [hmL]; decide : 5 < (xc X).maxLocals) (Or.inr ⟨dL_years_19, rfl⟩) dL_years_21 dL_years_22 (hv.2.2.1 rfl)))))))))
abbrev mL_father : slMt := (yL_father, cL_father, 5, some .int)
abbrev hL_father : List (Nat × Nat × Nat × Nat) := [(0, 10, 13, 18)]
theorem si_L_father : slSiteH RL 230 mL_father hL_father 4 := ⟨lw_in6 _ (List.mem_of_getElem? (i := 221) (by decide +kernel)), lw_in1 _ (List.mem_of_getElem? (i := 0) (by decide +kernel)), lw_in6 _ (List.mem_of_getElem? (i := 223) (by decide +kernel)), by decide +kernel, by decide, lw_in6 _ (List.mem_of_getElem? (i := 222) (by decide +kernel))⟩
set_option maxHeartbeats 4000000 in
theorem vw_father {G : slG} (hG : slGood G) {d K : Nat} (hd : 1 ≤ d) (hK : 2 ≤ K) {Φ : slPost} {σ : slM} {x1 : Int} {x2 : Int}
    (h : slCall G mX11_father (d - 1) 2 (sR 11 0 :: [sI x1, sI x2]) σ (fun r τ => (r.1 = 0 → InR r.2 ∧ Φ (0, 0) (slU τ 14 0 0 r.2)) ∧ (r.1 = 1 → Φ (0, 1) τ) ∧ r.1 ≠ 2)) :
    slCallH G mL_father hL_father d K [sR 11 0, sI x1, sI x2, sR 14 0] σ Φ := by
  refine slCallH.of hG (by decide) rfl rfl (Nat.le_of_ble_eq_true rfl) (fun X hX hXG hB => ?_)
  subst hXG
  have hmL : (xc X).maxLocals = 5 := hB.2.2.2.1
  exact (show slOK X (slQ X (some .int) Φ K) 0 0 [some (sR 11 0), some (sI x1), some (sI x2), some (sR 14 0), none] [] σ from
    st_aload_n hX dL_father_0 rfl (st_iconst hX dL_father_1 (st_aload_n hX dL_father_2 rfl (st_iload_n hX dL_father_3 rfl (st_iload_n hX dL_father_4 rfl (st_callV hX (As := [sI x1, sI x2]) (st := [sI 0, sR 14 0]) si_L_93 hB.room (by omega : d - 1 + 1 ≤ d) (by omega) rfl (Nat.le_of_ble_eq_true rfl) dL_father_5 h (fun v τ hv => (hv.1 rfl).elim fun o1 h1 => st_i2l hX dL_father_8 o1 (st_lastore hX rfl dL_father_9 (by decide) (by decide) (st_goto hX dL_father_10 (tgt := 17) (by decide) (st_iconst hX dL_father_17 (st_iretH hX hB (by omega) dL_father_18 h1))))) (fun k τ hk hv => by
      rcases hk with rfl | rfl
      · exact st_catch1 hX hB (by omega) rfl (by decide) (by decide) lk_18 ck_1 (by rw [hmL]; decide : 4 < (xc X).maxLocals) (Or.inr ⟨dL_father_13, rfl⟩) dL_father_15 dL_father_16 (hv.2.1 rfl)
      · exact absurd rfl hv.2.2)))))))
abbrev mL_journey : slMt := (yL_journey, cL_journey, 5, some .int)
abbrev hL_journey : List (Nat × Nat × Nat × Nat) := [(0, 10, 13, 18)]
theorem si_L_journey : slSiteH RL 233 mL_journey hL_journey 4 := ⟨lw_in6 _ (List.mem_of_getElem? (i := 228) (by decide +kernel)), lw_in1 _ (List.mem_of_getElem? (i := 0) (by decide +kernel)), lw_in6 _ (List.mem_of_getElem? (i := 230) (by decide +kernel)), by decide +kernel, by decide, lw_in6 _ (List.mem_of_getElem? (i := 229) (by decide +kernel))⟩
set_option maxHeartbeats 4000000 in
theorem vw_journey {G : slG} (hG : slGood G) {d K : Nat} (hd : 1 ≤ d) (hK : 2 ≤ K) {Φ : slPost} {σ : slM} {x1 : Int} {x2 : Int}
    (h : slCall G mX11_journey (d - 1) 2 (sR 11 0 :: [sI x1, sI x2]) σ (fun r τ => (r.1 = 0 → InR r.2 ∧ Φ (0, 0) (slU τ 14 0 0 r.2)) ∧ (r.1 = 1 → Φ (0, 1) τ) ∧ r.1 ≠ 2)) :
    slCallH G mL_journey hL_journey d K [sR 11 0, sI x1, sI x2, sR 14 0] σ Φ := by
  refine slCallH.of hG (by decide) rfl rfl (Nat.le_of_ble_eq_true rfl) (fun X hX hXG hB => ?_)
  subst hXG
  have hmL : (xc X).maxLocals = 5 := hB.2.2.2.1
  exact (show slOK X (slQ X (some .int) Φ K) 0 0 [some (sR 11 0), some (sI x1), some (sI x2), some (sR 14 0), none] [] σ from
    st_aload_n hX dL_journey_0 rfl (st_iconst hX dL_journey_1 (st_aload_n hX dL_journey_2 rfl (st_iload_n hX dL_journey_3 rfl (st_iload_n hX dL_journey_4 rfl (st_callV hX (As := [sI x1, sI x2]) (st := [sI 0, sR 14 0]) si_L_96 hB.room (by omega : d - 1 + 1 ≤ d) (by omega) rfl (Nat.le_of_ble_eq_true rfl) dL_journey_5 h (fun v τ hv => (hv.1 rfl).elim fun o1 h1 => st_i2l hX dL_journey_8 o1 (st_lastore hX rfl dL_journey_9 (by decide) (by decide) (st_goto hX dL_journey_10 (tgt := 17) (by decide) (st_iconst hX dL_journey_17 (st_iretH hX hB (by omega) dL_journey_18 h1))))) (fun k τ hk hv => by
      rcases hk with rfl | rfl
      · exact st_catch1 hX hB (by omega) rfl (by decide) (by decide) lk_18 ck_1 (by rw [hmL]; decide : 4 < (xc X).maxLocals) (Or.inr ⟨dL_journey_13, rfl⟩) dL_journey_15 dL_journey_16 (hv.2.1 rfl)
      · exact absurd rfl hv.2.2)))))))
abbrev mL_sparing : slMt := (yL_sparing, cL_sparing, 4, some .int)
abbrev hL_sparing : List (Nat × Nat × Nat × Nat) := [(0, 9, 12, 18)]
theorem si_L_sparing : slSiteH RL 240 mL_sparing hL_sparing 3 := ⟨lw_in7 _ (List.mem_of_getElem? (i := 4) (by decide +kernel)), lw_in1 _ (List.mem_of_getElem? (i := 0) (by decide +kernel)), lw_in7 _ (List.mem_of_getElem? (i := 6) (by decide +kernel)), by decide +kernel, by decide, lw_in7 _ (List.mem_of_getElem? (i := 5) (by decide +kernel))⟩
set_option maxHeartbeats 4000000 in
theorem vw_sparing {G : slG} (hG : slGood G) {d K : Nat} (hd : 1 ≤ d) (hK : 1 ≤ K) {Φ : slPost} {σ : slM} {x1 : Int}
    (h : slCall G mX11_sparing (d - 1) 1 (sR 11 0 :: [sI x1]) σ (fun r τ => (r.1 = 0 → InR r.2 ∧ Φ (0, 0) (slU τ 14 0 0 r.2)) ∧ (r.1 = 1 → Φ (0, 1) τ) ∧ r.1 ≠ 2)) :
    slCallH G mL_sparing hL_sparing d K [sR 11 0, sI x1, sR 14 0] σ Φ := by
  refine slCallH.of hG (by decide) rfl rfl (Nat.le_of_ble_eq_true rfl) (fun X hX hXG hB => ?_)
  subst hXG
  have hmL : (xc X).maxLocals = 4 := hB.2.2.2.1
  exact (show slOK X (slQ X (some .int) Φ K) 0 0 [some (sR 11 0), some (sI x1), some (sR 14 0), none] [] σ from
    st_aload_n hX dL_sparing_0 rfl (st_iconst hX dL_sparing_1 (st_aload_n hX dL_sparing_2 rfl (st_iload_n hX dL_sparing_3 rfl (st_callV hX (As := [sI x1]) (st := [sI 0, sR 14 0]) si_L_99 hB.room (by omega : d - 1 + 1 ≤ d) (by omega) rfl (Nat.le_of_ble_eq_true rfl) dL_sparing_4 h (fun v τ hv => (hv.1 rfl).elim fun o1 h1 => st_i2l hX dL_sparing_7 o1 (st_lastore hX rfl dL_sparing_8 (by decide) (by decide) (st_goto hX dL_sparing_9 (tgt := 15) (by decide) (st_iconst hX dL_sparing_15 (st_iretH hX hB (by omega) dL_sparing_16 h1))))) (fun k τ hk hv => by
      rcases hk with rfl | rfl
      · exact st_catch1 hX hB (by omega) rfl (by decide) (by decide) lk_18 ck_1 (by rw [hmL]; decide : 3 < (xc X).maxLocals) (Or.inl ⟨3, rfl, dL_sparing_12, rfl⟩) dL_sparing_13 dL_sparing_14 (hv.2.1 rfl)
      · exact absurd rfl hv.2.2))))))
abbrev mL_start : slMt := (yL_start, cL_start, 5, some .int)
abbrev hL_start : List (Nat × Nat × Nat × Nat) := [(0, 10, 13, 18)]
theorem si_L_start : slSiteH RL 243 mL_start hL_start 4 := ⟨lw_in7 _ (List.mem_of_getElem? (i := 13) (by decide +kernel)), lw_in1 _ (List.mem_of_getElem? (i := 0) (by decide +kernel)), lw_in7 _ (List.mem_of_getElem? (i := 15) (by decide +kernel)), by decide +kernel, by decide, lw_in7 _ (List.mem_of_getElem? (i := 14) (by decide +kernel))⟩
set_option maxHeartbeats 4000000 in
theorem vw_start {G : slG} (hG : slGood G) {d K : Nat} (hd : 1 ≤ d) (hK : 2 ≤ K) {Φ : slPost} {σ : slM} {x1 : Int} {x2 : Int}
    (h : slCall G mX11_start (d - 1) 2 (sR 11 0 :: [sI x1, sI x2]) σ (fun r τ => (r.1 = 0 → InR r.2 ∧ Φ (0, 0) (slU τ 14 0 0 r.2)) ∧ (r.1 = 1 → Φ (0, 1) τ) ∧ r.1 ≠ 2)) :
    slCallH G mL_start hL_start d K [sR 11 0, sI x1, sI x2, sR 14 0] σ Φ := by
  refine slCallH.of hG (by decide) rfl rfl (Nat.le_of_ble_eq_true rfl) (fun X hX hXG hB => ?_)
  subst hXG
  have hmL : (xc X).maxLocals = 5 := hB.2.2.2.1
  exact (show slOK X (slQ X (some .int) Φ K) 0 0 [some (sR 11 0), some (sI x1), some (sI x2), some (sR 14 0), none] [] σ from
    st_aload_n hX dL_start_0 rfl (st_iconst hX dL_start_1 (st_aload_n hX dL_start_2 rfl (st_iload_n hX dL_start_3 rfl (st_iload_n hX dL_start_4 rfl (st_callV hX (As := [sI x1, sI x2]) (st := [sI 0, sR 14 0]) si_L_102 hB.room (by omega : d - 1 + 1 ≤ d) (by omega) rfl (Nat.le_of_ble_eq_true rfl) dL_start_5 h (fun v τ hv => (hv.1 rfl).elim fun o1 h1 => st_i2l hX dL_start_8 o1 (st_lastore hX rfl dL_start_9 (by decide) (by decide) (st_goto hX dL_start_10 (tgt := 17) (by decide) (st_iconst hX dL_start_17 (st_iretH hX hB (by omega) dL_start_18 h1))))) (fun k τ hk hv => by
      rcases hk with rfl | rfl
      · exact st_catch1 hX hB (by omega) rfl (by decide) (by decide) lk_18 ck_1 (by rw [hmL]; decide : 4 < (xc X).maxLocals) (Or.inr ⟨dL_start_13, rfl⟩) dL_start_15 dL_start_16 (hv.2.1 rfl)
      · exact absurd rfl hv.2.2)))))))
abbrev mL_alone : slMt := (yL_alone, cL_alone, 4, some .int)
abbrev hL_alone : List (Nat × Nat × Nat × Nat) := [(0, 9, 12, 18)]
theorem si_L_alone : slSiteH RL 246 mL_alone hL_alone 3 := ⟨lw_in7 _ (List.mem_of_getElem? (i := 20) (by decide +kernel)), lw_in1 _ (List.mem_of_getElem? (i := 0) (by decide +kernel)), lw_in7 _ (List.mem_of_getElem? (i := 22) (by decide +kernel)), by decide +kernel, by decide, lw_in7 _ (List.mem_of_getElem? (i := 21) (by decide +kernel))⟩
set_option maxHeartbeats 4000000 in
theorem vw_alone {G : slG} (hG : slGood G) {d K : Nat} (hd : 1 ≤ d) (hK : 1 ≤ K) {Φ : slPost} {σ : slM} {x1 : Int}
    (h : slCall G mX11_alone (d - 1) 1 (sR 11 0 :: [sI x1]) σ (fun r τ => (r.1 = 0 → InR r.2 ∧ Φ (0, 0) (slU τ 14 0 0 r.2)) ∧ (r.1 = 1 → Φ (0, 1) τ) ∧ r.1 ≠ 2)) :
    slCallH G mL_alone hL_alone d K [sR 11 0, sI x1, sR 14 0] σ Φ := by
  refine slCallH.of hG (by decide) rfl rfl (Nat.le_of_ble_eq_true rfl) (fun X hX hXG hB => ?_)
  subst hXG
  have hmL : (xc X).maxLocals = 4 := hB.2.2.2.1
  exact (show slOK X (slQ X (some .int) Φ K) 0 0 [some (sR 11 0), some (sI x1), some (sR 14 0), none] [] σ from
    st_aload_n hX dL_alone_0 rfl (st_iconst hX dL_alone_1 (st_aload_n hX dL_alone_2 rfl (st_iload_n hX dL_alone_3 rfl (st_callV hX (As := [sI x1]) (st := [sI 0, sR 14 0]) si_L_105 hB.room (by omega : d - 1 + 1 ≤ d) (by omega) rfl (Nat.le_of_ble_eq_true rfl) dL_alone_4 h (fun v τ hv => (hv.1 rfl).elim fun o1 h1 => st_i2l hX dL_alone_7 o1 (st_lastore hX rfl dL_alone_8 (by decide) (by decide) (st_goto hX dL_alone_9 (tgt := 15) (by decide) (st_iconst hX dL_alone_15 (st_iretH hX hB (by omega) dL_alone_16 h1))))) (fun k τ hk hv => by
      rcases hk with rfl | rfl
      · exact st_catch1 hX hB (by omega) rfl (by decide) (by decide) lk_18 ck_1 (by rw [hmL]; decide : 3 < (xc X).maxLocals) (Or.inl ⟨3, rfl, dL_alone_12, rfl⟩) dL_alone_13 dL_alone_14 (hv.2.1 rfl)
      · exact absurd rfl hv.2.2))))))
abbrev mL_quarrels : slMt := (yL_quarrels, cL_quarrels, 4, some .int)
abbrev hL_quarrels : List (Nat × Nat × Nat × Nat) := [(0, 9, 12, 18)]
theorem si_L_quarrels : slSiteH RL 249 mL_quarrels hL_quarrels 3 := ⟨lw_in7 _ (List.mem_of_getElem? (i := 28) (by decide +kernel)), lw_in1 _ (List.mem_of_getElem? (i := 0) (by decide +kernel)), lw_in7 _ (List.mem_of_getElem? (i := 30) (by decide +kernel)), by decide +kernel, by decide, lw_in7 _ (List.mem_of_getElem? (i := 29) (by decide +kernel))⟩
set_option maxHeartbeats 4000000 in
theorem vw_quarrels {G : slG} (hG : slGood G) {d K : Nat} (hd : 1 ≤ d) (hK : 1 ≤ K) {Φ : slPost} {σ : slM} {x1 : Int}
    (h : slCall G mX11_quarrels (d - 1) 1 (sR 11 0 :: [sI x1]) σ (fun r τ => (r.1 = 0 → InR r.2 ∧ Φ (0, 0) (slU τ 14 0 0 r.2)) ∧ (r.1 = 1 → Φ (0, 1) τ) ∧ r.1 ≠ 2)) :
    slCallH G mL_quarrels hL_quarrels d K [sR 11 0, sI x1, sR 14 0] σ Φ := by
  refine slCallH.of hG (by decide) rfl rfl (Nat.le_of_ble_eq_true rfl) (fun X hX hXG hB => ?_)
  subst hXG
  have hmL : (xc X).maxLocals = 4 := hB.2.2.2.1
  exact (show slOK X (slQ X (some .int) Φ K) 0 0 [some (sR 11 0), some (sI x1), some (sR 14 0), none] [] σ from
    st_aload_n hX dL_quarrels_0 rfl (st_iconst hX dL_quarrels_1 (st_aload_n hX dL_quarrels_2 rfl (st_iload_n hX dL_quarrels_3 rfl (st_callV hX (As := [sI x1]) (st := [sI 0, sR 14 0]) si_L_108 hB.room (by omega : d - 1 + 1 ≤ d) (by omega) rfl (Nat.le_of_ble_eq_true rfl) dL_quarrels_4 h (fun v τ hv => (hv.1 rfl).elim fun o1 h1 => st_i2l hX dL_quarrels_7 o1 (st_lastore hX rfl dL_quarrels_8 (by decide) (by decide) (st_goto hX dL_quarrels_9 (tgt := 15) (by decide) (st_iconst hX dL_quarrels_15 (st_iretH hX hB (by omega) dL_quarrels_16 h1))))) (fun k τ hk hv => by
      rcases hk with rfl | rfl
      · exact st_catch1 hX hB (by omega) rfl (by decide) (by decide) lk_18 ck_1 (by rw [hmL]; decide : 3 < (xc X).maxLocals) (Or.inl ⟨3, rfl, dL_quarrels_12, rfl⟩) dL_quarrels_13 dL_quarrels_14 (hv.2.1 rfl)
      · exact absurd rfl hv.2.2))))))
