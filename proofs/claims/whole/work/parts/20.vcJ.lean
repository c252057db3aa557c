set_option maxRecDepth 100000 in
set_option maxHeartbeats 4000000 in
theorem vc_J6_bitCount_0f7a4 {G : slG} (hG : slGood G) {d K : Nat} (hd : 0 ≤ d) (hK : 0 ≤ K) {Φ : slPost} {σ : slM} {x0 : Int} 
    (h : Φ (0, sAnd (wr ((wr ((sAnd (wr ((wr ((sAnd (wr (x0 - (sAnd (sUshr x0 1) 1431655765))) 858993459) + (sAnd (sUshr (wr (x0 - (sAnd (sUshr x0 1) 1431655765))) 2) 858993459))) + (sUshr (wr ((sAnd (wr (x0 - (sAnd (sUshr x0 1) 1431655765))) 858993459) + (sAnd (sUshr (wr (x0 - (sAnd (sUshr x0 1) 1431655765))) 2) 858993459))) 4))) 252645135) + (sUshr (sAnd (wr ((wr ((sAnd (wr (x0 - (sAnd (sUshr x0 1) 1431655765))) 858993459) + (sAnd (sUshr (wr (x0 - (sAnd (sUshr x0 1) 1431655765))) 2) 858993459))) + (sUshr (wr ((sAnd (wr (x0 - (sAnd (sUshr x0 1) 1431655765))) 858993459) + (sAnd (sUshr (wr (x0 - (sAnd (sUshr x0 1) 1431655765))) 2) 858993459))) 4))) 252645135) 8))) + (sUshr (wr ((sAnd (wr ((wr ((sAnd (wr (x0 - (sAnd (sUshr x0 1) 1431655765))) 858993459) + (sAnd (sUshr (wr (x0 - (sAnd (sUshr x0 1) 1431655765))) 2) 858993459))) + (sUshr (wr ((sAnd (wr (x0 - (sAnd (sUshr x0 1) 1431655765))) 858993459) + (sAnd (sUshr (wr (x0 - (sAnd (sUshr x0 1) 1431655765))) 2) 858993459))) 4))) 252645135) + (sUshr (sAnd (wr ((wr ((sAnd (wr (x0 - (sAnd (sUshr x0 1) 1431655765))) 858993459) + (sAnd (sUshr (wr (x0 - (sAnd (sUshr x0 1) 1431655765))) 2) 858993459))) + (sUshr (wr ((sAnd (wr (x0 - (sAnd (sUshr x0 1) 1431655765))) 858993459) + (sAnd (sUshr (wr (x0 - (sAnd (sUshr x0 1) 1431655765))) 2) 858993459))) 4))) 252645135) 8))) 16))) 63) σ) :
    slCall G mJ6_bitCount_0f7a4 d K [sI x0] σ Φ := by
  refine slCall.of hG (by decide) rfl rfl (Nat.le_of_ble_eq_true rfl) (fun X hX hXG hB => ?_)
  subst hXG
  have hmL : (xc X).maxLocals = 1 := hB.2.2.2.1
  exact (show slOK X (slQ X (some .int) Φ K) 0 0 [some (sI x0)] [] σ from
    st_iload_n hX dJ6_bitCount_0f7a4_0 rfl (st_iload_n hX dJ6_bitCount_0f7a4_1 rfl (st_iconst hX dJ6_bitCount_0f7a4_2 (st_iushr hX dJ6_bitCount_0f7a4_3 (st_ldcw hX (n := 1431655765) rfl (lw_in6 _ (List.mem_of_getElem? (i := 5) (by decide +kernel))) dJ6_bitCount_0f7a4_4 (st_iand hX dJ6_bitCount_0f7a4_7 (st_isubw hX dJ6_bitCount_0f7a4_8 (st_istore_n hX dJ6_bitCount_0f7a4_9 (by rw [hmL]; decide) (ls' := [some (sI (wr (x0 - (sAnd (sUshr x0 1) 1431655765))))]) rfl (st_iload_n hX dJ6_bitCount_0f7a4_10 rfl (st_ldcw hX (n := 858993459) rfl (lw_in6 _ (List.mem_of_getElem? (i := 6) (by decide +kernel))) dJ6_bitCount_0f7a4_11 (st_iand hX dJ6_bitCount_0f7a4_14 (st_iload_n hX dJ6_bitCount_0f7a4_15 rfl (st_iconst hX dJ6_bitCount_0f7a4_16 (st_iushr hX dJ6_bitCount_0f7a4_17 (st_ldcw hX (n := 858993459) rfl (lw_in6 _ (List.mem_of_getElem? (i := 6) (by decide +kernel))) dJ6_bitCount_0f7a4_18 (st_iand hX dJ6_bitCount_0f7a4_21 (st_iaddw hX dJ6_bitCount_0f7a4_22 (st_istore_n hX dJ6_bitCount_0f7a4_23 (by rw [hmL]; decide) (ls' := [some (sI (wr ((sAnd (wr (x0 - (sAnd (sUshr x0 1) 1431655765))) 858993459) + (sAnd (sUshr (wr (x0 - (sAnd (sUshr x0 1) 1431655765))) 2) 858993459))))]) rfl (st_iload_n hX dJ6_bitCount_0f7a4_24 rfl (st_iload_n hX dJ6_bitCount_0f7a4_25 rfl (st_iconst hX dJ6_bitCount_0f7a4_26 (st_iushr hX dJ6_bitCount_0f7a4_27 (st_iaddw hX dJ6_bitCount_0f7a4_28 (st_ldcw hX (n := 252645135) rfl (lw_in6 _ (List.mem_of_getElem? (i := 7) (by decide +kernel))) dJ6_bitCount_0f7a4_29 (st_iand hX dJ6_bitCount_0f7a4_32 (st_istore_n hX dJ6_bitCount_0f7a4_33 (by rw [hmL]; decide) (ls' := [some (sI (sAnd (wr ((wr ((sAnd (wr (x0 - (sAnd (sUshr x0 1) 1431655765))) 858993459) + (sAnd (sUshr (wr (x0 - (sAnd (sUshr x0 1) 1431655765))) 2) 858993459))) + (sUshr (wr ((sAnd (wr (x0 - (sAnd (sUshr x0 1) 1431655765))) 858993459) + (sAnd (sUshr (wr (x0 - (sAnd (sUshr x0 1) 1431655765))) 2) 858993459))) 4))) 252645135))]) rfl (st_iload_n hX dJ6_bitCount_0f7a4_34 rfl (st_iload_n hX dJ6_bitCount_0f7a4_35 rfl (st_bipush hX dJ6_bitCount_0f7a4_36 (by decide) (st_iushr hX dJ6_bitCount_0f7a4_38 (st_iaddw hX dJ6_bitCount_0f7a4_39 (st_istore_n hX dJ6_bitCount_0f7a4_40 (by rw [hmL]; decide) (ls' := [some (sI (wr ((sAnd (wr ((wr ((sAnd (wr (x0 - (sAnd (sUshr x0 1) 1431655765))) 858993459) + (sAnd (sUshr (wr (x0 - (sAnd (sUshr x0 1) 1431655765))) 2) 858993459))) + (sUshr (wr ((sAnd (wr (x0 - (sAnd (sUshr x0 1) 1431655765))) 858993459) + (sAnd (sUshr (wr (x0 - (sAnd (sUshr x0 1) 1431655765))) 2) 858993459))) 4))) 252645135) + (sUshr (sAnd (wr ((wr ((sAnd (wr (x0 - (sAnd (sUshr x0 1) 1431655765))) 858993459) + (sAnd (sUshr (wr (x0 - (sAnd (sUshr x0 1) 1431655765))) 2) 858993459))) + (sUshr (wr ((sAnd (wr (x0 - (sAnd (sUshr x0 1) 1431655765))) 858993459) + (sAnd (sUshr (wr (x0 - (sAnd (sUshr x0 1) 1431655765))) 2) 858993459))) 4))) 252645135) 8))))]) rfl (st_iload_n hX dJ6_bitCount_0f7a4_41 rfl (st_iload_n hX dJ6_bitCount_0f7a4_42 rfl (st_bipush hX dJ6_bitCount_0f7a4_43 (by decide) (st_iushr hX dJ6_bitCount_0f7a4_45 (st_iaddw hX dJ6_bitCount_0f7a4_46 (st_istore_n hX dJ6_bitCount_0f7a4_47 (by rw [hmL]; decide) (ls' := [some (sI (wr ((wr ((sAnd (wr ((wr ((sAnd (wr (x0 - (sAnd (sUshr x0 1) 1431655765))) 858993459) + (sAnd (sUshr (wr (x0 - (sAnd (sUshr x0 1) 1431655765))) 2) 858993459))) + (sUshr (wr ((sAnd (wr (x0 - (sAnd (sUshr x0 1) 1431655765))) 858993459) + (sAnd (sUshr (wr (x0 - (sAnd (sUshr x0 1) 1431655765))) 2) 858993459))) 4))) 252645135) + (sUshr (sAnd (wr ((wr ((sAnd (wr (x0 - (sAnd (sUshr x0 1) 1431655765))) 858993459) + (sAnd (sUshr (wr (x0 - (sAnd (sUshr x0 1) 1431655765))) 2) 858993459))) + (sUshr (wr ((sAnd (wr (x0 - (sAnd (sUshr x0 1) 1431655765))) 858993459) + (sAnd (sUshr (wr (x0 - (sAnd (sUshr x0 1) 1431655765))) 2) 858993459))) 4))) 252645135) 8))) + (sUshr (wr ((sAnd (wr ((wr ((sAnd (wr (x0 - (sAnd (sUshr x0 1) 1431655765))) 858993459) + (sAnd (sUshr (wr (x0 - (sAnd (sUshr x0 1) 1431655765))) 2) 858993459))) + (sUshr (wr ((sAnd (wr (x0 - (sAnd (sUshr x0 1) 1431655765))) 858993459) + (sAnd (sUshr (wr (x0 - (sAnd (sUshr x0 1) 1431655765))) 2) 858993459))) 4))) 252645135) + (sUshr (sAnd (wr ((wr ((sAnd (wr (x0 - (sAnd (sUshr x0 1) 1431655765))) 858993459) + (sAnd (sUshr (wr (x0 - (sAnd (sUshr x0 1) 1431655765))) 2) 858993459))) + (sUshr (wr ((sAnd (wr (x0 - (sAnd (sUshr x0 1) 1431655765))) 858993459) + (sAnd (sUshr (wr (x0 - (sAnd (sUshr x0 1) 1431655765))) 2) 858993459))) 4))) 252645135) 8))) 16))))]) rfl (st_iload_n hX dJ6_bitCount_0f7a4_48 rfl (st_bipush hX dJ6_bitCount_0f7a4_49 (by decide) (st_iand hX dJ6_bitCount_0f7a4_51 (st_iret hX hB (by omega) dJ6_bitCount_0f7a4_52 (h)))))))))))))))))))))))))))))))))))))))))))

set_option maxRecDepth 100000 in
set_option maxHeartbeats 4000000 in
theorem vc_J0_isLatin1_aae02 {G : slG} (hG : slGood G) {d K : Nat} (hd : 0 ≤ d) (hK : 0 ≤ K) {Φ : slPost} {σ : slM} {w : Nat} (hw : 107 ≤ w ∧ w < 136) 
    (h : Φ (0, 1) σ) :
    slCall G mJ0_isLatin1_aae02 d K [sR w 0] σ Φ := by
  refine slCall.of hG (by decide) rfl rfl (Nat.le_of_ble_eq_true rfl) (fun X hX hXG hB => ?_)
  subst hXG
  have hmL : (xc X).maxLocals = 1 := hB.2.2.2.1
  exact (show slOK X (slQ X (some .boolean) Φ K) 0 0 [some (sR w 0)] [] σ from
    st_gst hX dJ0_isLatin1_aae02_0 (st_if_eq hX dJ0_isLatin1_aae02_3 (tgt := 17) (by decide) (by decide) (fun c2 => absurd c2 (by decide)) (fun _ => st_aload_n hX dJ0_isLatin1_aae02_6 rfl (st_gsc hX hw dJ0_isLatin1_aae02_7 (st_if_ne hX dJ0_isLatin1_aae02_10 (tgt := 17) (by decide) (by decide) (fun c1 => absurd c1 (by decide)) (fun _ => st_iconst hX dJ0_isLatin1_aae02_13 (st_goto hX dJ0_isLatin1_aae02_14 (tgt := 18) (by decide) (st_zret hX hB (by omega) dJ0_isLatin1_aae02_18 (by decide) (h)))))))))

set_option maxRecDepth 100000 in
set_option maxHeartbeats 4000000 in
theorem vc_J0_coder_7d493 {G : slG} (hG : slGood G) {d K : Nat} (hd : 0 ≤ d) (hK : 0 ≤ K) {Φ : slPost} {σ : slM} {w : Nat} (hw : 107 ≤ w ∧ w < 136) 
    (h : Φ (0, 0) σ) :
    slCall G mJ0_coder_7d493 d K [sR w 0] σ Φ := by
  refine slCall.of hG (by decide) rfl rfl (Nat.le_of_ble_eq_true rfl) (fun X hX hXG hB => ?_)
  subst hXG
  have hmL : (xc X).maxLocals = 1 := hB.2.2.2.1
  exact (show slOK X (slQ X (some .byte) Φ K) 0 0 [some (sR w 0)] [] σ from
    st_gst hX dJ0_coder_7d493_0 (st_if_eq hX dJ0_coder_7d493_3 (tgt := 13) (by decide) (by decide) (fun c1 => absurd c1 (by decide)) (fun _ => st_aload_n hX dJ0_coder_7d493_6 rfl (st_gsc hX hw dJ0_coder_7d493_7 (st_goto hX dJ0_coder_7d493_10 (tgt := 14) (by decide) (st_bret hX hB (by omega) dJ0_coder_7d493_14 (by decide) (h)))))))

set_option maxRecDepth 100000 in
set_option maxHeartbeats 4000000 in
theorem vc_J0_length_8abf5 {G : slG} (hG : slGood G) {d K : Nat} (hd : 1 ≤ d) (hK : 0 ≤ K) {Φ : slPost} {σ : slM} {w : Nat} (hw : 107 ≤ w ∧ w < 136) 
    (h : slCall G mJ0_coder_7d493 (d - 1) 0 [sR w 0] σ (slKt (fun v1 τ2 => Φ (0, sShr ((slBy (w + 29)).length : Int) v1) τ2) Φ)) :
    slCall G mJ0_length_8abf5 d K [sR w 0] σ Φ := by
  refine slCall.of hG (by decide) rfl rfl (Nat.le_of_ble_eq_true rfl) (fun X hX hXG hB => ?_)
  subst hXG
  have hmL : (xc X).maxLocals = 1 := hB.2.2.2.1
  exact (show slOK X (slQ X (some .int) Φ K) 0 0 [some (sR w 0)] [] σ from
    st_aload_n hX dJ0_length_8abf5_0 rfl (st_gsv hX hw (b := w + 29) rfl dJ0_length_8abf5_1 (st_alenB hX (by have := hw; omega) dJ0_length_8abf5_4 (st_aload_n hX dJ0_length_8abf5_5 rfl (st_cT hX hB [] si_J0_335 hw (by omega) (by omega) rfl (st := [sI ((slBy (w + 29)).length : Int)]) (Nat.le_of_ble_eq_true rfl) rfl dJ0_length_8abf5_6 (h) (fun v1 τ2 h3 => st_ishr hX dJ0_length_8abf5_9 (st_iret hX hB (by omega) dJ0_length_8abf5_10 (h3))))))))

set_option maxRecDepth 100000 in
set_option maxHeartbeats 4000000 in
theorem vc_J1_charAt_3b067 {G : slG} (hG : slGood G) {d K : Nat} (hd : 1 ≤ d) (hK : 0 ≤ K) {Φ : slPost} {σ : slM} {b : Nat} {x1 : Int} (hb : 136 ≤ b ∧ b < 165) 
    (h : slCall G mJ0_checkIndex_df160 (d - 1) 0 [sI x1, sI ((slBy b).length : Int)] σ (slKt (fun v1 τ2 => ((0 ≤ x1) ∧ (x1 < ((slBy b).length : Int))) ∧ (0 ≤ sI2c (sAnd ((slBy b).getD (Int.toNat x1) 0) 255) ∧ sI2c (sAnd ((slBy b).getD (Int.toNat x1) 0) 255) < 65536) ∧ Φ (0, sI2c (sAnd ((slBy b).getD (Int.toNat x1) 0) 255)) τ2) Φ)) :
    slCall G mJ1_charAt_3b067 d K [sR b 0, sI x1] σ Φ := by
  refine slCall.of hG (by decide) rfl rfl (Nat.le_of_ble_eq_true rfl) (fun X hX hXG hB => ?_)
  subst hXG
  have hmL : (xc X).maxLocals = 2 := hB.2.2.2.1
  exact (show slOK X (slQ X (some .char) Φ K) 0 0 [some (sR b 0), some (sI x1)] [] σ from
    st_iload_n hX dJ1_charAt_3b067_0 rfl (st_aload_n hX dJ1_charAt_3b067_1 rfl (st_alenB hX hb dJ1_charAt_3b067_2 (st_cS hX hB [sI x1, sI ((slBy b).length : Int)] si_J1_9 (by omega) (by omega) rfl (st := []) (Nat.le_of_ble_eq_true rfl) rfl dJ1_charAt_3b067_3 (h) (fun v1 τ2 h3 => st_aload_n hX dJ1_charAt_3b067_6 rfl (st_iload_n hX dJ1_charAt_3b067_7 rfl ((h3).elim fun o4 h5 => st_baloadB hX hb dJ1_charAt_3b067_8 o4.1 o4.2 (st_sipush hX dJ1_charAt_3b067_9 (by decide) (st_iand hX dJ1_charAt_3b067_12 (st_i2c hX dJ1_charAt_3b067_13 (st_cret hX hB (by omega) dJ1_charAt_3b067_14 (h5).1 (h5).2)))))))))))

set_option maxRecDepth 100000 in
set_option maxHeartbeats 4000000 in
theorem vc_J0_charAt_5068e {G : slG} (hG : slGood G) {d K : Nat} (hd : 1 ≤ d) (hK : 0 ≤ K) {Φ : slPost} {σ : slM} {w : Nat} {x1 : Int} (hw : 107 ≤ w ∧ w < 136) 
    (h : slCall G mJ0_isLatin1_aae02 (d - 1) 0 [sR w 0] σ (slKt (fun v1 τ2 => ((InR v1)) ∧ (v1 = 0 → False) ∧ (¬ (v1 = 0) → slCall G mJ1_charAt_3b067 (d - 1) 0 [sR (w + 29) 0, sI x1] τ2 (slKt (fun v6 τ7 => (0 ≤ v6 ∧ v6 < 65536) ∧ Φ (0, v6) τ7) Φ))) Φ)) :
    slCall G mJ0_charAt_5068e d K [sR w 0, sI x1] σ Φ := by
  refine slCall.of hG (by decide) rfl rfl (Nat.le_of_ble_eq_true rfl) (fun X hX hXG hB => ?_)
  subst hXG
  have hmL : (xc X).maxLocals = 2 := hB.2.2.2.1
  exact (show slOK X (slQ X (some .char) Φ K) 0 0 [some (sR w 0), some (sI x1)] [] σ from
    st_aload_n hX dJ0_charAt_5068e_0 rfl (st_cT hX hB [] si_J0_492 hw (by omega) (by omega) rfl (st := []) (Nat.le_of_ble_eq_true rfl) rfl dJ0_charAt_5068e_1 (h) (fun v1 τ2 h3 => (h3).elim fun o11 h12 => (h12).elim fun h9 h10 => st_if_eq hX dJ0_charAt_5068e_4 (tgt := 16) (by decide) o11 (fun c4 => st_aload_n hX dJ0_charAt_5068e_16 rfl (st_gsv hX hw (b := w + 29) rfl dJ0_charAt_5068e_17 (st_iload_n hX dJ0_charAt_5068e_20 rfl (((h9 c4)).elim)))) (fun c5 => st_aload_n hX dJ0_charAt_5068e_7 rfl (st_gsv hX hw (b := w + 29) rfl dJ0_charAt_5068e_8 (st_iload_n hX dJ0_charAt_5068e_11 rfl (st_cS hX hB [sR (w + 29) 0, sI x1] si_J0_495 (by omega) (by omega) rfl (st := []) (Nat.le_of_ble_eq_true rfl) rfl dJ0_charAt_5068e_12 ((h10 c5)) (fun v6 τ7 h8 => st_cret hX hB (by omega) dJ0_charAt_5068e_15 (h8).1 (h8).2))))))))

set_option maxRecDepth 100000 in
set_option maxHeartbeats 4000000 in
theorem vc_J1_canEncode_9a6ad {G : slG} (hG : slGood G) {d K : Nat} (hd : 0 ≤ d) (hK : 0 ≤ K) {Φ : slPost} {σ : slM} {x0 : Int} 
    (h : ((InR x0)) ∧ (x0 < 0 → Φ (0, 0) σ) ∧ (¬ (x0 < 0) → ((InR x0)) ∧ (255 < x0 → Φ (0, 0) σ) ∧ (¬ (255 < x0) → Φ (0, 1) σ))) :
    slCall G mJ1_canEncode_9a6ad d K [sI x0] σ Φ := by
  refine slCall.of hG (by decide) rfl rfl (Nat.le_of_ble_eq_true rfl) (fun X hX hXG hB => ?_)
  subst hXG
  have hmL : (xc X).maxLocals = 1 := hB.2.2.2.1
  exact (show slOK X (slQ X (some .boolean) Φ K) 0 0 [some (sI x0)] [] σ from
    st_iload_n hX dJ1_canEncode_9a6ad_0 rfl ((h).elim fun o11 h12 => (h12).elim fun h9 h10 => st_if_lt hX dJ1_canEncode_9a6ad_1 (tgt := 15) (by decide) o11 (fun c1 => st_iconst hX dJ1_canEncode_9a6ad_15 (st_zret hX hB (by omega) dJ1_canEncode_9a6ad_16 (by decide) ((h9 c1)))) (fun c2 => st_iload_n hX dJ1_canEncode_9a6ad_4 rfl (st_sipush hX dJ1_canEncode_9a6ad_5 (by decide) (((h10 c2)).elim fun o7 h8 => (h8).elim fun h5 h6 => st_icmp_gt hX dJ1_canEncode_9a6ad_8 (tgt := 15) (by decide) o7 (by decide) (fun c3 => st_iconst hX dJ1_canEncode_9a6ad_15 (st_zret hX hB (by omega) dJ1_canEncode_9a6ad_16 (by decide) ((h5 c3)))) (fun c4 => st_iconst hX dJ1_canEncode_9a6ad_11 (st_goto hX dJ1_canEncode_9a6ad_12 (tgt := 16) (by decide) (st_zret hX hB (by omega) dJ1_canEncode_9a6ad_16 (by decide) ((h6 c4))))))))))

set_option maxRecDepth 100000 in
set_option maxHeartbeats 4000000 in
theorem vc_J1_indexOfChar_4cfef {G : slG} (hG : slGood G) {d K : Nat} (hd : 0 ≤ d) (hK : 0 ≤ K) {Φ : slPost} {σ : slM} {b : Nat} {x1 : Int} {x2 : Int} {x3 : Int} (hb : 136 ≤ b ∧ b < 165) (I7 : slMu → Int → Int → slM → Prop) 
    (h : (∃ μ1, I7 μ1 (sI2b x1) x2 σ)) 
    (h7 : ∀ (μ : slMu) (y4 y5 : Int) (σ : slM), I7 μ y4 y5 σ → ((InR y5) ∧ (InR x3)) ∧ (x3 ≤ y5 → Φ (0, (-1)) σ) ∧ (¬ (x3 ≤ y5) → ((0 ≤ y5) ∧ (y5 < ((slBy b).length : Int))) ∧ ((InR ((slBy b).getD (Int.toNat y5) 0)) ∧ (InR y4)) ∧ (¬ ((slBy b).getD (Int.toNat y5) 0) = y4 → (∃ μ7, slLt μ7 μ ∧ I7 μ7 y4 (y5 + 1) σ)) ∧ ((slBy b).getD (Int.toNat y5) 0 = y4 → Φ (0, y5) σ))) :
    slCall G mJ1_indexOfChar_4cfef d K [sR b 0, sI x1, sI x2, sI x3] σ Φ := by
  refine slCall.of hG (by decide) rfl rfl (Nat.le_of_ble_eq_true rfl) (fun X hX hXG hB => ?_)
  subst hXG
  have hmL : (xc X).maxLocals = 6 := hB.2.2.2.1
  have key : ∀ μ : slMu, (∀ (y4 y5 : Int) (σ : slM), I7 μ y4 y5 σ → slOK X (slQ X (some .int) Φ K) 0 7 [some (sR b 0), some (sI x1), some (sI x2), some (sI x3), some (sI y4), some (sI y5)] [] σ) := slLt_ind (fun μ ih => (fun y4 y5 σ hI => (fun h19 => st_iload hX dJ1_indexOfChar_4cfef_7 rfl (st_iload_n hX dJ1_indexOfChar_4cfef_9 rfl ((h19).elim fun o17 h18 => (h18).elim fun h15 h16 => st_icmp_ge hX dJ1_indexOfChar_4cfef_10 (tgt := 31) (by decide) o17.1 o17.2 (fun c3 => st_iconst hX dJ1_indexOfChar_4cfef_31 (st_iret hX hB (by omega) dJ1_indexOfChar_4cfef_32 ((h15 c3)))) (fun c4 => st_aload_n hX dJ1_indexOfChar_4cfef_13 rfl (st_iload hX dJ1_indexOfChar_4cfef_14 rfl (((h16 c4)).elim fun o13 h14 => st_baloadB hX hb dJ1_indexOfChar_4cfef_16 o13.1 o13.2 (st_iload hX dJ1_indexOfChar_4cfef_17 rfl ((h14).elim fun o11 h12 => (h12).elim fun h9 h10 => st_icmp_ne hX dJ1_indexOfChar_4cfef_19 (tgt := 25) (by decide) o11.1 o11.2 (fun c5 => st_iinc hX dJ1_indexOfChar_4cfef_25 (x := y5) rfl (by rw [hmL]; decide) (ls' := [some (sR b 0), some (sI x1), some (sI x2), some (sI x3), some (sI y4), some (sI (y5 + 1))]) rfl (st_goto hX dJ1_indexOfChar_4cfef_28 (tgt := 7) (by decide) (Exists.elim ((h9 c5)) fun μ7 q8 => (ih μ7 q8.1) y4 (y5 + 1) σ q8.2))) (fun c6 => st_iload hX dJ1_indexOfChar_4cfef_22 rfl (st_iret hX hB (by omega) dJ1_indexOfChar_4cfef_24 ((h10 c6)))))))))))) (h7 μ y4 y5 σ hI)))
  exact (show slOK X (slQ X (some .int) Φ K) 0 0 [some (sR b 0), some (sI x1), some (sI x2), some (sI x3), none, none] [] σ from
    st_iload_n hX dJ1_indexOfChar_4cfef_0 rfl (st_i2b hX dJ1_indexOfChar_4cfef_1 (st_istore hX dJ1_indexOfChar_4cfef_2 (by rw [hmL]; decide) (ls' := [some (sR b 0), some (sI x1), some (sI x2), some (sI x3), some (sI (sI2b x1)), none]) rfl (st_iload_n hX dJ1_indexOfChar_4cfef_4 rfl (st_istore hX dJ1_indexOfChar_4cfef_5 (by rw [hmL]; decide) (ls' := [some (sR b 0), some (sI x1), some (sI x2), some (sI x3), some (sI (sI2b x1)), some (sI x2)]) rfl (Exists.elim (h) fun μ1 q2 => (key μ1) (sI2b x1) x2 σ q2))))))

set_option maxRecDepth 100000 in
set_option maxHeartbeats 4000000 in
theorem vc_J1_indexOf_4cfef {G : slG} (hG : slGood G) {d K : Nat} (hd : 1 ≤ d) (hK : 0 ≤ K) {Φ : slPost} {σ : slM} {b : Nat} {x1 : Int} {x2 : Int} {x3 : Int} (hb : 136 ≤ b ∧ b < 165) 
    (h : slCall G mJ1_canEncode_9a6ad (d - 1) 0 [sI x1] σ (slKt (fun v1 τ2 => ((InR v1)) ∧ (¬ v1 = 0 → (InR x2) ∧ ((InR x3) ∧ (InR ((slBy b).length : Int))) ∧ ((InR (if x2 < 0 then (0 : Int) else x2)) ∧ (InR (if ((slBy b).length : Int) < x3 then (((slBy b).length : Int) : Int) else x3))) ∧ ((if x2 < 0 then (0 : Int) else x2) < (if ((slBy b).length : Int) < x3 then (((slBy b).length : Int) : Int) else x3) → slCall G mJ1_indexOfChar_4cfef (d - 1) 0 [sR b 0, sI x1, sI (if x2 < 0 then (0 : Int) else x2), sI (if ((slBy b).length : Int) < x3 then (((slBy b).length : Int) : Int) else x3)] τ2 (slKt (fun v8 τ9 => Φ (0, v8) τ9) Φ)) ∧ (¬ ((if x2 < 0 then (0 : Int) else x2) < (if ((slBy b).length : Int) < x3 then (((slBy b).length : Int) : Int) else x3)) → Φ (0, (-1)) τ2)) ∧ (v1 = 0 → Φ (0, (-1)) τ2)) Φ)) :
    slCall G mJ1_indexOf_4cfef d K [sR b 0, sI x1, sI x2, sI x3] σ Φ := by
  refine slCall.of hG (by decide) rfl rfl (Nat.le_of_ble_eq_true rfl) (fun X hX hXG hB => ?_)
  subst hXG
  have hmL : (xc X).maxLocals = 4 := hB.2.2.2.1
  exact (show slOK X (slQ X (some .int) Φ K) 0 0 [some (sR b 0), some (sI x1), some (sI x2), some (sI x3)] [] σ from
    st_iload_n hX dJ1_indexOf_4cfef_0 rfl (st_cS hX hB [sI x1] si_J1_88 (by omega) (by omega) rfl (st := []) (Nat.le_of_ble_eq_true rfl) rfl dJ1_indexOf_4cfef_1 (h) (fun v1 τ2 h3 => (h3).elim fun o21 h22 => (h22).elim fun h19 h20 => st_if_ne hX dJ1_indexOf_4cfef_4 (tgt := 9) (by decide) o21 (fun c4 => st_iload_n hX dJ1_indexOf_4cfef_9 rfl (st_iconst hX dJ1_indexOf_4cfef_10 (((h19 c4)).elim fun o17 h18 => st_max hX si_J1_92 hB.room (by omega) (by omega) (Nat.le_of_ble_eq_true rfl) dJ1_indexOf_4cfef_11 o17 (by decide) (st_istore_n hX dJ1_indexOf_4cfef_14 (by rw [hmL]; decide) (ls' := [some (sR b 0), some (sI x1), some (sI (if x2 < 0 then (0 : Int) else x2)), some (sI x3)]) rfl (st_iload_n hX dJ1_indexOf_4cfef_15 rfl (st_aload_n hX dJ1_indexOf_4cfef_16 rfl (st_alenB hX hb dJ1_indexOf_4cfef_17 ((h18).elim fun o15 h16 => st_min hX si_J1_38 hB.room (by omega) (by omega) (Nat.le_of_ble_eq_true rfl) dJ1_indexOf_4cfef_18 o15.1 o15.2 (st_istore_n hX dJ1_indexOf_4cfef_21 (by rw [hmL]; decide) (ls' := [some (sR b 0), some (sI x1), some (sI (if x2 < 0 then (0 : Int) else x2)), some (sI (if ((slBy b).length : Int) < x3 then (((slBy b).length : Int) : Int) else x3))]) rfl (st_iload_n hX dJ1_indexOf_4cfef_22 rfl (st_iload_n hX dJ1_indexOf_4cfef_23 rfl ((h16).elim fun o13 h14 => (h14).elim fun h11 h12 => st_icmp_lt hX dJ1_indexOf_4cfef_24 (tgt := 29) (by decide) o13.1 o13.2 (fun c6 => st_aload_n hX dJ1_indexOf_4cfef_29 rfl (st_iload_n hX dJ1_indexOf_4cfef_30 rfl (st_iload_n hX dJ1_indexOf_4cfef_31 rfl (st_iload_n hX dJ1_indexOf_4cfef_32 rfl (st_cS hX hB [sR b 0, sI x1, sI (if x2 < 0 then (0 : Int) else x2), sI (if ((slBy b).length : Int) < x3 then (((slBy b).length : Int) : Int) else x3)] si_J1_95 (by omega) (by omega) rfl (st := []) (Nat.le_of_ble_eq_true rfl) rfl dJ1_indexOf_4cfef_33 ((h11 c6)) (fun v8 τ9 h10 => st_iret hX hB (by omega) dJ1_indexOf_4cfef_36 (h10))))))) (fun c7 => st_iconst hX dJ1_indexOf_4cfef_27 (st_iret hX hB (by omega) dJ1_indexOf_4cfef_28 ((h12 c7)))))))))))))))) (fun c5 => st_iconst hX dJ1_indexOf_4cfef_7 (st_iret hX hB (by omega) dJ1_indexOf_4cfef_8 ((h20 c5)))))))

set_option maxRecDepth 100000 in
set_option maxHeartbeats 4000000 in
theorem vc_J0_indexOf_7cf53 {G : slG} (hG : slGood G) {d K : Nat} (hd : 1 ≤ d) (hK : 0 ≤ K) {Φ : slPost} {σ : slM} {w : Nat} {x1 : Int} {x2 : Int} (hw : 107 ≤ w ∧ w < 136) 
    (h : slCall G mJ0_isLatin1_aae02 (d - 1) 0 [sR w 0] σ (slKt (fun v1 τ2 => ((InR v1)) ∧ (v1 = 0 → slCall G mJ0_length_8abf5 (d - 1) 0 [sR w 0] τ2 (slKt (fun v6 τ7 => False) Φ)) ∧ (¬ (v1 = 0) → slCall G mJ0_length_8abf5 (d - 1) 0 [sR w 0] τ2 (slKt (fun v9 τ10 => slCall G mJ1_indexOf_4cfef (d - 1) 0 [sR (w + 29) 0, sI x1, sI x2, sI v9] τ10 (slKt (fun v12 τ13 => Φ (0, v12) τ13) Φ)) Φ))) Φ)) :
    slCall G mJ0_indexOf_7cf53 d K [sR w 0, sI x1, sI x2] σ Φ := by
  refine slCall.of hG (by decide) rfl rfl (Nat.le_of_ble_eq_true rfl) (fun X hX hXG hB => ?_)
  subst hXG
  have hmL : (xc X).maxLocals = 3 := hB.2.2.2.1
  exact (show slOK X (slQ X (some .int) Φ K) 0 0 [some (sR w 0), some (sI x1), some (sI x2)] [] σ from
    st_aload_n hX dJ0_indexOf_7cf53_0 rfl (st_cT hX hB [] si_J0_492 hw (by omega) (by omega) rfl (st := []) (Nat.le_of_ble_eq_true rfl) rfl dJ0_indexOf_7cf53_1 (h) (fun v1 τ2 h3 => (h3).elim fun o17 h18 => (h18).elim fun h15 h16 => st_if_eq hX dJ0_indexOf_7cf53_4 (tgt := 23) (by decide) o17 (fun c4 => st_aload_n hX dJ0_indexOf_7cf53_23 rfl (st_gsv hX hw (b := w + 29) rfl dJ0_indexOf_7cf53_24 (st_iload_n hX dJ0_indexOf_7cf53_27 rfl (st_iload_n hX dJ0_indexOf_7cf53_28 rfl (st_aload_n hX dJ0_indexOf_7cf53_29 rfl (st_cT hX hB [] si_J0_505 hw (by omega) (by omega) rfl (st := [sI x2, sI x1, sR (w + 29) 0]) (Nat.le_of_ble_eq_true rfl) rfl dJ0_indexOf_7cf53_30 ((h15 c4)) (fun v6 τ7 h8 => (h8).elim))))))) (fun c5 => st_aload_n hX dJ0_indexOf_7cf53_7 rfl (st_gsv hX hw (b := w + 29) rfl dJ0_indexOf_7cf53_8 (st_iload_n hX dJ0_indexOf_7cf53_11 rfl (st_iload_n hX dJ0_indexOf_7cf53_12 rfl (st_aload_n hX dJ0_indexOf_7cf53_13 rfl (st_cT hX hB [] si_J0_505 hw (by omega) (by omega) rfl (st := [sI x2, sI x1, sR (w + 29) 0]) (Nat.le_of_ble_eq_true rfl) rfl dJ0_indexOf_7cf53_14 ((h16 c5)) (fun v9 τ10 h11 => st_cS hX hB [sR (w + 29) 0, sI x1, sI x2, sI v9] si_J0_637 (by omega) (by omega) rfl (st := []) (Nat.le_of_ble_eq_true rfl) rfl dJ0_indexOf_7cf53_17 (h11) (fun v12 τ13 h14 => st_goto hX dJ0_indexOf_7cf53_20 (tgt := 36) (by decide) (st_iret hX hB (by omega) dJ0_indexOf_7cf53_36 (h14)))))))))))))

set_option maxRecDepth 100000 in
set_option maxHeartbeats 4000000 in
theorem vc_J0_indexOf_0f7a4 {G : slG} (hG : slGood G) {d K : Nat} (hd : 1 ≤ d) (hK : 0 ≤ K) {Φ : slPost} {σ : slM} {w : Nat} {x1 : Int} (hw : 107 ≤ w ∧ w < 136) 
    (h : slCall G mJ0_indexOf_7cf53 (d - 1) 0 [sR w 0, sI x1, sI 0] σ (slKt (fun v1 τ2 => Φ (0, v1) τ2) Φ)) :
    slCall G mJ0_indexOf_0f7a4 d K [sR w 0, sI x1] σ Φ := by
  refine slCall.of hG (by decide) rfl rfl (Nat.le_of_ble_eq_true rfl) (fun X hX hXG hB => ?_)
  subst hXG
  have hmL : (xc X).maxLocals = 2 := hB.2.2.2.1
  exact (show slOK X (slQ X (some .int) Φ K) 0 0 [some (sR w 0), some (sI x1)] [] σ from
    st_aload_n hX dJ0_indexOf_0f7a4_0 rfl (st_iload_n hX dJ0_indexOf_0f7a4_1 rfl (st_iconst hX dJ0_indexOf_0f7a4_2 (st_cT hX hB [sI x1, sI 0] si_J0_633 hw (by omega) (by omega) rfl (st := []) (Nat.le_of_ble_eq_true rfl) rfl dJ0_indexOf_0f7a4_3 (h) (fun v1 τ2 h3 => st_iret hX hB (by omega) dJ0_indexOf_0f7a4_6 (h3))))))

