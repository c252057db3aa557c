/-! ===== the law's beginning ===== -/
theorem b_to_sl {X : slX} {Q : State → Prop} {n z pc : Nat} {ls : List (Nat × Value)} {es : List bE} {σ : slM} {lsS : List (Option slV)} (rep : ∀ H, bAt (xG X) es H → slRep (xG X) σ H) (hn : xn X = n) (hz : xz X = z) (hl : ∀ k v, slAtL lsS k = some v → slVal v ∧ (k, slD (xG X) v) ∈ ls) (kk : slOK X Q 0 pc lsS [] σ) : bOK X Q n z pc ls [] es := by
  intro H locs lsA h1 h2 h3
  subst hn hz
  exact kk H locs lsA (rep H h1) h2 ⟨h3.1, h3.2.1, fun k v hk => ⟨(hl k v hk).1, h3.2.2 (k, slD (xG X) v) (hl k v hk).2⟩⟩ trivial
theorem bNum {X : slX} {Q : State → Prop} {n z n' z' pc pc' : Nat} {ls : List (Nat × Value)} {st : List bV} {es : List bE} (h1 : n = n') (h2 : z = z') (h3 : pc = pc') (h : bOK X Q n' z' pc' ls st es) : bOK X Q n z pc ls st es := by
  subst h1 h2 h3
  exact h
set_option maxRecDepth 100000 in
theorem lw_pro {X : slX} {Q : State → Prop} {b : Nat} (hX : slCx X RL code) (hmL : (xc X).maxLocals = 7) (hR : xR X = room_1) (hA : ∀ r i, r < 107 → r ≠ 15 → slAd (xG X) r i = slBase (xG X) + bAd r i) (h15 : slAd (xG X) 15 0 = b) (hn : xn X = 166) (hz : xz X = 26351)
    (kk : slOK X Q 0 20 [some (sR 15 0), some (sR 11 0), some (sR 12 0), some (sR 14 0), none, none, none] [] bS0) : bOK X Q 0 0 0 [(0, .ref b)] [] [] := by
  have hG : slGood (xG X) := hX.2.2.2.1
  have hfr : (xR X).frames = 2048 := by rw [hR]; rfl
  have hlo : (xR X).locals = 84000 := by rw [hR]; rfl
  have hce : (xR X).cells = 601024 := by rw [hR]; rfl
  have hsl : (xR X).slots = 7293034 := by rw [hR]; rfl
  have c11 : bCall (xG X) yX11_init cX11_init 4 117 16089 0 [.inl (11, bD11)] bE1 := bi_11 hG (E := [.inl (11, bD11)]) (k := 0) rfl
  have c12 : bCall (xG X) yX12_init cX12_init 1 46 10160 118 bE2 bE3 := bi_12 hG bE2_at
  refine b_new hX bn_L_8 (bLe hce rfl) (bLe hsl rfl) dL_law_0 (a := 0) rfl ?_
  refine b_dup hX dL_law_3 ?_
  refine b_callI hX bs_L_111 (d2 := 4) (m2 := 117) (s2 := 16089) (bLe hfr rfl) (bLe hlo rfl) (bLe hce rfl) (bLe hsl rfl) (Nat.le_of_ble_eq_true rfl) dL_law_4 c11 ?_
  refine b_astore hX dL_law_7 (by rw [hmL]; decide) rfl ?_
  refine b_new hX bn_L_112 (bLe hce rfl) (bLe hsl rfl) dL_law_8 (a := 118) bE1_len ?_
  refine b_dup hX dL_law_11 ?_
  refine b_callI hX bs_L_114 (d2 := 1) (m2 := 46) (s2 := 10160) (bLe hfr rfl) (bLe hlo rfl) (bLe hce rfl) (bLe hsl rfl) (Nat.le_of_ble_eq_true rfl) dL_law_12 c12 ?_
  refine b_astore hX dL_law_15 (by rw [hmL]; decide) rfl ?_
  refine b_iconst hX dL_law_16 ?_
  refine b_newJ hX (N := 1) ba_J rfl (by decide) (bLe hce rfl) (bLe hsl rfl) dL_law_17 (a := 165) bE3_len ?_
  refine b_astore hX dL_law_19 (by rw [hmL]; decide) rfl ?_
  refine bNum (n' := 166) (z' := 26351) (pc' := 20) (by omega) (by omega) (by omega) ?_
  refine b_to_sl (es := bE3 ++ [.inr (2, 1, [])]) (σ := bS0) (lsS := [some (sR 15 0), some (sR 11 0), some (sR 12 0), some (sR 14 0), none, none, none]) (fun H h => b_rep hA (show bAt (xG X) bE4 H from h)) hn hz (fun k v hk => ?_) kk
  have a11 : slAd (xG X) 11 0 = slBase (xG X) + 0 := hA 11 0 (by decide) (by decide)
  have a12 : slAd (xG X) 12 0 = slBase (xG X) + 118 := hA 12 0 (by decide) (by decide)
  have a14 : slAd (xG X) 14 0 = slBase (xG X) + 165 := hA 14 0 (by decide) (by decide)
  match k, hk with
  | 0, hk =>
    have hk : some (sR 15 0) = some v := hk
    cases hk
    exact ⟨by show 0 < (slR 15).2.2; decide, by show (0, Value.ref (slAd (xG X) 15 0)) ∈ _; rw [h15]; exact List.mem_of_getElem? (i := 3) rfl⟩
  | 1, hk =>
    have hk : some (sR 11 0) = some v := hk
    cases hk
    exact ⟨by show 0 < (slR 11).2.2; decide, by show (1, Value.ref (slAd (xG X) 11 0)) ∈ _; rw [a11]; exact List.mem_of_getElem? (i := 2) rfl⟩
  | 2, hk =>
    have hk : some (sR 12 0) = some v := hk
    cases hk
    exact ⟨by show 0 < (slR 12).2.2; decide, by show (2, Value.ref (slAd (xG X) 12 0)) ∈ _; rw [a12]; exact List.mem_of_getElem? (i := 1) rfl⟩
  | 3, hk =>
    have hk : some (sR 14 0) = some v := hk
    cases hk
    exact ⟨by show 0 < (slR 14).2.2; decide, by show (3, Value.ref (slAd (xG X) 14 0)) ∈ _; rw [a14]; exact List.mem_of_getElem? (i := 0) rfl⟩
  | 4, hk => exact nomatch hk
  | 5, hk => exact nomatch hk
  | 6, hk => exact nomatch hk
  | j + 7, hk => exact nomatch hk
