/-! ===== a coast in the class ===== -/
theorem rdC.cl {r s : Nat} {σ τ : slM} (h : rdC r s σ τ) : clF σ τ := h.1.cl (by simp [rcL])
set_option maxHeartbeats 1000000 in
set_option maxRecDepth 4000 in
theorem sp_X11_coast {G : slG} (hG : slGood G) {d K : Nat} (hd : 72 ≤ d) (hK : 1 ≤ K) {Φ : slPost} {σ : slM} {x1 : Int} {c s N : Nat} {Z : abZ} (hX : isX c s Z σ) (hZ : gdZ N Z) (hN : N ≤ 1000) (i1 : InR x1) (hb : ¬ (0 ≤ x1 ∧ x1 ≤ Z.2.2.2.2.1) → Φ (2, 0) σ) (h0 : ∀ k q, 0 ≤ x1 ∧ x1 ≤ Z.2.2.2.2.1 → lnCo (cxX Z x1) = .inl (k, q) → 1 ≤ k ∧ k ≤ 5 → ∀ τ, clF σ τ → isX c s (nxBad Z q) τ → Φ (0, k) τ) (h1 : ∀ Q p P, 0 ≤ x1 ∧ x1 ≤ Z.2.2.2.2.1 → lnCo (cxX Z x1) = .inr (Q, p) → gdR Q → isPq P Q → ∀ τ, clF σ τ → isX (1 - c) (1 - s) (nxNew Z P Q) τ → Φ (0, 0) τ) :
    slCall G mX11_coast d K [sR 11 0, sI x1] σ Φ := by
  refine vc_X11_coast hG (by omega) hK  ?_
  have hn := hZ.2.2.2.1
  have hX0 := hX
  obtain ⟨x1', x2, x3, x4, x5, x6, x7, x8, x9, x10, x11, x12, x13, x14⟩ := hX
  rw [x11]
  refine ⟨i1, fun z => hb (by omega), fun z => ⟨⟨i1, by omega, by omega⟩, fun y => ?_, fun y => hb (by omega)⟩⟩
  have bb : 0 ≤ x1 ∧ x1 ≤ Z.2.2.2.2.1 := ⟨by omega, y⟩
  have ce : (1 - c) ≠ c := by omega
  have se : (1 - s) ≠ s := by omega
  refine sp_X7_read hG (by omega) (by omega) (X := cxX Z x1) (r := 1 - c) (s := 1 - s) (cxX.gd hZ bb) rfl (fun k hk => x12 k (by have hk : (k : Int) < x1 := hk; omega)) x4 x5 (fun k pl ec hk τ C t6 => slKt.ok ⟨⟨by omega, by omega⟩, fun z => by omega, fun _ => ?_⟩) (fun Q p ec g hp τ C I a0 a5 a8 => slKt.ok ⟨in0, fun _ => ?_, fun z => absurd rfl z⟩)
  · have q : ∀ a i, (a, i) ∉ rcL (1 - c) (1 - s) ++ [(0, 1 - s), (5, 1 - s), (8, 1 - s)] → τ a i = σ a i := fun a i h => C.1 a i h
    have q11 : τ 11 0 = σ 11 0 := q 11 0 (by simp [rcL])
    have q59 : τ 59 0 = σ 59 0 := q 59 0 (by simp [rcL])
    have e6 : slU τ 11 0 1 0 7 0 6 = pl := by rw [slU_else (by decide)]; exact t6
    have e59 : slU (slU τ 11 0 1 0) 11 0 2 pl 59 0 0 = Z.2.2.2.2.2.2 0 := by rw [slU_else (by decide), slU_else (by decide), q59]; exact x14 0 (by decide)
    rw [e6, e59]
    have D : ∀ a i, a ≠ 11 → a ≠ 59 → slU (slU (slU τ 11 0 1 0) 11 0 2 pl) 59 0 0 (Z.2.2.2.2.2.2 0 + 1) a i = τ a i := fun a i x y => by rw [slU_else (by omega), slU_else (by omega), slU_else (by omega)]
    have Dk : ∀ k, k ≠ 1 → k ≠ 2 → slU (slU (slU τ 11 0 1 0) 11 0 2 pl) 59 0 0 (Z.2.2.2.2.2.2 0 + 1) 11 0 k = σ 11 0 k := fun k x y => by rw [slU_else (by decide), slU_ne y, slU_ne x, q11]
    have D0 : ∀ a i, a ≠ 11 → a ≠ 59 → (a, i) ∉ rcL (1 - c) (1 - s) ++ [(0, 1 - s), (5, 1 - s), (8, 1 - s)] → slU (slU (slU τ 11 0 1 0) 11 0 2 pl) 59 0 0 (Z.2.2.2.2.2.2 0 + 1) a i = σ a i := fun a i x y z => (D a i x y).trans (q a i z)
    refine h0 k pl bb ec hk _ (((C.cl.up (by decide)).up (by decide)).up (by decide)) ⟨x1', (Dk 4 (by decide) (by decide)).trans x2, (Dk 5 (by decide) (by decide)).trans x3, ?_, ?_, ?_, ?_, ?_, ?_, ?_, ?_, ?_, ?_, ?_⟩
    · rw [D 7 0 (by decide) (by decide), C.2.1]; exact x4
    · rw [D 7 0 (by decide) (by decide), C.2.2]; exact x5
    · refine x6.c (fun a ha => D0 a c ?_ ?_ ?_)
      · intro z; rw [z] at ha; exact absurd ha (by decide)
      · intro z; rw [z] at ha; exact absurd ha (by decide)
      · have n : a ∉ [9, 7, 50, 51, 52, 53, 54, 0, 5, 8] := fun z => by
          have key : ∀ x ∈ chR, x ∉ [9, 7, 50, 51, 52, 53, 54, 0, 5, 8] := by decide
          exact key a ha z
        simp at n
        simp [rcL]
        omega
    · exact x7.c (fun a ha => D0 a s (by omega) (by omega) (by simp [rcL]; omega))
    · exact x8.c (Dk 8 (by decide) (by decide)) (fun a ha => D0 a 2 (by omega) (by omega) (by simp [rcL]; omega))
    · rw [Dk 12 (by decide) (by decide)]
      rcases x9 with z | z
      · exact Or.inl z
      · exact Or.inr ⟨z.1, z.2.c (fun a ha => D0 a 0 (by omega) (by omega) (by simp [rcL]; omega))⟩
    · intro i hi k hk
      rw [D0 36 i (by decide) (by decide) (by simp [rcL])]
      exact x10 i hi k hk
    · show _ = (0 : Int)
      rw [slU_else (by decide), slU_ne (by decide), slU_same]
    · intro k hk
      have hk : (k : Int) < 0 := hk
      omega
    · show _ = pl
      rw [slU_else (by decide), slU_same]
    · intro k hk
      show _ = if k = 0 then Z.2.2.2.2.2.2 k + 1 else Z.2.2.2.2.2.2 k
      by_cases z : k = 0
      · rw [if_pos z, z, slU_same]
      · rw [if_neg z, slU_ne z, slU_else (by decide), slU_else (by decide), q59]
        exact x14 k hk
  · have q : ∀ a i, (a, i) ∉ rcL (1 - c) (1 - s) ++ [(0, 1 - s), (5, 1 - s), (8, 1 - s)] → τ a i = σ a i := fun a i h => C.1 a i h
    have q11 : τ 11 0 = σ 11 0 := q 11 0 (by simp [rcL])
    have q59 : τ 59 0 = σ 59 0 := q 59 0 (by simp [rcL])
    have e72 : slU (slU τ 11 0 1 0) 11 0 2 (-1) 7 0 2 = ((1 - c : Nat) : Int) := by rw [slU_else (by decide), slU_else (by decide)]; exact I.1.1
    have e73 : slU (slU (slU τ 11 0 1 0) 11 0 2 (-1)) 11 0 4 ((1 - c : Nat) : Int) 7 0 3 = ((1 - s : Nat) : Int) := by rw [slU_else (by decide), slU_else (by decide), slU_else (by decide)]; exact I.1.2.1
    have e114 : slU (slU τ 11 0 1 0) 11 0 2 (-1) 11 0 4 = (c : Int) := by rw [slU_ne (by decide), slU_ne (by decide), q11]; exact x2
    have e115 : slU (slU τ 11 0 1 0) 11 0 2 (-1) 11 0 5 = (s : Int) := by rw [slU_ne (by decide), slU_ne (by decide), q11]; exact x3
    refine vc_X11_takeWhatWasRead hG (by omega) (by omega) ?_
    rw [e72, Int.toNat_natCast, e73, Int.toNat_natCast, e114, Int.toNat_natCast, e115, Int.toNat_natCast]
    refine slKt.ok ?_
    have D : ∀ a i, a ≠ 11 → a ≠ 7 → slU (slU (slU (slU (slU (slU (slU (slU τ 11 0 1 0) 11 0 2 (-1)) 11 0 4 ((1 - c : Nat) : Int)) 11 0 5 ((1 - s : Nat) : Int)) 7 0 2 (c : Int)) 7 0 3 (s : Int)) 11 0 8 0) 11 0 12 0 a i = τ a i := fun a i x y => by
      rw [slU_else (by omega), slU_else (by omega), slU_else (by omega), slU_else (by omega), slU_else (by omega), slU_else (by omega), slU_else (by omega), slU_else (by omega)]
    have P := I.pq (show p ≤ 700 by have := (cxX.gd hZ bb).1; omega)
    refine h1 Q p _ bb ec g P _ ((((((((C.cl.up (by decide)).up (by decide)).up (by decide)).up (by decide)).up (by decide)).up (by decide)).up (by decide)).up (by decide)) ⟨⟨by omega, by omega⟩, ?_, ?_, ?_, ?_, ?_, ?_, ?_, ?_, ?_, ?_, ?_, ?_, ?_⟩
    · rw [slU_ne (by decide), slU_ne (by decide), slU_else (by decide), slU_else (by decide), slU_ne (by decide), slU_same]
    · rw [slU_ne (by decide), slU_ne (by decide), slU_else (by decide), slU_else (by decide), slU_same]
    · rw [slU_else (by decide), slU_else (by decide), slU_ne (by decide), slU_same, show 1 - (1 - c) = c by omega]
    · rw [slU_else (by decide), slU_else (by decide), slU_same, show 1 - (1 - s) = s by omega]
    · refine ⟨?_, ?_, ?_, ?_, ?_, ?_, ?_, ?_, ?_, ?_, ?_, ?_, ?_, ?_⟩
      all_goals exact D _ _ (by decide) (by decide)
    · have hL := I.2.2.2.2.1
      have hS := I.2.2.2.2.2.1
      have e13 : τ 1 (1 - c) 3 = Q.1 0 3 := P.1.2.2.2.1
      have e14 : τ 1 (1 - c) 4 = Q.1 0 4 := P.1.2.2.2.2.1
      refine ⟨fun l a b => ?_, fun l a b => ?_, fun l a b => ?_, ?_, fun l a b => ?_, ?_, trivial, ?_, trivial⟩
      · have b : l < τ 1 (1 - c) 3 := b
        rw [D 52 _ (by decide) (by decide)]
        show _ = (qD Q).1 0 l
        rw [qD_0]; exact (hL l a (by omega)).1.2.2.1
      · have b : l < τ 1 (1 - c) 4 := b
        rw [D 53 _ (by decide) (by decide)]
        show _ = (qD Q).1 1 l
        rw [qD_1]; exact (hS l a (by omega)).1
      · have b : l < τ 1 (1 - c) 3 := b
        rw [D 51 _ (by decide) (by decide)]
        show _ = (qD Q).1 2 l
        rw [qD_2]; exact (hL l a (by omega)).1.1
      · rw [D 8 _ (by decide) (by decide)]
        show _ = (qD Q).1 3 0
        rw [qD_3]; exact a8
      · have b : l < τ 1 (1 - c) 4 := b
        rw [D 54 _ (by decide) (by decide)]
        show _ = (qD Q).1 4 l
        rw [qD_4]; exact (hS l a (by omega)).2
      · rw [D 0 _ (by decide) (by decide)]; exact a0
      · rw [D 5 _ (by decide) (by decide)]; exact a5
    · show _ = (0 : Int)
      rw [slU_ne (by decide), slU_same]
    · exact Or.inl (slU_same _ _ _ _ _)
    · intro i hi k hk
      rw [D 36 i (by decide) (by decide), q 36 i (by simp [rcL])]
      exact x10 i hi k hk
    · show _ = (0 : Int)
      rw [slU_ne (by decide), slU_ne (by decide), slU_else (by decide), slU_else (by decide), slU_ne (by decide), slU_ne (by decide), slU_ne (by decide), slU_same]
    · intro k hk
      have hk : (k : Int) < 0 := hk
      omega
    · show _ = (-1 : Int)
      rw [slU_ne (by decide), slU_ne (by decide), slU_else (by decide), slU_else (by decide), slU_ne (by decide), slU_ne (by decide), slU_same]
    · intro k hk
      rw [D 59 0 (by decide) (by decide), q59]
      exact x14 k hk
