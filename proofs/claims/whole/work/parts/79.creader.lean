/-! ===== the class's reader ===== -/
set_option maxHeartbeats 1000000 in
set_option maxRecDepth 4000 in
theorem sp_X7_readLine {G : slG} (hG : slGood G) {d K : Nat} (hd : 66 ≤ d) (hK : 0 ≤ K) {Φ : slPost} {σ : slM}  {X : abX} {r s : Nat} {Q : abV} {p : Int} (hX : gdX X) (hp : 0 ≤ p ∧ p ≤ X.2) (hk : lxK X p ≠ 0) (g : gdR Q) (I : isRq r s Q p σ) (T : isTk X p σ) (O : rcO X r s (lnLine X Q p) p σ Φ) :
    slCall G mX7_readLine d K [sR 7 0] σ Φ := by
  refine vc_X7_readLine hG (by omega) hK  ?_
  unfold lnLine at O
  refine sp_word hG (by omega) hX hp T 110 7 (by decide) (by decide) (by decide) (fun y => slKt.ok ⟨in1, fun z => absurd z (by decide), fun _ => ?_⟩) (fun n7 => slKt.ok ⟨in0, fun _ => ?_, fun z => absurd rfl z⟩)
  · rw [if_pos (show lxW X p = 7 from y)] at O
    exact sp_X7_readCape hG (by omega) (by omega) hX hp hk g I T O.mv
  have n7 : ¬ lxW X p = 7 := n7
  rw [if_neg n7] at O
  refine sp_word hG (by omega) hX hp T 111 2 (by decide) (by decide) (by decide) (fun y => slKt.ok ⟨in1, fun z => absurd z (by decide), fun _ => ?_⟩) (fun n2 => slKt.ok ⟨in0, fun _ => ?_, fun z => absurd rfl z⟩)
  · rw [if_pos (show lxW X p = 2 from y)] at O
    exact sp_X7_readLight hG (by omega) (by omega) hX hp hk g I T O.mv
  have n2 : ¬ lxW X p = 2 := n2
  rw [if_neg n2] at O
  refine sp_word hG (by omega) hX hp T 114 8 (by decide) (by decide) (by decide) (fun y => slKt.ok ⟨in1, fun z => absurd z (by decide), fun _ => ?_⟩) (fun n8 => slKt.ok ⟨in0, fun _ => ?_, fun z => absurd rfl z⟩)
  · rw [if_pos (show lxW X p = 8 from y)] at O
    exact sp_X7_readShip hG (by omega) (by omega) hX hp hk g I T O.mv
  have n8 : ¬ lxW X p = 8 := n8
  rw [if_neg n8] at O
  refine sp_word hG (by omega) hX hp T 115 9 (by decide) (by decide) (by decide) (fun y => slKt.ok ⟨in1, fun z => absurd z (by decide), fun _ => ?_⟩) (fun n9 => slKt.ok ⟨in0, fun _ => ?_, fun z => absurd rfl z⟩)
  · rw [if_pos (show lxW X p = 9 from y)] at O
    exact sp_X7_readFog hG (by omega) (by omega) hX hp hk g I T O.mv
  have n9 : ¬ lxW X p = 9 := n9
  rw [if_neg n9] at O
  refine sp_word hG (by omega) hX hp T 116 10 (by decide) (by decide) (by decide) (fun y => slKt.ok ⟨in1, fun z => absurd z (by decide), fun _ => ?_⟩) (fun n10 => slKt.ok ⟨in0, fun _ => ?_, fun z => absurd rfl z⟩)
  · rw [if_pos (show lxW X p = 10 from y)] at O
    exact sp_X7_readLaw hG (by omega) (by omega) hX hp hk g I T O.mv
  have n10 : ¬ lxW X p = 10 := n10
  rw [if_neg n10] at O
  exact sp_X7_refuse hG (by omega) (by omega) T (slKt.ok ⟨Or.inl rfl, O.e (k := 1) (q := lxB X p) rfl (by decide) rcF.id rcE.fl⟩)
set_option maxHeartbeats 1000000 in
set_option maxRecDepth 4000 in
theorem sp_X1_clear {G : slG} (hG : slGood G) {d K : Nat} (hd : 1 ≤ d) (hK : 0 ≤ K) {Φ : slPost} {σ : slM} {i0 : Nat} (h : ∀ τ, slFr [(1, i0), (4, i0), (23, i0)] σ τ → (τ 1 i0 0 = 8 ∧ τ 1 i0 1 = 8 ∧ τ 1 i0 2 = 0 ∧ τ 1 i0 3 = 0 ∧ τ 1 i0 4 = 0 ∧ τ 1 i0 5 = 0) → τ 4 i0 3 = 0 ∧ τ 4 i0 4 = 0 → (∀ k : Nat, k < 144 → τ 23 i0 k = 0) → Φ (0, 0) τ) :
    slCall G mX1_clear d K [sR 1 i0] σ Φ := by
  refine vc_X1_clear hG (by omega) hK (fun μ y1 σ' => slFr [(1, i0), (4, i0), (23, i0)] σ σ' ∧ (σ' 1 i0 0 = 8 ∧ σ' 1 i0 1 = 8 ∧ σ' 1 i0 2 = 0 ∧ σ' 1 i0 3 = 0 ∧ σ' 1 i0 4 = 0 ∧ σ' 1 i0 5 = 0) ∧ (σ' 4 i0 3 = 0 ∧ σ' 4 i0 4 = 0) ∧ (0 ≤ y1 ∧ y1 ≤ 144) ∧ (∀ k : Nat, (k : Int) < y1 → σ' 23 i0 k = 0) ∧ μ = ((144 - y1).toNat, 0, 0)) ?_ ?_
  · refine vc_X4_clear hG (by omega) (by omega) (slKt.ok ⟨_, ?_, ⟨?_, ?_, ?_, ?_, ?_, ?_⟩, ⟨?_, ?_⟩, ⟨by decide, by decide⟩, fun k hk => by omega, rfl⟩)
    · exact (((((((slFr.id.up (by simp)).up (by simp)).up (by simp)).up (by simp)).up (by simp)).up (by simp)).up (by simp)).up (by simp)
    · rw [slU_else (by omega), slU_else (by omega), slU_ne (by decide), slU_ne (by decide), slU_ne (by decide), slU_ne (by decide), slU_ne (by decide), slU_same]
    · rw [slU_else (by omega), slU_else (by omega), slU_ne (by decide), slU_ne (by decide), slU_ne (by decide), slU_ne (by decide), slU_same]
    · rw [slU_else (by omega), slU_else (by omega), slU_ne (by decide), slU_ne (by decide), slU_ne (by decide), slU_same]
    · rw [slU_else (by omega), slU_else (by omega), slU_ne (by decide), slU_ne (by decide), slU_same]
    · rw [slU_else (by omega), slU_else (by omega), slU_ne (by decide), slU_same]
    · rw [slU_else (by omega), slU_else (by omega), slU_same]
    · rw [slU_ne (by decide), slU_same]
    · rw [slU_same]
  · rintro μ y1 σ' ⟨f, h1, h4, hy, z, rfl⟩
    refine ⟨⟨by omega, by omega⟩, fun q => h σ' f h1 h4 (fun k hk => z k (by omega)), fun q => ⟨⟨by omega, by omega⟩, ((144 - (y1 + 1)).toNat, 0, 0), Or.inl (by show (144 - (y1 + 1)).toNat < (144 - y1).toNat; omega), f.up (by simp), ?_, ?_, ⟨by omega, by omega⟩, fun k hk => ?_, rfl⟩⟩
    · rw [slU_else (by omega)]; exact h1
    · rw [slU_else (by omega)]; exact h4
    · by_cases y : k = y1.toNat
      · rw [y, slU_same]
      · rw [slU_ne y]; exact z k (by omega)
def rdC (r s : Nat) (σ τ : slM) : Prop := slFr (rcL r s ++ [(0, s), (5, s), (8, s)]) σ τ ∧ τ 7 0 2 = σ 7 0 2 ∧ τ 7 0 3 = σ 7 0 3
theorem rcF.rd {r s : Nat} {σ τ υ : slM} (h : rdC r s σ τ) (f : rcF r s τ υ) : rdC r s σ υ := ⟨h.1.tr (f.1.mono (fun p hp => List.mem_append_left _ hp)), (f.2.1 2 (by decide) (by decide) (by decide)).trans h.2.1, (f.2.1 3 (by decide) (by decide) (by decide)).trans h.2.2⟩
theorem lxK_end {X : abX} {p : Int} (h : X.2 ≤ p) (hp : p ≤ X.2) : lxK X p = 0 := by
  have := lxB_r (X := X) hp
  unfold lxK
  rw [if_pos (by omega)]
theorem isRq.c8 {r s : Nat} {Q : abV} {p : Int} {σ : slM} {k : Nat} {v : Int} (h : isRq r s Q p σ) : isRq r s Q p (slU σ 8 s k v) := by
  have q : ∀ a i, a ≠ 8 → slU σ 8 s k v a i = σ a i := fun a i ha => slU_else (by omega)
  unfold isRq qHd qCp qMk qLt qSp qFg qLw qFm isOc
  rw [q 7 0 (by decide), q 1 r (by decide), q 4 r (by decide), q 24 r (by decide), q 25 r (by decide), q 23 r (by decide), q 50 0 (by decide), q 51 s (by decide), q 26 r (by decide), q 52 s (by decide), q 27 r (by decide), q 28 r (by decide), q 30 r (by decide), q 29 r (by decide), q 31 r (by decide), q 53 s (by decide), q 54 s (by decide), q 32 r (by decide), q 38 r (by decide), q 37 r (by decide)]
  exact h
/-- between two lines -/
def rdI (X : abX) (r s : Nat) (σ : slM) (y : Int) (σ' : slM) : Prop := rdC r s σ σ' ∧ (0 ≤ y ∧ y ≤ 701) ∧ (0 ≤ σ' 4 r 4 ∧ σ' 4 r 4 ≤ 3) ∧ ((∃ k q, lnCo X = .inl (k, q) ∧ (1 ≤ k ∧ k ≤ 5) ∧ σ' 7 0 5 = k ∧ σ' 7 0 6 = q) ∨ ∃ Q p n, lnAll X n Q p = lnCo X ∧ (X.2 - p).toNat < n ∧ gdR Q ∧ isRq r s Q p σ' ∧ isTk X p σ' ∧ (0 ≤ p ∧ p ≤ X.2) ∧ y ≤ p ∧ σ' 0 s 3 = 0 ∧ σ' 5 s 4 = 0)
set_option maxHeartbeats 1000000 in
set_option maxRecDepth 4000 in
theorem sp_X7_read {G : slG} (hG : slGood G) {d K : Nat} (hd : 70 ≤ d) (hK : 0 ≤ K) {Φ : slPost} {σ : slM} {x2 : Int} {X : abX} {r s : Nat} (hX : gdX X) (e2 : x2 = X.2) (ht : ∀ k : Nat, (k : Int) < X.2 → σ 58 0 k = X.1 k) (h72 : σ 7 0 2 = r) (h73 : σ 7 0 3 = s) (h0 : ∀ k q, lnCo X = .inl (k, q) → 1 ≤ k ∧ k ≤ 5 → ∀ τ, rdC r s σ τ → τ 7 0 6 = q → Φ (0, k) τ) (h1 : ∀ Q p, lnCo X = .inr (Q, p) → gdR Q → p ≤ X.2 → ∀ τ, rdC r s σ τ → isRq r s Q p τ → τ 0 s 3 = 0 → τ 5 s 4 = 0 → τ 8 s 6 = (if Q.1 0 6 ≤ 0 then -1 else 0) → Φ (0, 0) τ) :
    slCall G mX7_read d K [sR 7 0, sR 58 0, sI x2] σ Φ := by
  refine vc_X7_read hG (by omega) hK (fun μ y3 σ' => slFr [(1, r), (4, r), (23, r), (50, 0)] σ σ' ∧ (σ' 1 r 0 = 8 ∧ σ' 1 r 1 = 8 ∧ σ' 1 r 2 = 0 ∧ σ' 1 r 3 = 0 ∧ σ' 1 r 4 = 0 ∧ σ' 1 r 5 = 0) ∧ (σ' 4 r 3 = 0 ∧ σ' 4 r 4 = 0) ∧ (∀ k : Nat, k < 144 → σ' 23 r k = 0) ∧ (0 ≤ y3 ∧ y3 ≤ 144) ∧ (∀ k : Nat, (k : Int) < y3 → σ' 50 0 k = 0) ∧ μ = (1, (144 - y3).toNat, 0)) (fun μ y3 σ' => rdI X r s σ y3 σ' ∧ μ = (0, (701 - y3).toNat, 0)) ?_ ?_ ?_
  · rw [h72, Int.toNat_natCast]
    refine sp_X1_clear hG (by omega) (by omega) (fun τ f a b c => slKt.ok ⟨_, f.mono (by simp), a, b, c, ⟨by decide, by decide⟩, fun k hk => by omega, rfl⟩)
  · rintro μ y3 σ' ⟨f, a, b, c, hy, z, rfl⟩
    refine ⟨⟨by omega, by omega⟩, fun q => ?_, fun q => ⟨⟨by omega, by omega⟩, (1, (144 - (y3 + 1)).toNat, 0), Or.inr ⟨rfl, Or.inl (by show (144 - (y3 + 1)).toNat < (144 - y3).toNat; omega)⟩, f.up (by simp), ?_, ?_, ?_, ⟨by omega, by omega⟩, fun k hk => ?_, rfl⟩⟩
    · have s7 : σ' 7 0 = σ 7 0 := f 7 0 (by simp)
      rw [slU_ne (by decide), slU_ne (by decide), slU_ne (by decide), s7, h73, Int.toNat_natCast, slU_else (by omega), slU_ne (by decide), slU_ne (by decide), slU_ne (by decide), s7, h73, Int.toNat_natCast]
      have B : ∀ a i, a ≠ 7 → a ≠ 0 → a ≠ 5 → slU (slU (slU (slU (slU σ' 7 0 4 0) 7 0 5 0) 7 0 6 (-1)) 0 s 3 0) 5 s 4 0 a i = σ' a i := fun a i x1 x2 x3 => by
        rw [slU_else (by omega), slU_else (by omega), slU_else (by omega), slU_else (by omega), slU_else (by omega)]
      have B7 : ∀ k, k ≠ 4 → k ≠ 5 → k ≠ 6 → slU (slU (slU (slU (slU σ' 7 0 4 0) 7 0 5 0) 7 0 6 (-1)) 0 s 3 0) 5 s 4 0 7 0 k = σ 7 0 k := fun k x1 x2 x3 => by
        rw [slU_else (by omega), slU_else (by omega), slU_ne x3, slU_ne x2, slU_ne x1, s7]
      have B74 : slU (slU (slU (slU (slU σ' 7 0 4 0) 7 0 5 0) 7 0 6 (-1)) 0 s 3 0) 5 s 4 0 7 0 4 = 0 := by
        rw [slU_else (by omega), slU_else (by omega), slU_ne (by decide), slU_ne (by decide), slU_same]
      have B75 : slU (slU (slU (slU (slU σ' 7 0 4 0) 7 0 5 0) 7 0 6 (-1)) 0 s 3 0) 5 s 4 0 7 0 5 = 0 := by
        rw [slU_else (by omega), slU_else (by omega), slU_ne (by decide), slU_same]
      have B0 : slU (slU (slU (slU (slU σ' 7 0 4 0) 7 0 5 0) 7 0 6 (-1)) 0 s 3 0) 5 s 4 0 0 s 3 = 0 := by
        rw [slU_else (by omega), slU_same]
      have B5 : slU (slU (slU (slU (slU σ' 7 0 4 0) 7 0 5 0) 7 0 6 (-1)) 0 s 3 0) 5 s 4 0 5 s 4 = 0 := slU_same _ _ _ _ _
      have Fr : slFr (rcL r s ++ [(0, s), (5, s), (8, s)]) σ (slU (slU (slU (slU (slU σ' 7 0 4 0) 7 0 5 0) 7 0 6 (-1)) 0 s 3 0) 5 s 4 0) := (((((f.mono (by simp [rcL])).up (by simp [rcL])).up (by simp [rcL])).up (by simp [rcL])).up (by simp [rcL])).up (by simp [rcL])
      generalize slU (slU (slU (slU (slU σ' 7 0 4 0) 7 0 5 0) 7 0 6 (-1)) 0 s 3 0) 5 s 4 0 = υ at *
      refine sp_X9_begin hG (by omega) (by omega) hX e2 (fun k hk => by rw [B 58 0 (by decide) (by decide) (by decide), f 58 0 (by simp)]; exact ht k hk) (fun τ f1 T1 => slKt.ok ?_)
      have q1 : ∀ a i, a ≠ 9 → τ a i = υ a i := fun a i x => f1 a i (by simp; omega)
      have hx := hX.1
      have C0 : rdC r s σ τ := ⟨Fr.tr (f1.mono (by simp [rcL])), by rw [q1 7 0 (by decide), B7 2 (by decide) (by decide) (by decide)], by rw [q1 7 0 (by decide), B7 3 (by decide) (by decide) (by decide)]⟩
      have t44 : τ 4 r 4 = 0 := by rw [q1 4 r (by decide), B 4 r (by decide) (by decide) (by decide)]; exact b.2
      have z0 : ∀ i : Int, i ≠ 0 → i ≠ 1 → q0.1 0 i = 0 := fun i x y => by simp [q0, x, y]
      have zr : ∀ (a : Nat) (i : Int), a ≠ 0 → q0.1 a i = 0 := fun a i x => by simp [q0, x]
      have I0 : isRq r s q0 0 τ := by
        refine ⟨⟨?_, ?_, ?_⟩, ⟨⟨?_, ?_, ?_, ?_, ?_, ?_⟩, ?_, ?_⟩, ?_, ?_, ?_, ?_, ?_, [], ⟨?_, fun k hk => absurd hk (by simp)⟩, by simp, ?_, ?_⟩
        · rw [C0.2.1]; exact h72
        · rw [C0.2.2]; exact h73
        · rw [q1 7 0 (by decide)]; exact B75
        · rw [q1 1 r (by decide), B 1 r (by decide) (by decide) (by decide), a.1]; simp [q0]
        · rw [q1 1 r (by decide), B 1 r (by decide) (by decide) (by decide), a.2.1]; simp [q0]
        · rw [q1 1 r (by decide), B 1 r (by decide) (by decide) (by decide), a.2.2.1]; simp [q0]
        · rw [q1 1 r (by decide), B 1 r (by decide) (by decide) (by decide), a.2.2.2.1]; simp [q0]
        · rw [q1 1 r (by decide), B 1 r (by decide) (by decide) (by decide), a.2.2.2.2.1]; simp [q0]
        · rw [q1 1 r (by decide), B 1 r (by decide) (by decide) (by decide), a.2.2.2.2.2]; simp [q0]
        · rw [t44]; simp [q0]
        · rw [q1 7 0 (by decide), B74, z0 5 (by decide) (by decide)]; rfl
        · intro i x y
          rw [z0 2 (by decide) (by decide)] at y
          omega
        · intro i x y
          rw [zr 13 i (by decide), q1 23 r (by decide), B 23 r (by decide) (by decide) (by decide), q1 50 0 (by decide), B 50 0 (by decide) (by decide) (by decide)]
          exact ⟨c i.toNat (by omega), z i.toNat (by omega)⟩
        · intro i x y
          rw [z0 3 (by decide) (by decide)] at y
          omega
        · intro i x y
          rw [z0 4 (by decide) (by decide)] at y
          omega
        · intro i x y
          rw [z0 5 (by decide) (by decide)] at y
          omega
        · rw [q1 4 r (by decide), B 4 r (by decide) (by decide) (by decide)]; exact b.1
        · rw [z0 6 (by decide) (by decide)]
          rfl
        · intro i x y
          rw [z0 6 (by decide) (by decide)] at y
          omega
      have a0 : τ 0 s 3 = 0 := by rw [q1 0 s (by decide)]; exact B0
      have a5 : τ 5 s 4 = 0 := by rw [q1 5 s (by decide)]; exact B5
      have lt : slLt (0, ((701 : Int) - 0).toNat, 0) (1, (144 - y3).toNat, 0) := Or.inl (by show 0 < 1; decide)
      refine sp_word hG (by omega) hX ⟨by decide, hx.1⟩ T1 109 6 (by decide) (by decide) (by decide) (fun y => slKt.ok ⟨in1, fun u => absurd u (by decide), fun _ => ?_⟩) (fun n => slKt.ok ⟨in0, fun _ => ⟨_, lt, ⟨C0, ⟨by decide, by decide⟩, by omega, Or.inr ⟨q0, 0, 701, ?_, by omega, gdR_q0, I0, T1, ⟨by decide, hx.1⟩, by decide, a0, a5⟩⟩, rfl⟩, fun u => absurd rfl u⟩)
      · have y : lxW X 0 = 6 := y
        have ec : lnCo X = rdB (rdB (pNu X 1 12 (lxE X 0)) fun w p1 => rdB (pNu X 1 12 p1) fun h p2 => lnSg X p2 (qU (qU q0 0 0 w) 0 1 h)) fun Q p => lnAll X 701 Q p := by
          unfold lnCo lnSea
          rw [if_pos y]
        have k2 : lxK X 0 ≠ 0 := fun u => by have := lxW_2 (X := X) (p := 0) (by omega); omega
        refine sp_X7_readSea hG (by omega) (by omega) hX ⟨by decide, hx.1⟩ k2 gdR_q0 (z0 2 (by decide) (by decide)) (z0 3 (by decide) (by decide)) (z0 4 (by decide) (by decide)) I0 T1 ⟨fun k q e hk τ' f' t5 t6 => slKt.ok ⟨_, lt, ⟨f'.rd C0, ⟨by decide, by decide⟩, f'.2.2 (by omega), Or.inl ⟨k, q, by rw [ec, e]; rfl, hk, t5, t6⟩⟩, rfl⟩, fun Q' p' e hp' g' τ' f' I' T' => slKt.ok ⟨_, lt, ⟨f'.rd C0, ⟨by decide, by decide⟩, f'.2.2 (by omega), Or.inr ⟨Q', p', 701, by rw [ec, e]; rfl, by omega, g', I', T', ⟨by omega, hp'.2⟩, by omega, ?_, ?_⟩⟩, rfl⟩⟩
        · rw [f'.1 0 s (by simp [rcL])]; exact a0
        · rw [f'.1 5 s (by simp [rcL])]; exact a5
      · have n : ¬ lxW X 0 = 6 := n
        unfold lnCo lnSea
        rw [if_neg n]
        rfl
    · rw [slU_else (by omega)]; exact a
    · rw [slU_else (by omega)]; exact b
    · rw [slU_else (by omega)]; exact c
    · by_cases y : k = y3.toNat
      · rw [y, slU_same]
      · rw [slU_ne y]; exact z k (by omega)
  · rintro μ y3 σ' ⟨⟨C, hy, h4, cs⟩, rfl⟩
    have s2 : σ' 7 0 2 = r := C.2.1.trans h72
    have s3 : σ' 7 0 3 = s := C.2.2.trans h73
    rw [s2, s3, Int.toNat_natCast, Int.toNat_natCast, slU_else (by omega)]
    have i44 : InR (σ' 4 r 4) := ⟨by omega, by omega⟩
    have C8 : ∀ v, rdC r s σ (slU σ' 8 s 6 v) := fun v => ⟨C.1.up (by simp [rcL]), by rw [slU_else (by omega)]; exact C.2.1, by rw [slU_else (by omega)]; exact C.2.2⟩
    rcases cs with ⟨k, q, ec, hk, t5, t6⟩ | ⟨Q, p, n, en, ln, g, I, T, hp, yp, a0, a5⟩
    · rw [t5]
      have F := h0 k q ec hk _ (C8 (if σ' 4 r 4 ≤ 0 then ((-1) : Int) else 0)) (by rw [slU_else (by omega)]; exact t6)
      exact ⟨⟨by omega, by omega⟩, fun _ => ⟨i44, F⟩, fun _ => ⟨⟨by omega, by omega⟩, fun _ => ⟨i44, F⟩, fun u => by omega⟩⟩
    · have hx := hX.1
      obtain ⟨m, rfl⟩ : ∃ m, n = m + 1 := ⟨n - 1, by omega⟩
      have en : (if lxK X p = 0 then .inr (Q, p) else rdB (lnLine X Q p) fun Q1 p1 => lnAll X m Q1 p1) = lnCo X := en
      have kr := lxK_r (X := X) (p := p)
      rw [I.1.2.2, T.2.2.2.1]
      have F : lxK X p = 0 → Φ (0, 0) (slU σ' 8 s 6 (if σ' 4 r 4 ≤ 0 then ((-1) : Int) else 0)) := fun u => by
        rw [if_pos u] at en
        refine h1 Q p en.symm g hp.2 _ (C8 _) I.c8 (by rw [slU_else (by omega)]; exact a0) (by rw [slU_else (by omega)]; exact a5) ?_
        rw [slU_same, I.2.1.2.1]
      refine ⟨⟨by omega, by omega⟩, fun u => ⟨i44, F (lxK_end (by omega) hp.2)⟩, fun u => ⟨in0, fun v => absurd rfl v, fun _ => ⟨⟨by omega, by omega⟩, fun v => ⟨i44, F v⟩, fun v => ?_⟩⟩⟩
      rw [if_neg v] at en
      have lt : slLt (0, (701 - (y3 + 1)).toNat, 0) (0, (701 - y3).toNat, 0) := Or.inr ⟨rfl, Or.inl (by show (701 - (y3 + 1)).toNat < (701 - y3).toNat; omega)⟩
      refine sp_X7_readLine hG (by omega) (by omega) hX hp v g I T ⟨fun k q e hk τ' f' t5 t6 => slKt.ok ⟨_, lt, ⟨f'.rd C, ⟨by omega, by omega⟩, f'.2.2 h4, Or.inl ⟨k, q, by rw [← en, e]; rfl, hk, t5, t6⟩⟩, rfl⟩, fun Q' p' e hp' g' τ' f' I' T' => slKt.ok ⟨_, lt, ⟨f'.rd C, ⟨by omega, by omega⟩, f'.2.2 h4, Or.inr ⟨Q', p', m, by rw [← en, e]; rfl, by omega, g', I', T', ⟨by omega, hp'.2⟩, by omega, ?_, ?_⟩⟩, rfl⟩⟩
      · rw [f'.1 0 s (by simp [rcL])]; exact a0
      · rw [f'.1 5 s (by simp [rcL])]; exact a5
